/-! the areas that the class measures, and their laws -/
section ZAREAQ
variable {f : Nat → Nat → Int} {s t : Nat}
theorem zcA_U {w : Int} (ws : zcWl f s) (wt : zcWl f t) : zcA f w s t = zU (zL2 (zN f s) (zX f s) (zY f s) (zN f t) (zX f t) (zY f t) (f s 10).toNat (f t 10).toNat) (zgl w (f s 9) (f t 9) (f s 10).toNat) 3600 := by
  have c1 := ws.2.1.1
  have c2 := wt.2.1.1
  exact zTot_all (zL2_V ws.2.2 wt.2.2) (zEA_2 (by omega) (by omega) ws.2.2 wt.2.2).1
/-- the shape without polygons -/
def zpEm (f : Nat → Nat → Int) : Prop := f 1138 10 = 0 ∧ f 1138 9 = 0
theorem zpEm_w (he : zpEm f) : zcWl f 1138 := ⟨Or.inr (Or.inr rfl), ⟨by rw [he.1]; omega, by rw [he.2]; omega, fun p hp => by rw [he.1] at hp; omega⟩, fun p hp => by rw [he.1] at hp; exact absurd hp (Nat.not_lt_zero p)⟩
theorem zcA_laws (he : zpEm f) (ws : zcWl f s) (wt : zcWl f t) (h1 : zhsb (f s 9) 0 = false) (h2 : zhsb (f t 9) 0 = false) : (zcA f 0 s t + zcA f 1 s t = zcA f 0 s 1138 + zcA f 0 t 1138) ∧ (zcA f 2 s t + zcA f 1 s t = zcA f 0 s 1138) ∧ (zcA f 3 s t + zcA f 1 s t = zcA f 0 s t) ∧ zcA f 1 t s = zcA f 1 s t := by
  have we := zpEm_w he
  have e0 : (f 1138 10).toNat = 0 := by rw [he.1]; rfl
  rw [zcA_U ws wt, zcA_U ws wt, zcA_U ws wt, zcA_U ws wt, zcA_U ws we, zcA_U wt we, zcA_U wt ws, he.2, e0]
  obtain ⟨a, b, c⟩ := zU_laws (N0 := zN f 1138) (X0 := zX f 1138) (Y0 := zY f 1138) ws.2.2 wt.2.2 h1 h2 3600
  exact ⟨a, b, c, (zU_sw ws.2.2 wt.2.2 h1 h2 3600).symm⟩
-- an area, told by its fraction
theorem zlt_dv {T : Nat} (hT : T < 2147483648) : ((Int64.ofInt 14400 * (Int32.ofInt (zltm T 14400 0 : Int)).toInt64) / (Int32.ofInt (zltm T 14400 1 : Int)).toInt64) = Int64.ofInt (T : Int) ∧ (Int32.ofInt (zltm T 14400 1 : Int)).toInt64 ≠ 0 := by
  have hg : 0 < Nat.gcd T 14400 := Nat.gcd_pos_of_pos_right _ (by decide)
  obtain ⟨a, ha⟩ := Nat.gcd_dvd_left T 14400
  obtain ⟨b, hb⟩ := Nat.gcd_dvd_right T 14400
  have ea : zltm T 14400 0 = a := by
    unfold zltm
    rw [if_pos rfl]
    exact Nat.div_eq_of_eq_mul_right hg ha
  have eb : zltm T 14400 1 = b := by
    unfold zltm
    rw [if_neg (by decide)]
    exact Nat.div_eq_of_eq_mul_right hg hb
  generalize Nat.gcd T 14400 = g at *
  have la : a ≤ T := by rw [ha]; exact Nat.le_mul_of_pos_left a hg
  have lb : b ≤ 14400 := by
    have : b ≤ g * b := Nat.le_mul_of_pos_left b hg
    omega
  have b0 : 0 < b := by
    rcases Nat.eq_zero_or_pos b with h | h
    · rw [h] at hb; omega
    · exact h
  have t0 : ∀ n : Nat, n < 2147483648 → (Int32.ofInt (n : Int)).toInt64.toInt = (n : Int) := fun n hn => by
    rw [Int32.toInt_toInt64, Int32.toInt_ofInt_of_le (by omega) (by omega)]
  have tz : ∀ z : Int, 0 ≤ z → z < 1000000000000000 → (Int64.ofInt z).toInt = z := fun z h1 h2 => Int64.toInt_ofInt_of_le (by omega) (by omega)
  rw [ea, eb]
  refine ⟨?_, fun h => ?_⟩
  · apply Int64.toInt_inj.mp
    have bm : ∀ z : Int, 0 ≤ z → z < 1000000000000000 → z.bmod (2 ^ 64) = z := fun z h1 h2 => by
      rw [Int.bmod_eq_of_le (by omega) (by omega)]
    rw [Int64.toInt_div, Int64.toInt_mul, t0 a (by omega), t0 b (by omega), tz 14400 (by omega) (by omega), tz (T : Int) (by omega) (by omega), bm (14400 * (a : Int)) (by omega) (by omega)]
    have key : (14400 : Int) * (a : Int) = (T : Int) * (b : Int) := by
      have h1 : (14400 : Int) = (g : Int) * (b : Int) := by rw [← Int.natCast_mul, ← hb]; rfl
      have h2 : (T : Int) = (g : Int) * (a : Int) := by rw [← Int.natCast_mul, ← ha]
      rw [h2]
      have h3 : (14400 : Int) * (a : Int) = ((g : Int) * (b : Int)) * (a : Int) := by rw [← h1]
      rw [h3, Int.mul_assoc, Int.mul_assoc, Int.mul_comm (b : Int)]
    rw [key, Int.mul_tdiv_cancel (T : Int) (show (b : Int) ≠ 0 by omega), bm (T : Int) (by omega) (by omega)]
  · have h5 := congrArg Int64.toInt h
    rw [t0 b (by omega)] at h5
    have : (0 : Int64).toInt = 0 := rfl
    omega
theorem zlc_0 (x : Int64) : (lg_cmp x x).toInt = 0 := by
  unfold lg_cmp
  rw [if_neg Int64.lt_irrefl, if_pos rfl]
  rfl
end ZAREAQ
