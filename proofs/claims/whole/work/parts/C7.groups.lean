/-! sets of shapes in both programs; gathered, scattered -/
section ZGROUPQ
theorem zcmpz (y : Int64) : (lg_cmp y (Int64.ofInt 0)).toInt = 0 ↔ y = Int64.ofInt 0 := by
  unfold lg_cmp
  by_cases h1 : y > Int64.ofInt 0
  · rw [if_pos h1]
    exact ⟨fun h => absurd h (by decide), fun h => by subst h; exact absurd h1 (Int64.lt_irrefl)⟩
  · rw [if_neg h1]
    by_cases h2 : y = Int64.ofInt 0
    · rw [if_pos h2]
      exact ⟨fun _ => h2, fun _ => rfl⟩
    · rw [if_neg h2]
      exact ⟨fun h => absurd h (by decide), fun h => absurd h h2⟩
theorem zbt_z (j : Nat) : zbt (Int64.ofInt 0) j = false := by
  show (0#64).getLsbD j = false
  exact BitVec.getLsbD_zero
theorem zbt_sts (p : Nat → Bool) : ∀ k, k ≤ 64 → ∀ j, zbt (zsts p k) j = (decide (j < k) && p j)
  | 0, _, j => by
    rw [decide_eq_false (by omega), Bool.false_and]
    exact zbt_z j
  | k + 1, hk, j => by
    have ih := zbt_sts p k (by omega) j
    rw [zsts_s]
    by_cases c : p k = true
    · rw [if_pos c, zbt_or (by omega), ih]
      by_cases e : j = k
      · subst e
        rw [c, decide_eq_true (rfl : j = j), decide_eq_true (show j < j + 1 by omega)]
        simp
      · rw [decide_eq_false e, Bool.or_false]
        congr 1
        exact decide_eq_decide.mpr ⟨fun _ => by omega, fun _ => by omega⟩
    · rw [if_neg c, ih]
      by_cases e : j = k
      · subst e
        have c2 : p j = false := by cases hp : p j <;> simp_all
        rw [c2, Bool.and_false, Bool.and_false]
      · congr 1
        exact decide_eq_decide.mpr ⟨fun _ => by omega, fun _ => by omega⟩
theorem zbt_hi {x : Int64} {j : Nat} (h : 64 ≤ j) : zbt x j = false := BitVec.getLsbD_of_ge _ _ h
theorem zsub_iff (x S : Int64) : x &&& (S ^^^ Int64.ofInt (-1)) = Int64.ofInt 0 ↔ ∀ j, j < 64 → zbt x j = true → zbt S j = true := by
  have e : (x &&& (S ^^^ Int64.ofInt (-1))).toBitVec = x.toBitVec &&& (S.toBitVec ^^^ BitVec.allOnes 64) := rfl
  have b : ∀ j, j < 64 → (x &&& (S ^^^ Int64.ofInt (-1))).toBitVec.getLsbD j = (zbt x j && !zbt S j) := fun j hj => by
    rw [e, BitVec.getLsbD_and, BitVec.getLsbD_xor, BitVec.getLsbD_allOnes, decide_eq_true hj, Bool.xor_true]
    rfl
  constructor
  · intro h j hj hx
    have h1 := b j hj
    rw [h, hx] at h1
    have h2 : (Int64.ofInt 0).toBitVec.getLsbD j = false := zbt_z j
    rw [h2, Bool.true_and] at h1
    cases hS : zbt S j
    · rw [hS] at h1; exact absurd h1 (by decide)
    · rfl
  · intro h
    apply Int64.toBitVec_inj.mp
    apply BitVec.eq_of_getLsbD_eq
    intro j hj
    rw [b j hj]
    have h2 : (Int64.ofInt 0).toBitVec.getLsbD j = false := zbt_z j
    rw [h2]
    cases hx : zbt x j
    · rfl
    · rw [h j hj hx]; rfl
variable {n : Nat} {f g f' g' : Nat → Nat → Int} {s t : Nat}
/-- the set is there, for both -/
theorem zqina {x : Int64} (h : zqR n f g) : zina f x ↔ zat g x 64 := by
  unfold zina
  rw [zcmpz, zsub_iff]
  constructor
  · intro h1 j hj hx
    have h2 := h1 j hj hx
    rw [zbt_sts _ 60 (by omega), Bool.and_eq_true, decide_eq_true_iff] at h2
    obtain ⟨a, b⟩ := h2
    unfold zcth at b
    rw [decide_eq_true_iff, zqR_t h a] at b
    exact ⟨by omega, by omega, by rw [Int.toNat_natCast]; exact b⟩
  · intro h1 j hj hx
    obtain ⟨a, b, c⟩ := h1 j hj hx
    rw [Int.toNat_natCast] at c
    rw [zbt_sts _ 60 (by omega), Bool.and_eq_true, decide_eq_true_iff]
    refine ⟨by omega, ?_⟩
    unfold zcth
    rw [decide_eq_true_iff, zqR_t h (by omega)]
    exact c
/-- who is there, as a set -/
theorem zqth (h : zqR n f g) : zsts (zcth f) 60 = zsts (zrth g) 60 := by
  apply Int64.toBitVec_inj.mp
  apply BitVec.eq_of_getLsbD_eq
  intro j hj
  show zbt _ j = zbt _ j
  rw [zbt_sts _ 60 (by omega), zbt_sts _ 60 (by omega)]
  by_cases e : j < 60
  · congr 1
    unfold zcth zrth
    rw [zqR_t h e]
  · rw [decide_eq_false e, Bool.false_and, Bool.false_and]
-- up the groups
theorem zotr_st {w : Nat → Int} (hw : ∀ a, a < 60 → w a = -1 ∨ ((a : Int) < w a ∧ w a < 60)) : ∀ k a, a < 60 → 60 ≤ a + k → zotr w (k + 1) a = zotr w k a
  | 0, a, h, h2 => by omega
  | k + 1, a, h, h2 => by
    rw [zotr_s w (k + 1) a, zotr_s w k a]
    by_cases c : w a < 0
    · rw [if_pos c, if_pos c]
    · rw [if_neg c, if_neg c]
      rcases hw a h with e | ⟨e1, e2⟩
      · omega
      · exact zotr_st hw k _ (by omega) (by omega)
theorem zotr_ge {w : Nat → Int} (hw : ∀ a, a < 60 → w a = -1 ∨ ((a : Int) < w a ∧ w a < 60)) : ∀ k a, a < 60 → a ≤ zotr w k a ∧ zotr w k a < 60
  | 0, a, h => ⟨Nat.le_refl _, h⟩
  | k + 1, a, h => by
    rw [zotr_s]
    by_cases c : w a < 0
    · rw [if_pos c]; exact ⟨Nat.le_refl _, h⟩
    · rw [if_neg c]
      rcases hw a h with e | ⟨e1, e2⟩
      · omega
      · have := zotr_ge hw k (w a).toNat (by omega)
        omega
theorem zqR_gn (h : zqR n f g) {a : Nat} (ha : a < 60) (h0 : 0 ≤ g 1180 a) : g 1166 (g 1180 a).toNat = 0 ∧ (g 1180 a).toNat < 60 ∧ (g 1180 a).toNat < n ∧ a < (g 1180 a).toNat := by
  have n6 := h.1.1
  rcases (h.2.2.2.2.1 a ha).2.2 with e | ⟨e1, e2, e3⟩
  · omega
  · exact ⟨e3, by omega, by omega, by omega⟩
theorem zqchn (h : zqR n f g) : ∀ (k a : Nat), a < 60 → g 1166 a = 0 → zchn (f 7) k (a : Int) = (zotr (g 1180) k a : Int) ∧ g 1166 (zotr (g 1180) k a) = 0
  | 0, a, _, h0 => ⟨rfl, h0⟩
  | k + 1, a, ha, h0 => by
    have e := (h.2.2.2.2.1 a ha).2.1 h0
    have b := zqR_gb h ha
    rw [zchn_s, zotr_s, Int.toNat_natCast, e]
    by_cases c : g 1180 a = -1
    · rw [if_pos (Or.inr c), if_pos (by omega)]
      exact ⟨rfl, h0⟩
    · obtain ⟨d1, d2, d3, d4⟩ := zqR_gn h ha (by omega)
      rw [if_neg (by omega), if_neg (by omega)]
      have ih := zqchn h k _ d2 d1
      rw [Int.toNat_of_nonneg (by omega)] at ih
      exact ih
theorem zqR_ot (h : zqR n f g) {i : Nat} (hi : i < 60) (t : g 1166 i = 1) : (g 1180 i = -1 → zotm f i = -1 ∧ zrot g i = i) ∧ (0 ≤ g 1180 i → zotm f i = (zrot g i : Int) ∧ i < zrot g i ∧ zrot g i < 60 ∧ g 1166 (zrot g i) = 0) := by
  have e := ((h.2.2.2.2.1 i hi).1 t).1
  have wu := zqR_wup h
  unfold zotm zrot
  rw [e]
  constructor
  · intro c
    rw [c]
    refine ⟨?_, ?_⟩
    · rw [zchn_s, if_pos (Or.inl rfl)]
    · rw [zotr_s, if_pos (by omega)]
  · intro c
    obtain ⟨d1, d2, d3, d4⟩ := zqR_gn h hi c
    obtain ⟨q1, q2⟩ := zqchn h 60 _ d2 d1
    rw [Int.toNat_of_nonneg c] at q1
    have a1 : zotr (g 1180) 60 i = zotr (g 1180) 59 (g 1180 i).toNat := by
      show (if g 1180 i < 0 then i else zotr (g 1180) 59 (g 1180 i).toNat) = _
      rw [if_neg (by omega)]
    have hz : zotr (g 1180) 60 i = zotr (g 1180) 60 (g 1180 i).toNat := a1.trans (zotr_st wu 59 _ d2 (by omega)).symm
    have ge := zotr_ge wu 60 _ d2
    rw [hz]
    exact ⟨q1, by omega, by omega, q2⟩
/-- chosen together, for both -/
theorem zqcho (h : zqR n f g) (hs : s < 60) (ts : g 1166 s = 1) {i : Nat} (hi : i < 60) : zcho f s i = if zrtg g s i = true then 1 else 0 := by
  have e : zrtg g s i = true ↔ (g 1166 i = 1 ∧ zrot g i = zrot g s) := decide_eq_true_iff
  obtain ⟨s1, s2⟩ := zqR_ot h hs ts
  have bs := zqR_gb h hs
  have bi := zqR_gb h hi
  unfold zcho
  rw [zqR_t h hi]
  by_cases c : g 1180 s = -1
  · obtain ⟨q1, q2⟩ := s1 c
    rw [if_pos q1]
    by_cases d : i = s
    · subst d
      rw [if_pos rfl, if_pos (e.mpr ⟨ts, rfl⟩)]
    · rw [if_neg d, if_neg (fun d2 => ?_)]
      obtain ⟨d3, d4⟩ := e.mp d2
      obtain ⟨i1, i2⟩ := zqR_ot h hi d3
      by_cases c2 : g 1180 i = -1
      · have := (i1 c2).2; omega
      · have := (i2 (by omega)).2.2.2
        rw [d4, q2, ts] at this
        omega
  · obtain ⟨q1, q2, q3, q4⟩ := s2 (by omega)
    rw [if_neg (by omega)]
    by_cases d : g 1166 i = 1
    · obtain ⟨i1, i2⟩ := zqR_ot h hi d
      by_cases c2 : g 1180 i = -1
      · obtain ⟨r1, r2⟩ := i1 c2
        rw [if_neg (by omega), if_neg (fun d2 => ?_)]
        have := (e.mp d2).2
        rw [r2] at this
        subst this
        omega
      · obtain ⟨r1, r2, r3, r4⟩ := i2 (by omega)
        by_cases d3 : zrot g i = zrot g s
        · rw [if_pos ⟨d, by omega⟩, if_pos (e.mpr ⟨d, d3⟩)]
        · rw [if_neg (by omega), if_neg (fun d2 => d3 (e.mp d2).2)]
    · rw [if_neg (fun d2 => d d2.1), if_neg (fun d2 => d (e.mp d2).1)]
end ZGROUPQ
