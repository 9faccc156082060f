/-! the class: two shapes measured -/
section ZMEASURE
variable {L : Nat} {M : zM} {s t : Nat} {Q : zO → zM → Prop}
theorem zle2_x {n : Int} {X Y : Nat → Int} {e : Nat} (h : zcg ((zwd n X e).natAbs : Int) ((zwd n Y e).natAbs : Int)) (h0 : zwd n Y e ≠ 0) : zle2 n X Y e * zwd n Y e = 2 * zwd n X e := by
  unfold zle2
  rw [if_neg h0]
  unfold zcg at h
  generalize zwd n X e = w at *
  generalize zwd n Y e = h2 at *
  have key : ∃ k, 2 * w = k * h2 := by
    by_cases hw : w = 0
    · exact ⟨0, by omega⟩
    · rw [if_neg (by omega)] at h
      rcases h with h | h | h
      · by_cases hs : w = h2
        · exact ⟨2, by omega⟩
        · exact ⟨-2, by omega⟩
      · by_cases hs : w = 2 * h2
        · exact ⟨4, by omega⟩
        · exact ⟨-4, by omega⟩
      · by_cases hs : h2 = 2 * w
        · exact ⟨1, by omega⟩
        · exact ⟨-1, by omega⟩
  obtain ⟨k, hk⟩ := key
  rw [hk, Int.mul_tdiv_cancel _ h0]
theorem zeL_w {n : Int} {X Y : Nat → Int} {b i : Nat} (pg : zPg 0 n X Y) (hp : zpr n X Y 0) (hi : (i : Int) < n) (hb : b < 256) : ∀ d, d ∈ zeL n X Y b i → zEw d ∧ d.2.2.2.2 = b := by
  intro d hd
  unfold zeL at hd
  by_cases hy : Y i = Y (zaf n i)
  · rw [if_pos hy] at hd
    exact absurd hd (List.not_mem_nil)
  · rw [if_neg hy] at hd
    have hd := List.mem_singleton.mp hd
    subst hd
    have lb := zle2_b pg hi
    have h0 : zwd n Y i ≠ 0 := by unfold zwd; omega
    have hx := zle2_x (hp i (Nat.zero_le _) hi) h0
    have p1 := pg.2.2 i hi
    have p2 := pg.2.2 (zaf n i) (zaf_lt hi)
    have eW : zwd n X i = X (zaf n i) - X i := rfl
    have eH : zwd n Y i = Y (zaf n i) - Y i := rfl
    rw [eW, eH, Int.mul_sub, Int.mul_comm _ (Y i), Int.mul_comm _ (Y (zaf n i))] at hx
    refine ⟨?_, rfl⟩
    unfold zEw
    dsimp only
    generalize zle2 n X Y i = ln at *
    generalize Y (zaf n i) = Z at *
    generalize X (zaf n i) = W at *
    generalize X i = V at *
    generalize Y i = U at *
    by_cases hUZ : U ≤ Z
    · rw [Int.min_eq_left hUZ, Int.max_eq_right hUZ]
      refine ⟨by omega, lb, by omega, by omega, hb⟩
    · rw [Int.min_eq_right (by omega), Int.max_eq_left (by omega)]
      refine ⟨by omega, lb, by omega, by omega, hb⟩
theorem zeP_w {n : Int} {X Y : Nat → Int} {b : Nat} (pg : zPg 0 n X Y) (hp : zpr n X Y 0) (hb : b < 256) : ∀ i : Nat, (i : Int) ≤ n → ∀ d, d ∈ zeP n X Y b i → zEw d ∧ d.2.2.2.2 = b
  | 0, _, d, hd => absurd hd (List.not_mem_nil)
  | i + 1, hi, d, hd => by
    have hd : d ∈ zeP n X Y b i ++ zeL n X Y b i := hd
    rcases List.mem_append.mp hd with h | h
    · exact zeP_w pg hp hb i (by omega) d h
    · exact zeL_w pg hp (by omega) hb d h
/-- a shape whose polygons are well -/
def zSP (n : Nat → Int) (X Y : Nat → Nat → Int) (c : Nat) : Prop := ∀ p : Nat, p < c → zPg 0 (n p) (X p) (Y p) ∧ zpr (n p) (X p) (Y p) 0
theorem zeS_w {n : Nat → Int} {X Y : Nat → Nat → Int} {fb : Nat} : ∀ k : Nat, fb + k ≤ 8 → zSP n X Y k → ∀ d, d ∈ zeS n X Y fb k → zEw d ∧ d.2.2.2.2 < 2 ^ (fb + k)
  | 0, _, _, d, hd => absurd hd (List.not_mem_nil)
  | k + 1, hk, hp, d, hd => by
    have hd : d ∈ zeS n X Y fb k ++ zeP (n k) (X k) (Y k) (2 ^ (fb + k)) (n k).toNat := hd
    have hpow : 2 ^ (fb + k) < 2 ^ (fb + (k + 1)) := Nat.pow_lt_pow_right (by omega) (by omega)
    rcases List.mem_append.mp hd with h | h
    · have h1 := zeS_w k (by omega) (fun p h => hp p (by omega)) d h
      exact ⟨h1.1, by omega⟩
    · have hb : 2 ^ (fb + k) < 256 := Nat.lt_of_lt_of_le hpow (Nat.pow_le_pow_right (n := 2) (by omega) (show fb + (k + 1) ≤ 8 by omega))
      have h1 := zeP_w (b := 2 ^ (fb + k)) (hp k (by omega)).1 (hp k (by omega)).2 hb (n k).toNat (by have := (hp k (by omega)).1.1; omega) d h
      exact ⟨h1.1, by rw [h1.2]; exact hpow⟩
theorem zegd_m {l : List zEd} {e : Nat} (h : e < l.length) : zegd l e ∈ l := by
  unfold zegd
  rw [List.getD_eq_getElem?_getD, List.getElem?_eq_getElem h]
  exact List.getElem_mem h
theorem zmd2_a {d : zEd} (hd : zEw d) {u v : Int} (hu : 60 * d.1 ≤ u) (hv : v ≤ 60 * d.2.1) (huv : u ≤ v) : 0 ≤ 120 * d.2.2.2.1 + (u + v) * d.2.2.1 ∧ 120 * d.2.2.2.1 + (u + v) * d.2.2.1 ≤ 14400 := by
  obtain ⟨h1, h2, h3, h4, h5⟩ := hd
  obtain ⟨lo, hi, ln, bs, bt⟩ := d
  dsimp only at *
  by_cases hl : 0 ≤ ln
  · have a1 : (120 * lo) * ln ≤ (u + v) * ln := Int.mul_le_mul_of_nonneg_right (by omega) hl
    have a2 : (u + v) * ln ≤ (120 * hi) * ln := Int.mul_le_mul_of_nonneg_right (by omega) hl
    rw [Int.mul_assoc] at a1 a2
    omega
  · have a1 : (u + v) * ln ≤ (120 * lo) * ln := Int.mul_le_mul_of_nonpos_right (by omega) (by omega)
    have a2 : (120 * hi) * ln ≤ (u + v) * ln := Int.mul_le_mul_of_nonpos_right (by omega) (by omega)
    rw [Int.mul_assoc] at a1 a2
    omega
theorem zSV_b {l : List zEd} (hA : zEA l) (g : Nat → Bool) {u v : Int} (huv : u ≤ v) : 0 ≤ zSV l g u v ∧ zSV l g u v ≤ 14400 := by
  unfold zSV
  refine zFV_b (by omega) (zsrt_s _ _) (fun x hx => ?_)
  have h1 := (zsrt_p _ _).mem_iff.mp hx
  have h2 := List.mem_filter.mp h1
  have h3 := of_decide_eq_true h2.2
  exact zmd2_a (hA x (List.mem_range.mp h2.1)) h3.1 h3.2 huv
theorem zTot_s (l : List zEd) (g : Nat → Bool) (y : Nat) : zTot l g (y + 1) = if zcub l y = true then ((y : Int), if (zTot l g y).1 < 0 then (zTot l g y).2 else (zTot l g y).2 + zSV l g (zTot l g y).1 (y : Int) * ((y : Int) - (zTot l g y).1)) else zTot l g y := rfl
theorem zTot_1 (l : List zEd) (g g' : Nat → Bool) : ∀ y, (zTot l g y).1 = (zTot l g' y).1
  | 0 => rfl
  | y + 1 => by
    rw [zTot_s, zTot_s]
    split
    · rfl
    · exact zTot_1 l g g' y
theorem zTot_c (l : List zEd) (g : Nat → Bool) : ∀ y, ((zTot l g y).1 = -1 ∧ (zTot l g y).2 = 0 ∧ ∀ j : Nat, j < y → ¬ zCut l (j : Int)) ∨ ∃ u : Nat, (zTot l g y).1 = (u : Int) ∧ u < y ∧ zCut l (u : Int) ∧ ∀ j : Nat, u < j → j < y → ¬ zCut l (j : Int)
  | 0 => Or.inl ⟨rfl, rfl, fun j hj => absurd hj (Nat.not_lt_zero j)⟩
  | y + 1 => by
    have ih := zTot_c l g y
    rw [zTot_s]
    by_cases hc : zcub l y = true
    · rw [if_pos hc]
      exact Or.inr ⟨y, rfl, by omega, zcub_i.mp hc, fun j h1 h2 => by omega⟩
    · rw [if_neg hc]
      rcases ih with ⟨h1, h2, h3⟩ | ⟨u, h1, h2, h3, h4⟩
      · refine Or.inl ⟨h1, h2, fun j hj => ?_⟩
        by_cases e : j = y
        · subst e; exact fun h => hc (zcub_i.mpr h)
        · exact h3 j (by omega)
      · refine Or.inr ⟨u, h1, by omega, h3, fun j a1 a2 => ?_⟩
        by_cases e : j = y
        · subst e; exact fun h => hc (zcub_i.mpr h)
        · exact h4 j a1 (by omega)
theorem zTot_e {l : List zEd} {g : Nat → Bool} {y : Nat} : ∀ z, y ≤ z → (∀ j : Nat, y ≤ j → j < z → ¬ zCut l (j : Int)) → zTot l g z = zTot l g y
  | 0, h, _ => by rw [show y = 0 by omega]
  | z + 1, h, hc => by
    by_cases e : y = z + 1
    · rw [e]
    · rw [zTot_s, if_neg (fun h2 => hc z (by omega) (by omega) (zcub_i.mp h2))]
      exact zTot_e z (by omega) (fun j a1 a2 => hc j a1 (by omega))
theorem zTot_b {l : List zEd} (hA : zEA l) (g : Nat → Bool) : ∀ y : Nat, 0 ≤ (zTot l g y).2 ∧ (zTot l g y).2 ≤ 14400 * (if (zTot l g y).1 < 0 then 0 else (zTot l g y).1)
  | 0 => ⟨Int.le_refl _, Int.le_refl _⟩
  | y + 1 => by
    have ih := zTot_b hA g y
    rw [zTot_s]
    by_cases hc : zcub l y = true
    · rw [if_pos hc]
      dsimp only
      rw [if_neg (show ¬ ((y : Int) < 0) by omega)]
      rcases zTot_c l g y with ⟨h1, h2, h3⟩ | ⟨u, h1, h2, h3, h4⟩
      · rw [if_pos (by omega)]
        rw [h2]
        omega
      · rw [if_neg (by omega)] at ih ⊢
        have hb := zSV_b hA g (u := (zTot l g y).1) (v := (y : Int)) (by omega)
        have m1 : 0 ≤ zSV l g (zTot l g y).1 (y : Int) * ((y : Int) - (zTot l g y).1) := Int.mul_nonneg hb.1 (by omega)
        have m2 : zSV l g (zTot l g y).1 (y : Int) * ((y : Int) - (zTot l g y).1) ≤ 14400 * ((y : Int) - (zTot l g y).1) := Int.mul_le_mul_of_nonneg_right hb.2 (by omega)
        omega
    · rw [if_neg hc]
      exact ih
theorem zCut_b {l : List zEd} {y a b : Int} (h : zCut l y) (hb : ∀ e, e < l.length → a ≤ 60 * (zegd l e).1 ∧ 60 * (zegd l e).2.1 ≤ b) (hA : zEA l) : a ≤ y ∧ y ≤ b := by
  rcases h with ⟨e, he, hy⟩ | ⟨e, c, hc, he, h1, h2, h3, h4⟩
  · have := hb e he
    have := (hA e he).1
    omega
  · have := hb e he
    have := hb c (by omega)
    have := (hA e he).1
    omega
theorem zact_f {l : List zEd} {u v : Int} (huv : u < v) (hu : zCut l u) (hn : ∀ j : Nat, u < (j : Int) → (j : Int) < v → ¬ zCut l (j : Int)) (hA : zEA l) : (List.range l.length).filter (fun e => decide (60 * (zegd l e).1 ≤ u ∧ u < 60 * (zegd l e).2.1)) = zAct l u v ∧ (List.range l.length).filter (fun e => decide (60 * (zegd l e).1 ≤ u ∧ u < 60 * (zegd l e).2.1)) = (List.range l.length).filter (fun e => decide (60 * (zegd l e).1 < v ∧ v ≤ 60 * (zegd l e).2.1)) := by
  have key : ∀ x, x ∈ List.range l.length → (60 * (zegd l x).1 < v → 60 * (zegd l x).1 ≤ u) ∧ (u < 60 * (zegd l x).2.1 → v ≤ 60 * (zegd l x).2.1) := fun x hx => by
    have hx := List.mem_range.mp hx
    have hw := (hA x hx).1
    refine ⟨fun h => ?_, fun h => ?_⟩
    · by_cases h2 : 60 * (zegd l x).1 ≤ u
      · exact h2
      · exact absurd (Or.inl ⟨x, hx, Or.inl (by omega)⟩) (hn (60 * (zegd l x).1).toNat (by omega) (by omega))
    · by_cases h2 : v ≤ 60 * (zegd l x).2.1
      · exact h2
      · exact absurd (Or.inl ⟨x, hx, Or.inr (by omega)⟩) (hn (60 * (zegd l x).2.1).toNat (by omega) (by omega))
  refine ⟨List.filter_congr (fun x hx => ?_), List.filter_congr (fun x hx => ?_)⟩
  · have := key x hx
    rw [decide_eq_decide]
    omega
  · have := key x hx
    rw [decide_eq_decide]
    omega
def zE2 (f : Nat → Nat → Int) (s t c1 c2 : Nat) : List zEd := zeS (zN f s) (zX f s) (zY f s) 0 c1 ++ zeS (zN f t) (zX f t) (zY f t) c1 c2
theorem zEA_2 {n n' : Nat → Int} {X Y X' Y' : Nat → Nat → Int} {c1 c2 : Nat} (h1 : c1 ≤ 4) (h2 : c2 ≤ 4) (p1 : zSP n X Y c1) (p2 : zSP n' X' Y' c2) : zEA (zeS n X Y 0 c1 ++ zeS n' X' Y' c1 c2) ∧ (∀ e, e < (zeS n X Y 0 c1 ++ zeS n' X' Y' c1 c2).length → zebi (zeS n X Y 0 c1 ++ zeS n' X' Y' c1 c2) e < 2 ^ (c1 + c2)) ∧ (zeS n X Y 0 c1 ++ zeS n' X' Y' c1 c2).length ≤ 64 := by
  have key : ∀ d, d ∈ zeS n X Y 0 c1 ++ zeS n' X' Y' c1 c2 → zEw d ∧ d.2.2.2.2 < 2 ^ (c1 + c2) := fun d hd => by
    rcases List.mem_append.mp hd with h | h
    · have h3 := zeS_w c1 (by omega) p1 d h
      have h4 : 2 ^ (0 + c1) ≤ 2 ^ (c1 + c2) := Nat.pow_le_pow_right (by omega) (by omega)
      exact ⟨h3.1, by omega⟩
    · exact zeS_w c2 (by omega) p2 d h
  refine ⟨fun e he => (key _ (zegd_m he)).1, fun e he => (key _ (zegd_m he)).2, ?_⟩
  have z1 := zeS_n (n := n) (X := X) (Y := Y) (fb := 0) c1 (fun p hp => (p1 p hp).1.2.1)
  have z2 := zeS_n (n := n') (X := X') (Y := Y') (fb := c1) c2 (fun p hp => (p2 p hp).1.2.1)
  rw [List.length_append]
  omega
end ZMEASURE
