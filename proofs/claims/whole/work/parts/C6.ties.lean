/-! chains of leaders; tied -/
section ZTIEQ
theorem zcnt_m {p q : Nat → Bool} : ∀ m, (∀ i, i < m → p i = true → q i = true) → zcnt p m ≤ zcnt q m ∧ (zcnt p m = zcnt q m → ∀ i, i < m → q i = true → p i = true)
  | 0, _ => ⟨Nat.le_refl _, fun _ i h => absurd h (Nat.not_lt_zero i)⟩
  | m + 1, h => by
    obtain ⟨h1, h2⟩ := zcnt_m m (fun i hi => h i (by omega))
    rw [zcnt_s, zcnt_s]
    by_cases a : p m = true
    · have b := h m (by omega) a
      rw [if_pos a, if_pos b]
      refine ⟨by omega, fun e i hi hq => ?_⟩
      by_cases ei : i = m
      · subst ei; exact a
      · exact h2 (by omega) i (by omega) hq
    · rw [if_neg a]
      by_cases b : q m = true
      · rw [if_pos b]
        exact ⟨by omega, fun e => absurd e (by omega)⟩
      · rw [if_neg b]
        refine ⟨h1, fun e i hi hq => ?_⟩
        by_cases ei : i = m
        · subst ei; exact absurd hq b
        · exact h2 e i (by omega) hq
theorem zcnt_f {p : Nat → Bool} : ∀ m, m ≤ zcnt p m → ∀ i, i < m → p i = true
  | 0, _, i, h => absurd h (Nat.not_lt_zero i)
  | m + 1, h, i, hi => by
    have h1 := zcnt_le p m
    rw [zcnt_s] at h
    by_cases a : p m = true
    · rw [if_pos a] at h
      by_cases ei : i = m
      · subst ei; exact a
      · exact zcnt_f m (by omega) i (by omega)
    · rw [if_neg a] at h
      omega
theorem zrne_u {nx : Nat → Int} : ∀ (k l : Nat) (x : Int), k ≤ l → zrne nx k x → zrne nx l x
  | 0, _, _, _, h => h.elim
  | k + 1, 0, _, hl, _ => absurd hl (by omega)
  | k + 1, l + 1, x, hl, h => h.elim Or.inl (fun h => Or.inr (zrne_u k l _ (by omega) h))
/-- a chain among m that ends, ends within m + 1 steps -/
theorem zqpig {nx : Nat → Int} {m : Nat} (hb : ∀ i, i < m → nx i = -1 ∨ (0 ≤ nx i ∧ nx i < (m : Int))) (K : Nat) (i : Nat) (hi : i < m) (h : zrne nx K (i : Int)) : zrne nx (m + 1) (i : Int) := by
  have P : Nat → Nat → Bool := fun k j => @decide (zrne nx k (j : Int)) (Classical.propDecidable _)
  have eP : ∃ P : Nat → Nat → Bool, ∀ k j, P k j = true ↔ zrne nx k (j : Int) := ⟨fun k j => @decide (zrne nx k (j : Int)) (Classical.propDecidable _), fun k j => @decide_eq_true_iff _ (Classical.propDecidable _)⟩
  clear P
  obtain ⟨P, hP⟩ := eP
  have stab : ∀ k, 1 ≤ k → (∀ j, j < m → zrne nx (k + 1) (j : Int) → zrne nx k (j : Int)) → ∀ l j, j < m → zrne nx l (j : Int) → zrne nx k (j : Int) := by
    intro k hk h1 l
    induction l with
    | zero => exact fun j _ h => h.elim
    | succ l ih =>
      intro j hj h2
      refine h1 j hj ?_
      rcases h2 with h2 | h2
      · exact Or.inl h2
      · refine Or.inr ?_
        rw [Int.toNat_natCast] at *
        rcases hb j hj with e | ⟨e1, e2⟩
        · rw [e]
          cases k with
          | zero => omega
          | succ k => exact Or.inl rfl
        · have e3 : nx j = ((nx j).toNat : Int) := by omega
          rw [e3] at h2 ⊢
          exact ih _ (by omega) h2
  have main : ∀ k, 1 ≤ k → (∀ l j, j < m → zrne nx l (j : Int) → zrne nx k (j : Int)) ∨ k ≤ zcnt (P k) m + 1 := by
    intro k
    induction k with
    | zero => exact fun h => absurd h (by omega)
    | succ k ih =>
      intro _
      by_cases k0 : k = 0
      · subst k0
        exact Or.inr (by omega)
      · have sub : ∀ j, j < m → P k j = true → P (k + 1) j = true := fun j _ h => (hP _ _).mpr (zrne_u k (k + 1) _ (by omega) ((hP _ _).mp h))
        obtain ⟨c1, c2⟩ := zcnt_m m sub
        rcases ih (by omega) with ih | ih
        · exact Or.inl (fun l j hj h => zrne_u k (k + 1) _ (by omega) (ih l j hj h))
        · by_cases e : zcnt (P k) m = zcnt (P (k + 1)) m
          · have c3 := c2 e
            refine Or.inl (fun l j hj h => zrne_u k (k + 1) _ (by omega) (stab k (by omega) (fun j hj h => (hP _ _).mp (c3 j hj ((hP _ _).mpr h))) l j hj h))
          · exact Or.inr (by omega)
  rcases main (m + 1) (by omega) with a | a
  · exact a K i hi h
  · exact (hP _ _).mp (zcnt_f m (by omega) i hi)
/-- a new tie that makes no ring -/
theorem zqtie {nx : Nat → Int} {m s t : Nat} (hb : ∀ i, i < m → nx i = -1 ∨ (0 ≤ nx i ∧ nx i < (m : Int))) (he : ∀ i, i < m → ∃ K, zrne nx K (i : Int)) (hs : s < m) (ht : t < m) (hm : m ≤ 59) (hr : zrng nx (s : Int) 60 1 (t : Int) = 0) : ∀ i, i < m → zrne (fun j => if j = s then (t : Int) else nx j) (m + 1) (i : Int) := by
  have hb2 : ∀ i, i < m → (if i = s then (t : Int) else nx i) = -1 ∨ (0 ≤ (if i = s then (t : Int) else nx i) ∧ (if i = s then (t : Int) else nx i) < (m : Int)) := fun i hi => by
    split
    · omega
    · exact hb i hi
  have a1 : ∀ (K n : Nat) (x : Int), 1 ≤ n → (x = -1 ∨ (0 ≤ x ∧ x < (m : Int))) → zrne nx K x → zrng nx (s : Int) K n x = 0 → zrne (fun j => if j = s then (t : Int) else nx j) K x := by
    intro K
    induction K with
    | zero => exact fun n x _ _ h _ => h.elim
    | succ K ih =>
      intro n x hn hx h hz
      rw [zrng_s] at hz
      by_cases h1 : x = -1
      · exact Or.inl h1
      · rw [if_neg h1] at hz
        by_cases h2 : x = (s : Int)
        · rw [if_pos h2] at hz
          omega
        · rw [if_neg h2] at hz
          have h3 := h.resolve_left h1
          refine Or.inr ?_
          have e : (if x.toNat = s then (t : Int) else nx x.toNat) = nx x.toNat := if_neg (by omega)
          show zrne _ K (if x.toNat = s then (t : Int) else nx x.toNat)
          rw [e]
          exact ih (n + 1) _ (by omega) (hb x.toNat (by omega)) h3 hz
  obtain ⟨K0, h0⟩ := he t ht
  have h60 : zrne nx 60 (t : Int) := zrne_u (m + 1) 60 _ (by omega) (zqpig hb K0 t ht h0)
  have t60 := a1 60 1 (t : Int) (by omega) (by omega) h60 hr
  have a2 : ∀ (K : Nat) (x : Int), (x = -1 ∨ (0 ≤ x ∧ x < (m : Int))) → zrne nx K x → zrne (fun j => if j = s then (t : Int) else nx j) (K + 61) x := by
    intro K
    induction K with
    | zero => exact fun x _ h => h.elim
    | succ K ih =>
      intro x hx h
      by_cases h1 : x = -1
      · exact zrne_u 1 _ _ (by omega) (Or.inl h1)
      · by_cases h2 : x = (s : Int)
        · refine zrne_u 61 _ _ (by omega) (Or.inr ?_)
          show zrne _ 60 (if x.toNat = s then (t : Int) else nx x.toNat)
          rw [if_pos (by omega)]
          exact t60
        · rw [show K + 1 + 61 = (K + 61) + 1 by omega]
          refine Or.inr ?_
          show zrne _ (K + 61) (if x.toNat = s then (t : Int) else nx x.toNat)
          rw [if_neg (by omega)]
          exact ih _ (hb x.toNat (by omega)) (h.resolve_left h1)
  intro i hi
  obtain ⟨K, h⟩ := he i hi
  exact zqpig hb2 _ i hi (a2 K _ (by omega) h)
/-- walks over the same leaders -/
theorem zqrng {u v : Nat → Int} {P : Nat → Prop} (h : ∀ i, P i → u i = v i ∧ (v i = -1 ∨ (0 ≤ v i ∧ P (v i).toNat))) (s : Int) : ∀ (k n : Nat) (x : Int), (x = -1 ∨ (0 ≤ x ∧ P x.toNat)) → zrng u s k n x = zrng v s k n x
  | 0, _, _, _ => rfl
  | k + 1, n, x, hx => by
    rw [zrng_s, zrng_s]
    by_cases h1 : x = -1
    · rw [if_pos h1, if_pos h1]
    · rw [if_neg h1, if_neg h1]
      obtain ⟨a, b⟩ := h x.toNat (hx.resolve_left h1).2
      rw [a, zqrng h s k (n + 1) _ b]
theorem zqovr {u v : Nat → Int} {P : Nat → Prop} (h : ∀ i, P i → u i = v i ∧ (v i = -1 ∨ (0 ≤ v i ∧ P (v i).toNat))) : ∀ (k : Nat) (x : Int), (x = -1 ∨ (0 ≤ x ∧ P x.toNat)) → zovr u k x = zovr v k x
  | 0, _, _ => rfl
  | k + 1, x, hx => by
    rw [zovr_s, zovr_s]
    by_cases h1 : x = -1
    · rw [if_pos h1, if_pos h1]
    · rw [if_neg h1, if_neg h1]
      obtain ⟨a, b⟩ := h x.toNat (hx.resolve_left h1).2
      rw [a, zqovr h k _ b]
theorem zrng_nn (nx : Nat → Int) (s : Int) : ∀ (k n : Nat) (x : Int), 0 ≤ zrng nx s k n x
  | 0, _, _ => Int.le_refl _
  | k + 1, n, x => by
    rw [zrng_s]
    split
    · omega
    · split
      · omega
      · exact zrng_nn nx s k (n + 1) _
variable {n : Nat} {f g f' g' : Nat → Nat → Int} {s t : Nat}
theorem zqR_lb (h : zqR n f g) : ∀ i, i < n → g 1172 i = -1 ∨ (0 ≤ g 1172 i ∧ g 1172 i < (n : Int)) := fun i hi => by
  have n6 := h.1.1
  obtain ⟨a, b, c⟩ := h.2.2.2.1.2.1 i (by omega)
  by_cases e : g 1172 i = -1
  · exact Or.inl e
  · have q := (c (by omega)).2
    have := (h.1.2 _ (by omega)).2.2 q
    exact Or.inr ⟨by omega, by omega⟩
theorem zqR_lv (h : zqR n f g) : ∀ i, (i < 60 ∧ g 1166 i = 1) → zld f i = g 1172 i ∧ (g 1172 i = -1 ∨ (0 ≤ g 1172 i ∧ ((g 1172 i).toNat < 60 ∧ g 1166 (g 1172 i).toNat = 1))) := fun i hi => by
  obtain ⟨a, b, c⟩ := h.2.2.2.1.2.1 i hi.1
  refine ⟨(h.2.2.2.1.1 i hi.1 hi.2).1, ?_⟩
  by_cases e : g 1172 i = -1
  · exact Or.inl e
  · exact Or.inr ⟨by omega, by omega, (c (by omega)).2⟩
theorem zqR_le (h : zqR n f g) : ∀ i, i < n → ∃ K, zrne (g 1172) K (i : Int) := fun i hi => by
  have n6 := h.1.1
  exact ⟨61, Or.inr (by rw [Int.toNat_natCast]; exact h.2.2.2.1.2.2 i (by omega))⟩
theorem zrnd_e {nx : Nat → Int} {s : Int} : ∀ (k : Nat) (x : Int), zrne nx k x → zrnd nx s k x
  | 0, _, h => h.elim
  | k + 1, x, h => h.elim Or.inl (fun h => Or.inr (Or.inr (zrnd_e k _ h)))
theorem zrti_l {k : Int} : zrti g s (t : Int) k 1172 = fun j => if j = s then (t : Int) else g 1172 j := by
  funext j
  unfold zrti
  by_cases e : j = s
  · subst e
    rw [zu2_sj (by omega), zu2_eq, if_pos rfl]
  · rw [zu2_sj (by omega), zu2_sj (by omega), if_neg e]
/-- tied: the boards -/
theorem zqQ_tie (h : zqR n f g) (hn : n < 60) (hs : g 1166 s = 1) (hs6 : s < 60) (ht : g 1166 t = 1) (ht6 : t < 60) (hr : zrng (g 1172) (s : Int) 60 1 (t : Int) = 0) {k a : Int} : zqR n (ztie f s (t : Int) k) (zu2 (zrti g s (t : Int) k) 1153 36 a) ∧ (∀ i, i < n → zrne (zrti g s (t : Int) k 1172) 60 (i : Int)) ∧ zovr (zld (ztie f s (t : Int) k)) 60 (zld (ztie f s (t : Int) k) t) = zovr (zrti g s (t : Int) k 1172) 60 (zrti g s (t : Int) k 1172 t) := by
  have hsn := (h.1.2 s hs6).2.2 hs
  have htn := (h.1.2 t ht6).2.2 ht
  have lb := zqR_lb h
  have ends := zqtie (nx := g 1172) (m := n) lb (zqR_le h) hsn htn (by omega) hr
  have e72 := zrti_l (g := g) (s := s) (t := t) (k := k)
  have en : ∀ i, i < n → zrne (zrti g s (t : Int) k 1172) 60 (i : Int) := fun i hi => by
    rw [e72]
    exact zrne_u (n + 1) 60 _ (by omega) (ends i hi)
  have lv := zqR_lv h
  have n6 := h.1.1
  have ov : zovr (zld (ztie f s (t : Int) k)) 60 (zld (ztie f s (t : Int) k) t) = zovr (zrti g s (t : Int) k 1172) 60 (zrti g s (t : Int) k 1172 t) := by
    have hv : ∀ i, (i < 60 ∧ g 1166 i = 1) → zld (ztie f s (t : Int) k) i = zrti g s (t : Int) k 1172 i ∧ (zrti g s (t : Int) k 1172 i = -1 ∨ (0 ≤ zrti g s (t : Int) k 1172 i ∧ ((zrti g s (t : Int) k 1172 i).toNat < 60 ∧ g 1166 (zrti g s (t : Int) k 1172 i).toNat = 1))) := fun i hi => by
      rw [e72]
      unfold zld ztie
      by_cases e : i = s
      · subst e
        show zu2 _ _ _ _ _ _ = (if i = i then (t : Int) else _) ∧ ((if i = i then (t : Int) else _) = _ ∨ (0 ≤ (if i = i then (t : Int) else _) ∧ ((if i = i then (t : Int) else _).toNat < 60 ∧ g 1166 (if i = i then (t : Int) else _).toNat = 1)))
        rw [if_pos rfl, zu2_sj (by omega), zu2_eq, Int.toNat_natCast]
        exact ⟨rfl, Or.inr ⟨by omega, ht6, ht⟩⟩
      · show zu2 _ _ _ _ _ _ = (if i = s then (t : Int) else g 1172 i) ∧ ((if i = s then (t : Int) else g 1172 i) = _ ∨ (0 ≤ (if i = s then (t : Int) else g 1172 i) ∧ ((if i = s then (t : Int) else g 1172 i).toNat < 60 ∧ g 1166 (if i = s then (t : Int) else g 1172 i).toNat = 1)))
        rw [if_neg e, zu2_sj (by omega), zu2_sj (by omega)]
        exact lv i hi
    obtain ⟨q1, q2⟩ := hv t ⟨ht6, ht⟩
    rw [q1]
    exact zqovr (P := fun i => i < 60 ∧ g 1166 i = 1) hv 60 _ q2
  refine ⟨?_, en, ov⟩
  obtain ⟨T, A, K, Lr, G, V, D, S, J⟩ := h
  generalize ef : ztie f s (t : Int) k = f'
  generalize eg : zu2 (zrti g s (t : Int) k) 1153 36 a = g'
  have hF : ∀ b i, (b ≠ 14 + 14 * s ∨ (i ≠ 6 ∧ i ≠ 7)) → f' b i = f b i := fun b i hb => by
    rw [← ef]
    unfold ztie
    rw [zu2_sj (by omega), zu2_sj (by omega)]
  have hG : ∀ b i, ((b ≠ 1153 ∨ i ≠ 36) ∧ ((b ≠ 1172 ∧ b ≠ 1173) ∨ i ≠ s)) → g' b i = g b i := fun b i hb => by
    rw [← eg, zu2_sj (by omega)]
    unfold zrti
    rw [zu2_sj (by omega), zu2_sj (by omega)]
  have f6 : f' (14 + 14 * s) 6 = (t : Int) := by
    rw [← ef]
    unfold ztie
    rw [zu2_i (by omega), zu2_eq]
  have f7 : f' (14 + 14 * s) 7 = k := by
    rw [← ef]
    unfold ztie
    rw [zu2_eq]
  have g2 : g' 1172 s = (t : Int) := by
    rw [← eg, zu2_sj (by omega)]
    unfold zrti
    rw [zu2_a (by omega), zu2_eq]
  have g3 : g' 1173 s = k := by
    rw [← eg, zu2_sj (by omega)]
    unfold zrti
    rw [zu2_eq]
  have g72 : g' 1172 = zrti g s (t : Int) k 1172 := by
    funext j
    rw [← eg, zu2_sj (by omega)]
  have h0 : ∀ i, i < 60 → g' 1166 i = g 1166 i := fun i hi => hG _ _ (by omega)
  have h00 : ∀ i, i < 60 → g' 1166 i = 1 → g 1166 i = 1 := fun i hi t => by rw [← h0 i hi]; exact t
  have hj : zqJ f' := by
    obtain ⟨J1, J2, J3, J4⟩ := J
    refine ⟨fun i hi => ?_, fun i hi => ?_, ⟨fun i hi => ?_, fun i hi => ?_⟩, fun i hi => ?_⟩
    · unfold zKy
      rw [hF _ 3 (by omega), hF _ 4 (by omega)]
      exact J1 i hi
    · unfold zld
      by_cases e : i = s
      · subst e; rw [f6]; omega
      · rw [hF _ _ (by omega)]; exact J2 i hi
    · rw [hF _ _ (by omega)]; exact J3.1 i hi
    · rw [hF _ _ (by omega)]; exact J3.2 i hi
    · rw [hF _ _ (by omega)]; exact J4 i hi
  refine ⟨zqT_c (fun i hi => hF _ _ (by omega)) h0 T, zqA_c h00 (fun i hi _ => ⟨hF _ _ (by omega), hF _ _ (by omega), hF _ _ (by omega)⟩) (fun i hi _ => ⟨hG _ _ (by omega), hG _ _ (by omega), hG _ _ (by omega)⟩) A, zqK_c h00 (fun i hi _ => ⟨hF _ _ (by omega), hF _ _ (by omega)⟩) (fun i hi _ => ⟨hG _ _ (by omega), hG _ _ (by omega), hG _ _ (by omega)⟩) K, ⟨fun i hi t2 => ?_, fun i hi => ?_, fun i hi => ?_⟩, zqG_c (Nat.le_refl _) T.1 h0 (fun i hi => ⟨hF _ _ (by omega), hF _ _ (by omega)⟩) (fun i hi => hG _ _ (by omega)) G, zqV_c (fun i hi => hF _ _ (by omega)) (fun i hi => hG _ _ (by omega)) (fun i hi => ⟨hG _ _ (by omega), hG _ _ (by omega)⟩) V, zqD_c (hF _ _ (by omega)) (hG _ _ (by omega)) (fun i hi => ⟨hF _ _ (by omega), hF _ _ (by omega)⟩) (fun i hi => ⟨hG _ _ (by omega), hG _ _ (by omega)⟩) D, zqF_c h00 (fun k hk _ b j h1 h2 h3 => hF _ _ (by omega)) (fun k hk _ => ⟨hG _ _ (by omega), hG _ _ (by omega), fun p _ => hG _ _ (by omega), fun j _ _ => ⟨hG _ _ (by omega), hG _ _ (by omega)⟩⟩) S, hj⟩
  · by_cases e : i = s
    · subst e; rw [f6, f7, g2, g3]; exact ⟨rfl, rfl, fun e => absurd e (by omega)⟩
    · rw [hF _ _ (by omega), hF _ _ (by omega), hG _ _ (by omega), hG _ _ (by omega)]
      exact Lr.1 i hi (h00 i hi t2)
  · by_cases e : i = s
    · subst e
      rw [g2, Int.toNat_natCast, h0 _ hi, h0 _ ht6]
      exact ⟨by omega, by omega, fun _ => ⟨hs, ht⟩⟩
    · rw [hG 1172 i (by omega), h0 i hi]
      obtain ⟨a, b, c⟩ := Lr.2.1 i hi
      refine ⟨a, b, fun d => ?_⟩
      rw [h0 _ (by omega)]
      exact c d
  · by_cases e : i = s
    · subst e
      rw [g2, g72]
      exact en t htn
    · rw [hG 1172 i (by omega)]
      by_cases e1 : g 1172 i = -1
      · rw [e1]; exact Or.inl rfl
      · obtain ⟨a, b, c⟩ := Lr.2.1 i hi
        have q := (c (by omega)).2
        have q2 := (T.2 _ (by omega)).2.2 q
        have := en _ q2
        rw [Int.toNat_of_nonneg (by omega)] at this
        rw [g72]
        exact this
variable {L k : Nat} {M N : zM}
theorem zqS_10 (hM : zLay M.2.2.2) (hN : zLay N.2.2.2) (hk : k < 60) (h : zqR k M.2.1 N.2.1) (hw : zqJw M N k 10) (hs2 : zqJs M N k) (h3 : M.2.1 (855 + 4 * k) 3 = N.2.1 1161 (4 * k + 1) ∧ 0 ≤ N.2.1 1161 (4 * k + 1) ∧ N.2.1 1161 (4 * k + 1) < 60) (h8 : M.2.1 (855 + 4 * k) 8 = N.2.1 1161 (4 * k + 2)) : zqS L k M N := by
  obtain ⟨j0, j1⟩ := hw
  have h1 := zqR_g1 (k := k) h
  have tt := zqR_t h (i := (N.2.1 1161 (4 * k + 1)).toNat) (by omega)
  by_cases hv : N.2.1 1166 (N.2.1 1161 (4 * k + 1)).toNat = 1
  · rcases zqS_sh (L := L) hM hN hk h hs2 (Or.inr ⟨by omega, by omega, by rw [h3.1, tt]; exact hv⟩) (by omega) with no | ⟨s, hs, e2, e4, ht, hg, e⟩
    · exact no
    · generalize ev : (N.2.1 1161 (4 * k + 1)).toNat = t at *
      have ev2 : N.2.1 1161 (4 * k + 1) = (t : Int) := by omega
      have ht6 : t < 60 := by omega
      rw [ev2] at e
      have lv := zqR_lv h
      have er : zrng (zld M.2.1) (s : Int) 60 1 (t : Int) = zrng (N.2.1 1172) (s : Int) 60 1 (t : Int) := zqrng (P := fun i => i < 60 ∧ N.2.1 1166 i = 1) lv _ 60 1 _ (Or.inr ⟨by omega, by rw [Int.toNat_natCast]; exact ⟨ht6, hv⟩⟩)
      have e72 : (zqg1 N.2.1 k) 1172 = N.2.1 1172 := zqg1_a (by omega)
      have tn := (h.1.2 t ht6).2.2 hv
      have he : zrnd ((zqg1 N.2.1 k) 1172) (s : Int) 60 (t : Int) := by
        rw [e72]
        obtain ⟨K0, hK0⟩ := zqR_le h t tn
        exact zrnd_e 60 _ (zrne_u (k + 1) 60 _ (by omega) (zqpig (zqR_lb h) K0 t tn hK0))
      have hts : (zqg1 N.2.1 k) 1166 s = 1 := (zqg1_o (by omega)).trans ht
      have htt : (zqg1 N.2.1 k) 1166 t = 1 := (zqg1_o (by omega)).trans hv
      have h74 : (zqg1 N.2.1 k) 1161 (4 * k + 2) = N.2.1 1161 (4 * k + 2) := zqg1_o (by omega)
      have c226e := fun Q8 => c226 (L := L) (M := zwI N (zqg1 N.2.1 k)) (s := s) (l := t) (k := (zqg1 N.2.1 k) 1161 (4 * k + 2)) (Q := Q8) hN (zqR_rld h1) hs ht6 he (fun h0 => by
        have := (zqQ_tie (k := (zqg1 N.2.1 k) 1161 (4 * k + 2)) (a := 0) h1 hk hts hs htt ht6 h0).2.1
        have l2 := zqR_lv h1 t ⟨ht6, htt⟩
        show zrne (zrti (zqg1 N.2.1 k) s (t : Int) _ 1172) 60 (zrti (zqg1 N.2.1 k) s (t : Int) _ 1172 t)
        have q : zrti (zqg1 N.2.1 k) s (t : Int) ((zqg1 N.2.1 k) 1161 (4 * k + 2)) 1172 t = -1 ∨ (0 ≤ zrti (zqg1 N.2.1 k) s (t : Int) ((zqg1 N.2.1 k) 1161 (4 * k + 2)) 1172 t ∧ zrti (zqg1 N.2.1 k) s (t : Int) ((zqg1 N.2.1 k) 1161 (4 * k + 2)) 1172 t < (k : Int)) := by
          rw [zrti_l]
          show (if t = s then (t : Int) else _) = -1 ∨ (0 ≤ (if t = s then (t : Int) else _) ∧ (if t = s then (t : Int) else _) < (k : Int))
          split
          · omega
          · exact zqR_lb h1 t tn
        rcases q with q | ⟨q1, q2⟩
        · rw [q]; exact Or.inl rfl
        · have := this _ (show (zrti (zqg1 N.2.1 k) s (t : Int) ((zqg1 N.2.1 k) 1161 (4 * k + 2)) 1172 t).toNat < k by omega)
          rw [Int.toNat_of_nonneg q1] at this
          exact this)
      by_cases hz : zrng (N.2.1 1172) (s : Int) 60 1 (t : Int) = 0
      · have z1 : ¬ 0 < zrng (N.2.1 1172) (s : Int) 60 1 (t : Int) := by omega
        obtain ⟨q1, q2, q3⟩ := zqQ_tie (k := (zqg1 N.2.1 k) 1161 (4 * k + 2)) (a := (zovr (zrti (zqg1 N.2.1 k) s (t : Int) ((zqg1 N.2.1 k) 1161 (4 * k + 2)) 1172) 60 (zrti (zqg1 N.2.1 k) s (t : Int) ((zqg1 N.2.1 k) 1161 (4 * k + 2)) 1172 t) : Int)) h1 hk hts hs htt ht6 (by rw [e72]; exact hz)
        refine ⟨ztie M.2.1 s (t : Int) ((zqg1 N.2.1 k) 1161 (4 * k + 2)), zu2 (zrti (zqg1 N.2.1 k) s (t : Int) ((zqg1 N.2.1 k) 1161 (4 * k + 2))) 1153 36 (zovr (zrti (zqg1 N.2.1 k) s (t : Int) ((zqg1 N.2.1 k) 1161 (4 * k + 2)) 1172) 60 (zrti (zqg1 N.2.1 k) s (t : Int) ((zqg1 N.2.1 k) 1161 (4 * k + 2)) 1172 t) : Int), _, 1, fun Q => c10_10 (t := t) (v := (zovr (zld (ztie M.2.1 s (t : Int) ((zqg1 N.2.1 k) 1161 (4 * k + 2)))) 60 (zld (ztie M.2.1 s (t : Int) ((zqg1 N.2.1 k) 1161 (4 * k + 2))) t) : Int)) (M9 := zwI M (ztie M.2.1 s (t : Int) ((zqg1 N.2.1 k) 1161 (4 * k + 2)))) hM (zqR_01 h) hk hk hg j0 hs e2 (by omega) (fun Q9 => ?_), e 1 _ (Or.inr rfl) (fun Q9 => c208_10y (x := 0) (M10 := N) (M := zwI N (zqg1 N.2.1 k)) hN hk hs ((zqg1_o (k := k) (by omega)).trans j1) (zqR_r01 h1) ⟨by omega, by omega, by rw [Int.toNat_natCast]; exact htt⟩ (Or.inr rfl) (fun Q8 => ?_)), fun c j hc => ?_, fun c j hc => ?_, fun j h1 h2 h3 => ?_, Or.inr ⟨rfl, by omega, ?_, zqR_n hk q1⟩⟩
        · rw [h8, ← h74, c33 hM (zqR_ld h) hs ht6, er]
          exact propext ⟨fun q => q.2 z1, fun q => ⟨fun q2 => absurd q2 z1, fun _ => q⟩⟩
        · refine (c226e Q8).trans ?_
          show ((0 < zrng ((zqg1 N.2.1 k) 1172) (s : Int) 60 1 (t : Int) → _) ∧ (¬ 0 < zrng ((zqg1 N.2.1 k) 1172) (s : Int) 60 1 (t : Int) → _)) = _
          rw [e72]
          exact propext ⟨fun q => q.2 z1, fun q => ⟨fun q2 => absurd q2 z1, fun _ => q⟩⟩
        · unfold ztie
          rw [zu2_sj (by omega), zu2_sj (by omega)]
        · unfold zrti
          rw [zu2_sj (by omega), zu2_sj (by omega), zu2_sj (by omega)]
          exact zqg1_o (by omega)
        · unfold zrti
          rw [zu2_sj (by omega), zu2_sj (by omega), zu2_sj (by omega)]
          exact zu2_i h2 _ _ _ _
        · rw [zu2_eq, q3]
      · have z1 : 0 < zrng (N.2.1 1172) (s : Int) 60 1 (t : Int) := by
          have := zrng_nn (N.2.1 1172) (s : Int) 60 1 (t : Int)
          omega
        refine ⟨M.2.1, zqg1 N.2.1 k, -1, 0, fun Q => c10_10 (t := t) (v := -1) (M9 := M) hM (zqR_01 h) hk hk hg j0 hs e2 (by omega) (fun Q9 => ?_), e 0 _ (Or.inl rfl) (fun Q9 => c208_10y (x := 0) (M9 := zwI N (zqg1 N.2.1 k)) (M10 := N) (M := zwI N (zqg1 N.2.1 k)) hN hk hs ((zqg1_o (k := k) (by omega)).trans j1) (zqR_r01 h1) ⟨by omega, by omega, by rw [Int.toNat_natCast]; exact htt⟩ (Or.inl rfl) (fun Q8 => ?_)), fun _ _ _ => rfl, fun c j hc => zqg1_o (by omega), fun j _ h2 _ => zu2_i h2 _ _ _ _, Or.inl ⟨rfl, rfl, h1⟩⟩
        · rw [c33 hM (zqR_ld h) hs ht6, er]
          exact propext ⟨fun q => q.1 z1, fun q => ⟨fun _ => q, fun q2 => absurd z1 q2⟩⟩
        · refine (c226e Q8).trans ?_
          show ((0 < zrng ((zqg1 N.2.1 k) 1172) (s : Int) 60 1 (t : Int) → _) ∧ (¬ 0 < zrng ((zqg1 N.2.1 k) 1172) (s : Int) 60 1 (t : Int) → _)) = _
          rw [e72]
          exact propext ⟨fun q => q.1 z1, fun q => ⟨fun _ => q, fun q2 => absurd z1 q2⟩⟩
  · refine zqS_no hM hk h (fun hg => ?_) ?_
    · rcases hg.2 with h5 | ⟨_, _, h7⟩
      · omega
      · rw [h3.1, tt] at h7
        exact hv h7
    · obtain ⟨a1, a2, a3⟩ := hs2
      by_cases hu : N.2.1 1166 (N.2.1 1161 (4 * k)).toNat = 1
      · have es : ((N.2.1 1161 (4 * k)).toNat : Int) = N.2.1 1161 (4 * k) := by omega
        intro Q
        refine c192_ty (v := 0) (M9 := zwI N (zqg1 N.2.1 k)) hN hk (by omega) (zqR_r01 h) ⟨by omega, by omega, hu⟩ (fun Q9 => ?_) (Or.inl rfl)
        rw [← es]
        refine c208_10n (a := 0) (x := 0) (M9 := N) (M10 := N) (M := zwI N (zqg1 N.2.1 k)) hN hk (by omega) ((zqg1_o (k := k) (by omega)).trans j1) (zqR_r01 h1) (fun hr => hv ?_)
        have := hr.2.2
        exact (zqg1_o (g := N.2.1) (k := k) (b := 1166) (by omega)).symm.trans this
      · intro Q
        refine c192_tn (v := 0) (M9 := N) hN hk (by omega) (zqR_r01 h) (fun hr => hu ?_)
        have h9 := hr.2.2
        rw [zu2_a (by omega)] at h9
        exact h9
end ZTIEQ
