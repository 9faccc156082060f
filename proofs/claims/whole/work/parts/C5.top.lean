/-! the top of a layer -/
section ZTOPK
variable {n : Nat} {f g f' g' G : Nat → Nat → Int} {s : Nat}
theorem zrab_m {l : Int} : ∀ k : Nat, 1 ≤ zrab G s l k ∧ (∀ i, i < k → i ≠ s → zrnl G l i = true → G 1169 i / G 1170 i + 1 ≤ zrab G s l k) ∧ (zrab G s l k = 1 ∨ ∃ i, i < k ∧ i ≠ s ∧ zrnl G l i = true ∧ zrab G s l k = G 1169 i / G 1170 i + 1)
  | 0 => ⟨Int.le_refl _, fun i h => absurd h (Nat.not_lt_zero i), Or.inl rfl⟩
  | k + 1 => by
    obtain ⟨h1, h2, h3⟩ := zrab_m (l := l) k
    rw [zrab_s]
    by_cases c : k ≠ s ∧ zrnl G l k = true
    · rw [if_pos c]
      refine ⟨by omega, fun i hi hs hl => ?_, ?_⟩
      · by_cases e : i = k
        · subst e; omega
        · have := h2 i (by omega) hs hl; omega
      · by_cases d : zrab G s l k ≤ G 1169 k / G 1170 k + 1
        · exact Or.inr ⟨k, by omega, c.1, c.2, by omega⟩
        · rcases h3 with h3 | ⟨i, hi, hs, hl, e⟩
          · exact Or.inl (by omega)
          · exact Or.inr ⟨i, by omega, hs, hl, by omega⟩
    · rw [if_neg c]
      refine ⟨h1, fun i hi hs hl => ?_, ?_⟩
      · by_cases e : i = k
        · subst e; exact absurd ⟨hs, hl⟩ c
        · exact h2 i (by omega) hs hl
      · rcases h3 with h3 | ⟨i, hi, hs, hl, e⟩
        · exact Or.inl h3
        · exact Or.inr ⟨i, by omega, hs, hl, e⟩
/-- the class's greatest and the reference's next -/
theorem zqgr {F : Nat → Nat → Int} {l : Int} : ∀ k : Nat, (∀ i, i < k → i ≠ s → F (14 + 14 * i) 0 = G 1166 i ∧ (G 1166 i = 1 → F (14 + 14 * i) 1 = G 1167 i ∧ F (14 + 14 * i) 3 = G 1169 i ∧ F (14 + 14 * i) 4 = G 1170 i)) → zgr F s l k + 1 = zrab G s l k
  | 0, _ => rfl
  | k + 1, h => by
    have ih := zqgr (F := F) (l := l) k (fun i hi => h i (by omega))
    rw [zgr_s, zrab_s]
    by_cases e : k = s
    · rw [if_neg (fun c => c.1 e), if_neg (fun c => c.1 e)]
      exact ih
    · obtain ⟨a, b⟩ := h k (by omega) e
      by_cases c : zrnl G l k = true
      · obtain ⟨c1, c2⟩ := zrnl_iff.mp c
        obtain ⟨b1, b2, b3⟩ := b c1
        rw [if_pos ⟨e, zinl_iff.mpr ⟨by omega, by omega⟩⟩, if_pos ⟨e, c⟩, b2, b3]
        omega
      · rw [if_neg (fun c2 => c ?_), if_neg (fun c2 => c c2.2)]
        · exact ih
        · obtain ⟨d1, d2⟩ := zinl_iff.mp c2.2
          rw [a] at d1
          exact zrnl_iff.mpr ⟨d1, by rw [← (b d1).1]; exact d2⟩
theorem zdvm {a b t : Int} (hb : 1 ≤ b) (h : a / b + 1 ≤ t) : a < t * b := by
  have h1 := Int.lt_ediv_add_one_mul_self a (show (0 : Int) < b by omega)
  have h2 : (a / b + 1) * b ≤ t * b := Int.mul_le_mul_of_nonneg_right h (by omega)
  omega
theorem zdvl {a b m : Int} (hb : 1 ≤ b) (h : a ≤ m * b) : a / b ≤ m := by
  have h1 := Int.ediv_le_ediv (c := b) (by omega) h
  rw [Int.mul_ediv_cancel _ (by omega)] at h1
  exact h1
/-- s at the top of layer l -/
theorem zqK_top {l t : Int} (hK : zqK n f g) (hO : ∀ i, i < 60 → i ≠ s → (g' 1166 i = 1 → g 1166 i = 1) ∧ f' (14 + 14 * i) 3 = f (14 + 14 * i) 3 ∧ f' (14 + 14 * i) 4 = f (14 + 14 * i) 4 ∧ g' 1167 i = g 1167 i ∧ g' 1169 i = g 1169 i ∧ g' 1170 i = g 1170 i) (hG : ∀ i, i < 60 → i ≠ s → G 1166 i = g 1166 i ∧ G 1167 i = g 1167 i ∧ G 1169 i = g 1169 i ∧ G 1170 i = g 1170 i) (hS : f' (14 + 14 * s) 3 = t ∧ f' (14 + 14 * s) 4 = 1 ∧ g' 1167 s = l ∧ g' 1169 s = t ∧ g' 1170 s = 1) (ht : t = zrab G s l 60) : zqK (n + 1) f' g' := by
  obtain ⟨m1, m2, m3⟩ := zrab_m (G := G) (s := s) (l := l) 60
  rw [← ht] at m1 m2 m3
  obtain ⟨s1, s2, s3, s4, s5⟩ := hS
  have bound : t ≤ (n : Int) + 1 := by
    rcases m3 with m3 | ⟨i, hi, his, hl, e⟩
    · omega
    · obtain ⟨a1, a2, a3, a4⟩ := hG i hi his
      obtain ⟨l1, l2⟩ := zrnl_iff.mp hl
      rw [a1] at l1
      obtain ⟨_, _, _, b, c⟩ := hK.1 i hi l1
      have := zdvl b.1 c
      rw [a3, a4] at e
      omega
  have key : ∀ i, i < 60 → i ≠ s → g' 1166 i = 1 → g' 1167 i = l → g' 1169 i < t * g' 1170 i := fun i hi his h1 h2 => by
    obtain ⟨o1, o2, o3, o4, o5, o6⟩ := hO i hi his
    obtain ⟨a1, a2, a3, a4⟩ := hG i hi his
    have g1 := o1 h1
    obtain ⟨_, _, _, b, c⟩ := hK.1 i hi g1
    have := m2 i hi his (zrnl_iff.mpr ⟨by omega, by omega⟩)
    rw [a3, a4] at this
    rw [o5, o6]
    exact zdvm b.1 this
  refine ⟨fun i hi h1 => ?_, fun i j hi hj hij h1 h2 h3 => ?_⟩
  · by_cases e : i = s
    · subst e
      rw [s1, s2, s4, s5]
      exact ⟨rfl, rfl, m1, by omega, by omega⟩
    · obtain ⟨o1, o2, o3, o4, o5, o6⟩ := hO i hi e
      rw [o2, o3, o5, o6]
      exact (zqK_n hK).1 i hi (o1 h1)
  · by_cases e : i = s
    · subst e
      have k := key j hj (fun e => hij e.symm) h2 (by omega)
      rw [s4, s5]
      omega
    · by_cases e2 : j = s
      · subst e2
        have k := key i hi e h1 (by omega)
        rw [s4, s5]
        omega
      · obtain ⟨o1, o2, o3, o4, o5, o6⟩ := hO i hi e
        obtain ⟨p1, p2, p3, p4, p5, p6⟩ := hO j hj e2
        rw [o5, o6, p5, p6]
        exact hK.2 i j hi hj hij (o1 h1) (p1 h2) (by omega)
theorem zqK_o {l t : Int} (hK : zqK n f g) (hn : n ≤ 60) (hG : ∀ i, i < 60 → i ≠ s → G 1166 i = g 1166 i ∧ G 1167 i = g 1167 i ∧ G 1169 i = g 1169 i ∧ G 1170 i = g 1170 i) : 1 ≤ zrab G s l 60 ∧ zrab G s l 60 ≤ 61 := by
  obtain ⟨m1, m2, m3⟩ := zrab_m (G := G) (s := s) (l := l) 60
  refine ⟨m1, ?_⟩
  rcases m3 with m3 | ⟨i, hi, his, hl, e⟩
  · omega
  · obtain ⟨a1, a2, a3, a4⟩ := hG i hi his
    obtain ⟨l1, l2⟩ := zrnl_iff.mp hl
    rw [a1] at l1
    obtain ⟨_, _, _, b, c⟩ := hK.1 i hi l1
    have := zdvl b.1 c
    rw [a3, a4] at e
    omega
theorem zqQ_layer (h : zqR n f g) (hs : s < 60) (hn : n < 60) (ts : g 1166 s = 1) {l v : Int} (hl : 0 ≤ l ∧ l ≤ 3) : zqR (n + 1) (zlay f s l) (zrtp (zu2 (zu2 g 1153 36 v) 1167 s l) s) := by
  have hrt : ∀ i, i < 60 → f (14 + 14 * i) 0 = g 1166 i := fun i hi => zqR_t h hi
  obtain ⟨T, A, K, Lr, G, V, D, S, J⟩ := h
  have eG : ∀ b i, ((b ≠ 1153 ∨ i ≠ 36) ∧ (b ≠ 1167 ∨ i ≠ s)) → zu2 (zu2 g 1153 36 v) 1167 s l b i = g b i := fun b i hb => by rw [zu2_sj hb.2, zu2_sj hb.1]
  have eG2 : zu2 (zu2 g 1153 36 v) 1167 s l 1167 s = l := zu2_eq _ _ _ _
  unfold zlay zrtp
  rw [eG2]
  generalize zu2 (zu2 g 1153 36 v) 1167 s l = G1 at *
  have e1 : zgr f s l 60 + 1 = zrab G1 s l 60 := zqgr 60 (fun i hi his => by
    rw [eG 1166 i (by omega), eG 1167 i (by omega), eG 1169 i (by omega), eG 1170 i (by omega)]
    exact ⟨hrt i hi, fun t => ⟨(A i hi t).1, (K.1 i hi t).1, (K.1 i hi t).2.1⟩⟩)
  rw [e1]
  have hGG : ∀ i, i < 60 → i ≠ s → G1 1166 i = g 1166 i ∧ G1 1167 i = g 1167 i ∧ G1 1169 i = g 1169 i ∧ G1 1170 i = g 1170 i := fun i hi his => ⟨eG _ _ (by omega), eG _ _ (by omega), eG _ _ (by omega), eG _ _ (by omega)⟩
  have hb := zqK_o (l := l) (t := 0) K T.1 hGG
  generalize et : zrab G1 s l 60 = t at *
  generalize ef : zu2 (zu2 (zu2 f (14 + 14 * s) 1 l) (14 + 14 * s) 3 t) (14 + 14 * s) 4 1 = f'
  generalize eg : zu2 (zu2 G1 1169 s t) 1170 s 1 = g'
  have hF : ∀ b i, (b ≠ 14 + 14 * s ∨ (i ≠ 1 ∧ i ≠ 3 ∧ i ≠ 4)) → f' b i = f b i := fun b i hb => by rw [← ef, zu2_sj (by omega), zu2_sj (by omega), zu2_sj (by omega)]
  have hG : ∀ b i, ((b ≠ 1153 ∨ i ≠ 36) ∧ ((b ≠ 1167 ∧ b ≠ 1169 ∧ b ≠ 1170) ∨ i ≠ s)) → g' b i = g b i := fun b i hb => by rw [← eg, zu2_sj (by omega), zu2_sj (by omega), eG _ _ (by omega)]
  have s1 : f' (14 + 14 * s) 1 = l := by rw [← ef, zu2_i (by omega), zu2_i (by omega), zu2_eq]
  have s3 : f' (14 + 14 * s) 3 = t := by rw [← ef, zu2_i (by omega), zu2_eq]
  have s4 : f' (14 + 14 * s) 4 = 1 := by rw [← ef, zu2_eq]
  have r1 : g' 1167 s = l := by rw [← eg, zu2_a (by omega), zu2_a (by omega), eG2]
  have r3 : g' 1169 s = t := by rw [← eg, zu2_a (by omega), zu2_eq]
  have r4 : g' 1170 s = 1 := by rw [← eg, zu2_eq]
  have h0 : ∀ i, i < 60 → g' 1166 i = g 1166 i := fun i hi => hG _ _ (by omega)
  have h00 : ∀ i, i < 60 → g' 1166 i = 1 → g 1166 i = 1 := fun i hi t => by rw [← h0 i hi]; exact t
  have ht2 : zqT (n + 1) f' g' := by
    have := zqT_c (fun i hi => hF _ _ (by omega)) h0 T
    exact ⟨hn, fun i hi => ⟨(this.2 i hi).1, (this.2 i hi).2.1, fun t => by have := (this.2 i hi).2.2 t; omega⟩⟩
  have hj : zqJ f' := by
    obtain ⟨J1, J2, J3, J4⟩ := J
    refine ⟨fun i hi => ?_, fun i hi => ?_, ⟨fun i hi => ?_, fun i hi => ?_⟩, fun i hi => ?_⟩
    · unfold zKy
      by_cases e : i = s
      · subst e; rw [s3, s4]; omega
      · rw [hF _ 3 (by omega), hF _ 4 (by omega)]
        exact J1 i hi
    · unfold zld
      rw [hF _ _ (by omega)]; exact J2 i hi
    · rw [hF _ _ (by omega)]; exact J3.1 i hi
    · rw [hF _ _ (by omega)]; exact J3.2 i hi
    · rw [hF _ _ (by omega)]; exact J4 i hi
  have hg2 : zqG (n + 1) f' g' := zqG_c (by omega) T.1 h0 (fun i hi => ⟨hF _ _ (by omega), hF _ _ (by omega)⟩) (fun i hi => hG _ _ (by omega)) G
  have hv : zqV f' g' := ⟨fun l hl => by rw [hF _ _ (by omega), hG _ _ (by omega)]; exact V.1 l hl, fun i hi => by
    rw [hG 1168 i (by omega)]
    refine ⟨?_, (V.2 i hi).2⟩
    by_cases e : i = s
    · subst e; rw [r1]; exact hl
    · rw [hG 1167 i (by omega)]; exact (V.2 i hi).1⟩
  refine ⟨ht2, fun i hi t2 => ?_, zqK_top (G := G1) (l := l) (t := t) (s := s) K (fun i hi his => ⟨h00 i hi, hF _ _ (by omega), hF _ _ (by omega), hG _ _ (by omega), hG _ _ (by omega), hG _ _ (by omega)⟩) hGG ⟨s3, s4, r1, r3, r4⟩ et.symm, zqL_c h0 (fun i hi => ⟨hF _ _ (by omega), hF _ _ (by omega)⟩) (fun i hi => ⟨hG _ _ (by omega), hG _ _ (by omega)⟩) Lr, hg2, hv, zqD_c (hF _ _ (by omega)) (hG _ _ (by omega)) (fun i hi => ⟨hF _ _ (by omega), hF _ _ (by omega)⟩) (fun i hi => ⟨hG _ _ (by omega), hG _ _ (by omega)⟩) D, zqF_c h00 (fun k hk _ b j h1 h2 h3 => hF _ _ (by omega)) (fun k hk _ => ⟨hG _ _ (by omega), hG _ _ (by omega), fun p _ => hG _ _ (by omega), fun j _ _ => ⟨hG _ _ (by omega), hG _ _ (by omega)⟩⟩) S, hj⟩
  obtain ⟨a1, a2, a3, a4, a5⟩ := A i hi (h00 i hi t2)
  rw [hF _ 2 (by omega), hF _ 5 (by omega), hG 1168 _ (by omega), hG 1171 _ (by omega)]
  by_cases e : i = s
  · subst e
    rw [s1, r1]
    exact ⟨rfl, a2, a3, hl, a5⟩
  · rw [hF _ _ (by omega), hG _ _ (by omega)]
    exact ⟨a1, a2, a3, a4, a5⟩
variable {L k : Nat} {M N : zM}
theorem zqS_8 (hM : zLay M.2.2.2) (hN : zLay N.2.2.2) (hk : k < 60) (h : zqR k M.2.1 N.2.1) (hj : zqJ1 M N k 8) (h4 : M.2.1 (855 + 4 * k) 4 = N.2.1 1161 (4 * k + 1) ∧ 0 ≤ N.2.1 1161 (4 * k + 1) ∧ N.2.1 1161 (4 * k + 1) ≤ 3) : zqS L k M N := by
  obtain ⟨⟨j0, j1⟩, j2, j3⟩ := hj
  rcases zqS_sh (L := L) hM hN hk h j2 (Or.inl j3) (by omega) with no | ⟨s, hs, e2, e4, ht, hg, e⟩
  · exact no
  · have h1 := zqR_g1 (k := k) h
    obtain ⟨a1, a2, a3, a4, a5⟩ := h.2.1 s hs ht
    have h9 : zrBk (zu2 (zu2 (zqg1 N.2.1 k) 1153 36 ((zqg1 N.2.1 k) 1167 s)) 1167 s (N.2.1 1161 (4 * k + 1))) := fun i hi => by
      have := zqR_rbk h1 i hi
      unfold zrKy at *
      rw [zu2_sj (by omega), zu2_sj (by omega), zu2_sj (by omega), zu2_sj (by omega), zu2_sj (by omega), zu2_sj (by omega)]
      exact this
    refine ⟨_, _, _, 1, fun Q => c10_8 hM (zqR_01 h) hk hk hg j0 hs e2 (fun Q9 => c12 hM (zqR_bk h) hs), e 1 _ (Or.inr rfl) (fun Q9 => c208_8 (a := 0) (x := 0) (M10 := N) (M := zwI N (zqg1 N.2.1 k)) hN hk hs ((zqg1_o (k := k) (by omega)).trans j1) (fun Q8 => c196 (M := zwI N (zu2 (zu2 (zqg1 N.2.1 k) 1153 36 ((zqg1 N.2.1 k) 1167 s)) 1167 s (N.2.1 1161 (4 * k + 1)))) hN h9 hs)), fun c j hc => by rw [zu2_sj (by omega), zu2_sj (by omega), zu2_sj (by omega)], fun c j hc => ?_, fun j h1 h2 h3 => ?_, Or.inr ⟨rfl, by omega, ?_, ?_⟩⟩
    · show zrtp (zu2 (zu2 (zqg1 N.2.1 k) 1153 36 _) 1167 s _) s c j = N.2.1 c j
      unfold zrtp
      rw [zu2_sj (by omega), zu2_sj (by omega), zu2_sj (by omega), zu2_sj (by omega)]
      exact zqg1_o (by omega)
    · show zrtp (zu2 (zu2 (zqg1 N.2.1 k) 1153 36 _) 1167 s _) s 1153 j = N.2.1 1153 j
      unfold zrtp
      rw [zu2_sj (by omega), zu2_sj (by omega), zu2_sj (by omega), zu2_sj (by omega)]
      exact zu2_i h2 _ _ _ _
    · show zrtp (zu2 (zu2 (zqg1 N.2.1 k) 1153 36 _) 1167 s _) s 1153 36 = _
      unfold zrtp
      rw [zu2_sj (by omega), zu2_sj (by omega), zu2_sj (by omega), zu2_eq, zqg1_o (by omega), a1]
    · rw [h4.1]
      exact zqQ_layer h1 hs hk ((zqg1_o (by omega)).trans ht) h4.2
end ZTOPK
