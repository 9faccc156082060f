/-! a new shape on both boards: drawn, joined -/
section ZNEWQ
variable {n : Nat} {f g f' g' : Nat → Nat → Int} {i s : Nat}
theorem zqQ_new (h : zqR n f g) (hn : n < 60) {F1 G1 : Nat → Nat → Int} {l : Int} (hf : ∀ b j, (b < 14 + 14 * n ∨ 28 + 14 * n ≤ b ∨ (b = 14 + 14 * n ∧ (j = 3 ∨ j = 4))) → F1 b j = f b j) (hg : ∀ b j, ((b ≠ 1153 ∨ j ≠ 36) ∧ ((b ≠ 1166 ∧ b ≠ 1167 ∧ b ≠ 1168 ∧ b ≠ 1171 ∧ b ≠ 1172 ∧ b ≠ 1173 ∧ b ≠ 1174 ∧ b ≠ 1175 ∧ b ≠ 1180) ∨ j ≠ n) ∧ (b ≠ 1176 ∨ ¬ (4 * n ≤ j ∧ j < 4 * n + 4)) ∧ ((b ≠ 1177 ∧ b ≠ 1178) ∨ ¬ (32 * n ≤ j ∧ j < 32 * n + 32))) → G1 b j = g b j) (v0 : F1 (14 + 14 * n) 0 = 1 ∧ G1 1166 n = 1) (vl : G1 1167 n = l ∧ 0 ≤ l ∧ l ≤ 3) (vc : F1 (14 + 14 * n) 2 = G1 1168 n ∧ 1 ≤ G1 1168 n ∧ G1 1168 n ≤ 9) (vh : F1 (14 + 14 * n) 5 = G1 1171 n) (v6 : F1 (14 + 14 * n) 6 = -1 ∧ F1 (14 + 14 * n) 7 = -1 ∧ F1 (14 + 14 * n) 8 = -1) (w6 : G1 1172 n = -1 ∧ G1 1173 n = -1 ∧ G1 1180 n = -1) (hE : zqE F1 G1 n ∧ zqO G1 n) : zqR (n + 1) (zlay F1 n l) (zrtp G1 n) := by
  have hrt : ∀ i, i < 60 → f (14 + 14 * i) 0 = g 1166 i := fun i hi => zqR_t h hi
  have gn0 : g 1166 n = 0 := by
    rcases (h.1.2 n hn).1 with e | e
    · exact e
    · have := (h.1.2 n hn).2.2 e; omega
  have wn : g 1180 n = -1 := by
    rcases (h.2.2.2.2.1 n hn).2.2 with e | ⟨e1, e2, _⟩
    · exact e
    · omega
  have fn7 : f 7 n = -1 := by rw [(h.2.2.2.2.1 n hn).2.1 gn0, wn]
  obtain ⟨T, A, K, Lr, G, V, D, S, J⟩ := h
  unfold zlay zrtp
  rw [vl.1]
  have e1 : zgr F1 n l 60 + 1 = zrab G1 n l 60 := zqgr 60 (fun i hi his => by
    rw [hf _ _ (by omega), hf _ _ (by omega), hf _ _ (by omega), hf _ _ (by omega), hg 1166 i (by omega), hg 1167 i (by omega), hg 1169 i (by omega), hg 1170 i (by omega)]
    exact ⟨hrt i hi, fun t => ⟨(A i hi t).1, (K.1 i hi t).1, (K.1 i hi t).2.1⟩⟩)
  rw [e1]
  have hGG : ∀ i, i < 60 → i ≠ n → G1 1166 i = g 1166 i ∧ G1 1167 i = g 1167 i ∧ G1 1169 i = g 1169 i ∧ G1 1170 i = g 1170 i := fun i hi his => ⟨hg _ _ (by omega), hg _ _ (by omega), hg _ _ (by omega), hg _ _ (by omega)⟩
  have hb := zqK_o (l := l) (t := 0) K T.1 hGG
  generalize et : zrab G1 n l 60 = t at *
  generalize ef : zu2 (zu2 (zu2 F1 (14 + 14 * n) 1 l) (14 + 14 * n) 3 t) (14 + 14 * n) 4 1 = f'
  generalize eg : zu2 (zu2 G1 1169 n t) 1170 n 1 = g'
  have hF1 : ∀ b i, (b ≠ 14 + 14 * n ∨ (i ≠ 1 ∧ i ≠ 3 ∧ i ≠ 4)) → f' b i = F1 b i := fun b i hb => by rw [← ef, zu2_sj (by omega), zu2_sj (by omega), zu2_sj (by omega)]
  have hG1 : ∀ b i, ((b ≠ 1169 ∧ b ≠ 1170) ∨ i ≠ n) → g' b i = G1 b i := fun b i hb => by rw [← eg, zu2_sj (by omega), zu2_sj (by omega)]
  have s1 : f' (14 + 14 * n) 1 = l := by rw [← ef, zu2_i (by omega), zu2_i (by omega), zu2_eq]
  have s3 : f' (14 + 14 * n) 3 = t := by rw [← ef, zu2_i (by omega), zu2_eq]
  have s4 : f' (14 + 14 * n) 4 = 1 := by rw [← ef, zu2_eq]
  have r1 : g' 1167 n = l := (hG1 _ _ (by omega)).trans vl.1
  have r3 : g' 1169 n = t := by rw [← eg, zu2_a (by omega), zu2_eq]
  have r4 : g' 1170 n = 1 := by rw [← eg, zu2_eq]
  have hF : ∀ b j, (b < 14 + 14 * n ∨ 28 + 14 * n ≤ b) → f' b j = f b j := fun b j hb => (hF1 b j (by omega)).trans (hf b j (by omega))
  have hG : ∀ b j, ((b ≠ 1153 ∨ j ≠ 36) ∧ ((b ≠ 1166 ∧ b ≠ 1167 ∧ b ≠ 1168 ∧ b ≠ 1169 ∧ b ≠ 1170 ∧ b ≠ 1171 ∧ b ≠ 1172 ∧ b ≠ 1173 ∧ b ≠ 1174 ∧ b ≠ 1175 ∧ b ≠ 1180) ∨ j ≠ n) ∧ (b ≠ 1176 ∨ ¬ (4 * n ≤ j ∧ j < 4 * n + 4)) ∧ ((b ≠ 1177 ∧ b ≠ 1178) ∨ ¬ (32 * n ≤ j ∧ j < 32 * n + 32))) → g' b j = g b j := fun b j hb => (hG1 b j (by omega)).trans (hg b j (by omega))
  have ti : ∀ i, i < 60 → i ≠ n → g' 1166 i = g 1166 i := fun i hi e => hG _ _ (by omega)
  have tn : g' 1166 n = 1 := (hG1 _ _ (by omega)).trans v0.2
  have ht : zqT (n + 1) f' g' := ⟨hn, fun i hi => by
    by_cases e : i = n
    · subst e
      rw [tn, hF1 _ _ (by omega), v0.1]
      exact ⟨Or.inr rfl, rfl, fun _ => by omega⟩
    · rw [ti i hi e, hF _ _ (by omega)]
      obtain ⟨a, b, c⟩ := T.2 i hi
      exact ⟨a, b, fun q => by have := c q; omega⟩⟩
  have ha : zqA f' g' := fun i hi q => by
    by_cases e : i = n
    · subst e
      rw [s1, r1, hF1 _ _ (by omega), hF1 _ _ (by omega), hG1 _ _ (by omega), hG1 _ _ (by omega)]
      exact ⟨rfl, vc.1, vh, vl.2, vc.2⟩
    · rw [ti i hi e] at q
      rw [hF _ _ (by omega), hF _ _ (by omega), hF _ _ (by omega), hG _ _ (by omega), hG _ _ (by omega), hG _ _ (by omega)]
      exact A i hi q
  have hk : zqK (n + 1) f' g' := zqK_top (G := G1) (l := l) (t := t) (s := n) K (fun i hi his => ⟨fun q => by rw [← ti i hi his]; exact q, hF _ _ (by omega), hF _ _ (by omega), hG _ _ (by omega), hG _ _ (by omega), hG _ _ (by omega)⟩) hGG ⟨s3, s4, r1, r3, r4⟩ et.symm
  have lb : ∀ i, i < 60 → -1 ≤ g 1172 i ∧ g 1172 i < 60 := fun i hi => ⟨(Lr.2.1 i hi).1, (Lr.2.1 i hi).2.1⟩
  have l2 : g' 1172 n = -1 := (hG1 _ _ (by omega)).trans w6.1
  have l3 : g' 1173 n = -1 := (hG1 _ _ (by omega)).trans w6.2.1
  have he : ∀ i, i < 60 → g' 1172 i = g 1172 i ∨ g' 1172 i = -1 := fun i hi => by
    by_cases e : i = n
    · subst e; exact Or.inr l2
    · exact Or.inl (hG _ _ (by omega))
  have hl : zqL f' g' := by
    refine ⟨fun i hi q => ?_, fun i hi => ?_, fun i hi => ?_⟩
    · by_cases e : i = n
      · subst e
        rw [hF1 _ _ (by omega), hF1 _ _ (by omega), l2, l3]
        exact ⟨v6.1, v6.2.1, fun _ => rfl⟩
      · rw [ti i hi e] at q
        rw [hF _ _ (by omega), hF _ _ (by omega), hG _ _ (by omega), hG _ _ (by omega)]
        exact Lr.1 i hi q
    · by_cases e : i = n
      · subst e; rw [l2]; omega
      · obtain ⟨a, b, c⟩ := Lr.2.1 i hi
        rw [hG 1172 i (by omega), ti i hi e]
        refine ⟨a, b, fun q => ?_⟩
        obtain ⟨c1, c2⟩ := c q
        refine ⟨c1, ?_⟩
        by_cases e2 : (g 1172 i).toNat = n
        · rw [e2, gn0] at c2; omega
        · rw [ti _ (by omega) e2]; exact c2
    · rcases he i hi with e | e <;> rw [e]
      · exact (zrne_d lb he 60 _ (lb i hi) (Lr.2.2 i hi)).2 (by omega)
      · exact Or.inl rfl
  have hgr : zqG (n + 1) f' g' := fun i hi => by
    obtain ⟨a, b, c⟩ := G i hi
    by_cases e : i = n
    · subst e
      rw [tn, hF1 _ _ (by omega), hF 7 _ (by omega), show g' 1180 i = -1 from (hG1 _ _ (by omega)).trans w6.2.2]
      exact ⟨fun _ => ⟨v6.2.2, fn7⟩, fun q => absurd q (by omega), Or.inl rfl⟩
    · rw [ti i hi e, hF _ _ (by omega), hF 7 i (by omega), hG 1180 i (by omega)]
      refine ⟨a, b, ?_⟩
      rcases c with c | ⟨c1, c2, c3⟩
      · exact Or.inl c
      · exact Or.inr ⟨c1, by omega, by rw [ti _ (by omega) (by omega)]; exact c3⟩
  have hv : zqV f' g' := ⟨fun l hl => by rw [hF _ _ (by omega), hG _ _ (by omega)]; exact V.1 l hl, fun i hi => by
    by_cases e : i = n
    · subst e
      rw [r1, hG1 1168 _ (by omega)]
      omega
    · rw [hG 1167 i (by omega), hG 1168 i (by omega)]
      exact V.2 i hi⟩
  have hd : zqD f' g' := zqD_c (hF _ _ (by omega)) (hG _ _ (by omega)) (fun k hk => ⟨hF _ _ (by omega), hF _ _ (by omega)⟩) (fun k hk => ⟨hG _ _ (by omega), hG _ _ (by omega)⟩) D
  have hff : zqF f' g' := fun i hi q => by
    by_cases e : i = n
    · subst e
      have eq : zrEq g' G1 i := ⟨hG1 _ _ (by omega), hG1 _ _ (by omega), fun p _ => hG1 _ _ (by omega), fun j _ _ => ⟨hG1 _ _ (by omega), hG1 _ _ (by omega)⟩⟩
      exact ⟨zqE_c (fun b j b1 b2 b3 => hF1 _ _ (by omega)) eq hE.2 hE.1, zqO_c eq hE.2⟩
    · rw [ti i hi e] at q
      obtain ⟨a, b⟩ := S i hi q
      have eq : zrEq g' g i := ⟨hG _ _ (by omega), hG _ _ (by omega), fun p _ => hG _ _ (by omega), fun j _ _ => ⟨hG _ _ (by omega), hG _ _ (by omega)⟩⟩
      exact ⟨zqE_c (fun b j b1 b2 _ => hF _ _ (by omega)) eq b a, zqO_c eq b⟩
  have hj : zqJ f' := by
    obtain ⟨J1, J2, J3, J4⟩ := J
    refine ⟨fun i hi => ?_, fun i hi => ?_, ⟨fun i hi => ?_, fun i hi => ?_⟩, fun i hi => ?_⟩
    · unfold zKy
      by_cases e : i = n
      · subst e; rw [s3, s4]; omega
      · rw [hF _ 3 (by omega), hF _ 4 (by omega)]; exact J1 i hi
    · unfold zld
      by_cases e : i = n
      · subst e; rw [hF1 _ _ (by omega), v6.1]; omega
      · rw [hF _ _ (by omega)]; exact J2 i hi
    · by_cases e : i = n
      · subst e; rw [hF1 _ _ (by omega), v6.2.2]; omega
      · rw [hF _ _ (by omega)]; exact J3.1 i hi
    · rw [hF _ _ (by omega)]; exact J3.2 i hi
    · rw [hF _ _ (by omega)]; exact J4 i hi
  exact ⟨ht, ha, hk, hl, hgr, hv, hd, hff, hj⟩
/-- the reference's shape that comes -/
theorem zrnr_o2 {l c : Int} {b j : Nat} (h : (b ≠ 1166 ∧ b ≠ 1167 ∧ b ≠ 1168 ∧ b ≠ 1171 ∧ b ≠ 1172 ∧ b ≠ 1173 ∧ b ≠ 1180) ∨ j ≠ s) : zrnr g s l c b j = g b j := by
  unfold zrnr
  rw [zu2_sj (by omega), zu2_sj (by omega), zu2_sj (by omega), zu2_sj (by omega), zu2_sj (by omega), zu2_sj (by omega), zu2_sj (by omega)]
theorem zrnr_v {l c : Int} : zrnr g s l c 1166 s = 1 ∧ zrnr g s l c 1167 s = l ∧ zrnr g s l c 1168 s = c ∧ zrnr g s l c 1171 s = g 1159 s ∧ zrnr g s l c 1172 s = -1 ∧ zrnr g s l c 1173 s = -1 ∧ zrnr g s l c 1180 s = -1 := by
  unfold zrnr
  refine ⟨?_, ?_, ?_, ?_, ?_, ?_, ?_⟩
  · rw [zu2_a (by omega), zu2_a (by omega), zu2_a (by omega), zu2_a (by omega), zu2_a (by omega), zu2_a (by omega), zu2_eq]
  · rw [zu2_a (by omega), zu2_a (by omega), zu2_a (by omega), zu2_a (by omega), zu2_a (by omega), zu2_eq]
  · rw [zu2_a (by omega), zu2_a (by omega), zu2_a (by omega), zu2_a (by omega), zu2_eq]
  · rw [zu2_a (by omega), zu2_a (by omega), zu2_a (by omega), zu2_eq]
  · rw [zu2_a (by omega), zu2_a (by omega), zu2_eq]
  · rw [zu2_a (by omega), zu2_eq]
  · rw [zu2_eq]
theorem zsb_v {h c : Int} {a : Nat} : zsb f a h c a 0 = 1 ∧ zsb f a h c a 5 = h ∧ zsb f a h c a 2 = c ∧ zsb f a h c a 6 = -1 ∧ zsb f a h c a 7 = -1 ∧ zsb f a h c a 8 = -1 := by
  unfold zsb
  refine ⟨?_, ?_, ?_, ?_, ?_, ?_⟩
  · rw [zu2_i (by omega), zu2_i (by omega), zu2_i (by omega), zu2_i (by omega), zu2_i (by omega), zu2_eq]
  · rw [zu2_i (by omega), zu2_i (by omega), zu2_i (by omega), zu2_i (by omega), zu2_eq]
  · rw [zu2_i (by omega), zu2_i (by omega), zu2_i (by omega), zu2_eq]
  · rw [zu2_i (by omega), zu2_i (by omega), zu2_eq]
  · rw [zu2_i (by omega), zu2_eq]
  · rw [zu2_eq]
variable {L k : Nat} {M N : zM}
/-- what a drawing notes in both journals -/
def zqJ0 (M N : zM) (k : Nat) : Prop := zqJw M N k 0 ∧ (M.2.1 (855 + 4 * k) 2 = -1 ∧ M.2.1 (855 + 4 * k) 3 = -1) ∧ M.2.1 (855 + 4 * k) 1 = N.2.1 1159 k ∧ (M.2.1 (855 + 4 * k) 4 = N.2.1 1161 (4 * k) ∧ 0 ≤ N.2.1 1161 (4 * k) ∧ N.2.1 1161 (4 * k) ≤ 3) ∧ (M.2.1 (855 + 4 * k) 5 = N.2.1 1161 (4 * k + 1) ∧ 1 ≤ N.2.1 1161 (4 * k + 1) ∧ N.2.1 1161 (4 * k + 1) ≤ 9) ∧ (M.2.1 (856 + 4 * k) 0 = N.2.1 1163 k ∧ 3 ≤ N.2.1 1163 k ∧ N.2.1 1163 k ≤ 8) ∧ (∀ j : Nat, (j : Int) < N.2.1 1163 k → M.2.1 (857 + 4 * k) j = N.2.1 1164 (8 * k + j) ∧ M.2.1 (858 + 4 * k) j = N.2.1 1165 (8 * k + j) ∧ (0 ≤ N.2.1 1164 (8 * k + j) ∧ N.2.1 1164 (8 * k + j) ≤ 60) ∧ 0 ≤ N.2.1 1165 (8 * k + j) ∧ N.2.1 1165 (8 * k + j) ≤ 60) ∧ zpr (N.2.1 1163 k) (fun j => N.2.1 1164 (8 * k + j)) (fun j => N.2.1 1165 (8 * k + j)) 0
theorem zqS_0 (hM : zLay M.2.2.2) (hN : zLay N.2.2.2) (hk : k < 60) (h : zqR k M.2.1 N.2.1) (hj : zqJ0 M N k) : zqS L k M N := by
  obtain ⟨⟨j0, j1⟩, ⟨j2, j3⟩, jh, ⟨j4, j4b⟩, ⟨j5, j5b⟩, ⟨j6, j6b⟩, j7, j8⟩ := hj
  have h1 := zqR_g1 (k := k) h
  have hg : zgua M.2.1 k := ⟨Or.inl j2, Or.inl j3⟩
  have go : ∀ b j, b ≠ 1153 → zqg1 N.2.1 k b j = N.2.1 b j := fun b j hb => zqg1_o hb
  have go2 : ∀ j, j ≠ 33 → j ≠ 36 → j ≠ 38 → zqg1 N.2.1 k 1153 j = N.2.1 1153 j := fun j _ h2 _ => zu2_i h2 _ _ _ _
  have g36 : zqg1 N.2.1 k 1153 36 = (k : Int) := zu2_eq _ _ _ _
  generalize eg1 : zqg1 N.2.1 k = g1 at *
  have hb : ∀ i, i < 60 → i ≠ k → (g1 1166 i = 0 ∨ g1 1166 i = 1) ∧ (g1 1166 i = 1 → zrKy g1 i) := fun i hi _ => zqR_rbk h1 i hi
  have ec := fun Q9 => c11 (L := L) (M := M) (c := k) (num := k) (Q := Q9) hM (zqR_bk h) hk hk (h.2.2.2.2.2.2.2.2.1 k hk) ⟨by omega, by omega, fun j hj => by
    obtain ⟨a, b, c, d⟩ := j7 j (by omega)
    rw [a, b]
    exact ⟨c.1, c.2, d.1, d.2⟩⟩
  have er := fun Q9 => c193 (L := L) (M := zwI N g1) (s := k) (Q := Q9) hN hb hk (by show 0 ≤ g1 1163 k ∧ g1 1163 k ≤ 8; rw [go _ _ (by omega)]; omega)
  generalize em : (N.2.1 1163 k).toNat = m at *
  have em2 : N.2.1 1163 k = (m : Int) := by omega
  -- the shape before its frame
  generalize eP : zu2 (zu2 (zpset (zsb M.2.1 (14 + 14 * k) (M.2.1 (855 + 4 * k) 1) (M.2.1 (855 + 4 * k) 5)) (14 + 14 * k + 2) m (M.2.1 (857 + 4 * k)) (M.2.1 (858 + 4 * k))) (14 + 14 * k) 10 1) (14 + 14 * k) 9 2 = P
  have eF : zdrf M.2.1 k k = zfnd P (14 + 14 * k) := by
    unfold zdrf
    rw [j6, em, eP]
  generalize eR : zrcp (zrdr0 g1 k) k m = R
  have eG : zrdw g1 k = zrtp (zrnr R k (g1 1161 (4 * k)) (g1 1161 (4 * k + 1))) k := by
    unfold zrdw zrcm
    rw [go 1163 k (by omega), em, eR]
  have Po : ∀ b j, (b ≠ 14 + 14 * k ∨ (j ≠ 9 ∧ j ≠ 10)) → (b < 14 + 14 * k + 2 ∨ 14 + 14 * k + 5 ≤ b) → P b j = zsb M.2.1 (14 + 14 * k) (M.2.1 (855 + 4 * k) 1) (M.2.1 (855 + 4 * k) 5) b j := fun b j hb hb2 => by
    rw [← eP, zu2_sj (by omega), zu2_sj (by omega), zpset_ob (by omega)]
  have Ro : ∀ b j, ((b ≠ 1174 ∧ b ≠ 1175) ∨ j ≠ k) → (b ≠ 1176 ∨ j ≠ 4 * k) → ((b ≠ 1177 ∧ b ≠ 1178) ∨ ¬ (32 * k ≤ j ∧ j < 32 * k + m)) → R b j = g1 b j := fun b j h1 h2 h3 => by
    rw [← eR]
    unfold zrcp
    rw [if_neg (by omega)]
    unfold zrdr0
    rw [zu2_sj (by omega), zu2_sj (by omega), zu2_sj (by omega)]
  have R4 : R 1174 k = 1 ∧ R 1175 k = 2 ∧ R 1176 (4 * k) = (m : Int) := by
    rw [← eR, zrcp_o (by omega), zrcp_o (by omega), zrcp_o (by omega)]
    unfold zrdr0
    rw [zu2_a (by omega), zu2_a (by omega), zu2_eq, zu2_a (by omega), zu2_eq, zu2_eq, go 1163 k (by omega), em2]
    exact ⟨rfl, rfl, rfl⟩
  have RX : ∀ j, j < m → R 1177 (32 * k + j) = N.2.1 1164 (8 * k + j) ∧ R 1178 (32 * k + j) = N.2.1 1165 (8 * k + j) := fun j hj => by
    rw [← eR]
    unfold zrcp
    rw [if_pos ⟨Or.inl rfl, by omega, by omega⟩, if_pos rfl, if_pos ⟨Or.inr rfl, by omega, by omega⟩, if_neg (by omega), show 8 * k + (32 * k + j - 32 * k) = 8 * k + j by omega, zrdr0_o (by omega), zrdr0_o (by omega), go _ _ (by omega), go _ _ (by omega)]
    exact ⟨rfl, rfl⟩
  generalize eG1 : zrnr R k (g1 1161 (4 * k)) (g1 1161 (4 * k + 1)) = G1 at *
  have nv := zrnr_v (g := R) (s := k) (l := g1 1161 (4 * k)) (c := g1 1161 (4 * k + 1))
  have no : ∀ b j, ((b ≠ 1166 ∧ b ≠ 1167 ∧ b ≠ 1168 ∧ b ≠ 1171 ∧ b ≠ 1172 ∧ b ≠ 1173 ∧ b ≠ 1180) ∨ j ≠ k) → G1 b j = R b j := fun b j hb => by rw [← eG1]; exact zrnr_o2 hb
  rw [eG1] at nv
  have n4 : G1 1174 k = 1 := (no _ _ (by omega)).trans R4.1
  have n5 : G1 1175 k = 2 := (no _ _ (by omega)).trans R4.2.1
  have nN : zrN G1 k 0 = (m : Int) := (no 1176 (4 * k + 0) (by omega)).trans R4.2.2
  have nX : ∀ j, j < m → zrX G1 k 0 j = N.2.1 1164 (8 * k + j) ∧ zrY G1 k 0 j = N.2.1 1165 (8 * k + j) := fun j hj => by
    have := RX j hj
    unfold zrX zrY
    rw [show 32 * k + 8 * 0 + j = 32 * k + j by omega, no _ _ (by omega), no _ _ (by omega)]
    exact this
  have oo : zqO G1 k := by
    refine ⟨by omega, by rw [n4, n5]; exact ⟨by decide, by decide, by unfold zhs; decide⟩, fun p hp => ?_⟩
    have p0 : p = 0 := by omega
    subst p0
    rw [nN]
    refine ⟨by omega, ?_, fun j hj => ?_⟩
    · rw [em2] at j8
      exact zpr_cg (fun j hj => (nX j (by omega)).1) (fun j hj => (nX j (by omega)).2) j8
    · rw [(nX j (by omega)).1, (nX j (by omega)).2]
      obtain ⟨_, _, c, d⟩ := j7 j (by omega)
      exact ⟨c, d⟩
  have cc : zqC P G1 k := by
    refine ⟨?_, ?_, fun p hp => ?_⟩
    · rw [n5, ← eP, zu2_eq]
    · rw [n4, ← eP, zu2_i (by omega), zu2_eq]
    · have p0 : p = 0 := by omega
      subst p0
      rw [nN]
      have pp : ∀ b j, b ≠ 14 + 14 * k → P b j = zpset (zsb M.2.1 (14 + 14 * k) (M.2.1 (855 + 4 * k) 1) (M.2.1 (855 + 4 * k) 5)) (14 + 14 * k + 2) m (M.2.1 (857 + 4 * k)) (M.2.1 (858 + 4 * k)) b j := fun b j hb => by rw [← eP, zu2_a hb, zu2_a hb]
      refine ⟨?_, fun j hj => ?_⟩
      · show P (14 + 14 * k + 2 + 3 * 0) 0 = _
        rw [pp _ _ (by omega)]
        exact zpset_n _ _ _ _ _
      · obtain ⟨a, b, _⟩ := j7 j (by omega)
        rw [(nX j (by omega)).1, (nX j (by omega)).2, ← a, ← b]
        show P (14 + 14 * k + 2 + 1) j = _ ∧ P (14 + 14 * k + 2 + 2) j = _
        rw [pp _ _ (by omega), pp _ _ (by omega), zpset_X _ _ (by omega), zpset_Y _ _ (by omega)]
        exact ⟨rfl, rfl⟩
  have ee := zqE_fnd cc (zqO_P oo)
  have Fo : ∀ b j, (b ≠ 14 + 14 * k ∨ j < 9 ∨ 15 ≤ j) → (b < 14 + 14 * k + 2 ∨ 14 + 14 * k + 5 ≤ b) → zfnd P (14 + 14 * k) b j = zsb M.2.1 (14 + 14 * k) (M.2.1 (855 + 4 * k) 1) (M.2.1 (855 + 4 * k) 5) b j := fun b j hb hb2 => by
    rw [zfnd_o (by omega), Po b j (by omega) hb2]
  obtain ⟨u0, u5, u2, u6, u7, u8⟩ := zsb_v (f := M.2.1) (a := 14 + 14 * k) (h := M.2.1 (855 + 4 * k) 1) (c := M.2.1 (855 + 4 * k) 5)
  have new := zqQ_new (l := g1 1161 (4 * k)) h1 hk (F1 := zfnd P (14 + 14 * k)) (G1 := G1) (fun b j hb => by
    by_cases q : b < 14 + 14 * k + 2 ∨ 14 + 14 * k + 5 ≤ b
    · rw [Fo b j (by omega) q]
      exact zsb_o (by omega)
    · exact absurd hb (by omega)) (fun b j hb => by rw [no b j (by omega), Ro b j (by omega) (by omega) (by omega)]) ⟨(Fo _ _ (by omega) (by omega)).trans u0, nv.1⟩ ⟨nv.2.1, by rw [go _ _ (by omega)]; exact j4b⟩ (by
      rw [Fo _ _ (by omega) (by omega), u2, nv.2.2.1, go _ _ (by omega)]
      exact ⟨j5, j5b⟩) (by
      rw [Fo _ _ (by omega) (by omega), u5, nv.2.2.2.1, Ro _ _ (by omega) (by omega) (by omega), go _ _ (by omega)]
      exact jh) ⟨(Fo _ _ (by omega) (by omega)).trans u6, (Fo _ _ (by omega) (by omega)).trans u7, (Fo _ _ (by omega) (by omega)).trans u8⟩ ⟨nv.2.2.2.2.1, nv.2.2.2.2.2.1, nv.2.2.2.2.2.2⟩ ⟨ee, oo⟩
  have new2 : zqR (k + 1) (zdrw M.2.1 k k) (zrdw g1 k) := by
    rw [eG]
    unfold zdrw
    rw [eF, j4, ← go 1161 (4 * k) (by omega)]
    exact new
  refine ⟨zdrw M.2.1 k k, zrdw g1 k, (k : Int), 1, fun Q => c10_0 hM (zqR_01 h) hk hk hg j0 ec, fun Q => c192_0 (v := 0) (M9 := zwI N (zrdw g1 k)) hN hk j1 (fun Q9 => by
    have := er Q9
    rw [← eg1] at this ⊢
    exact this), fun b j hb => ?_, fun b j hb => ?_, fun j q1 q2 q3 => ?_, Or.inr ⟨rfl, by omega, ?_, new2⟩⟩
  · unfold zdrw zlay
    rw [zu2_sj (by omega), zu2_sj (by omega), zu2_sj (by omega), eF, Fo b j (by omega) (by omega)]
    exact zsb_o (by omega)
  · rw [eG]
    unfold zrtp
    rw [zu2_sj (by omega), zu2_sj (by omega), no b j (by omega), Ro b j (by omega) (by omega) (by omega)]
    by_cases e : b = 1153
    · omega
    · exact go b j e
  · rw [eG]
    unfold zrtp
    rw [zu2_sj (by omega), zu2_sj (by omega), no _ j (by omega), Ro _ j (by omega) (by omega) (by omega)]
    exact go2 j q1 q2 q3
  · rw [eG]
    unfold zrtp
    rw [zu2_sj (by omega), zu2_sj (by omega), no _ _ (by omega), Ro _ _ (by omega) (by omega) (by omega)]
    exact g36
end ZNEWQ
