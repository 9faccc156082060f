/-! scattered and guides, in both programs -/
section ZSCATQ
variable {n : Nat} {f g f' g' : Nat → Nat → Int} {s t : Nat}
theorem zsc_p {G : Int} : ∀ k : Nat, (∀ b j, ¬ (b = 7 ∧ j < k) → ¬ (j = 8 ∧ 14 ≤ b ∧ (b - 14) % 14 = 0 ∧ (b - 14) / 14 < k) → zsc f G k b j = f b j) ∧ (∀ i, i < k → zsc f G k 7 i = if f 7 i = G then -1 else f 7 i) ∧ (∀ i, i < k → zsc f G k (14 + 14 * i) 8 = if f (14 + 14 * i) 0 ≠ 0 ∧ f (14 + 14 * i) 8 = G then -1 else f (14 + 14 * i) 8)
  | 0 => ⟨fun _ _ _ _ => rfl, fun i h => absurd h (Nat.not_lt_zero i), fun i h => absurd h (Nat.not_lt_zero i)⟩
  | k + 1 => by
    obtain ⟨h1, h2, h3⟩ := zsc_p (G := G) k
    have e0 : zsc f G k (14 + 14 * k) 0 = f (14 + 14 * k) 0 := h1 _ _ (by omega) (by omega)
    have e8 : zsc f G k (14 + 14 * k) 8 = f (14 + 14 * k) 8 := h1 _ _ (by omega) (by omega)
    have e7 : zsc f G k 7 k = f 7 k := h1 _ _ (by omega) (by omega)
    have es : ∀ b j, zsc f G (k + 1) b j = if b = 7 ∧ j = k ∧ f 7 k = G then -1 else if b = 14 + 14 * k ∧ j = 8 ∧ f (14 + 14 * k) 0 ≠ 0 ∧ f (14 + 14 * k) 8 = G then -1 else zsc f G k b j := fun b j => by
      show zsc2 (zsc1 (zsc f G k) G k) G k b j = _
      unfold zsc2 zsc1
      rw [e0, e8]
      by_cases c : f (14 + 14 * k) 0 ≠ 0 ∧ f (14 + 14 * k) 8 = G
      · rw [if_pos c, zu2_sj (by omega), e7]
        by_cases d : f 7 k = G
        · rw [if_pos d]
          by_cases e : b = 7 ∧ j = k
          · rw [if_pos ⟨e.1, e.2, d⟩, e.1, e.2, zu2_eq]
          · rw [zu2_sj (by omega), if_neg (by omega)]
            by_cases e2 : b = 14 + 14 * k ∧ j = 8
            · rw [if_pos ⟨e2.1, e2.2, c⟩, e2.1, e2.2, zu2_eq]
            · rw [zu2_sj (by omega), if_neg (by omega)]
        · rw [if_neg d, if_neg (by omega)]
          by_cases e2 : b = 14 + 14 * k ∧ j = 8
          · rw [if_pos ⟨e2.1, e2.2, c⟩, e2.1, e2.2, zu2_eq]
          · rw [zu2_sj (by omega), if_neg (by omega)]
      · rw [if_neg c, e7]
        rw [if_neg (c := b = 14 + 14 * k ∧ j = 8 ∧ _) (fun q => c q.2.2)]
        by_cases d : f 7 k = G
        · rw [if_pos d]
          by_cases e : b = 7 ∧ j = k
          · rw [if_pos ⟨e.1, e.2, d⟩, e.1, e.2, zu2_eq]
          · rw [zu2_sj (by omega), if_neg (by omega)]
        · rw [if_neg d, if_neg (by omega)]
    refine ⟨fun b j a1 a2 => ?_, fun i hi => ?_, fun i hi => ?_⟩
    · rw [es, if_neg (by omega), if_neg (by omega)]
      exact h1 b j (by omega) (by omega)
    · rw [es]
      by_cases e : i = k
      · subst e
        by_cases d : f 7 i = G
        · rw [if_pos ⟨rfl, rfl, d⟩, if_pos d]
        · rw [if_neg (fun q => d q.2.2), if_neg (by omega), if_neg d, e7]
      · rw [if_neg (fun q => e q.2.1), if_neg (by omega)]
        exact h2 i (by omega)
    · rw [es, if_neg (by omega)]
      by_cases e : i = k
      · subst e
        by_cases d : f (14 + 14 * i) 0 ≠ 0 ∧ f (14 + 14 * i) 8 = G
        · rw [if_pos ⟨rfl, rfl, d⟩, if_pos d]
        · rw [if_neg (fun q => d q.2.2), if_neg d, e8]
      · rw [if_neg (by omega)]
        exact h3 i (by omega)
theorem zscn_p {G : Int} (hG : ∀ i, i < 60 → (f (14 + 14 * i) 0 = 1 → f (14 + 14 * i) 8 = g 1180 i ∧ f 7 i = -1) ∧ (f (14 + 14 * i) 0 ≠ 1 → f (14 + 14 * i) 0 = 0 ∧ f 7 i = g 1180 i)) (h0 : 0 ≤ G) : ∀ k : Nat, k ≤ 60 → zscn f G k = zcnt (zrscb g G) k
  | 0, _ => rfl
  | k + 1, hk => by
    have ih := zscn_p hG h0 k (by omega)
    obtain ⟨h1, h2, h3⟩ := zsc_p (f := f) (G := G) k
    have e0 : zsc f G k (14 + 14 * k) 0 = f (14 + 14 * k) 0 := h1 _ _ (by omega) (by omega)
    have e8 : zsc f G k (14 + 14 * k) 8 = f (14 + 14 * k) 8 := h1 _ _ (by omega) (by omega)
    have e7 : zsc1 (zsc f G k) G k 7 k = f 7 k := by
      unfold zsc1
      split
      · rw [zu2_sj (by omega)]; exact h1 _ _ (by omega) (by omega)
      · exact h1 _ _ (by omega) (by omega)
    obtain ⟨a, b⟩ := hG k (by omega)
    have iff : zrscb g G k = true ↔ g 1180 k = G := decide_eq_true_iff
    rw [zcnt_s]
    unfold zscn
    rw [e0, e8, e7, ih]
    by_cases c : f (14 + 14 * k) 0 = 1
    · obtain ⟨a1, a2⟩ := a c
      rw [a1, a2, if_neg (show ¬ (-1 : Int) = G by omega)]
      by_cases d : g 1180 k = G
      · rw [if_pos ⟨by omega, d⟩, if_pos (iff.mpr d)]
      · rw [if_neg (fun q => d q.2), if_neg (fun q => d (iff.mp q))]
        rfl
    · obtain ⟨b1, b2⟩ := b c
      rw [if_neg (fun q => q.1 b1), b2]
      by_cases d : g 1180 k = G
      · rw [if_pos d, if_pos (iff.mpr d)]
      · rw [if_neg d, if_neg (fun q => d (iff.mp q))]
        rfl
theorem zqQ_scat (h : zqR n f g) {W : Nat} {a : Int} : zqR n (zsc f (W : Int) 60) (zu2 (zu2 (zrsc g (W : Int) 60) 1179 W 0) 1153 36 a) := by
  obtain ⟨p1, p2, p3⟩ := zsc_p (f := f) (G := (W : Int)) 60
  have ht := fun (i : Nat) (hi : i < 60) => zqR_t h hi
  have hGr := h.2.2.2.2.1
  have r01 := zqR_r01 h
  obtain ⟨T, A, K, Lr, G, V, D, S, J⟩ := h
  generalize ef : zsc f (W : Int) 60 = f' at *
  generalize eg : zu2 (zu2 (zrsc g (W : Int) 60) 1179 W 0) 1153 36 a = g'
  have hF : ∀ b i, (¬ (b = 7 ∧ i < 60) ∧ ¬ (i = 8 ∧ 14 ≤ b ∧ (b - 14) % 14 = 0 ∧ (b - 14) / 14 < 60)) → f' b i = f b i := fun b i hb => p1 b i hb.1 hb.2
  have hG : ∀ b i, ((b ≠ 1153 ∨ i ≠ 36) ∧ b ≠ 1180 ∧ b ≠ 1179) → g' b i = g b i := fun b i hb => by
    rw [← eg, zu2_sj (by omega), zu2_sj (by omega)]
    unfold zrsc
    rw [if_neg (by omega)]
  have g8 : ∀ i, i < 60 → g' 1180 i = if g 1180 i = (W : Int) then -1 else g 1180 i := fun i hi => by
    rw [← eg, zu2_sj (by omega), zu2_sj (by omega)]
    unfold zrsc
    by_cases c : g 1180 i = (W : Int)
    · rw [if_pos ⟨rfl, hi, c⟩, if_pos c]
    · rw [if_neg (fun q => c q.2.2), if_neg c]
  have h0 : ∀ i, i < 60 → g' 1166 i = g 1166 i := fun i hi => hG _ _ (by omega)
  have h00 : ∀ i, i < 60 → g' 1166 i = 1 → g 1166 i = 1 := fun i hi t => by rw [← h0 i hi]; exact t
  have hj : zqJ f' := by
    obtain ⟨J1, J2, J3, J4⟩ := J
    refine ⟨fun k hk => ?_, fun k hk => ?_, ⟨fun k hk => ?_, fun k hk => ?_⟩, fun k hk => ?_⟩
    · unfold zKy
      rw [hF _ 3 (by omega), hF _ 4 (by omega)]
      exact J1 k hk
    · unfold zld
      rw [hF _ _ (by omega)]; exact J2 k hk
    · have := J3.1 k hk
      rw [p3 k hk]
      split <;> omega
    · have := J3.2 k hk
      rw [p2 k hk]
      split <;> omega
    · rw [hF _ _ (by omega)]; exact J4 k hk
  have hgr : zqG n f' g' := fun i hi => by
    obtain ⟨a, b, c⟩ := hGr i hi
    have t0 := ht i hi
    rw [h0 i hi, g8 i hi, p2 i hi, p3 i hi]
    refine ⟨fun t => ?_, fun t => ?_, ?_⟩
    · obtain ⟨a1, a2⟩ := a t
      rw [a1, a2, if_neg (show ¬ (-1 : Int) = (W : Int) by omega)]
      by_cases d : g 1180 i = (W : Int)
      · rw [if_pos ⟨by omega, d⟩, if_pos d]
        exact ⟨rfl, rfl⟩
      · rw [if_neg (fun q => d q.2), if_neg d]
        exact ⟨rfl, rfl⟩
    · rw [b t]
    · by_cases d : g 1180 i = (W : Int)
      · rw [if_pos d]; exact Or.inl rfl
      · rw [if_neg d]
        rcases c with c | ⟨c1, c2, c3⟩
        · exact Or.inl c
        · have n6 := T.1
          exact Or.inr ⟨c1, c2, by rw [h0 _ (by omega)]; exact c3⟩
  exact ⟨zqT_c (fun i hi => hF _ _ (by omega)) h0 T, zqA_c h00 (fun i hi _ => ⟨hF _ _ (by omega), hF _ _ (by omega), hF _ _ (by omega)⟩) (fun i hi _ => ⟨hG _ _ (by omega), hG _ _ (by omega), hG _ _ (by omega)⟩) A, zqK_c h00 (fun i hi _ => ⟨hF _ _ (by omega), hF _ _ (by omega)⟩) (fun i hi _ => ⟨hG _ _ (by omega), hG _ _ (by omega), hG _ _ (by omega)⟩) K, zqL_c h0 (fun i hi => ⟨hF _ _ (by omega), hF _ _ (by omega)⟩) (fun i hi => ⟨hG _ _ (by omega), hG _ _ (by omega)⟩) Lr, hgr, zqV_c (fun i hi => hF _ _ (by omega)) (fun i hi => hG _ _ (by omega)) (fun i hi => ⟨hG _ _ (by omega), hG _ _ (by omega)⟩) V, zqD_c (hF _ _ (by omega)) (hG _ _ (by omega)) (fun i hi => ⟨hF _ _ (by omega), hF _ _ (by omega)⟩) (fun i hi => ⟨hG _ _ (by omega), hG _ _ (by omega)⟩) D, zqF_c h00 (fun k hk _ b j h1 h2 h3 => hF _ _ (by omega)) (fun k hk _ => ⟨hG _ _ (by omega), hG _ _ (by omega), fun p _ => hG _ _ (by omega), fun j _ _ => ⟨hG _ _ (by omega), hG _ _ (by omega)⟩⟩) S, hj⟩
theorem zrhg_iff {u a : Int} : ∀ k, zrhg g u a k = true ↔ ∃ i, i < k ∧ g 1183 i = u ∧ g 1182 i = a
  | 0 => ⟨fun h => absurd (show false = true from h) (by decide), fun ⟨i, h, _⟩ => absurd h (Nat.not_lt_zero i)⟩
  | k + 1 => by
    rw [zrhg_s, Bool.or_eq_true, zrhg_iff k, decide_eq_true_iff]
    constructor
    · rintro (⟨i, h1, h2⟩ | h)
      · exact ⟨i, by omega, h2⟩
      · exact ⟨k, by omega, h⟩
    · rintro ⟨i, h1, h2⟩
      by_cases e : i = k
      · subst e; exact Or.inr h2
      · exact Or.inl ⟨i, by omega, h2⟩
theorem zqnew (h : zqR n f g) {u a : Int} {m : Nat} (hm : g 1153 33 = (m : Int)) : zgnew f u a ↔ (m < 8 ∧ zrhg g u a m = false) := by
  obtain ⟨d1, d2, d3⟩ := h.2.2.2.2.2.2.1
  unfold zgnew
  rw [d1, hm]
  have e : zrhg g u a m = false ↔ ¬ zrhg g u a m = true := by cases zrhg g u a m <;> decide
  rw [e, zrhg_iff]
  constructor
  · rintro ⟨a1, a2⟩
    refine ⟨by omega, fun ⟨i, h1, h2, h3⟩ => a2 i (by omega) ?_⟩
    obtain ⟨c1, c2, _⟩ := d3 i (by omega)
    exact ⟨by omega, by omega⟩
  · rintro ⟨a1, a2⟩
    refine ⟨by omega, fun i hi q => a2 ⟨i, by omega, ?_⟩⟩
    obtain ⟨c1, c2, _⟩ := d3 i (by omega)
    exact ⟨by omega, by omega⟩
theorem zqQ_guide (h : zqR n f g) {u a : Int} (hu : u = 0 ∨ u = 1) (ha : 0 ≤ a ∧ a ≤ 60) (h8 : g 1153 33 < 8) : zqR n (zgput f u a) (zrgp g u a) := by
  obtain ⟨T, A, K, Lr, G, V, D, S, J⟩ := h
  obtain ⟨d1, d2, d3⟩ := D
  generalize ef : zgput f u a = f'
  generalize eg : zrgp g u a = g'
  have hF : ∀ b i, (¬ (b = 12 ∧ i = (f 11 0).toNat) ∧ ¬ (b = 13 ∧ i = (f 11 0).toNat) ∧ ¬ (b = 11 ∧ i = 0)) → f' b i = f b i := fun b i hb => by
    rw [← ef]
    unfold zgput
    rw [zu2_sj (by omega), zu2_sj (by omega), zu2_sj (by omega)]
  have hG : ∀ b i, (¬ (b = 1183 ∧ i = (g 1153 33).toNat) ∧ ¬ (b = 1182 ∧ i = (g 1153 33).toNat) ∧ ¬ (b = 1153 ∧ i = 33) ∧ ¬ (b = 1153 ∧ i = 36)) → g' b i = g b i := fun b i hb => by
    rw [← eg]
    unfold zrgp
    rw [zu2_sj (by omega), zu2_sj (by omega), zu2_sj (by omega), zu2_sj (by omega)]
  have h0 : ∀ i, i < 60 → g' 1166 i = g 1166 i := fun i hi => hG _ _ (by omega)
  have h00 : ∀ i, i < 60 → g' 1166 i = 1 → g 1166 i = 1 := fun i hi t => by rw [← h0 i hi]; exact t
  have f1 : f' 11 0 = f 11 0 + 1 := by
    rw [← ef]
    unfold zgput
    rw [zu2_eq]
  have g1 : g' 1153 33 = g 1153 33 + 1 := by
    rw [← eg]
    unfold zrgp
    rw [zu2_i (by omega), zu2_eq]
  have f2 : f' 12 (f 11 0).toNat = u ∧ f' 13 (f 11 0).toNat = a := by
    rw [← ef]
    unfold zgput
    rw [zu2_a (by omega), zu2_a (by omega), zu2_eq, zu2_a (by omega), zu2_eq]
    exact ⟨rfl, rfl⟩
  have g2 : g' 1183 (g 1153 33).toNat = u ∧ g' 1182 (g 1153 33).toNat = a := by
    rw [← eg]
    unfold zrgp
    rw [zu2_a (by omega), zu2_a (by omega), zu2_a (by omega), zu2_eq, zu2_a (by omega), zu2_a (by omega), zu2_eq]
    exact ⟨rfl, rfl⟩
  have hd : zqD f' g' := by
    unfold zqD
    rw [f1, g1]
    refine ⟨by omega, by omega, fun k hk => ?_⟩
    by_cases e : k = (g 1153 33).toNat
    · have e2 : (f 11 0).toNat = k := by omega
      rw [e2] at f2
      rw [← e] at g2
      rw [f2.1, f2.2, g2.1, g2.2]
      exact ⟨rfl, rfl, hu, ha⟩
    · rw [hF _ _ (by omega), hF _ _ (by omega), hG _ _ (by omega), hG _ _ (by omega)]
      exact d3 k (by omega)
  exact ⟨zqT_c (fun i hi => hF _ _ (by omega)) h0 T, zqA_c h00 (fun i hi _ => ⟨hF _ _ (by omega), hF _ _ (by omega), hF _ _ (by omega)⟩) (fun i hi _ => ⟨hG _ _ (by omega), hG _ _ (by omega), hG _ _ (by omega)⟩) A, zqK_c h00 (fun i hi _ => ⟨hF _ _ (by omega), hF _ _ (by omega)⟩) (fun i hi _ => ⟨hG _ _ (by omega), hG _ _ (by omega), hG _ _ (by omega)⟩) K, zqL_c h0 (fun i hi => ⟨hF _ _ (by omega), hF _ _ (by omega)⟩) (fun i hi => ⟨hG _ _ (by omega), hG _ _ (by omega)⟩) Lr, zqG_c (Nat.le_refl _) T.1 h0 (fun i hi => ⟨hF _ _ (by omega), hF _ _ (by omega)⟩) (fun i hi => hG _ _ (by omega)) G, zqV_c (fun i hi => hF _ _ (by omega)) (fun i hi => hG _ _ (by omega)) (fun i hi => ⟨hG _ _ (by omega), hG _ _ (by omega)⟩) V, hd, zqF_c h00 (fun k hk _ b j h1 h2 h3 => hF _ _ (by omega)) (fun k hk _ => ⟨hG _ _ (by omega), hG _ _ (by omega), fun p _ => hG _ _ (by omega), fun j _ _ => ⟨hG _ _ (by omega), hG _ _ (by omega)⟩⟩) S, zqJ_c (fun i hi => ⟨hF _ _ (by omega), hF _ _ (by omega), hF _ _ (by omega), hF _ _ (by omega), hF _ _ (by omega)⟩) (fun i hi => by rw [hF _ _ (by omega)]; exact J.2.2.2 i hi) J⟩
variable {L k : Nat} {M N : zM}
theorem zqS_13 (hM : zLay M.2.2.2) (hN : zLay N.2.2.2) (hk : k < 60) (h : zqR k M.2.1 N.2.1) (hj : zqJ1 M N k 13) : zqS L k M N := by
  obtain ⟨⟨j0, j1⟩, j2, j3⟩ := hj
  rcases zqS_sh (L := L) hM hN hk h j2 (Or.inl j3) (by omega) with no | ⟨s, hs, e2, e4, ht, hg, e⟩
  · exact no
  · have h1 := zqR_g1 (k := k) h
    have tg : zqg1 N.2.1 k 1166 s = 1 := (zqg1_o (by omega)).trans ht
    obtain ⟨o1, o2⟩ := zqR_ot h1 hs tg
    have gb := zqR_gb h1 hs
    have c229e := fun Q8 => c229 (L := L) (M := zwI N (zqg1 N.2.1 k)) (s := s) (Q := Q8) hN hs (zqR_rG h1)
    by_cases c : zqg1 N.2.1 k 1180 s = -1
    · obtain ⟨p1, p2⟩ := o1 c
      refine ⟨M.2.1, zqg1 N.2.1 k, -1, 0, fun Q => c10_13 (v := -1) (M9 := M) hM (zqR_01 h) hk hk hg j0 hs e2 (fun Q9 => ?_), e 0 _ (Or.inl rfl) (fun Q9 => c208_13 (x := 0) (M9 := zwI N (zqg1 N.2.1 k)) (M10 := N) (M := zwI N (zqg1 N.2.1 k)) hN hk hs ((zqg1_o (k := k) (by omega)).trans j1) (fun Q8 => ?_) (Or.inl rfl)), fun _ _ _ => rfl, fun c j hc => zqg1_o (by omega), fun j _ h2 _ => zu2_i h2 _ _ _ _, Or.inl ⟨rfl, rfl, h1⟩⟩
      · rw [c37 hM (zqR_gr h) hs]
        exact propext ⟨fun q => q.1 p1, fun q => ⟨fun _ => q, fun q2 => absurd p1 q2⟩⟩
      · refine (c229e Q8).trans ?_
        exact propext ⟨fun q => q.1 p2, fun q => ⟨fun _ => q, fun q2 => absurd p2 q2⟩⟩
    · obtain ⟨p1, p2, p3, p4⟩ := o2 (by omega)
      have n1 : ¬ zotm M.2.1 s = -1 := by omega
      have n2 : ¬ zrot (zqg1 N.2.1 k) s = s := by omega
      refine ⟨zsc M.2.1 (zotm M.2.1 s) 60, zu2 (zu2 (zrsc (zqg1 N.2.1 k) (zrot (zqg1 N.2.1 k) s : Int) 60) 1179 (zrot (zqg1 N.2.1 k) s) 0) 1153 36 (zcnt (zrscb (zqg1 N.2.1 k) (zrot (zqg1 N.2.1 k) s : Int)) 60 : Int), (zscn M.2.1 (zotm M.2.1 s) 60 : Int), 1, fun Q => c10_13 (v := (zscn M.2.1 (zotm M.2.1 s) 60 : Int)) (M9 := zwI M (zsc M.2.1 (zotm M.2.1 s) 60)) hM (zqR_01 h) hk hk hg j0 hs e2 (fun Q9 => ?_), e 1 _ (Or.inr rfl) (fun Q9 => c208_13 (x := 0) (M10 := N) (M := zwI N (zqg1 N.2.1 k)) hN hk hs ((zqg1_o (k := k) (by omega)).trans j1) (fun Q8 => ?_) (Or.inr rfl)), fun c j hc => ?_, fun c j hc => ?_, fun j h1 h2 h3 => ?_, Or.inr ⟨rfl, by omega, ?_, zqR_n hk ?_⟩⟩
      · rw [c37 hM (zqR_gr h) hs]
        exact propext ⟨fun q => q.2 n1, fun q => ⟨fun q2 => absurd q2 n1, fun _ => q⟩⟩
      · refine (c229e Q8).trans ?_
        exact propext ⟨fun q => q.2 n2, fun q => ⟨fun q2 => absurd q2 n2, fun _ => q⟩⟩
      · exact (zsc_p (f := M.2.1) (G := zotm M.2.1 s) 60).1 _ _ (by omega) (by omega)
      · rw [zu2_sj (by omega), zu2_sj (by omega)]
        unfold zrsc
        rw [if_neg (by omega)]
        exact zqg1_o (by omega)
      · rw [zu2_sj (by omega), zu2_sj (by omega)]
        unfold zrsc
        rw [if_neg (by omega)]
        exact zu2_i h2 _ _ _ _
      · rw [zu2_eq, p1]
        refine congrArg (fun u : Nat => (u : Int)) ?_
        refine (zscn_p (f := M.2.1) (g := zqg1 N.2.1 k) (G := (zrot (zqg1 N.2.1 k) s : Int)) (fun i hi => ?_) (by omega) 60 (by omega)).symm
        have t0 := zqR_t h1 hi
        obtain ⟨a, b, _⟩ := h1.2.2.2.2.1 i hi
        have r := zqR_r01 h1 i hi
        rw [t0]
        exact ⟨a, fun q => ⟨by omega, b (by omega)⟩⟩
      · rw [p1]
        exact zqQ_scat h1
theorem zqS_15 (hM : zLay M.2.2.2) (hN : zLay N.2.2.2) (hk : k < 60) (h : zqR k M.2.1 N.2.1) (hw : zqJw M N k 15) (h2 : M.2.1 (855 + 4 * k) 2 = -1) (h3 : M.2.1 (855 + 4 * k) 3 = -1) (h9 : M.2.1 (855 + 4 * k) 9 = N.2.1 1161 (4 * k) ∧ (N.2.1 1161 (4 * k) = 0 ∨ N.2.1 1161 (4 * k) = 1)) (h8 : M.2.1 (855 + 4 * k) 8 = N.2.1 1161 (4 * k + 1) ∧ 0 ≤ N.2.1 1161 (4 * k + 1) ∧ N.2.1 1161 (4 * k + 1) ≤ 60) : zqS L k M N := by
  obtain ⟨j0, j1⟩ := hw
  have h1 := zqR_g1 (k := k) h
  have hg : zgua M.2.1 k := ⟨Or.inl h2, Or.inl h3⟩
  obtain ⟨d1, d2, d3⟩ := h1.2.2.2.2.2.2.1
  have hm : zqg1 N.2.1 k 1153 33 = (((zqg1 N.2.1 k 1153 33).toNat : Nat) : Int) := by omega
  have eu : (if N.2.1 1161 (4 * k) = 1 then (1 : Int) else 0) = N.2.1 1161 (4 * k) := by
    rcases h9.2 with e | e <;> rw [e] <;> rfl
  have e204 := fun Q8 => c204 (L := L) (M := zwI N (zqg1 N.2.1 k)) (u := N.2.1 1161 (4 * k)) (a := N.2.1 1161 (4 * k + 1)) (n := (zqg1 N.2.1 k 1153 33).toNat) (Q := Q8) hN h9.2 hm (by omega)
  have iff := zqnew h1 (u := N.2.1 1161 (4 * k)) (a := N.2.1 1161 (4 * k + 1)) hm
  by_cases c : zgnew M.2.1 (N.2.1 1161 (4 * k)) (N.2.1 1161 (4 * k + 1))
  · have c2 := iff.mp c
    refine ⟨zgput M.2.1 (N.2.1 1161 (4 * k)) (N.2.1 1161 (4 * k + 1)), zrgp (zqg1 N.2.1 k) (N.2.1 1161 (4 * k)) (N.2.1 1161 (4 * k + 1)), M.2.1 11 0 + 1, 1, fun Q => c10_15 (v := M.2.1 11 0 + 1) (M9 := zwI M (zgput M.2.1 (N.2.1 1161 (4 * k)) (N.2.1 1161 (4 * k + 1)))) hM (zqR_01 h) hk hk hg j0 (fun Q9 => ?_), fun Q => c192_15 (v := 1) (M9 := zwI N (zrgp (zqg1 N.2.1 k) (N.2.1 1161 (4 * k)) (N.2.1 1161 (4 * k + 1)))) hN hk j1 (fun Q9 => ?_) (Or.inr rfl), fun c j hc => ?_, fun c j hc => ?_, fun j h1 h2 h3 => ?_, Or.inr ⟨rfl, by omega, ?_, zqR_n hk (zqQ_guide h1 h9.2 h8.2 (by omega))⟩⟩
    · rw [h9.1, h8.1, c58 hM (zqR_gd h) h9.2]
      exact propext ⟨fun q => q.1 c, fun q => ⟨fun _ => q, fun q2 => absurd c q2⟩⟩
    · rw [eu]
      refine (e204 Q9).trans ?_
      exact propext ⟨fun q => q.1 c2, fun q => ⟨fun _ => q, fun q2 => absurd c2 q2⟩⟩
    · unfold zgput
      rw [zu2_sj (by omega), zu2_sj (by omega), zu2_sj (by omega)]
    · unfold zrgp
      rw [zu2_sj (by omega), zu2_sj (by omega), zu2_sj (by omega), zu2_sj (by omega)]
      exact zqg1_o (by omega)
    · unfold zrgp
      rw [zu2_sj (by omega), zu2_sj (by omega), zu2_sj (by omega), zu2_sj (by omega)]
      exact zu2_i h2 _ _ _ _
    · unfold zrgp
      rw [zu2_eq, d1]
  · have c2 := fun q => c (iff.mpr q)
    refine ⟨M.2.1, zqg1 N.2.1 k, -1, 0, fun Q => c10_15 (v := -1) (M9 := M) hM (zqR_01 h) hk hk hg j0 (fun Q9 => ?_), fun Q => c192_15 (v := 0) (M9 := zwI N (zqg1 N.2.1 k)) hN hk j1 (fun Q9 => ?_) (Or.inl rfl), fun _ _ _ => rfl, fun c j hc => zqg1_o (by omega), fun j _ h2 _ => zu2_i h2 _ _ _ _, Or.inl ⟨rfl, rfl, h1⟩⟩
    · rw [h9.1, h8.1, c58 hM (zqR_gd h) h9.2]
      exact propext ⟨fun q => q.2 c, fun q => ⟨fun q2 => absurd q2 c, fun _ => q⟩⟩
    · rw [eu]
      refine (e204 Q9).trans ?_
      exact propext ⟨fun q => q.2 c2, fun q => ⟨fun q2 => absurd q2 c2, fun _ => q⟩⟩
end ZSCATQ
