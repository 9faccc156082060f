/-! the same, done by both programs -/
section ZATTR2
variable {L k : Nat} {M N : zM} {s : Nat}
/-- what a change of such a kind needs, and no more -/
def zqJ1 (M N : zM) (k : Nat) (w : Int) : Prop := zqJw M N k w ∧ zqJs M N k ∧ M.2.1 (855 + 4 * k) 3 = -1
theorem zqS_1 (hM : zLay M.2.2.2) (hN : zLay N.2.2.2) (hk : k < 60) (h : zqR k M.2.1 N.2.1) (hj : zqJ1 M N k 1) : zqS L k M N := by
  obtain ⟨⟨j0, j1⟩, j2, j3⟩ := hj
  rcases zqS_sh (L := L) hM hN hk h j2 (Or.inl j3) (by omega) with no | ⟨s, hs, e2, e4, ht, hg, e⟩
  · exact no
  · have h1 := zqR_g1 (k := k) h
    refine ⟨zu2 (zer M.2.1 s 60) (14 + 14 * s) 0 0, zu2 (zrera (zqg1 N.2.1 k) s) 1153 36 (zcnt (zrfl (zqg1 N.2.1 k) s) 60 : Int), (zcnt (zfol M.2.1 s) 60 : Int), 1, fun Q => c10_1 hM (zqR_01 h) hk hk hg j0 hs e2 (fun Q9 => c15 hM (zqR_01 h) hs), e 1 _ (Or.inr rfl) (fun Q9 => c208_1 (M := zwI N (zqg1 N.2.1 k)) (x := 0) (M10 := N) (M9 := zwI N (zrera (zqg1 N.2.1 k) s)) hN hk hs ((zqg1_o (k := k) (by omega)).trans j1) (fun Q8 => c209 (M := zwI N (zqg1 N.2.1 k)) hN (zqR_r01 h1) hs)), fun c j hc => ?_, fun c j hc => ?_, fun j h1 h2 h3 => ?_, Or.inr ⟨rfl, by omega, ?_, zqR_n hk (zqQ_erase h1 hs ((zqg1_o (by omega)).trans ht))⟩⟩
    · rw [zu2_sj (by omega)]
      unfold zer
      rw [if_neg (by omega)]
    · rw [zu2_sj (by omega)]
      unfold zrera
      rw [zu2_sj (by omega), zu2_sj (by omega), zu2_sj (by omega)]
      unfold zrer
      rw [if_neg (by omega)]
      exact zqg1_o (by omega)
    · rw [zu2_i h2]
      unfold zrera
      rw [zu2_sj (by omega), zu2_sj (by omega), zu2_sj (by omega)]
      unfold zrer
      rw [if_neg (by omega)]
      exact zu2_i h2 _ _ _ _
    · rw [zu2_eq]
      congr 1
      refine zcnt_cong _ _ 60 (fun i hi => ?_)
      unfold zrfl zfol
      rw [zqg1_a (show 1166 ≠ 1153 by omega), zqg1_a (show 1172 ≠ 1153 by omega), zqR_t h hi]
      refine decide_eq_decide.mpr ⟨fun c => ⟨c.1, ?_⟩, fun c => ⟨c.1, ?_⟩⟩
      · rw [(h.2.2.2.1.1 i hi c.1).1]; exact c.2
      · rw [← (h.2.2.2.1.1 i hi c.1).1]; exact c.2
theorem zqS_6 (hM : zLay M.2.2.2) (hN : zLay N.2.2.2) (hk : k < 60) (h : zqR k M.2.1 N.2.1) (hj : zqJ1 M N k 6) (h5 : M.2.1 (855 + 4 * k) 5 = N.2.1 1161 (4 * k + 1) ∧ 1 ≤ N.2.1 1161 (4 * k + 1) ∧ N.2.1 1161 (4 * k + 1) ≤ 9) : zqS L k M N := by
  obtain ⟨⟨j0, j1⟩, j2, j3⟩ := hj
  rcases zqS_sh (L := L) hM hN hk h j2 (Or.inl j3) (by omega) with no | ⟨s, hs, e2, e4, ht, hg, e⟩
  · exact no
  · have h1 := zqR_g1 (k := k) h
    obtain ⟨a1, a2, a3, a4, a5⟩ := h.2.1 s hs ht
    have ec := fun Q9 => c24 (L := L) (M := M) (Q := Q9) (c := N.2.1 1161 (4 * k + 1)) (zShA_i hs)
    rw [← h5.1] at ec
    rw [← h5.1] at e
    refine ⟨zu2 M.2.1 (14 + 14 * s) 2 (M.2.1 (855 + 4 * k) 5), zu2 (zu2 (zqg1 N.2.1 k) 1153 36 ((zqg1 N.2.1 k) 1168 s)) 1168 s (M.2.1 (855 + 4 * k) 5), M.2.1 (14 + 14 * s) 2, 1, fun Q => c10_6 hM (zqR_01 h) hk hk hg j0 hs e2 ec, e 1 _ (Or.inr rfl) (fun Q9 => c208_6 (a := 0) (M9 := N) (M := zwI N (zqg1 N.2.1 k)) (x := 0) (M10 := N) hN hk hs ((zqg1_o (k := k) (by omega)).trans j1)), fun c j hc => zu2_sj (by omega), fun c j hc => ?_, fun j h1 h2 h3 => ?_, Or.inr ⟨rfl, by omega, ?_, zqR_n hk (zqQ_paint h1 hs (by omega))⟩⟩
    · rw [zu2_sj (by omega), zu2_sj (by omega)]
      exact zqg1_o (by omega)
    · rw [zu2_sj (by omega), zu2_sj (by omega)]
      exact zu2_i h2 _ _ _ _
    · rw [zu2_sj (by omega), zu2_eq, zqg1_o (by omega), a2]
theorem zqS_11 (hM : zLay M.2.2.2) (hN : zLay N.2.2.2) (hk : k < 60) (h : zqR k M.2.1 N.2.1) (hj : zqJ1 M N k 11) : zqS L k M N := by
  obtain ⟨⟨j0, j1⟩, j2, j3⟩ := hj
  rcases zqS_sh (L := L) hM hN hk h j2 (Or.inl j3) (by omega) with no | ⟨s, hs, e2, e4, ht, hg, e⟩
  · exact no
  · have h1 := zqR_g1 (k := k) h
    have hl := (h.2.2.2.1.1 s hs ht).1
    have hb := h.2.2.2.1.2.1 s hs
    have e72 : zqg1 N.2.1 k 1172 s = N.2.1 1172 s := zqg1_o (by omega)
    have k1 : ∀ c j, (c < 1153 ∨ (1154 ≤ c ∧ c < 1166) ∨ 1189 ≤ c) → zu2 (zu2 (zu2 (zqg1 N.2.1 k) 1153 36 ((zqg1 N.2.1 k) 1172 s)) 1172 s (-1)) 1173 s (-1) c j = N.2.1 c j := fun c j hc => by
      rw [zu2_sj (by omega), zu2_sj (by omega), zu2_sj (by omega)]
      exact zqg1_o (by omega)
    have k2 : ∀ j, j ≠ 33 → j ≠ 36 → j ≠ 38 → zu2 (zu2 (zu2 (zqg1 N.2.1 k) 1153 36 ((zqg1 N.2.1 k) 1172 s)) 1172 s (-1)) 1173 s (-1) 1153 j = N.2.1 1153 j := fun j h1 h2 h3 => by
      rw [zu2_sj (by omega), zu2_sj (by omega), zu2_sj (by omega)]
      exact zu2_i h2 _ _ _ _
    have hl7 := (h.2.2.2.1.1 s hs ht).2.2
    by_cases c : N.2.1 1172 s = -1
    · have k0 : zqR k M.2.1 (zu2 (zu2 (zu2 (zqg1 N.2.1 k) 1153 36 ((zqg1 N.2.1 k) 1172 s)) 1172 s (-1)) 1173 s (-1)) := by
        refine zqR_keep (fun _ _ _ _ _ _ _ => rfl) (zqR_ch h) (fun b j q1 q2 _ => ?_) ?_ h
        · by_cases c3 : b = 1173 ∧ j = s
          · rw [c3.1, c3.2, zu2_eq, hl7 c]
          · rw [zu2_sj (by omega)]
            by_cases c2 : b = 1172 ∧ j = s
            · rw [c2.1, c2.2, zu2_eq, c]
            · rw [zu2_sj (by omega), zu2_sj (by omega)]
              exact zqg1_o (by omega)
        · rw [zu2_sj (by omega), zu2_sj (by omega), zu2_sj (by omega)]
          exact zu2_i (by omega) _ _ _ _
      refine ⟨M.2.1, _, -1, 0, fun Q => c10_11 (v := -1) (M9 := M) hM (zqR_01 h) hk hk hg j0 hs e2 (fun Q9 => ?_), e 0 _ (Or.inl rfl) (fun Q9 => c208_11n (a := 0) (x := 0) (M9 := N) (M10 := N) (M := zwI N (zqg1 N.2.1 k)) hN hk hs ((zqg1_o (k := k) (by omega)).trans j1) (by show zqg1 N.2.1 k 1172 s < 0; omega)), fun _ _ _ => rfl, k1, k2, Or.inl ⟨rfl, rfl, k0⟩⟩
      rw [c34 (zShA_i hs)]
      exact propext ⟨fun q => q.1 (by omega), fun q => ⟨fun _ => q, fun q2 => absurd (show M.2.1 (14 + 14 * s) 6 = -1 by omega) q2⟩⟩
    · refine ⟨zu2 (zu2 M.2.1 (14 + 14 * s) 6 (-1)) (14 + 14 * s) 7 (-1), _, M.2.1 (14 + 14 * s) 6, 1, fun Q => c10_11 (v := M.2.1 (14 + 14 * s) 6) (M9 := zwI M (zu2 (zu2 M.2.1 (14 + 14 * s) 6 (-1)) (14 + 14 * s) 7 (-1))) hM (zqR_01 h) hk hk hg j0 hs e2 (fun Q9 => ?_), e 1 _ (Or.inr rfl) (fun Q9 => c208_11p (a := 0) (x := 0) (M9 := N) (M10 := N) (M := zwI N (zqg1 N.2.1 k)) hN hk hs ((zqg1_o (k := k) (by omega)).trans j1) (by show 0 ≤ zqg1 N.2.1 k 1172 s; omega)), fun c j hc => by rw [zu2_sj (by omega), zu2_sj (by omega)], k1, k2, Or.inr ⟨rfl, by omega, ?_, zqR_n hk (zqQ_untie h1 hs)⟩⟩
      · rw [c34 (zShA_i hs)]
        exact propext ⟨fun q => q.2 (by omega), fun q => ⟨fun q2 => absurd q2 (by omega), fun _ => q⟩⟩
      · rw [zu2_sj (by omega), zu2_sj (by omega), zu2_eq]
        exact e72.trans hl.symm
theorem zqS_9 (hM : zLay M.2.2.2) (hN : zLay N.2.2.2) (hk : k < 60) (h : zqR k M.2.1 N.2.1) (hw : zqJw M N k 9) (h2 : M.2.1 (855 + 4 * k) 2 = -1) (h3 : M.2.1 (855 + 4 * k) 3 = -1) (h4 : M.2.1 (855 + 4 * k) 4 = N.2.1 1161 (4 * k) ∧ 0 ≤ N.2.1 1161 (4 * k) ∧ N.2.1 1161 (4 * k) ≤ 3) (h9 : M.2.1 (855 + 4 * k) 9 = N.2.1 1161 (4 * k + 1) ∧ (N.2.1 1161 (4 * k + 1) = 0 ∨ N.2.1 1161 (4 * k + 1) = 1)) : zqS L k M N := by
  obtain ⟨j0, j1⟩ := hw
  have h1 := zqR_g1 (k := k) h
  refine ⟨_, _, _, 1, fun Q => c10_9 hM (zqR_01 h) hk hk ⟨Or.inl h2, Or.inl h3⟩ j0 (fun Q9 => c32 hM (zqR_01 h) (by omega)), fun Q => c192_9 hN hk j1 (fun Q9 => c203 (M := zwI N (zqg1 N.2.1 k)) hN (zqR_r01 h1) (by omega)) (Or.inr rfl), fun c j hc => zu2_sj (by omega), fun c j hc => ?_, fun j h1 h2 h3 => ?_, Or.inr ⟨rfl, by omega, ?_, ?_⟩⟩
  · show zu2 (zu2 (zqg1 N.2.1 k) 1153 36 _) 1181 _ _ c j = N.2.1 c j
    rw [zu2_sj (by omega), zu2_sj (by omega)]
    exact zqg1_o (by omega)
  · show zu2 (zu2 (zqg1 N.2.1 k) 1153 36 _) 1181 _ _ 1153 j = N.2.1 1153 j
    rw [zu2_sj (by omega), zu2_sj (by omega)]
    exact zu2_i h2 _ _ _ _
  · show zu2 (zu2 (zqg1 N.2.1 k) 1153 36 _) 1181 _ _ 1153 36 = _
    rw [zu2_sj (by omega), zu2_eq, h4.1]
    congr 1
    refine zcnt_cong _ _ 60 (fun i hi => ?_)
    show zrnl (zqg1 N.2.1 k) _ i = _
    unfold zrnl zinl
    rw [zqg1_a (show 1166 ≠ 1153 by omega), zqg1_a (show 1167 ≠ 1153 by omega), zqR_t h hi]
    refine decide_eq_decide.mpr ⟨fun c => ⟨c.1, ?_⟩, fun c => ⟨c.1, ?_⟩⟩
    · rw [(h.2.1 i hi c.1).1]; exact c.2
    · rw [← (h.2.1 i hi c.1).1]; exact c.2
  · rw [h4.1, h9.1]
    exact zqR_n hk (zqQ_show h1 h9.2)
end ZATTR2
