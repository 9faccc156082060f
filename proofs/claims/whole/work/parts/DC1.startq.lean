/-! the start: both boards bare -/
section ZSTARTQ
variable {L : Nat} {Q : zO → zM → Prop} {F : Nat → Nat → Int} {G : Nat → Nat → Int64} {R : Nat → Nat → Nat} {K : Nat → Nat × Nat}
theorem zcF_o {b j : Nat} (h2 : b ≠ 2 ∨ j ≠ 2) (h7 : b ≠ 7 ∨ 60 ≤ j) (hs : ∀ i, i < 60 → b ≠ 14 + 14 * i) (h3 : b ≠ 1124) (h4 : b ≠ 1138) : zcF F b j = F b j := by
  unfold zcF
  rw [zshI_o h4, zshI_o h3, zu2_sj h2]
  unfold zfil
  rw [if_neg (by omega), zshs_o 60 hs]
theorem zcF_7 {j : Nat} (hj : j < 60) : zcF F 7 j = -1 := by
  unfold zcF
  rw [zshI_o (by omega), zshI_o (by omega), zu2_sj (by omega)]
  exact if_pos ⟨rfl, hj⟩
theorem zcF_s {i j : Nat} (hi : i < 60) : zcF F (14 + 14 * i) j = zshs F 60 (14 + 14 * i) j := by
  unfold zcF
  rw [zshI_o (by omega), zshI_o (by omega), zu2_sj (by omega)]
  unfold zfil
  rw [if_neg (by omega)]
theorem zcF_38 {j : Nat} (hj : 8 < j) : zcF F 1138 j = F 1138 j := by
  unfold zcF
  rw [zshI_v.2.2.2.2.2 j (Or.inr (Or.inr hj)), zshI_o (by omega), zu2_sj (by omega)]
  unfold zfil
  rw [if_neg (by omega), zshs_o 60 (fun i hi => by omega)]
theorem zcF_2 : zcF F 2 2 = 0 := by
  unfold zcF
  rw [zshI_o (by omega), zshI_o (by omega), zu2_eq]
theorem zqJ_i (hF : ∀ a, 2 ≤ a → ∀ j, F a j = 0) : zqJ (zcF F) := by
  refine ⟨fun i hi => ?_, fun i hi => ?_, ⟨fun i hi => ?_, fun j hj => ?_⟩, fun j hj => ?_⟩
  · obtain ⟨v6, v7, v8, v3, v4, _⟩ := zshs_v (F := F) 60 i hi
    unfold zKy
    rw [zcF_s hi, zcF_s hi, v3, v4]
    omega
  · obtain ⟨v6, v7, v8, v3, v4, _⟩ := zshs_v (F := F) 60 i hi
    show -1 ≤ zcF F (14 + 14 * i) 6 ∧ zcF F (14 + 14 * i) 6 < 60
    rw [zcF_s hi, v6]
    omega
  · obtain ⟨v6, v7, v8, v3, v4, _⟩ := zshs_v (F := F) 60 i hi
    rw [zcF_s hi, v8]
    omega
  · rw [zcF_7 hj]
    omega
  · rw [zcF_o (by omega) (by omega) (fun i _ => by omega) (by omega) (by omega)]
    exact Or.inl (hF 8 (by omega) j)
theorem zrcl_o {f : Nat → Nat → Int} {b j : Nat} (h : (b < 1166 ∧ (b ≠ 1153 ∨ j ≠ 33)) ∨ b = 1167 ∨ b = 1168 ∨ b = 1174) : zrcl f b j = f b j := by
  unfold zrcl zrc2 zrc1
  rw [zu2_sj (by omega), if_neg (by omega), if_neg (by omega), if_neg (by omega)]
theorem zqR_i (hF : ∀ a, 2 ≤ a → ∀ j, F a j = 0) : zqR 0 (zrcl (zcF F)) (zrcl (zcF F)) := by
  have r := zqR_0 (f := zcF F) (g := zcF F) (fun i hi => by
    rw [zcF_o (by omega) (by omega) (fun i _ => by omega) (by omega) (by omega), zcF_o (by omega) (by omega) (fun i _ => by omega) (by omega) (by omega), hF 1167 (by omega), hF 1168 (by omega)]
    omega) (zqJ_i hF)
  refine zqR_keep3 (fun b j hb => ?_) (fun j hj => ?_) (fun _ _ _ => rfl) rfl r
  · rw [zrcl_o (by omega)]
    unfold zcla
    rw [zu2_if]
    by_cases c1 : b = 11 ∧ j = 0
    · rw [if_pos c1, c1.1, c1.2, zcF_o (by omega) (by omega) (fun i _ => by omega) (by omega) (by omega)]
      exact hF 11 (by omega) 0
    · rw [if_neg c1]
      unfold zfil
      by_cases c2 : b = 7 ∧ j < 60
      · rw [if_pos c2, c2.1]
        exact zcF_7 c2.2
      · rw [if_neg c2]
        unfold zclr
        by_cases c3 : j = 0 ∧ 14 ≤ b ∧ (b - 14) % 14 = 0 ∧ (b - 14) / 14 < 60
        · rw [if_pos c3]
          obtain ⟨i, hi, e⟩ : ∃ i, i < 60 ∧ b = 14 + 14 * i := ⟨(b - 14) / 14, by omega, by omega⟩
          rw [e, c3.1, zcF_s hi, (zshs_v 60 i hi).2.2.2.2.2 0 (by omega)]
          exact hF _ (by omega) 0
        · rw [if_neg c3]
          by_cases c4 : b = 6 ∧ j < 4
          · rw [if_pos c4, c4.1, zcF_o (by omega) (by omega) (fun i _ => by omega) (by omega) (by omega)]
            exact hF 6 (by omega) j
          · rw [if_neg c4]
  · rw [zrcl_o (by omega), zcF_o (by omega) (by omega) (fun i _ => by omega) (by omega) (by omega)]
    exact Or.inl (hF 8 (by omega) j)
theorem zqX_i (hF : ∀ a, 2 ≤ a → ∀ j, F a j = 0) : zqX (zrcl (zcF F)) := by
  have z : ∀ b j, 854 ≤ b → b ≠ 1124 → b ≠ 1138 → b < 1166 → (b ≠ 1153 ∨ j ≠ 33) → zrcl (zcF F) b j = 0 := fun b j h1 h2 h3 h4 h5 => by
    rw [zrcl_o (by omega), zcF_o (by omega) (by omega) (fun i _ => by omega) h2 h3]
    exact hF b (by omega) j
  have z38 : ∀ j, 8 < j → zrcl (zcF F) 1138 j = 0 := fun j hj => by
    rw [zrcl_o (by omega), zcF_38 hj]
    exact hF _ (by omega) j
  have y1 := z 1095 0 (by omega) (by omega) (by omega) (by omega) (by omega)
  have y2 := z 1101 0 (by omega) (by omega) (by omega) (by omega) (by omega)
  have y3 := z 1103 0 (by omega) (by omega) (by omega) (by omega) (by omega)
  have w3 := z 1153 3 (by omega) (by omega) (by omega) (by omega) (by omega)
  have w5 := z 1153 5 (by omega) (by omega) (by omega) (by omega) (by omega)
  have w7 := z 1153 7 (by omega) (by omega) (by omega) (by omega) (by omega)
  refine ⟨⟨by rw [y1, w3]; omega, fun j hj => ?_⟩, ⟨by rw [y2, w5]; omega, fun j _ => ?_, fun j hj => ?_⟩, ⟨by rw [y3, w7]; omega, fun j hj => ?_⟩, fun j => ?_, fun j => ?_, z38 10 (by omega), z38 9 (by omega)⟩
  · rw [y1] at hj; omega
  · rw [z 1102 j (by omega) (by omega) (by omega) (by omega) (by omega), z 1156 j (by omega) (by omega) (by omega) (by omega) (by omega)]
    omega
  · rw [y2] at hj; omega
  · rw [y3] at hj; omega
  · exact z 1123 j (by omega) (by omega) (by omega) (by omega) (by omega)
  · exact z 1114 j (by omega) (by omega) (by omega) (by omega) (by omega)
theorem zqW_i {M : zM} (hF : ∀ a, 2 ≤ a → ∀ j, F a j = 0) (h1 : M.2.1 = zrcl (zcF F)) (h2 : zLay M.2.2.2) : zqW 0 M := by
  refine ⟨⟨h2, by rw [h1]; exact zqR_i hF, by omega, ⟨?_, ?_⟩, fun k hk => absurd hk (Nat.not_lt_zero k)⟩, by rw [h1]; exact zqX_i hF⟩
  · rw [h1, zrcl_o (by omega), zcF_2]
    rfl
  · rw [h1, zrcl_o (by omega), zcF_o (by omega) (by omega) (fun i _ => by omega) (by omega) (by omega), hF 1153 (by omega)]
    rfl
end ZSTARTQ
