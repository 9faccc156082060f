/-! pen, tape, sheet, rings, corners: alike -/
section ZASKQ2
variable {L m n : Nat} {M N : zM} {s : Nat} {Q : zO → zM → Prop} {f g : Nat → Nat → Int} {cc : Nat → Int}
theorem zqW_x (h : zqW m M) (hr : N.2.2.2 = M.2.2.2) (hk : ∀ b j, ((2 ≤ b ∧ b < 1095 ∧ b ≠ 5 ∧ b ≠ 8 ∧ b ≠ 9 ∧ b ≠ 10) ∨ (1158 ≤ b ∧ b < 1184 ∧ b ≠ 1179 ∧ (b = 1174 ∨ b = 1175 → j < 60) ∧ (b = 1176 → j < 240) ∧ (b = 1177 ∨ b = 1178 → j < 1920)) ∨ (b = 1153 ∧ (j = 8 ∨ j = 33))) → N.2.1 b j = M.2.1 b j) (h8 : ∀ j, j < 60 → N.2.1 8 j = 0 ∨ N.2.1 8 j = 1) (hx : zqX N.2.1) (hL : ∀ a j, (a < 1095 ∨ a = 1162) → N.2.2.1 a j = M.2.2.1 a j) : zqW m N := by
  obtain ⟨⟨a1, a3, a4⟩, _⟩ := h
  have h60 := a4.1
  have k1 : ∀ b j, (2 ≤ b ∧ b < 1095 ∧ b ≠ 5 ∧ b ≠ 8 ∧ b ≠ 9 ∧ b ≠ 10) → N.2.1 b j = M.2.1 b j := fun b j hb => hk b j (Or.inl hb)
  have k2 : ∀ b j, (1158 ≤ b ∧ b < 1184 ∧ b ≠ 1179 ∧ (b = 1174 ∨ b = 1175 → j < 60) ∧ (b = 1176 → j < 240) ∧ (b = 1177 ∨ b = 1178 → j < 1920)) → N.2.1 b j = M.2.1 b j := fun b j hb => hk b j (Or.inr (Or.inl hb))
  have k3 : ∀ j, (j = 8 ∨ j = 33) → N.2.1 1153 j = M.2.1 1153 j := fun j hj => hk _ _ (Or.inr (Or.inr ⟨rfl, hj⟩))
  refine ⟨⟨by rw [hr]; exact a1, zqR_keep4 (fun b j hb => k1 b j (by omega)) h8 (fun b j hb => k2 b j (by omega)) (k3 33 (by omega)) a3, ?_⟩, hx⟩
  exact zqJn_p (C := M) (N := M) (n := m) ⟨(k1 2 2 (by omega)).trans a4.2.1.1, (k3 8 (by omega)).trans a4.2.1.2⟩ h60 (Nat.le_refl _) (fun k hk b j hb => k1 b j (by omega)) (fun k hk j => hL _ _ (by omega)) (fun k hk => hL _ _ (by omega)) (fun k hk => ⟨fun b hb => k2 b k (by omega), fun j hj => k2 _ _ (by omega), fun j hj => ⟨k2 _ _ (by omega), k2 _ _ (by omega)⟩⟩) a4 (fun k h1 h2 => absurd h1 (by omega))
/-- only the extras change -/
theorem zqW_y (h : zqW m M) (hr : N.2.2.2 = M.2.2.2) (hk : ∀ b j, ((2 ≤ b ∧ b < 1095) ∨ (1158 ≤ b ∧ b < 1184) ∨ (b = 1153 ∧ (j = 8 ∨ j = 33))) → N.2.1 b j = M.2.1 b j) (hx : zqX N.2.1) (hL : ∀ a, a ≠ 1205 → N.2.2.1 a = M.2.2.1 a) : zqW m N := zqW_x h hr (fun b j hb => by
  rcases hb with hb | hb | hb
  · exact hk b j (Or.inl ⟨hb.1, hb.2.1⟩)
  · exact hk b j (Or.inr (Or.inl ⟨hb.1, hb.2.1⟩))
  · exact hk b j (Or.inr (Or.inr hb))) (fun j hj => by rw [hk 8 j (by omega)]; exact zqR_ch h.1.2.1 j hj) hx (fun a j ha => by rw [hL a (by omega)])
theorem zqTap_c {f' : Nat → Nat → Int} (h : zqTap f) (e : ∀ b j, (b = 1101 ∨ b = 1102 ∨ b = 1156 ∨ (b = 1153 ∧ j = 5)) → f' b j = f b j) : zqTap f' := by
  unfold zqTap at *
  have g1102 : f' 1102 = f 1102 := funext fun j => e 1102 j (by omega)
  have g1156 : f' 1156 = f 1156 := funext fun j => e 1156 j (by omega)
  rw [e 1101 0 (by omega), e 1153 5 (by omega), g1102, g1156]
  exact h
theorem zqPen_c {f' : Nat → Nat → Int} (h : zqPen f) (e : ∀ b j, (b = 1095 ∨ b = 1096 ∨ b = 1097 ∨ b = 1154 ∨ b = 1155 ∨ (b = 1153 ∧ j = 3)) → f' b j = f b j) : zqPen f' := by
  unfold zqPen at *
  have g1096 : f' 1096 = f 1096 := funext fun j => e 1096 j (by omega)
  have g1097 : f' 1097 = f 1097 := funext fun j => e 1097 j (by omega)
  have g1154 : f' 1154 = f 1154 := funext fun j => e 1154 j (by omega)
  have g1155 : f' 1155 = f 1155 := funext fun j => e 1155 j (by omega)
  rw [e 1095 0 (by omega), e 1153 3 (by omega), g1096, g1097, g1154, g1155]
  exact h
theorem zqShe_c {f' : Nat → Nat → Int} (h : zqShe f) (e : ∀ b j, (b = 1103 ∨ b = 1104 ∨ b = 1157 ∨ (b = 1153 ∧ j = 7)) → f' b j = f b j) : zqShe f' := by
  unfold zqShe at *
  have g1104 : f' 1104 = f 1104 := funext fun j => e 1104 j (by omega)
  have g1157 : f' 1157 = f 1157 := funext fun j => e 1157 j (by omega)
  rw [e 1103 0 (by omega), e 1153 7 (by omega), g1104, g1157]
  exact h
theorem zqMis_c {f' : Nat → Nat → Int} (h : zqMis f) (e : ∀ b j, (b = 1123 ∨ b = 1114 ∨ b = 1138) → f' b j = f b j) : zqMis f' := by
  unfold zqMis at *
  have g1123 : f' 1123 = f 1123 := funext fun j => e 1123 j (by omega)
  have g1114 : f' 1114 = f 1114 := funext fun j => e 1114 j (by omega)
  rw [e 1138 10 (by omega), e 1138 9 (by omega), g1123, g1114]
  exact h
end ZASKQ2
