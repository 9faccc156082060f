/-! calls that only ask -/
section ZQUIETQ
variable {L m : Nat} {M N : zM}
theorem zqR_keep4 {n : Nat} {f g f' g' : Nat → Nat → Int} (hf : ∀ b j, (3 ≤ b ∧ b ≠ 5 ∧ b ≠ 8 ∧ b ≠ 9 ∧ b ≠ 10 ∧ b < 854) → f' b j = f b j) (hc : ∀ j, j < 60 → f' 8 j = 0 ∨ f' 8 j = 1) (hg : ∀ b j, (1166 ≤ b ∧ b < 1184 ∧ b ≠ 1179 ∧ (b = 1174 ∨ b = 1175 → j < 60) ∧ (b = 1176 → j < 240) ∧ (b = 1177 ∨ b = 1178 → j < 1920)) → g' b j = g b j) (h33 : g' 1153 33 = g 1153 33) (h : zqR n f g) : zqR n f' g' := by
  obtain ⟨T, A, K, Lr, G, V, D, S, J⟩ := h
  have hF : ∀ b j, (3 ≤ b ∧ b ≠ 5 ∧ b ≠ 8 ∧ b ≠ 9 ∧ b ≠ 10 ∧ b < 854) → f' b j = f b j := hf
  have hG : ∀ b j, (b = 1153 ∧ j = 33 ∨ (1166 ≤ b ∧ b < 1184 ∧ b ≠ 1179 ∧ (b = 1174 ∨ b = 1175 → j < 60) ∧ (b = 1176 → j < 240) ∧ (b = 1177 ∨ b = 1178 → j < 1920))) → g' b j = g b j := fun b j hb => by
    rcases hb with ⟨q1, q2⟩ | hb
    · rw [q1, q2]; exact h33
    · exact hg b j hb
  have h0 : ∀ i, i < 60 → g' 1166 i = g 1166 i := fun i hi => hG _ _ (by omega)
  have h00 : ∀ i, i < 60 → g' 1166 i = 1 → g 1166 i = 1 := fun i hi t => by rw [← h0 i hi]; exact t
  exact ⟨zqT_c (fun i hi => hF _ _ (by omega)) h0 T, zqA_c h00 (fun i hi _ => ⟨hF _ _ (by omega), hF _ _ (by omega), hF _ _ (by omega)⟩) (fun i hi _ => ⟨hG _ _ (by omega), hG _ _ (by omega), hG _ _ (by omega)⟩) A, zqK_c h00 (fun i hi _ => ⟨hF _ _ (by omega), hF _ _ (by omega)⟩) (fun i hi _ => ⟨hG _ _ (by omega), hG _ _ (by omega), hG _ _ (by omega)⟩) K, zqL_c h0 (fun i hi => ⟨hF _ _ (by omega), hF _ _ (by omega)⟩) (fun i hi => ⟨hG _ _ (by omega), hG _ _ (by omega)⟩) Lr, zqG_c (Nat.le_refl _) T.1 h0 (fun i hi => ⟨hF _ _ (by omega), hF _ _ (by omega)⟩) (fun i hi => hG _ _ (by omega)) G, zqV_c (fun i hi => hF _ _ (by omega)) (fun i hi => hG _ _ (by omega)) (fun i hi => ⟨hG _ _ (by omega), hG _ _ (by omega)⟩) V, zqD_c (hF _ _ (by omega)) (hG _ _ (by omega)) (fun i hi => ⟨hF _ _ (by omega), hF _ _ (by omega)⟩) (fun i hi => ⟨hG _ _ (by omega), hG _ _ (by omega)⟩) D, zqF_c h00 (fun k hk _ b j h1 h2 h3 => hF _ _ (by omega)) (fun k hk _ => ⟨hG _ _ (by omega), hG _ _ (by omega), fun p _ => hG _ _ (by omega), fun j _ _ => ⟨hG _ _ (by omega), hG _ _ (by omega)⟩⟩) S, zqJ_c (fun i hi => ⟨hF _ _ (by omega), hF _ _ (by omega), hF _ _ (by omega), hF _ _ (by omega), hF _ _ (by omega)⟩) hc J⟩
/-- what the relation reads, apart from who is chosen -/
def zqKp (b j : Nat) : Prop := (2 ≤ b ∧ b < 1095 ∧ b ≠ 5 ∧ b ≠ 8 ∧ b ≠ 9 ∧ b ≠ 10) ∨ zqXs b j ∨ (1158 ≤ b ∧ b < 1184 ∧ b ≠ 1179 ∧ (b = 1174 ∨ b = 1175 → j < 60) ∧ (b = 1176 → j < 240) ∧ (b = 1177 ∨ b = 1178 → j < 1920)) ∨ (b = 1153 ∧ (j = 8 ∨ j = 33))
theorem zqW_q (h : zqW m M) (hr : N.2.2.2 = M.2.2.2) (hk : ∀ b j, zqKp b j → N.2.1 b j = M.2.1 b j) (h8 : ∀ j, j < 60 → N.2.1 8 j = 0 ∨ N.2.1 8 j = 1) (hL : ∀ a j, (a < 1095 ∨ a = 1162) → N.2.2.1 a j = M.2.2.1 a j) : zqW m N := by
  obtain ⟨⟨a1, a3, a4⟩, hx⟩ := h
  have h60 := a4.1
  have k1 : ∀ b j, (2 ≤ b ∧ b < 1095 ∧ b ≠ 5 ∧ b ≠ 8 ∧ b ≠ 9 ∧ b ≠ 10) → N.2.1 b j = M.2.1 b j := fun b j hb => hk b j (Or.inl hb)
  have k2 : ∀ b j, (1158 ≤ b ∧ b < 1184 ∧ b ≠ 1179 ∧ (b = 1174 ∨ b = 1175 → j < 60) ∧ (b = 1176 → j < 240) ∧ (b = 1177 ∨ b = 1178 → j < 1920)) → N.2.1 b j = M.2.1 b j := fun b j hb => hk b j (Or.inr (Or.inr (Or.inl hb)))
  have k3 : ∀ j, (j = 8 ∨ j = 33) → N.2.1 1153 j = M.2.1 1153 j := fun j hj => hk _ _ (Or.inr (Or.inr (Or.inr ⟨rfl, hj⟩)))
  refine ⟨⟨by rw [hr]; exact a1, zqR_keep4 (fun b j hb => k1 b j (by omega)) h8 (fun b j hb => k2 b j (by omega)) (k3 33 (by omega)) a3, ?_⟩, zqX_c (fun b j hb => hk b j (Or.inr (Or.inl hb))) hx⟩
  exact zqJn_p (C := M) (N := M) (n := m) ⟨(k1 2 2 (by omega)).trans a4.2.1.1, (k3 8 (by omega)).trans a4.2.1.2⟩ h60 (Nat.le_refl _) (fun k hk b j hb => k1 b j (by omega)) (fun k hk j => hL _ _ (by omega)) (fun k hk => hL _ _ (by omega)) (fun k hk => ⟨fun b hb => k2 b k (by omega), fun j hj => k2 _ _ (by omega), fun j hj => ⟨k2 _ _ (by omega), k2 _ _ (by omega)⟩⟩) a4 (fun k h1 h2 => absurd h1 (by omega))
/-- the same ints: related as well -/
theorem zqW_s (h : zqW m M) (h1 : N.2.1 = M.2.1) (h2 : ∀ a, a ≠ 1205 → N.2.2.1 a = M.2.2.1 a) (h3 : N.2.2.2 = M.2.2.2) : zqW m N := zqW_q h h3 (fun b j _ => by rw [h1]) (fun j hj => by rw [h1]; exact zqR_ch h.1.2.1 j hj) (fun a j ha => by rw [h2 a (by omega)])
/-- both answer -/
theorem zqAg_ok {mc mr : Nat} {ac ar : List zV} {cc : Nat → Int} {w : zV} {Mc : zM} {m' : Nat} (ec : ∀ Q : zO → zM → Prop, zFR (zK L) mc 0 (zcall mc ac) [] M Q = Q (.inl (some w)) Mc) (c1 : Mc.1 = M.1) (c2 : Mc.2.2.1 1205 = M.2.2.1 1205) (c3 : Mc.2.2.2 = M.2.2.2) (er : ∀ B : zM, B.2.1 = Mc.2.1 → (∀ a, a ≠ 1205 → B.2.2.1 a = Mc.2.2.1 a) → B.2.2.2 = Mc.2.2.2 → ∃ Mf : zM, (∀ Q : zO → zM → Prop, zFR (zK L) mr 0 (zcall mr ar) [] B Q = Q (.inl (some w)) Mf) ∧ Mf.1 = B.1 ∧ Mf.2.2.1 1205 = B.2.2.1 1205 ∧ zqW m' Mf ∧ Mf.2.1 1153 0 = 0) : zqAg L M mc ac mr ar cc := by
  refine ⟨_, Mc, ec, c3, c2, fun B b1 b2 b3 b4 => ?_⟩
  obtain ⟨Mf, e, f1, f2, f3, f4⟩ := er B b2 b3 b4
  exact ⟨w, Mf, m', e, f1, f2, f3, Or.inl ⟨rfl, f4, c1⟩⟩
/-- the class's call leaves its ints as they are, and so does the reference's, its throw apart -/
theorem zqAg_o0 {mc mr : Nat} {ac ar : List zV} {cc : Nat → Int} {w : zV} (hW : zqW m M) (ec : ∀ Q : zO → zM → Prop, zFR (zK L) mc 0 (zcall mc ac) [] M Q = Q (.inl (some w)) M) (er : ∀ B : zM, B.2.1 = M.2.1 → B.2.2.2 = M.2.2.2 → ∀ Q : zO → zM → Prop, zFR (zK L) mr 0 (zcall mr ar) [] B Q = Q (.inl (some w)) (zwI B (zrtw B.2.1 0))) : zqAg L M mc ac mr ar cc := by
  refine zqAg_ok (m' := m) ec rfl rfl rfl (fun B b2 b3 b4 => ⟨_, er B b2 b4, rfl, rfl, zqW_tw hW b2 b3 b4 0, ?_⟩)
  show zrtw B.2.1 0 1153 0 = _
  unfold zrtw
  rw [zu2_eq]
/-- both refuse, the reference having changed what passes -/
theorem zqAg_n1 {mc mr : Nat} {ac ar : List zV} {cc : Nat → Int} {e : Nat} {d : Int} (w : zV) {C : zM} (he : e < 3) (ec : ∀ Q : zO → zM → Prop, zFR (zK L) mc 0 (zcall mc ac) [] M Q = Q (.inr e) (zthrown C)) (c1 : C.1 = M.1) (c2 : C.2.2.1 1205 = M.2.2.1 1205) (c3 : C.2.2.2 = M.2.2.2) (er : ∀ B : zM, B.2.1 = C.2.1 → (∀ a, a ≠ 1205 → B.2.2.1 a = C.2.2.1 a) → B.2.2.2 = C.2.2.2 → ∃ Mf : zM, (∀ Q : zO → zM → Prop, zFR (zK L) mr 0 (zcall mr ar) [] B Q = Q (.inl (some w)) Mf) ∧ Mf.1 = B.1 ∧ Mf.2.2.1 1205 = B.2.2.1 1205 ∧ zqW m Mf ∧ Mf.2.1 1153 0 = d) (hd : cc e = d) : zqAg L M mc ac mr ar cc := by
  refine ⟨.inr e, zthrown C, ec, c3, c2, fun B b1 b2 b3 b4 => ?_⟩
  obtain ⟨Mf, e', f1, f2, f3, f4⟩ := er B b2 b3 b4
  refine ⟨w, Mf, m, e', f1, f2, f3, Or.inr ⟨e, he, rfl, f4.trans hd.symm, ?_⟩⟩
  show (zthrown C).1 = _
  unfold zthrown
  rw [c1]
end ZQUIETQ
