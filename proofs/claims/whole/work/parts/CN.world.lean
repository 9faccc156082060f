/-! both programs in one memory; a change made by both -/
section ZWORLDQ
/-- pen, tape and sheet told alike; what the class's tables hold between calls -/
def zqPen (f : Nat → Nat → Int) : Prop := (0 ≤ f 1095 0 ∧ f 1095 0 ≤ 8 ∧ f 1153 3 = f 1095 0) ∧ ∀ j : Nat, (j : Int) < f 1095 0 → f 1154 j = f 1096 j ∧ f 1155 j = f 1097 j ∧ (0 ≤ f 1096 j ∧ f 1096 j ≤ 60) ∧ 0 ≤ f 1097 j ∧ f 1097 j ≤ 60
def zqTap (f : Nat → Nat → Int) : Prop := (0 ≤ f 1101 0 ∧ f 1101 0 ≤ 80 ∧ f 1153 5 = f 1101 0) ∧ (∀ j, j < 80 → (0 ≤ f 1102 j ∧ f 1102 j ≤ 200) ∧ 0 ≤ f 1156 j ∧ f 1156 j ≤ 200) ∧ ∀ j : Nat, (j : Int) < f 1101 0 → f 1156 j = f 1102 j
def zqShe (f : Nat → Nat → Int) : Prop := (0 ≤ f 1103 0 ∧ f 1103 0 ≤ 228 ∧ f 1153 7 = f 1103 0) ∧ ∀ j : Nat, (j : Int) < f 1103 0 → f 1157 j = f 1104 j
def zqMis (f : Nat → Nat → Int) : Prop := (∀ j, f 1123 j = 0) ∧ (∀ j, f 1114 j = 0) ∧ f 1138 10 = 0 ∧ f 1138 9 = 0
def zqX (f : Nat → Nat → Int) : Prop := zqPen f ∧ zqTap f ∧ zqShe f ∧ zqMis f
/-- the boards and journals -/
def zqW0 (m : Nat) (M : zM) : Prop := zLay M.2.2.2 ∧ zqR m M.2.1 M.2.1 ∧ zqJn M M m
def zqW (m : Nat) (M : zM) : Prop := zqW0 m M ∧ zqX M.2.1
/-- what the extras read -/
def zqXs (b j : Nat) : Prop := b = 1095 ∨ b = 1096 ∨ b = 1097 ∨ b = 1101 ∨ b = 1102 ∨ b = 1103 ∨ b = 1104 ∨ b = 1114 ∨ b = 1123 ∨ b = 1138 ∨ b = 1154 ∨ b = 1155 ∨ b = 1156 ∨ b = 1157 ∨ (b = 1153 ∧ (j = 3 ∨ j = 5 ∨ j = 7))
theorem zqX_c {f f' : Nat → Nat → Int} (h : ∀ b j, zqXs b j → f' b j = f b j) (hx : zqX f) : zqX f' := by
  have e : ∀ b, (∀ j, zqXs b j) → f' b = f b := fun b hb => funext fun j => h b j (hb j)
  have e3 : f' 1153 3 = f 1153 3 := h _ _ (by unfold zqXs; omega)
  have e5 : f' 1153 5 = f 1153 5 := h _ _ (by unfold zqXs; omega)
  have e7 : f' 1153 7 = f 1153 7 := h _ _ (by unfold zqXs; omega)
  unfold zqX zqPen zqTap zqShe zqMis at *
  rw [e3, e5, e7, e 1095 (fun j => by unfold zqXs; omega), e 1096 (fun j => by unfold zqXs; omega), e 1097 (fun j => by unfold zqXs; omega), e 1101 (fun j => by unfold zqXs; omega), e 1102 (fun j => by unfold zqXs; omega), e 1103 (fun j => by unfold zqXs; omega), e 1104 (fun j => by unfold zqXs; omega), e 1114 (fun j => by unfold zqXs; omega), e 1123 (fun j => by unfold zqXs; omega), e 1138 (fun j => by unfold zqXs; omega), e 1154 (fun j => by unfold zqXs; omega), e 1155 (fun j => by unfold zqXs; omega), e 1156 (fun j => by unfold zqXs; omega), e 1157 (fun j => by unfold zqXs; omega)]
  exact hx
/-- a run ends one way only -/
theorem zFR_uq {K : Nat → Nat × Nat} {mi pc : Nat} {ls : zLs} {st : List zV} {M M1 M2 : zM} {r1 r2 : zO} (h1 : ∀ Q : zO → zM → Prop, zFR K mi pc ls st M Q = Q r1 M1) (h2 : ∀ Q : zO → zM → Prop, zFR K mi pc ls st M Q = Q r2 M2) : r2 = r1 ∧ M2 = M1 := by
  have a := (h1 (fun r M => r = r1 ∧ M = M1)).symm.trans (h2 (fun r M => r = r1 ∧ M = M1))
  exact a.mp ⟨rfl, rfl⟩
/-- the class's memory and the reference's, after so many changes -/
def zqY (m : Nat) (C N : zM) : Prop := zLay C.2.2.2 ∧ zLay N.2.2.2 ∧ zqR m C.2.1 N.2.1 ∧ zqJn C N m
/-- the class has noted change m -/
def zqCw (m : Nat) (C2 C : zM) : Prop := (∀ b j, (b < 855 + 4 * m ∨ 859 + 4 * m ≤ b) → C2.2.1 b j = C.2.1 b j) ∧ (∀ b j, b ≠ 855 + 4 * m → C2.2.2.1 b j = C.2.2.1 b j) ∧ C2.2.2.2 = C.2.2.2
/-- the reference has noted change m -/
def zqTold (m : Nat) (T B : zM) : Prop := (∀ b j, ¬ ((b = 1158 ∨ b = 1159 ∨ b = 1163) ∧ j = m) → ¬ (b = 1161 ∧ 4 * m ≤ j ∧ j < 4 * m + 4) → ¬ ((b = 1164 ∨ b = 1165) ∧ 8 * m ≤ j ∧ j < 8 * m + 8) → ¬ (b = 1153 ∧ (j = 0 ∨ j = 3 ∨ j = 62)) → b ≠ 1189 → b ≠ 1190 → T.2.1 b j = B.2.1 b j) ∧ (∀ b j, ¬ (b = 1162 ∧ j = m) → T.2.2.1 b j = B.2.2.1 b j) ∧ T.2.2.2 = B.2.2.2
variable {L m : Nat} {C C' N N' C2 N0 N20 : zM}
/-- the same change in both journals, in other memories -/
theorem zqJe_p {k : Nat} (hM : ∀ b j, (855 + 4 * k ≤ b ∧ b < 859 + 4 * k ∧ (b = 855 + 4 * k → j ≠ 11)) → C'.2.1 b j = C.2.1 b j) (hL : ∀ j, C'.2.2.1 (855 + 4 * k) j = C.2.2.1 (855 + 4 * k) j) (hL2 : N'.2.2.1 1162 k = N.2.2.1 1162 k) (n1 : ∀ b, b = 1158 ∨ b = 1159 ∨ b = 1163 → N'.2.1 b k = N.2.1 b k) (n2 : ∀ j, j < 4 → N'.2.1 1161 (4 * k + j) = N.2.1 1161 (4 * k + j)) (n3 : ∀ j, j < 8 → N'.2.1 1164 (8 * k + j) = N.2.1 1164 (8 * k + j) ∧ N'.2.1 1165 (8 * k + j) = N.2.1 1165 (8 * k + j)) (je : zqJe C N k) : zqJe C' N' k := by
  have a0 : ∀ j, j ≠ 11 → C'.2.1 (855 + 4 * k) j = C.2.1 (855 + 4 * k) j := fun j hj => hM _ _ (by omega)
  have a1 : C'.2.1 (856 + 4 * k) = C.2.1 (856 + 4 * k) := funext fun j => hM _ _ (by omega)
  have a2 : C'.2.1 (857 + 4 * k) = C.2.1 (857 + 4 * k) := funext fun j => hM _ _ (by omega)
  have a3 : C'.2.1 (858 + 4 * k) = C.2.1 (858 + 4 * k) := funext fun j => hM _ _ (by omega)
  have c0 := a0 0 (by omega)
  have c1 := a0 1 (by omega)
  have c2 := a0 2 (by omega)
  have c3 := a0 3 (by omega)
  have c4 := a0 4 (by omega)
  have c5 := a0 5 (by omega)
  have c6 := a0 6 (by omega)
  have c7 := a0 7 (by omega)
  have c8 := a0 8 (by omega)
  have c9 := a0 9 (by omega)
  have t0 : N'.2.1 1161 (4 * k) = N.2.1 1161 (4 * k) := n2 0 (by omega)
  have t1 := n2 1 (by omega)
  have t2 := n2 2 (by omega)
  have t3 := n2 3 (by omega)
  have d8 := n1 1158 (by omega)
  have d9 := n1 1159 (by omega)
  have d3 := n1 1163 (by omega)
  have z0 : zqJ0 C N k → zqJ0 C' N' k := fun q => by
    obtain ⟨q1, q2, q3, q4, q5, q6, q7, q8⟩ := q
    unfold zqJ0 zqJw at *
    rw [c0, c1, c2, c3, c4, c5, a1, a2, a3, t0, t1, d8, d9, d3]
    refine ⟨q1, q2, q3, q4, q5, q6, fun j hj => ?_, zpr_cg (fun j hj => (n3 j (by omega)).1) (fun j hj => (n3 j (by omega)).2) q8⟩
    rw [(n3 j (by omega)).1, (n3 j (by omega)).2]
    exact q7 j hj
  unfold zqJe at je ⊢
  obtain ⟨jh, je⟩ := je
  refine ⟨by rw [c1, d9]; exact jh, ?_⟩
  rcases je with je | je
  · exact Or.inl (z0 je)
  · refine Or.inr ?_
    unfold zqJ1 zqJ17 zqJw zqJs at je ⊢
    rw [c0, c1, c2, c3, c4, c5, c6, c7, c8, c9, t0, t1, t2, t3, d8, d9, hL 10, hL2]
    exact je
theorem zqR_keep3 {n : Nat} {f g f' g' : Nat → Nat → Int} (hf : ∀ b j, (3 ≤ b ∧ b ≠ 5 ∧ b ≠ 8 ∧ b ≠ 9 ∧ b ≠ 10 ∧ b < 854) → f' b j = f b j) (hc : ∀ j, j < 60 → f' 8 j = 0 ∨ f' 8 j = 1) (hg : ∀ b j, (1166 ≤ b ∧ b < 1184 ∧ b ≠ 1179) → g' b j = g b j) (h33 : g' 1153 33 = g 1153 33) (h : zqR n f g) : zqR n f' g' := by
  obtain ⟨T, A, K, Lr, G, V, D, S, J⟩ := h
  have hF : ∀ b j, (3 ≤ b ∧ b ≠ 5 ∧ b ≠ 8 ∧ b ≠ 9 ∧ b ≠ 10 ∧ b < 854) → f' b j = f b j := hf
  have hG : ∀ b j, (b = 1153 ∧ j = 33 ∨ (1166 ≤ b ∧ b < 1184 ∧ b ≠ 1179)) → g' b j = g b j := fun b j hb => by
    rcases hb with ⟨q1, q2⟩ | hb
    · rw [q1, q2]; exact h33
    · exact hg b j hb
  have h0 : ∀ i, i < 60 → g' 1166 i = g 1166 i := fun i hi => hG _ _ (by omega)
  have h00 : ∀ i, i < 60 → g' 1166 i = 1 → g 1166 i = 1 := fun i hi t => by rw [← h0 i hi]; exact t
  exact ⟨zqT_c (fun i hi => hF _ _ (by omega)) h0 T, zqA_c h00 (fun i hi _ => ⟨hF _ _ (by omega), hF _ _ (by omega), hF _ _ (by omega)⟩) (fun i hi _ => ⟨hG _ _ (by omega), hG _ _ (by omega), hG _ _ (by omega)⟩) A, zqK_c h00 (fun i hi _ => ⟨hF _ _ (by omega), hF _ _ (by omega)⟩) (fun i hi _ => ⟨hG _ _ (by omega), hG _ _ (by omega), hG _ _ (by omega)⟩) K, zqL_c h0 (fun i hi => ⟨hF _ _ (by omega), hF _ _ (by omega)⟩) (fun i hi => ⟨hG _ _ (by omega), hG _ _ (by omega)⟩) Lr, zqG_c (Nat.le_refl _) T.1 h0 (fun i hi => ⟨hF _ _ (by omega), hF _ _ (by omega)⟩) (fun i hi => hG _ _ (by omega)) G, zqV_c (fun i hi => hF _ _ (by omega)) (fun i hi => hG _ _ (by omega)) (fun i hi => ⟨hG _ _ (by omega), hG _ _ (by omega)⟩) V, zqD_c (hF _ _ (by omega)) (hG _ _ (by omega)) (fun i hi => ⟨hF _ _ (by omega), hF _ _ (by omega)⟩) (fun i hi => ⟨hG _ _ (by omega), hG _ _ (by omega)⟩) D, zqF_c h00 (fun k hk _ b j h1 h2 h3 => hF _ _ (by omega)) (fun k hk _ => ⟨hG _ _ (by omega), hG _ _ (by omega), fun p _ => hG _ _ (by omega), fun j _ _ => ⟨hG _ _ (by omega), hG _ _ (by omega)⟩⟩) S, zqJ_c (fun i hi => ⟨hF _ _ (by omega), hF _ _ (by omega), hF _ _ (by omega), hF _ _ (by omega), hF _ _ (by omega)⟩) hc J⟩
theorem zqJn_p {n : Nat} (h2 : C'.2.1 2 2 = (m : Int) ∧ N'.2.1 1153 8 = (m : Int)) (h60 : m ≤ 60) (hmn : n ≤ m) (hM : ∀ k, k < n → ∀ b j, (855 + 4 * k ≤ b ∧ b < 859 + 4 * k) → C'.2.1 b j = C.2.1 b j) (hL : ∀ k, k < n → ∀ j, C'.2.2.1 (855 + 4 * k) j = C.2.2.1 (855 + 4 * k) j) (hL2 : ∀ k, k < n → N'.2.2.1 1162 k = N.2.2.1 1162 k) (hN : ∀ k, k < n → (∀ b, b = 1158 ∨ b = 1159 ∨ b = 1160 ∨ b = 1163 → N'.2.1 b k = N.2.1 b k) ∧ (∀ j, j < 4 → N'.2.1 1161 (4 * k + j) = N.2.1 1161 (4 * k + j)) ∧ ∀ j, j < 8 → N'.2.1 1164 (8 * k + j) = N.2.1 1164 (8 * k + j) ∧ N'.2.1 1165 (8 * k + j) = N.2.1 1165 (8 * k + j)) (h : zqJn C N n) (hnew : ∀ k, n ≤ k → k < m → zqJe C' N' k ∧ C'.2.1 (855 + 4 * k) 11 = N'.2.1 1160 k ∧ (N'.2.1 1160 k = 0 ∨ N'.2.1 1160 k = 1)) : zqJn C' N' m := by
  obtain ⟨_, h22, hh⟩ := h
  refine ⟨h60, h2, fun k hk => ?_⟩
  by_cases c : k < n
  · obtain ⟨je, s1, s2⟩ := hh k c
    obtain ⟨n1, n2, n3⟩ := hN k c
    refine ⟨zqJe_p (fun b j hb => hM k c b j (by omega)) (hL k c) (hL2 k c) (fun b hb => n1 b (by omega)) n2 n3 je, by rw [hM k c _ _ (by omega), n1 1160 (by omega)]; exact s1, by rw [n1 1160 (by omega)]; exact s2⟩
  · exact hnew k (by omega) hk
/-- a change made by both programs, each in its memory -/
theorem zqPmk (h : zqY m C N0) (hm6 : m < 60) (hc : zqCw m C2 C) (ht : zqTold m N20 N0) (hJ : zqJe C2 N20 m) : ∃ (F : Nat → Nat → Int) (v : Int), (∀ Q : zO → zM → Prop, zFR (zK L) 10 0 (zcall 10 [.inr (.inr 3), .inr (.inr (855 + 4 * m)), .inl (m : Int)]) [] C2 Q = Q (.inl (some (.inl v))) (zwI C2 F)) ∧ F 2 2 = (m : Int) ∧ (∀ b j, (b < 3 ∨ 854 ≤ b) → F b j = C2.2.1 b j) ∧ ∀ N N2, zqY m C N → zqTold m N2 N → zqJe C2 N2 m → ∃ G : Nat → Nat → Int, (∀ b j, (b < 1153 ∨ (1154 ≤ b ∧ b < 1166) ∨ 1189 ≤ b) → G b j = N2.2.1 b j) ∧ (∀ j, j ≠ 33 → j ≠ 36 → j ≠ 38 → G 1153 j = N2.2.1 1153 j) ∧ ((v = -1 ∧ (∀ Q : zO → zM → Prop, zFR (zK L) 192 0 (zcall 192 [.inr (.inr 1153), .inl (m : Int)]) [] N2 Q = Q (.inl (some (.inl 0))) (zwI N2 G)) ∧ ∀ e, zqY m (zwI C2 F) (zwI N2 (zrtw G e))) ∨ (0 ≤ v ∧ (∀ Q : zO → zM → Prop, zFR (zK L) 192 0 (zcall 192 [.inr (.inr 1153), .inl (m : Int)]) [] N2 Q = Q (.inl (some (.inl 1))) (zwI N2 G)) ∧ G 1153 36 = v ∧ zqY (m + 1) (zwI C2 (zu2 (zu2 F (855 + 4 * m) 11 1) 2 2 ((m : Int) + 1))) (zwI N2 (zrmk G m)))) := by
  obtain ⟨hc1, hc2, hc3⟩ := hc
  have lc : zLay C2.2.2.2 := by rw [hc3]; exact h.1
  have rel : ∀ N N2 : zM, zqY m C N → zqTold m N2 N → zqR m C2.2.1 N2.2.1 := fun N N2 hp hd => by
    refine zqR_keep (fun b j _ _ _ _ h => hc1 b j (by omega)) (fun j hj => ?_) (fun b j b1 b2 b3 => hd.1 b j (by omega) (by omega) (by omega) (by omega) (by omega) (by omega)) (hd.1 _ _ (by omega) (by omega) (by omega) (by omega) (by omega) (by omega)) hp.2.2.1
    rw [hc1 8 j (by omega)]
    exact zqR_ch hp.2.2.1 j hj
  obtain ⟨F, G0, v, b0, e1, _, f1, _⟩ := zqS_all (L := L) (M := C2) (N := N20) lc (by rw [ht.2.2]; exact h.2.1) hm6 (rel N0 N20 h ht) hJ
  have c22 : C.2.1 2 2 = (m : Int) := h.2.2.2.2.1.1
  have F22 : F 2 2 = (m : Int) := (f1 2 2 (by omega)).trans ((hc1 2 2 (by omega)).trans c22)
  refine ⟨F, v, e1, F22, f1, fun N N2 hp hd hj2 => ?_⟩
  have ln : zLay N2.2.2.2 := by rw [hd.2.2]; exact hp.2.1
  obtain ⟨F', G, v', b, e1', e2, f1', g1, g2, r⟩ := zqS_all (L := L) (M := C2) (N := N2) lc ln hm6 (rel N N2 hp hd) hj2
  obtain ⟨u1, u2⟩ := zFR_uq e1 e1'
  have ev : v' = v := by
    have := Option.some.inj (Sum.inl.inj u1)
    exact Sum.inl.inj this
  have eF : F' = F := congrArg (fun X : zM => X.2.1) u2
  subst ev eF
  have n8 : N2.2.1 1153 8 = (m : Int) := (hd.1 _ _ (by omega) (by omega) (by omega) (by omega) (by omega) (by omega)).trans hp.2.2.2.2.1.2
  refine ⟨G, g1, g2, ?_⟩
  have old : ∀ (C' N' : zM), (∀ k, k < m → ∀ b j, (855 + 4 * k ≤ b ∧ b < 859 + 4 * k) → C'.2.1 b j = C2.2.1 b j) → C'.2.2.1 = C2.2.2.1 → (∀ b j, 1158 ≤ b → b < 1166 → (b = 1160 → j ≠ m) → N'.2.1 b j = N2.2.1 b j) → N'.2.2.1 = N2.2.2.1 → ∀ n, m ≤ n → n ≤ 60 → C'.2.1 2 2 = (n : Int) → N'.2.1 1153 8 = (n : Int) → (∀ k, m ≤ k → k < n → zqJe C' N' k ∧ C'.2.1 (855 + 4 * k) 11 = N'.2.1 1160 k ∧ (N'.2.1 1160 k = 0 ∨ N'.2.1 1160 k = 1)) → zqJn C' N' n := fun C' N' a1 a2 a3 a4 n hmn h60 x1 x2 x3 => by
    refine zqJn_p (n := m) ⟨x1, x2⟩ h60 hmn (fun k hk b j hb => (a1 k hk b j hb).trans (hc1 b j (by omega))) (fun k hk j => by rw [a2]; exact hc2 _ _ (by omega)) (fun k hk => by rw [a4]; exact hd.2.1 _ _ (by omega)) (fun k hk => ⟨fun b hb => (a3 b k (by omega) (by omega) (by omega)).trans (hd.1 _ _ (by omega) (by omega) (by omega) (by omega) (by omega) (by omega)), fun j hj => (a3 1161 _ (by omega) (by omega) (by omega)).trans (hd.1 _ _ (by omega) (by omega) (by omega) (by omega) (by omega) (by omega)), fun j hj => ⟨(a3 1164 _ (by omega) (by omega) (by omega)).trans (hd.1 _ _ (by omega) (by omega) (by omega) (by omega) (by omega) (by omega)), (a3 1165 _ (by omega) (by omega) (by omega)).trans (hd.1 _ _ (by omega) (by omega) (by omega) (by omega) (by omega) (by omega))⟩⟩) hp.2.2.2 x3
  rcases r with ⟨b0, v1, r⟩ | ⟨b1, v0, ga, r⟩
  · subst b0
    refine Or.inl ⟨v1, e2, fun e => ⟨lc, ln, ?_, ?_⟩⟩
    · exact zqR_keep (fun _ _ _ _ _ _ _ => rfl) (zqR_ch r) (fun b j b1 b2 _ => (show zrtw G e b j = G b j from zu2_sj (by omega))) (show zrtw G e 1153 33 = G 1153 33 from zu2_sj (by omega)) r
    · exact old (zwI C2 F') (zwI N2 (zrtw G e)) (fun k hk b j hb => f1 b j (by omega)) rfl (fun b j b1 b2 _ => by
        show zrtw G e b j = _
        unfold zrtw
        rw [zu2_sj (by omega)]
        exact g1 b j (by omega)) rfl m (Nat.le_refl _) (by omega) F22 (by
        show zrtw G e 1153 8 = _
        unfold zrtw
        rw [zu2_sj (by omega), g2 _ (by omega) (by omega) (by omega)]
        exact n8) (fun k h1 h2 => absurd h1 (by omega))
  · subst b1
    refine Or.inr ⟨v0, e2, ga, lc, ln, ?_, ?_⟩
    · refine zqR_keep3 (fun b j hb => ?_) (fun j hj => ?_) (fun b j hb => ?_) ?_ r
      · show zu2 (zu2 F' (855 + 4 * m) 11 1) 2 2 ((m : Int) + 1) b j = F' b j
        rw [zu2_sj (by omega), zu2_sj (by omega)]
      · show zu2 (zu2 F' (855 + 4 * m) 11 1) 2 2 ((m : Int) + 1) 8 j = 0 ∨ zu2 (zu2 F' (855 + 4 * m) 11 1) 2 2 ((m : Int) + 1) 8 j = 1
        rw [zu2_sj (by omega), zu2_sj (by omega)]
        exact zqR_ch r j hj
      · show zrmk G m b j = G b j
        unfold zrmk zrtw
        rw [zu2_sj (by omega), zu2_sj (by omega), zu2_sj (by omega)]
      · show zrmk G m 1153 33 = G 1153 33
        unfold zrmk zrtw
        rw [zu2_sj (by omega), zu2_sj (by omega), zu2_sj (by omega)]
    · refine old (zwI C2 (zu2 (zu2 F' (855 + 4 * m) 11 1) 2 2 ((m : Int) + 1))) (zwI N2 (zrmk G m)) (fun k hk b j hb => ?_) rfl (fun b j b1 b2 b3 => ?_) rfl (m + 1) (by omega) (by omega) ?_ ?_ (fun k h1 h2 => ?_)
      · show zu2 (zu2 F' (855 + 4 * m) 11 1) 2 2 ((m : Int) + 1) b j = _
        rw [zu2_sj (by omega), zu2_sj (by omega)]
        exact f1 b j (by omega)
      · show zrmk G m b j = _
        unfold zrmk zrtw
        rw [zu2_sj (by omega), zu2_sj (by omega), zu2_sj (by omega)]
        exact g1 b j (by omega)
      · show zu2 (zu2 F' (855 + 4 * m) 11 1) 2 2 ((m : Int) + 1) 2 2 = _
        rw [zu2_eq, Int.natCast_succ]
      · show zrmk G m 1153 8 = _
        unfold zrmk
        rw [zu2_eq, Int.natCast_succ]
      · have km : k = m := by omega
        subst km
        have s1 : zu2 (zu2 F' (855 + 4 * k) 11 1) 2 2 ((k : Int) + 1) (855 + 4 * k) 11 = 1 := by rw [zu2_sj (by omega), zu2_eq]
        have s2 : zrmk G k 1160 k = 1 := by
          unfold zrmk
          rw [zu2_sj (by omega), zu2_eq]
        refine ⟨zqJe_p (C := C2) (N := N2) (fun b j hb => ?_) (fun j => rfl) rfl (fun b hb => ?_) (fun j hj => ?_) (fun j hj => ⟨?_, ?_⟩) hj2, s1.trans s2.symm, Or.inr s2⟩
        · show zu2 (zu2 F' (855 + 4 * k) 11 1) 2 2 ((k : Int) + 1) b j = _
          rw [zu2_sj (by omega), zu2_sj (by omega)]
          exact f1 b j (by omega)
        · show zrmk G k b k = _
          unfold zrmk zrtw
          rw [zu2_sj (by omega), zu2_sj (by omega), zu2_sj (by omega)]
          exact g1 b k (by omega)
        · show zrmk G k 1161 (4 * k + j) = _
          unfold zrmk zrtw
          rw [zu2_sj (by omega), zu2_sj (by omega), zu2_sj (by omega)]
          exact g1 _ _ (by omega)
        · show zrmk G k 1164 (8 * k + j) = _
          unfold zrmk zrtw
          rw [zu2_sj (by omega), zu2_sj (by omega), zu2_sj (by omega)]
          exact g1 _ _ (by omega)
        · show zrmk G k 1165 (8 * k + j) = _
          unfold zrmk zrtw
          rw [zu2_sj (by omega), zu2_sj (by omega), zu2_sj (by omega)]
          exact g1 _ _ (by omega)
end ZWORLDQ
