/-! pen, tape, sheet, rings, corners: alike -/
section ZASKQ2
variable {L m n : Nat} {M N : zM} {s : Nat} {Q : zO → zM → Prop} {f g : Nat → Nat → Int} {cc : Nat → Int}
theorem zqW_x (h : zqW m M) (hr : N.2.2.2 = M.2.2.2) (hk : ∀ b j, ((2 ≤ b ∧ b < 1095 ∧ b ≠ 5 ∧ b ≠ 8 ∧ b ≠ 9 ∧ b ≠ 10) ∨ (1158 ≤ b ∧ b < 1184 ∧ b ≠ 1179 ∧ (b = 1174 ∨ b = 1175 → j < 60) ∧ (b = 1176 → j < 240) ∧ (b = 1177 ∨ b = 1178 → j < 1920)) ∨ (b = 1153 ∧ (j = 8 ∨ j = 33))) → N.2.1 b j = M.2.1 b j) (h8 : ∀ j, j < 60 → N.2.1 8 j = 0 ∨ N.2.1 8 j = 1) (hx : zqX N.2.1) (hL : ∀ a j, (a < 1095 ∨ a = 1162) → N.2.2.1 a j = M.2.2.1 a j) : zqW m N := by
  obtain ⟨⟨a1, a3, a4⟩, _⟩ := h
  have h60 := a4.1
  have k1 : ∀ b j, (2 ≤ b ∧ b < 1095 ∧ b ≠ 5 ∧ b ≠ 8 ∧ b ≠ 9 ∧ b ≠ 10) → N.2.1 b j = M.2.1 b j := fun b j hb => hk b j (Or.inl hb)
  have k2 : ∀ b j, (1158 ≤ b ∧ b < 1184 ∧ b ≠ 1179 ∧ (b = 1174 ∨ b = 1175 → j < 60) ∧ (b = 1176 → j < 240) ∧ (b = 1177 ∨ b = 1178 → j < 1920)) → N.2.1 b j = M.2.1 b j := fun b j hb => hk b j (Or.inr (Or.inl hb))
  have k3 : ∀ j, (j = 8 ∨ j = 33) → N.2.1 1153 j = M.2.1 1153 j := fun j hj => hk _ _ (Or.inr (Or.inr ⟨rfl, hj⟩))
  refine ⟨⟨by rw [hr]; exact a1, zqR_keep4 (fun b j hb => k1 b j (by omega)) h8 (fun b j hb => k2 b j (by omega)) (k3 33 (by omega)) a3, ?_⟩, hx⟩
  exact zqJn_p (C := M) (N := M) (n := m) ⟨(k1 2 2 (by omega)).trans a4.2.1.1, (k3 8 (by omega)).trans a4.2.1.2⟩ h60 (Nat.le_refl _) (fun k hk b j hb => k1 b j (by omega)) (fun k hk j => hL _ _ (by omega)) (fun k hk => hL _ _ (by omega)) (fun k hk => ⟨fun b hb => k2 b k (by omega), fun j hj => k2 _ _ (by omega), fun j hj => ⟨k2 _ _ (by omega), k2 _ _ (by omega)⟩⟩) a4 (fun k h1 h2 => absurd h1 (by omega))
/-- only the extras change -/
theorem zqW_y (h : zqW m M) (hr : N.2.2.2 = M.2.2.2) (hk : ∀ b j, ((2 ≤ b ∧ b < 1095) ∨ (1158 ≤ b ∧ b < 1184) ∨ (b = 1153 ∧ (j = 8 ∨ j = 33))) → N.2.1 b j = M.2.1 b j) (hx : zqX N.2.1) (hL : ∀ a, a ≠ 1205 → N.2.2.1 a = M.2.2.1 a) : zqW m N := zqW_x h hr (fun b j hb => by
  rcases hb with hb | hb | hb
  · exact hk b j (Or.inl ⟨hb.1, hb.2.1⟩)
  · exact hk b j (Or.inr (Or.inl ⟨hb.1, hb.2.1⟩))
  · exact hk b j (Or.inr (Or.inr hb))) (fun j hj => by rw [hk 8 j (by omega)]; exact zqR_ch h.1.2.1 j hj) hx (fun a j ha => by rw [hL a (by omega)])
theorem zqTap_c {f' : Nat → Nat → Int} (h : zqTap f) (e : ∀ b j, (b = 1101 ∨ b = 1102 ∨ b = 1156 ∨ (b = 1153 ∧ j = 5)) → f' b j = f b j) : zqTap f' := by
  unfold zqTap at *
  have g1102 : f' 1102 = f 1102 := funext fun j => e 1102 j (by omega)
  have g1156 : f' 1156 = f 1156 := funext fun j => e 1156 j (by omega)
  rw [e 1101 0 (by omega), e 1153 5 (by omega), g1102, g1156]
  exact h
theorem zqPen_c {f' : Nat → Nat → Int} (h : zqPen f) (e : ∀ b j, (b = 1095 ∨ b = 1096 ∨ b = 1097 ∨ b = 1154 ∨ b = 1155 ∨ (b = 1153 ∧ j = 3)) → f' b j = f b j) : zqPen f' := by
  unfold zqPen at *
  have g1096 : f' 1096 = f 1096 := funext fun j => e 1096 j (by omega)
  have g1097 : f' 1097 = f 1097 := funext fun j => e 1097 j (by omega)
  have g1154 : f' 1154 = f 1154 := funext fun j => e 1154 j (by omega)
  have g1155 : f' 1155 = f 1155 := funext fun j => e 1155 j (by omega)
  rw [e 1095 0 (by omega), e 1153 3 (by omega), g1096, g1097, g1154, g1155]
  exact h
theorem zqShe_c {f' : Nat → Nat → Int} (h : zqShe f) (e : ∀ b j, (b = 1103 ∨ b = 1104 ∨ b = 1157 ∨ (b = 1153 ∧ j = 7)) → f' b j = f b j) : zqShe f' := by
  unfold zqShe at *
  have g1104 : f' 1104 = f 1104 := funext fun j => e 1104 j (by omega)
  have g1157 : f' 1157 = f 1157 := funext fun j => e 1157 j (by omega)
  rw [e 1103 0 (by omega), e 1153 7 (by omega), g1104, g1157]
  exact h
theorem zqMis_c {f' : Nat → Nat → Int} (h : zqMis f) (e : ∀ b j, (b = 1123 ∨ b = 1114 ∨ b = 1138) → f' b j = f b j) : zqMis f' := by
  unfold zqMis at *
  have g1123 : f' 1123 = f 1123 := funext fun j => e 1123 j (by omega)
  have g1114 : f' 1114 = f 1114 := funext fun j => e 1114 j (by omega)
  rw [e 1138 10 (by omega), e 1138 9 (by omega), g1123, g1114]
  exact h
-- lift
theorem zqA_121 (hW : zqW m M) : zqAg L M 121 [.inr (.inr 2)] 245 [.inr (.inr 1153)] cc := by
  have hR := hW.1.1
  have hp := hW.2.1.1
  refine zqAg_ok (m' := m) (fun Q => c121 hR) rfl rfl rfl (fun B b1 b2 b3 => ⟨zwI B (zu2 (zrtw B.2.1 0) 1153 3 0), fun Q => ?_, rfl, rfl, zqW_y hW b3 (N := zwI B (zu2 (zrtw B.2.1 0) 1153 3 0)) (fun b j hb => ?_) ⟨?_, ?_, ?_, ?_⟩ b2, ?_⟩)
  · have r := c245 (L := L) (M := B) (Q := Q)
    have e : B.2.1 1153 3 = M.2.1 1095 0 := by
      rw [b1]
      show zu2 M.2.1 1095 0 0 1153 3 = _
      rw [zu2_sj (by omega)]
      exact hp.2.2
    rw [← e]
    exact r
  · show zu2 (zrtw B.2.1 0) 1153 3 0 b j = _
    unfold zrtw
    rw [zu2_sj (by omega), zu2_sj (by omega), b1]
    exact zu2_sj (by omega)
  · have e3 : zu2 (zrtw B.2.1 0) 1153 3 0 1153 3 = 0 := zu2_eq _ _ _ _
    have e5 : zu2 (zrtw B.2.1 0) 1153 3 0 1095 0 = 0 := by
      unfold zrtw
      rw [zu2_sj (by omega), zu2_sj (by omega), b1]
      show zu2 M.2.1 1095 0 0 1095 0 = 0
      exact zu2_eq _ _ _ _
    show zqPen (zu2 (zrtw B.2.1 0) 1153 3 0)
    unfold zqPen
    rw [e3, e5]
    exact ⟨by omega, fun j hj => absurd hj (by omega)⟩
  · refine zqTap_c hW.2.2.1 (fun b j hb => ?_)
    show zu2 (zrtw B.2.1 0) 1153 3 0 b j = _
    unfold zrtw
    rw [zu2_sj (by omega), zu2_sj (by omega), b1]
    exact zu2_sj (by omega)
  · refine zqShe_c hW.2.2.2.1 (fun b j hb => ?_)
    show zu2 (zrtw B.2.1 0) 1153 3 0 b j = _
    unfold zrtw
    rw [zu2_sj (by omega), zu2_sj (by omega), b1]
    exact zu2_sj (by omega)
  · refine zqMis_c hW.2.2.2.2 (fun b j hb => ?_)
    show zu2 (zrtw B.2.1 0) 1153 3 0 b j = _
    unfold zrtw
    rw [zu2_sj (by omega), zu2_sj (by omega), b1]
    exact zu2_sj (by omega)
  · show zu2 (zrtw B.2.1 0) 1153 3 0 1153 0 = 0
    unfold zrtw
    rw [zu2_sj (by omega), zu2_eq]
-- pen
theorem zqA_129 (hW : zqW m M) (c0 : cc 0 = 1) (c1 : cc 1 = 2) {x y : Int} : zqAg L M 129 [.inr (.inr 2), .inl x, .inl y] 243 [.inr (.inr 1153), .inl x, .inl y] cc := by
  have hR := hW.1.1
  obtain ⟨⟨p1, p2, p3⟩, p4⟩ := hW.2.1
  by_cases h : (0 ≤ x ∧ x ≤ 60) ∧ 0 ≤ y ∧ y ≤ 60
  · by_cases h8 : M.2.1 1095 0 = 8
    · exact zqAg_no (e := 1) (d := 2) hW (by omega) (fun Q => c129_1 hR h.1 h.2 h8) (.inl 0) (fun B b1 b2 Q => c243_2 h.1 h.2 (by rw [b1, p3, h8])) c1
    · obtain ⟨n, hn⟩ : ∃ n : Nat, M.2.1 1095 0 = (n : Int) := ⟨(M.2.1 1095 0).toNat, by omega⟩
      have n8 : n < 8 := by omega
      have old : ∀ (B : zM), B.2.1 = zu2 (zu2 (zu2 M.2.1 1096 n x) 1097 n y) 1095 0 ((n : Int) + 1) → ∀ b j, (b ≠ 1096 ∨ j ≠ n) → (b ≠ 1097 ∨ j ≠ n) → (b ≠ 1095 ∨ j ≠ 0) → (b ≠ 1154 ∨ j ≠ n) → (b ≠ 1155 ∨ j ≠ n) → (b ≠ 1153 ∨ j ≠ 0) → (b ≠ 1153 ∨ j ≠ 3) → zu2 (zu2 (zu2 (zrtw B.2.1 0) 1154 n x) 1155 n y) 1153 3 ((n : Int) + 1) b j = M.2.1 b j := fun B b1 b j q1 q2 q3 q4 q5 q6 q7 => by
        unfold zrtw
        rw [zu2_sj q7, zu2_sj q5, zu2_sj q4, zu2_sj q6, b1, zu2_sj q3, zu2_sj q2, zu2_sj q1]
      refine zqAg_ok (m' := m) (fun Q => c129_g hR h.1 h.2 hn n8) rfl rfl rfl (fun B b1 b2 b3 => ⟨zwI B (zu2 (zu2 (zu2 (zrtw B.2.1 0) 1154 n x) 1155 n y) 1153 3 ((n : Int) + 1)), fun Q => ?_, rfl, rfl, zqW_y hW b3 (N := zwI B (zu2 (zu2 (zu2 (zrtw B.2.1 0) 1154 n x) 1155 n y) 1153 3 ((n : Int) + 1))) (fun b j hb => old B b1 b j (by omega) (by omega) (by omega) (by omega) (by omega) (by omega) (by omega)) ⟨?_, ?_, ?_, ?_⟩ b2, ?_⟩)
      · refine c243_g (by rw [b3]; exact hR) h.1 h.2 ?_ n8
        rw [b1]
        show zu2 (zu2 (zu2 M.2.1 1096 n x) 1097 n y) 1095 0 ((n : Int) + 1) 1153 3 = _
        rw [zu2_sj (by omega), zu2_sj (by omega), zu2_sj (by omega), p3, hn]
      · show zqPen (zu2 (zu2 (zu2 (zrtw B.2.1 0) 1154 n x) 1155 n y) 1153 3 ((n : Int) + 1))
        have b1' : B.2.1 = zu2 (zu2 (zu2 M.2.1 1096 n x) 1097 n y) 1095 0 ((n : Int) + 1) := b1
        have e1 : zu2 (zu2 (zu2 (zrtw B.2.1 0) 1154 n x) 1155 n y) 1153 3 ((n : Int) + 1) 1153 3 = (n : Int) + 1 := zu2_eq _ _ _ _
        have e2 : zu2 (zu2 (zu2 (zrtw B.2.1 0) 1154 n x) 1155 n y) 1153 3 ((n : Int) + 1) 1095 0 = (n : Int) + 1 := by
          unfold zrtw
          rw [zu2_sj (by omega), zu2_sj (by omega), zu2_sj (by omega), zu2_sj (by omega), b1', zu2_eq]
        unfold zqPen
        rw [e1, e2]
        refine ⟨by omega, fun j hj => ?_⟩
        by_cases q : j = n
        · subst q
          have f1 : zu2 (zu2 (zu2 (zrtw B.2.1 0) 1154 j x) 1155 j y) 1153 3 ((j : Int) + 1) 1154 j = x := by
            rw [zu2_sj (by omega), zu2_sj (by omega), zu2_eq]
          have f2 : zu2 (zu2 (zu2 (zrtw B.2.1 0) 1154 j x) 1155 j y) 1153 3 ((j : Int) + 1) 1155 j = y := by
            rw [zu2_sj (by omega), zu2_eq]
          have f3 : zu2 (zu2 (zu2 (zrtw B.2.1 0) 1154 j x) 1155 j y) 1153 3 ((j : Int) + 1) 1096 j = x := by
            unfold zrtw
            rw [zu2_sj (by omega), zu2_sj (by omega), zu2_sj (by omega), zu2_sj (by omega), b1', zu2_sj (by omega), zu2_sj (by omega), zu2_eq]
          have f4 : zu2 (zu2 (zu2 (zrtw B.2.1 0) 1154 j x) 1155 j y) 1153 3 ((j : Int) + 1) 1097 j = y := by
            unfold zrtw
            rw [zu2_sj (by omega), zu2_sj (by omega), zu2_sj (by omega), zu2_sj (by omega), b1', zu2_sj (by omega), zu2_eq]
          rw [f1, f2, f3, f4]
          exact ⟨rfl, rfl, h.1, h.2⟩
        · rw [old B b1' 1154 j (by omega) (by omega) (by omega) (by omega) (by omega) (by omega) (by omega), old B b1' 1155 j (by omega) (by omega) (by omega) (by omega) (by omega) (by omega) (by omega), old B b1' 1096 j (by omega) (by omega) (by omega) (by omega) (by omega) (by omega) (by omega), old B b1' 1097 j (by omega) (by omega) (by omega) (by omega) (by omega) (by omega) (by omega)]
          exact p4 j (by omega)
      · exact zqTap_c hW.2.2.1 (fun b j hb => old B b1 b j (by omega) (by omega) (by omega) (by omega) (by omega) (by omega) (by omega))
      · exact zqShe_c hW.2.2.2.1 (fun b j hb => old B b1 b j (by omega) (by omega) (by omega) (by omega) (by omega) (by omega) (by omega))
      · exact zqMis_c hW.2.2.2.2 (fun b j hb => old B b1 b j (by omega) (by omega) (by omega) (by omega) (by omega) (by omega) (by omega))
      · show zu2 (zu2 (zu2 (zrtw B.2.1 0) 1154 n x) 1155 n y) 1153 3 ((n : Int) + 1) 1153 0 = 0
        unfold zrtw
        rw [zu2_sj (by omega), zu2_sj (by omega), zu2_sj (by omega), zu2_eq]
  · exact zqAg_no (e := 0) (d := 1) hW (by omega) (fun Q => c129_0 h) (.inl 0) (fun B b1 b2 Q => c243_1 h) c0
-- out
theorem zqA_189 (hW : zqW m M) (c2 : cc 2 = 1) {k : Int} : zqAg L M 189 [.inr (.inr 2), .inl k] 339 [.inr (.inr 1153), .inl k] cc := by
  have hR := hW.1.1
  obtain ⟨⟨p1, p2, p3⟩, p4⟩ := hW.2.2.2.1
  by_cases h : 0 ≤ k ∧ k < M.2.1 1103 0
  · obtain ⟨j, rfl⟩ : ∃ j : Nat, k = (j : Int) := ⟨k.toNat, by omega⟩
    refine zqAg_o0 hW (fun Q => c189_g hR h.2 p2) (fun B b1 b2 Q => ?_)
    have r := c339_g (L := L) (M := B) (Q := Q) (n := j) (by rw [b2]; exact hR) (by rw [b1, p3]; omega) (by rw [b1, p3]; omega)
    rw [← p4 j h.2, show M.2.1 1157 j = B.2.1 1157 j by rw [b1]]
    exact r
  · exact zqAg_no (e := 2) (d := 1) hW (by omega) (fun Q => c189_0 hR h) (.inl 0) (fun B b1 b2 Q => c339_1 (by rw [b1, p3]; omega) (by rw [b1, p3]; omega)) c2
end ZASKQ2
/-! corners, rings, order, hits: alike -/
section ZASKQ3
variable {L m n : Nat} {M N : zM} {s : Nat} {Q : zO → zM → Prop} {f g : Nat → Nat → Int} {cc : Nat → Int}
-- corners
theorem zqpy {B : zM} (hW : zqW m M) (b1 : B.2.1 = M.2.1) {i p : Int} : (zth M.2.1 i ∧ 0 ≤ p ∧ p < M.2.1 (14 + 14 * i.toNat) 10) ↔ zrpy B.2.1 i p := by
  unfold zrpy
  constructor
  · rintro ⟨h1, h2, h3⟩
    obtain ⟨s, rfl, hs, ts, se, so⟩ := zqsh hW h1
    rw [Int.toNat_natCast] at *
    have e2 := se.2.1
    refine ⟨(zqth_iff hW b1).mp h1, h2, ?_⟩
    rw [b1]
    omega
  · rintro ⟨h1, h2, h3⟩
    have k1 := (zqth_iff hW b1).mpr h1
    obtain ⟨s, rfl, hs, ts, se, so⟩ := zqsh hW k1
    rw [Int.toNat_natCast] at *
    have e2 := se.2.1
    rw [b1] at h3
    exact ⟨k1, h2, by omega⟩
theorem zqc4 (hW : zqW m M) {i : Int} (h : zth M.2.1 i) : M.2.1 (14 + 14 * i.toNat) 10 ≤ 4 := by
  obtain ⟨s, rfl, hs, ts, se, so⟩ := zqsh hW h
  rw [Int.toNat_natCast]
  have := se.2.1
  have := so.1.2
  omega
theorem zqd4 {B : zM} (hW : zqW m M) (b1 : B.2.1 = M.2.1) {i : Int} (h : zrt B.2.1 i) : 0 ≤ B.2.1 1174 i.toNat ∧ B.2.1 1174 i.toNat ≤ 4 := by
  obtain ⟨s, rfl, hs, ts, se, so⟩ := zqsh hW ((zqth_iff hW b1).mpr h)
  rw [Int.toNat_natCast, b1]
  have := so.1
  omega
theorem zqA_169 (hW : zqW m M) (c2 : cc 2 = 1) {i p : Int} : zqAg L M 169 [.inr (.inr 2), .inl i, .inl p] 289 [.inr (.inr 1153), .inl i, .inl p] cc := by
  have hR := hW.1.1
  have rel := hW.1.2.1
  have h01 := zqR_01 rel
  by_cases h : zth M.2.1 i ∧ 0 ≤ p ∧ p < M.2.1 (14 + 14 * i.toNat) 10
  · obtain ⟨k1, k2, k3⟩ := h
    obtain ⟨s, rfl, hs, ts, se, so⟩ := zqsh hW k1
    obtain ⟨q, rfl⟩ : ∃ q : Nat, p = (q : Int) := ⟨p.toNat, by omega⟩
    rw [Int.toNat_natCast] at k3
    have e2 := se.2.1
    have n4 := so.1.2
    refine zqAg_o0 hW (fun Q => c169_g hR h01 hs (by omega) k1 k3) (fun B b1 b2 Q => ?_)
    have r := c289_g1 (L := L) (M := B) (Q := Q) (s := s) (p := q) (by rw [b2]; exact hR) (by rw [b1]; exact zqR_r01 rel) (by have := so.1; rw [b1]; omega) ((zqpy hW b1).mp ⟨k1, k2, by rw [Int.toNat_natCast]; exact k3⟩)
    have ev : zN M.2.1 (14 + 14 * s) q = zrN B.2.1 s q := by
      rw [b1]
      exact (se.2.2.1 q (by omega)).1
    rw [ev]
    exact r
  · exact zqAg_no (e := 2) (d := 1) hW (by omega) (fun Q => c169_0 hR h01 (zqc4 hW) h) (.inl 0) (fun B b1 b2 Q => c289_11 (by rw [b2]; exact hR) (by rw [b1]; exact zqR_r01 rel) (zqd4 hW b1) (fun k => h ((zqpy hW b1).mpr k))) c2
theorem zqA_171 (hW : zqW m M) (c2 : cc 2 = 1) {i p k y : Int} (hy : y = 0 ∨ y = 1) : zqAg L M 171 [.inr (.inr 2), .inl i, .inl p, .inl k, .inl y] 291 [.inr (.inr 1153), .inl i, .inl p, .inl k, .inl y] cc := by
  have hR := hW.1.1
  have rel := hW.1.2.1
  have h01 := zqR_01 rel
  by_cases h : zth M.2.1 i ∧ 0 ≤ p ∧ p < M.2.1 (14 + 14 * i.toNat) 10
  · have hh := h
    obtain ⟨k1, k2, k3⟩ := h
    obtain ⟨s, rfl, hs, ts, se, so⟩ := zqsh hW k1
    obtain ⟨q, rfl⟩ : ∃ q : Nat, p = (q : Int) := ⟨p.toNat, by omega⟩
    rw [Int.toNat_natCast] at k3
    have e2 := se.2.1
    have n4 := so.1
    obtain ⟨en, exy⟩ := se.2.2.1 q (by omega)
    have n8 := (so.2.2 q (by omega)).1
    by_cases h2 : 0 ≤ k ∧ k < zN M.2.1 (14 + 14 * s) q
    · obtain ⟨j, rfl⟩ : ∃ j : Nat, k = (j : Int) := ⟨k.toNat, by omega⟩
      obtain ⟨ex, ey⟩ := exy j (by omega)
      refine zqAg_o0 hW (fun Q => c171_g hR h01 hs (by omega) k1 k3 h2.2 (by omega) hy) (fun B b1 b2 Q => ?_)
      have r := c291_g1 (L := L) (M := B) (Q := Q) (s := s) (p := q) (k := j) (y := y) (by rw [b2]; exact hR) (by rw [b1]; exact zqR_r01 rel) (by rw [b1]; omega) (by rw [b1]; omega) ((zqpy hW b1).mp hh) (by rw [b1]; omega) hy
      rw [ex, ey, show zrX M.2.1 s q j = zrX B.2.1 s q j by rw [b1], show zrY M.2.1 s q j = zrY B.2.1 s q j by rw [b1]]
      exact r
    · refine zqAg_no (e := 2) (d := 1) hW (by omega) (fun Q => c171_1 hR h01 hs (by omega) k1 k3 h2) (.inl 0) (fun B b1 b2 Q => c291_11 (by rw [b2]; exact hR) (by rw [b1]; exact zqR_r01 rel) (zqd4 hW b1) (fun _ => ?_) (fun kk => h2 ?_)) c2
      · rw [b1, Int.toNat_natCast, Int.toNat_natCast]
        omega
      · have := kk.2
        rw [b1, Int.toNat_natCast, Int.toNat_natCast] at this
        omega
  · refine zqAg_no (e := 2) (d := 1) hW (by omega) (fun Q => c171_0 hR h01 (zqc4 hW) h) (.inl 0) (fun B b1 b2 Q => c291_11 (by rw [b2]; exact hR) (by rw [b1]; exact zqR_r01 rel) (zqd4 hW b1) (fun kk => absurd ((zqpy hW b1).mpr kk) h) (fun kk => h ((zqpy hW b1).mpr kk.1))) c2
-- a point held, seen by both
theorem zodd_cg {k9 : Int} {X Y U V : Nat → Int} {x y : Int} (hx : ∀ k : Nat, (k : Int) < k9 → U k = X k) (hy : ∀ k : Nat, (k : Int) < k9 → V k = Y k) : ∀ k : Nat, (k : Int) ≤ k9 → zodd k9 U V x y k = zodd k9 X Y x y k
  | 0, _ => rfl
  | k + 1, h => by
    have hk : (k : Int) < k9 := by omega
    have ha := zaf_lt hk
    have ih := zodd_cg (x := x) (y := y) hx hy k (by omega)
    have e1 : zqt k9 U V k y = zqt k9 X Y k y := by
      unfold zqt zle2 zwd
      rw [hx k hk, hx _ ha, hy k hk, hy _ ha]
    unfold zodd
    rw [ih, e1, hy k hk, hy _ ha]
theorem zqhl (h : zqE f g s) (ho : zqO g s) (x y : Int) : zhlb (f (14 + 14 * s) 9) (f (14 + 14 * s) 10).toNat (zN f (14 + 14 * s)) (zX f (14 + 14 * s)) (zY f (14 + 14 * s)) x y = zrhl g s x y := by
  obtain ⟨e1, e2, e3, _⟩ := h
  unfold zrhl zhlb
  rw [e1, e2]
  congr 1
  refine zpt_cong _ (fun p hp => ?_)
  obtain ⟨q1, q2⟩ := e3 p (by omega)
  have n3 := (ho.2.2 p (by omega)).1
  rw [q1]
  exact zodd_cg (fun k hk => (q2 k hk).1) (fun k hk => (q2 k hk).2) _ (by omega)
theorem zqA_172 (hW : zqW m M) (c2 : cc 2 = 1) (c0 : cc 0 = 2) {i x y : Int} : zqAg L M 172 [.inr (.inr 2), .inl i, .inl x, .inl y] 292 [.inr (.inr 1153), .inl i, .inl x, .inl y] cc := by
  have hR := hW.1.1
  have rel := hW.1.2.1
  have h01 := zqR_01 rel
  by_cases k0 : zth M.2.1 i
  · by_cases k1 : (0 ≤ x ∧ x ≤ 120) ∧ 0 ≤ y ∧ y ≤ 120
    · obtain ⟨s, rfl, hs, t, se, so⟩ := zqsh hW k0
      refine zqAg_o0 hW (fun Q => c172_g hR h01 hs k0 (zqE_sw se so) k1.1 k1.2 rfl) (fun B b1 b2 Q => ?_)
      have r := c292_g (L := L) (M := B) (Q := Q) (s := s) (x := x) (y := y) (by rw [b2]; exact hR) (by rw [b1]; exact zqR_r01 rel) ((zqth_iff hW b1).mp k0) hs k1.1 k1.2 (by rw [b1]; exact zqO_sp so)
      rw [zqhl se so, show zrhl M.2.1 s x y = zrhl B.2.1 s x y by rw [b1]]
      exact r
    · exact zqAg_no (e := 0) (d := 2) hW (by omega) (fun Q => c172_1 hR h01 k0 k1) (.inl 0) (fun B b1 b2 Q => c292_2 (by rw [b2]; exact hR) (by rw [b1]; exact zqR_r01 rel) ((zqth_iff hW b1).mp k0) k1) c0
  · exact zqAg_no (e := 2) (d := 1) hW (by omega) (fun Q => c172_0 hR h01 k0) (.inl 0) (fun B b1 b2 Q => c292_1 (by rw [b2]; exact hR) (by rw [b1]; exact zqR_r01 rel) (fun k => k0 ((zqth_iff hW b1).mpr k))) c2
end ZASKQ3
/-! order, hits, rings: alike -/
section ZASKQ4
variable {L m n : Nat} {M N : zM} {s : Nat} {Q : zO → zM → Prop} {f g G F : Nat → Nat → Int} {cc : Nat → Int}
/-- passing slots, but for the catcher's -/
theorem zqW_t (h : zqW m M) (hr : N.2.2.2 = M.2.2.2) (hL : ∀ a, a ≠ 1205 → N.2.2.1 a = M.2.2.1 a) (hk : ∀ b j, b ≠ 5 → b ≠ 9 → b ≠ 10 → (b < 1098 ∨ (1101 ≤ b ∧ b < 1105) ∨ b = 1114 ∨ b = 1123 ∨ b = 1138 ∨ (1154 ≤ b ∧ b < 1184) ∨ (b = 1153 ∧ (j = 3 ∨ j = 5 ∨ j = 7 ∨ j = 8 ∨ j = 33))) → N.2.1 b j = M.2.1 b j) : zqW m N := by
  refine zqW_q h hr (fun b j hb => ?_) (fun j hj => ?_) (fun a j ha => by rw [hL a (by omega)])
  · rcases hb with ⟨q1, q2, q3, q4, q5, q6⟩ | hb | ⟨q1, q2, _⟩ | ⟨q1, q2⟩
    · exact hk b j q3 q5 q6 (by omega)
    · unfold zqXs at hb
      exact hk b j (by omega) (by omega) (by omega) (by omega)
    · exact hk b j (by omega) (by omega) (by omega) (by omega)
    · exact hk b j (by omega) (by omega) (by omega) (by omega)
  · rw [hk 8 j (by omega) (by omega) (by omega) (by omega)]
    exact zqR_ch h.1.2.1 j hj
/-- the reference's board, its throw noted -/
theorem zqR_tw (hW : zqW m M) {B : zM} (bn : ∀ b j, 1153 ≤ b → B.2.1 b j = M.2.1 b j) (bl : ∀ j, B.2.2.1 1162 j = M.2.2.1 1162 j) (hr : B.2.2.2 = M.2.2.2) (e : Int) : zqR m M.2.1 (zrtw B.2.1 e) := by
  have rel : zqR m M.2.1 B.2.1 := (zqsplit hW.1 bn bl hr).2.2.1
  exact zqR_keep3 (fun _ _ _ => rfl) (zqR_ch rel) (fun b j hb => zrtw_a (by omega)) (zu2_sj (by omega)) rel
theorem zqA_167 (hW : zqW m M) (c2 : cc 2 = 1) {k : Int} : zqAg L M 167 [.inr (.inr 2), .inl k] 287 [.inr (.inr 1153), .inl k] cc := by
  have hR := hW.1.1
  have rel := hW.1.2.1
  have h01 := zqR_01 rel
  have hk : ∀ i, i < 60 → M.2.1 (14 + 14 * i) 0 = 1 → zKy M.2.1 (14 + 14 * i) := fun i hi => (zqR_bk rel i hi).2
  generalize ho : zord (zclt M.2.1) (zcth M.2.1) (M.2.1 5) 60 = o
  have bn : ∀ B : zM, B.2.1 = zua M.2.1 5 o → ∀ b j, b ≠ 5 → B.2.1 b j = M.2.1 b j := fun B b1 b j hb => by
    rw [b1]
    exact zua_o hb _ _
  have rB : ∀ B : zM, B.2.1 = zua M.2.1 5 o → (∀ a, a ≠ 1205 → B.2.2.1 a = M.2.2.1 a) → B.2.2.2 = M.2.2.2 → zqR m M.2.1 B.2.1 := fun B b1 b2 b3 => (zqsplit hW.1 (fun b j hb => bn B b1 b j (by omega)) (fun j => by rw [b2 1162 (by omega)]) b3).2.2.1
  have fin : ∀ B : zM, B.2.1 = zua M.2.1 5 o → (∀ a, a ≠ 1205 → B.2.2.1 a = M.2.2.1 a) → B.2.2.2 = M.2.2.2 → ∀ e, zqW m (zwI B (zrtw (zrg B.2.1) e)) := fun B b1 b2 b3 e => by
    refine zqW_t hW b3 b2 (fun b j q1 q2 q3 q4 => ?_)
    show zrtw (zrg B.2.1) e b j = _
    unfold zrtw
    rw [zu2_sj (by omega), zrg_o ⟨by omega, by omega⟩]
    exact bn B b1 b j q1
  by_cases h : 0 ≤ k ∧ k < (zcnt (zcth M.2.1) 60 : Int)
  · obtain ⟨j, rfl⟩ : ∃ j : Nat, k = (j : Int) := ⟨k.toNat, by omega⟩
    have ec := fun Q => c167_g (L := L) (M := M) (Q := Q) (k := j) hR h01 hk (by omega) (zcnt_le _ _)
    rw [ho] at ec
    refine zqAg_ok (m' := m) ec rfl rfl rfl (fun B b1 b2 b3 => ⟨zwI B (zrtw (zrg B.2.1) 0), fun Q => ?_, rfl, rfl, fin B b1 b2 b3 0, (show zrtw (zrg B.2.1) 0 1153 0 = 0 from zu2_eq _ _ _ _)⟩)
    have rl := rB B b1 b2 b3
    obtain ⟨o1, o2⟩ := zqord rl
    have r := c287_g (L := L) (M := B) (Q := Q) (k := j) (by rw [b3]; exact hR) (zqR_rbk rl) (by rw [← o1]; omega)
    rw [← o2 j (by omega), ho] at r
    exact r
  · have ec := fun Q => c167_0 (L := L) (M := M) (Q := Q) (k := k) hR h01 hk h
    rw [ho] at ec
    refine zqAg_n1 (m := m) (e := 2) (d := 1) (.inl 0) (by omega) ec rfl rfl rfl (fun B b1 b2 b3 => ⟨zwI B (zrtw (zrg B.2.1) 1), fun Q => ?_, rfl, rfl, fin B b1 b2 b3 1, (show zrtw (zrg B.2.1) 1 1153 0 = 1 from zu2_eq _ _ _ _)⟩) c2
    have rl := rB B b1 b2 b3
    obtain ⟨o1, o2⟩ := zqord rl
    exact c287_1 (by rw [b3]; exact hR) (zqR_rbk rl) (by rw [← o1]; omega)
-- hits
theorem zrht_top {x y : Int} : ∀ k, (zrht F x y k = -1 ∧ ∀ q, q < k → ¬ (F 1181 (F 1167 (F 1184 q).toNat).toNat ≠ 0 ∧ zrhl F (F 1184 q).toNat x y = true)) ∨ ∃ q, q < k ∧ (F 1181 (F 1167 (F 1184 q).toNat).toNat ≠ 0 ∧ zrhl F (F 1184 q).toNat x y = true) ∧ zrht F x y k = F 1184 q ∧ ∀ r, q < r → r < k → ¬ (F 1181 (F 1167 (F 1184 r).toNat).toNat ≠ 0 ∧ zrhl F (F 1184 r).toNat x y = true)
  | 0 => Or.inl ⟨rfl, fun q h => absurd h (Nat.not_lt_zero q)⟩
  | k + 1 => by
    rw [zrht_s]
    by_cases c : F 1181 (F 1167 (F 1184 k).toNat).toNat ≠ 0 ∧ zrhl F (F 1184 k).toNat x y = true
    · rw [if_pos c]
      exact Or.inr ⟨k, by omega, c, rfl, fun r h1 h2 => absurd h1 (by omega)⟩
    · rw [if_neg c]
      rcases zrht_top (x := x) (y := y) k with ⟨e, no⟩ | ⟨q, q1, q2, e, q3⟩
      · refine Or.inl ⟨e, fun q hq => ?_⟩
        by_cases qe : q = k
        · rw [qe]; exact c
        · exact no q (by omega)
      · refine Or.inr ⟨q, by omega, q2, e, fun r h1 h2 => ?_⟩
        by_cases qe : r = k
        · rw [qe]; exact c
        · exact q3 r h1 (by omega)
theorem zqcd (h : zqR n f G) {x y : Int} {v : Nat} (hv : v < 60) : zshb f x y v = true ↔ zqth2 G v ∧ (zrg G 1181 (zrg G 1167 v).toNat ≠ 0 ∧ zrhl (zrg G) v x y = true) := by
  have el : zrg G 1167 v = G 1167 v := zrg_o ⟨by omega, by omega⟩
  have ev : zrg G 1181 (G 1167 v).toNat = G 1181 (G 1167 v).toNat := zrg_o ⟨by omega, by omega⟩
  have eh : zrhl (zrg G) v x y = zrhl G v x y := by
    have a4 : zrg G 1174 v = G 1174 v := zrg_o ⟨by omega, by omega⟩
    have a5 : zrg G 1175 v = G 1175 v := zrg_o ⟨by omega, by omega⟩
    have a6 : zrN (zrg G) v = zrN G v := funext fun p => zrg_o ⟨by omega, by omega⟩
    have a7 : zrX (zrg G) v = zrX G v := funext fun p => funext fun q => zrg_o ⟨by omega, by omega⟩
    have a8 : zrY (zrg G) v = zrY G v := funext fun p => funext fun q => zrg_o ⟨by omega, by omega⟩
    unfold zrhl
    rw [a4, a5, a6, a7, a8]
  rw [el, ev, eh]
  unfold zshb zsee
  rw [Bool.and_eq_true, decide_eq_true_iff]
  constructor
  · rintro ⟨⟨h1, h2⟩, h3⟩
    obtain ⟨se, so⟩ := zqR_f h hv h1
    rw [zqR_t h hv] at h1
    obtain ⟨e1, _, _, e4, _⟩ := h.2.1 v hv h1
    rw [e1] at h2
    have := (h.2.2.2.2.2.1.1 (G 1167 v).toNat (by omega)).2
    exact ⟨⟨hv, h1⟩, by omega, by rw [← zqhl se so]; exact h3⟩
  · rintro ⟨⟨_, h1⟩, h2, h3⟩
    have h1' := h1
    rw [← zqR_t h hv] at h1'
    obtain ⟨se, so⟩ := zqR_f h hv h1'
    obtain ⟨e1, _, _, e4, _⟩ := h.2.1 v hv h1
    have := h.2.2.2.2.2.1.1 (G 1167 v).toNat (by omega)
    exact ⟨⟨h1', by rw [e1]; omega⟩, by rw [zqhl se so]; exact h3⟩
theorem zqht (h : zqR n f G) {x y : Int} : zbest (zshb f x y) (fun i v => zclt f v i) 60 = zrht (zrg G) x y (zrct G) := by
  have hK := h.2.2.1
  have cd := fun v hv => zqcd h (x := x) (y := y) (v := v) hv
  have key := zbest_b (cand := zshb f x y) (better := fun i v => zclt f v i) (P := zqth2 G) (fun a b c pa pb pc h1 h2 => zclt_tr h c b a pc pb pa h2 h1) (fun a b pa pb hab => (zclt_tot h a b pa pb hab).symm) 60 (fun v hv hc => ((cd v hv).mp hc).1)
  have er : ∀ q, zrg G 1184 q = zrod G q := fun q => zrg_r q
  rcases key with ⟨e, no⟩ | ⟨k, k1, k2, e, k3⟩
  · rw [e]
    rcases zrht_top (F := zrg G) (x := x) (y := y) (zrct G) with ⟨e2, _⟩ | ⟨q, q1, q2, e2, q3⟩
    · exact e2.symm
    · obtain ⟨u, u1, u2⟩ := zqvl (g := G) q1
      rw [er, u2, Int.toNat_natCast] at q2
      have := (cd u u1.1).mpr ⟨u1, q2⟩
      rw [no u u1.1] at this
      exact absurd this (by decide)
  · obtain ⟨t1, t2⟩ := (cd k k1).mp k2
    obtain ⟨r, r1, r2⟩ := zqpl k t1
    rw [e]
    rcases zrht_top (F := zrg G) (x := x) (y := y) (zrct G) with ⟨e2, no⟩ | ⟨q, q1, q2, e2, q3⟩
    · have := no r r1
      rw [er, r2, Int.toNat_natCast] at this
      exact absurd t2 this
    · obtain ⟨u, u1, u2⟩ := zqvl (g := G) q1
      rw [er, u2, Int.toNat_natCast] at q2
      rw [e2, er, u2]
      by_cases ek : u = k
      · rw [ek]
      · have b := k3 u u1.1 ((cd u u1.1).mpr ⟨u1, q2⟩) ek
        have b2 : zclt f u k = true := b
        rw [zqlt h.2.1 hK u1 t1] at b2
        have qr := zqbf hK q1 r1 u2 r2 b2
        have := q3 r qr r1
        rw [er, r2, Int.toNat_natCast] at this
        exact absurd t2 this
theorem zqA_174 (hW : zqW m M) (c0 : cc 0 = 1) {x y : Int} : zqAg L M 174 [.inr (.inr 2), .inl x, .inl y] 296 [.inr (.inr 1153), .inl x, .inl y] cc := by
  have hR := hW.1.1
  have rel := hW.1.2.1
  by_cases h : (0 ≤ x ∧ x ≤ 120) ∧ 0 ≤ y ∧ y ≤ 120
  · refine zqAg_ok (m' := m) (fun Q => c174_g hR (zqR_bk rel) (zqR_ly rel) (fun i hi t => ((zqR_mw rel).2.2 i hi t).1) h.1 h.2) rfl rfl rfl (fun B b1 b2 b3 => ⟨zwI B (zrg (zrtw B.2.1 0)), fun Q => ?_, rfl, rfl, zqW_t hW b3 b2 (fun b j q1 q2 q3 q4 => ?_), ?_⟩)
    · have rl := zqR_tw hW (B := B) (fun b j _ => by rw [b1]) (fun j => by rw [b2 1162 (by omega)]) b3 0
      rw [zqht rl]
      refine c296_g (by rw [b3]; exact hR) (zqR_rbk rl) (fun j hj => ?_) h.1 h.2
      obtain ⟨v, ⟨v1, v2⟩, v3⟩ := zqvl hj
      have so := (rl.2.2.2.2.2.2.2.1 v v1 v2).2
      have ly := (rl.2.1 v v1 v2).2.2.2.1
      have sp := zqO_sp so
      have e7 : zrg (zrtw B.2.1 0) 1167 v = zrtw B.2.1 0 1167 v := zrg_o ⟨by omega, by omega⟩
      have a4 : zrg (zrtw B.2.1 0) 1174 v = zrtw B.2.1 0 1174 v := zrg_o ⟨by omega, by omega⟩
      have a5 : zrg (zrtw B.2.1 0) 1175 v = zrtw B.2.1 0 1175 v := zrg_o ⟨by omega, by omega⟩
      have a6 : zrN (zrg (zrtw B.2.1 0)) v = zrN (zrtw B.2.1 0) v := funext fun p => zrg_o ⟨by omega, by omega⟩
      have a7 : zrX (zrg (zrtw B.2.1 0)) v = zrX (zrtw B.2.1 0) v := funext fun p => funext fun q => zrg_o ⟨by omega, by omega⟩
      have a8 : zrY (zrg (zrtw B.2.1 0)) v = zrY (zrtw B.2.1 0) v := funext fun p => funext fun q => zrg_o ⟨by omega, by omega⟩
      refine ⟨v, v1, (zrg_r j).trans v3, ?_, by rw [e7]; exact ly.1, by rw [e7]; exact ly.2⟩
      unfold zrSp
      rw [a4, a5, a6, a7, a8]
      exact sp
    · show zrg (zrtw B.2.1 0) b j = _
      rw [zrg_o ⟨by omega, by omega⟩]
      unfold zrtw
      rw [zu2_sj (by omega), b1]
    · show zrg (zrtw B.2.1 0) 1153 0 = 0
      rw [zrg_o ⟨by omega, by omega⟩]
      exact zu2_eq _ _ _ _
  · exact zqAg_no (e := 0) (d := 1) hW (by omega) (fun Q => c174_0 h) (.inl 0) (fun B b1 b2 Q => c296_1 h) c0
end ZASKQ4
/-! rings, the tape: alike -/
section ZASKQ5
variable {L m n : Nat} {M N : zM} {s : Nat} {Q : zO → zM → Prop} {f g : Nat → Nat → Int} {cc : Nat → Int}
theorem zrnd_u {nx : Nat → Int} {s : Int} : ∀ (k l : Nat) (x : Int), k ≤ l → zrnd nx s k x → zrnd nx s l x
  | 0, _, _, _, h => h.elim
  | k + 1, 0, _, hl, _ => absurd hl (by omega)
  | k + 1, l + 1, x, hl, h => by
    rcases h with h | h | h
    · exact Or.inl h
    · exact Or.inr (Or.inl h)
    · exact Or.inr (Or.inr (zrnd_u k l _ (by omega) h))
theorem zcnt_1 {p : Nat → Bool} : ∀ m i, i < m → p i = true → 1 ≤ zcnt p m
  | 0, i, h, _ => absurd h (Nat.not_lt_zero i)
  | m + 1, i, h, hp => by
    rw [zcnt_s]
    by_cases e : i = m
    · subst e
      rw [if_pos hp]
      omega
    · have := zcnt_1 m i (by omega) hp
      split <;> omega
/-- a chain among m that ends or comes to s, does so within m steps -/
theorem zqpid {nx : Nat → Int} {m s : Nat} (hs : s < m) (hb : ∀ i, i < m → nx i = -1 ∨ (0 ≤ nx i ∧ nx i < (m : Int))) (K : Nat) (i : Nat) (hi : i < m) (h : zrnd nx (s : Int) K (i : Int)) : zrnd nx (s : Int) m (i : Int) := by
  have eP : ∃ P : Nat → Nat → Bool, ∀ k j, P k j = true ↔ zrnd nx (s : Int) k (j : Int) := ⟨fun k j => @decide (zrnd nx (s : Int) k (j : Int)) (Classical.propDecidable _), fun k j => @decide_eq_true_iff _ (Classical.propDecidable _)⟩
  obtain ⟨P, hP⟩ := eP
  have stab : ∀ k, 1 ≤ k → (∀ j, j < m → zrnd nx (s : Int) (k + 1) (j : Int) → zrnd nx (s : Int) k (j : Int)) → ∀ l j, j < m → zrnd nx (s : Int) l (j : Int) → zrnd nx (s : Int) k (j : Int) := by
    intro k hk h1 l
    induction l with
    | zero => exact fun j _ h => h.elim
    | succ l ih =>
      intro j hj h2
      refine h1 j hj ?_
      rcases h2 with h2 | h2 | h2
      · exact Or.inl h2
      · exact Or.inr (Or.inl h2)
      · refine Or.inr (Or.inr ?_)
        rw [Int.toNat_natCast] at *
        rcases hb j hj with e | ⟨e1, e2⟩
        · rw [e]
          cases k with
          | zero => omega
          | succ k => exact Or.inl rfl
        · have e3 : nx j = ((nx j).toNat : Int) := by omega
          rw [e3] at h2 ⊢
          exact ih _ (by omega) h2
  have main : ∀ k, 1 ≤ k → (∀ l j, j < m → zrnd nx (s : Int) l (j : Int) → zrnd nx (s : Int) k (j : Int)) ∨ k ≤ zcnt (P k) m := by
    intro k
    induction k with
    | zero => exact fun h => absurd h (by omega)
    | succ k ih =>
      intro _
      by_cases k0 : k = 0
      · subst k0
        exact Or.inr (zcnt_1 m s hs ((hP _ _).mpr (Or.inr (Or.inl rfl))))
      · have sub : ∀ j, j < m → P k j = true → P (k + 1) j = true := fun j _ h => (hP _ _).mpr (zrnd_u k (k + 1) _ (by omega) ((hP _ _).mp h))
        obtain ⟨c1, c2⟩ := zcnt_m m sub
        rcases ih (by omega) with ih | ih
        · exact Or.inl (fun l j hj h => zrnd_u k (k + 1) _ (by omega) (ih l j hj h))
        · by_cases e : zcnt (P k) m = zcnt (P (k + 1)) m
          · have c3 := c2 e
            exact Or.inl (fun l j hj h => zrnd_u k (k + 1) _ (by omega) (stab k (by omega) (fun j hj h => (hP _ _).mp (c3 j hj ((hP _ _).mpr h))) l j hj h))
          · exact Or.inr (by omega)
  rcases main m (by omega) with a | a
  · exact a K i hi h
  · exact (hP _ _).mp (zcnt_f m a i hi)
theorem zrng_le {nx : Nat → Int} {s : Int} : ∀ (k n : Nat) (x : Int), zrng nx s k n x = 0 ∨ zrng nx s k n x < (n : Int) + (k : Int)
  | 0, _, _ => Or.inl rfl
  | k + 1, n, x => by
    rw [zrng_s]
    by_cases c : x = -1
    · rw [if_pos c]; exact Or.inl rfl
    · rw [if_neg c]
      by_cases d : x = s
      · rw [if_pos d]; exact Or.inr (by omega)
      · rw [if_neg d]
        rcases zrng_le (nx := nx) (s := s) k (n + 1) (nx x.toNat) with e | e
        · exact Or.inl e
        · exact Or.inr (by omega)
theorem zqrit {v : Nat → Int} {s b G : Int} : ∀ (K k0 : Nat), zrng v s K (k0 + 1) (zrrn v s b (k0 + 1)) = G → ∀ k : Nat, k0 + 1 ≤ k → (k : Int) < G → zrrn v s b k ≠ -1
  | 0, k0, e, k, h1, h2 => by
    have : (0 : Int) = G := e
    omega
  | K + 1, k0, e, k, h1, h2 => by
    rw [zrng_s] at e
    by_cases c : zrrn v s b (k0 + 1) = -1
    · rw [if_pos c] at e
      omega
    · rw [if_neg c] at e
      by_cases c2 : zrrn v s b (k0 + 1) = s
      · rw [if_pos c2] at e
        omega
      · rw [if_neg c2] at e
        by_cases q : k = k0 + 1
        · rw [q]; exact c
        · exact zqrit K (k0 + 1) e k (by omega) h2
theorem zqrm {u v : Nat → Int} {P : Nat → Prop} (h : ∀ i, P i → u i = v i ∧ (v i = -1 ∨ (0 ≤ v i ∧ P (v i).toNat))) {s b : Int} {n : Nat} (hs : 0 ≤ s ∧ P s.toNat) (hb : 0 ≤ b ∧ P b.toNat) (hn : ∀ k, 1 ≤ k → k ≤ n → zrrn v s b k ≠ -1) : ∀ k, k ≤ n → zrm u s b k = zrrn v s b k ∧ 0 ≤ zrrn v s b k ∧ P (zrrn v s b k).toNat
  | 0, _ => ⟨rfl, hs⟩
  | 1, _ => by
    refine ⟨?_, hb⟩
    show (if s = -1 then (-1 : Int) else b) = b
    rw [if_neg (by omega)]
  | k + 2, hk => by
    obtain ⟨i1, i2, i3⟩ := zqrm h hs hb hn (k + 1) (by omega)
    obtain ⟨v1, v2⟩ := h _ i3
    have ne := hn (k + 2) (by omega) hk
    have ev : zrrn v s b (k + 2) = v (zrrn v s b (k + 1)).toNat := rfl
    rw [ev] at ne
    rw [zrm_s, i1, if_neg (by omega), if_neg (by omega), ev, v1]
    rcases v2 with v2 | v2
    · exact absurd v2 ne
    · exact ⟨rfl, v2⟩
theorem zqA_157 (hW : zqW m M) (c2 : cc 2 = 1) {i j n : Int} : zqAg L M 157 [.inr (.inr 2), .inl i, .inl j, .inl n] 278 [.inr (.inr 1153), .inl i, .inl j, .inl n] cc := by
  have hR := hW.1.1
  have rel := hW.1.2.1
  have h01 := zqR_01 rel
  by_cases k0 : zth M.2.1 i ∧ zth M.2.1 j
  · obtain ⟨k1, k2⟩ := k0
    obtain ⟨s, rfl, hs, ts, _⟩ := zqsh hW k1
    obtain ⟨t, rfl, ht, tt, _⟩ := zqsh hW k2
    have lv := zqR_lv rel
    have er : zrng (zld M.2.1) (s : Int) 60 1 (t : Int) = zrng (M.2.1 1172) (s : Int) 60 1 (t : Int) := zqrng (P := fun i => i < 60 ∧ M.2.1 1166 i = 1) lv _ 60 1 _ (Or.inr ⟨by omega, by rw [Int.toNat_natCast]; exact ⟨ht, tt⟩⟩)
    have nn := zrng_nn (M.2.1 1172) (s : Int) 60 1 (t : Int)
    have le := zrng_le (nx := M.2.1 1172) (s := (s : Int)) 60 1 (t : Int)
    have he : zrnd (M.2.1 1172) (s : Int) 60 (t : Int) := by
      refine zqpid hs (fun i hi => ?_) 61 t ht (zrnd_e 61 _ (Or.inr ?_))
      · obtain ⟨a, b, _⟩ := rel.2.2.2.1.2.1 i hi
        omega
      · rw [Int.toNat_natCast]
        exact rel.2.2.2.1.2.2 t ht
    have eC : ∀ B : zM, B.2.1 = M.2.1 → B.2.2.2 = M.2.2.2 → ∀ Q9 : zO → zM → Prop, zFR (zK L) 227 0 (zcall 227 [.inr (.inr 1153), .inl (s : Int), .inl (t : Int)]) [] (zwI B (zrtw B.2.1 0)) Q9 = Q9 (.inl (some (.inl (zrng (M.2.1 1172) (s : Int) 60 1 (t : Int))))) (zwI B (zrtw B.2.1 0)) := fun B b1 b2 Q9 => by
      have e72 : (zwI B (zrtw B.2.1 0)).2.1 1172 = M.2.1 1172 := funext fun j => (show zrtw B.2.1 0 1172 j = _ from (zrtw_a (by omega)).trans (by rw [b1]))
      have r := c227 (L := L) (M := zwI B (zrtw B.2.1 0)) (Q := Q9) (s := s) (l := (t : Int)) (by show zLay B.2.2.2; rw [b2]; exact hR) (fun i hi => by rw [e72]; exact zqR_rld rel i hi) (by omega) (by rw [e72]; exact he)
      rw [e72] at r
      exact r
    have e72 : ∀ B : zM, B.2.1 = M.2.1 → B.2.1 1172 = M.2.1 1172 := fun B b1 => by rw [b1]
    generalize hG : zrng (M.2.1 1172) (s : Int) 60 1 (t : Int) = G at *
    by_cases n1 : n = -1
    · subst n1
      refine zqAg_o0 hW (fun Q => c157_m hR h01 (zqR_ld rel) hs k1 k2) (fun B b1 b2 Q => ?_)
      rw [er]
      exact c278_m (by rw [b2]; exact hR) (by rw [b1]; exact zqR_r01 rel) ((zqth_iff hW b1).mp k1) ((zqth_iff hW b1).mp k2) (eC B b1 b2)
    · by_cases n2 : 0 ≤ n ∧ n < G
      · obtain ⟨q, rfl⟩ : ∃ q : Nat, n = (q : Int) := ⟨n.toNat, by omega⟩
        have it : ∀ k, 1 ≤ k → k ≤ q → zrrn (M.2.1 1172) (s : Int) (t : Int) k ≠ -1 := fun k h1 h2 => zqrit 60 0 hG k h1 (by omega)
        have zm := zqrm (P := fun i => i < 60 ∧ M.2.1 1166 i = 1) (u := zld M.2.1) lv (s := (s : Int)) (b := (t : Int)) (n := q) ⟨by omega, by rw [Int.toNat_natCast]; exact ⟨hs, ts⟩⟩ ⟨by omega, by rw [Int.toNat_natCast]; exact ⟨ht, tt⟩⟩ it
        refine zqAg_o0 hW (fun Q => c157_g hR h01 (zqR_ld rel) hs k1 k2 (by rw [er]; exact n2.2) (by rw [er]; omega)) (fun B b1 b2 Q => ?_)
        have r := c278_g (L := L) (M := B) (Q := Q) (s := s) (b := (t : Int)) (g := G) (n := q) (by rw [b2]; exact hR) (by rw [b1]; exact zqR_r01 rel) ((zqth_iff hW b1).mp k1) ((zqth_iff hW b1).mp k2) (eC B b1 b2) (by omega) (by omega) (fun k hk => by
          rw [e72 B b1]
          obtain ⟨_, z2, z3, _⟩ := zm k (by omega)
          exact ⟨z2, by omega⟩)
        rw [e72 B b1] at r
        rw [(zm q (Nat.le_refl _)).1]
        exact r
      · exact zqAg_no (e := 2) (d := 1) hW (by omega) (fun Q => c157_2 hR h01 (zqR_ld rel) hs k1 k2 n1 (by rw [er]; exact n2)) (.inl 0) (fun B b1 b2 Q => c278_2 (by rw [b2]; exact hR) (by rw [b1]; exact zqR_r01 rel) ((zqth_iff hW b1).mp k1) ((zqth_iff hW b1).mp k2) (eC B b1 b2) n1 (by omega) (by omega)) c2
  · exact zqAg_no (e := 2) (d := 1) hW (by omega) (fun Q => c157_0 hR h01 k0) (.inl 0) (fun B b1 b2 Q => c278_1 (by rw [b2]; exact hR) (by rw [b1]; exact zqR_r01 rel) (fun k => k0 ⟨(zqth_iff hW b1).mpr k.1, (zqth_iff hW b1).mpr k.2⟩)) c2
-- the tape
theorem zqA_124 (hW : zqW m M) : zqAg L M 124 [.inr (.inr 2)] 334 [.inr (.inr 1153)] cc := by
  have hR := hW.1.1
  have hp := hW.2.2.1
  have old : ∀ (B : zM), B.2.1 = zu2 M.2.1 1101 0 0 → ∀ b j, (b ≠ 1101 ∨ j ≠ 0) → (b ≠ 1153 ∨ j ≠ 0) → (b ≠ 1153 ∨ j ≠ 5) → zu2 (zrtw B.2.1 0) 1153 5 0 b j = M.2.1 b j := fun B b1 b j q1 q2 q3 => by
    unfold zrtw
    rw [zu2_sj q3, zu2_sj q2, b1, zu2_sj q1]
  refine zqAg_ok (m' := m) (fun Q => c124 hR) rfl rfl rfl (fun B b1 b2 b3 => ⟨zwI B (zu2 (zrtw B.2.1 0) 1153 5 0), fun Q => ?_, rfl, rfl, zqW_y hW b3 (fun b j hb => old B b1 b j (by omega) (by omega) (by omega)) ⟨?_, ?_, ?_, ?_⟩ b2, ?_⟩)
  · have r := c334 (L := L) (M := B) (Q := Q)
    have e : B.2.1 1153 5 = M.2.1 1101 0 := by
      rw [b1]
      show zu2 M.2.1 1101 0 0 1153 5 = _
      rw [zu2_sj (by omega)]
      exact hp.1.2.2
    rw [← e]
    exact r
  · exact zqPen_c hW.2.1 (fun b j hb => old B b1 b j (by omega) (by omega) (by omega))
  · have e5 : zu2 (zrtw B.2.1 0) 1153 5 0 1153 5 = 0 := zu2_eq _ _ _ _
    have e1 : zu2 (zrtw B.2.1 0) 1153 5 0 1101 0 = 0 := by
      unfold zrtw
      rw [zu2_sj (by omega), zu2_sj (by omega), b1]
      show zu2 M.2.1 1101 0 0 1101 0 = 0
      exact zu2_eq _ _ _ _
    show zqTap (zu2 (zrtw B.2.1 0) 1153 5 0)
    unfold zqTap
    rw [e5, e1]
    refine ⟨by omega, fun j hj => ?_, fun j hj => absurd hj (by omega)⟩
    rw [old B b1 1102 j (by omega) (by omega) (by omega), old B b1 1156 j (by omega) (by omega) (by omega)]
    exact hp.2.1 j hj
  · exact zqShe_c hW.2.2.2.1 (fun b j hb => old B b1 b j (by omega) (by omega) (by omega))
  · exact zqMis_c hW.2.2.2.2 (fun b j hb => old B b1 b j (by omega) (by omega) (by omega))
  · show zu2 (zrtw B.2.1 0) 1153 5 0 1153 0 = 0
    unfold zrtw
    rw [zu2_sj (by omega), zu2_eq]
theorem zqA_187 (hW : zqW m M) (c0 : cc 0 = 1) (c1 : cc 1 = 2) {x : Int} : zqAg L M 187 [.inr (.inr 2), .inl x] 333 [.inr (.inr 1153), .inl x] cc := by
  have hR := hW.1.1
  obtain ⟨⟨p1, p2, p3⟩, p4, p5⟩ := hW.2.2.1
  by_cases h : 32 ≤ x ∧ x ≤ 126
  · by_cases h8 : M.2.1 1101 0 = 80
    · exact zqAg_no (e := 1) (d := 2) hW (by omega) (fun Q => c187_1 hR h h8) (.inl 0) (fun B b1 b2 Q => c333_2 h (by rw [b1, p3, h8])) c1
    · obtain ⟨n, hn⟩ : ∃ n : Nat, M.2.1 1101 0 = (n : Int) := ⟨(M.2.1 1101 0).toNat, by omega⟩
      have n8 : n < 80 := by omega
      have tx : ∀ b j, (b ≠ 1101 ∨ j ≠ 0) → b ≠ 1102 → ztx M.2.1 1101 (zup (M.2.1 1102) n x) (n + 1) b j = M.2.1 b j := fun b j q1 q2 => by
        unfold ztx
        rw [if_neg (by omega), if_neg q2]
      have old : ∀ (B : zM), B.2.1 = ztx M.2.1 1101 (zup (M.2.1 1102) n x) (n + 1) → ∀ b j, (b ≠ 1101 ∨ j ≠ 0) → b ≠ 1102 → (b ≠ 1156 ∨ j ≠ n) → (b ≠ 1153 ∨ j ≠ 0) → (b ≠ 1153 ∨ j ≠ 5) → zu2 (zu2 (zrtw B.2.1 0) 1156 n x) 1153 5 ((n : Int) + 1) b j = M.2.1 b j := fun B b1 b j q1 q2 q3 q4 q5 => by
        unfold zrtw
        rw [zu2_sj q5, zu2_sj q3, zu2_sj q4, b1]
        exact tx b j q1 q2
      refine zqAg_ok (m' := m) (fun Q => c187_g hR h hn n8) rfl rfl rfl (fun B b1 b2 b3 => ⟨zwI B (zu2 (zu2 (zrtw B.2.1 0) 1156 n x) 1153 5 ((n : Int) + 1)), fun Q => ?_, rfl, rfl, zqW_y hW b3 (fun b j hb => old B b1 b j (by omega) (by omega) (by omega) (by omega) (by omega)) ⟨?_, ?_, ?_, ?_⟩ b2, ?_⟩)
      · refine c333_g (by rw [b3]; exact hR) h ?_ n8
        rw [b1]
        exact (tx 1153 5 (by omega) (by omega)).trans (p3.trans hn)
      · exact zqPen_c hW.2.1 (fun b j hb => old B b1 b j (by omega) (by omega) (by omega) (by omega) (by omega))
      · have b1' : B.2.1 = ztx M.2.1 1101 (zup (M.2.1 1102) n x) (n + 1) := b1
        have e5 : zu2 (zu2 (zrtw B.2.1 0) 1156 n x) 1153 5 ((n : Int) + 1) 1153 5 = (n : Int) + 1 := zu2_eq _ _ _ _
        have e1 : zu2 (zu2 (zrtw B.2.1 0) 1156 n x) 1153 5 ((n : Int) + 1) 1101 0 = (n : Int) + 1 := by
          unfold zrtw
          rw [zu2_sj (by omega), zu2_sj (by omega), zu2_sj (by omega), b1', ztx_c, Int.natCast_succ]
        have e2 : ∀ j, zu2 (zu2 (zrtw B.2.1 0) 1156 n x) 1153 5 ((n : Int) + 1) 1102 j = if j = n then x else M.2.1 1102 j := fun j => by
          unfold zrtw
          rw [zu2_sj (by omega), zu2_sj (by omega), zu2_sj (by omega), b1']
          unfold ztx
          rw [if_neg (by omega), if_pos rfl]
          rfl
        have e3 : ∀ j, zu2 (zu2 (zrtw B.2.1 0) 1156 n x) 1153 5 ((n : Int) + 1) 1156 j = if j = n then x else M.2.1 1156 j := fun j => by
          by_cases q : j = n
          · rw [if_pos q, q, zu2_sj (by omega), zu2_eq]
          · rw [if_neg q]
            exact old B b1' 1156 j (by omega) (by omega) (by omega) (by omega) (by omega)
        show zqTap (zu2 (zu2 (zrtw B.2.1 0) 1156 n x) 1153 5 ((n : Int) + 1))
        unfold zqTap
        rw [e5, e1]
        refine ⟨by omega, fun j hj => ?_, fun j hj => ?_⟩
        · rw [e2, e3]
          by_cases q : j = n
          · rw [if_pos q, if_pos q]; omega
          · rw [if_neg q, if_neg q]; exact p4 j hj
        · rw [e2, e3]
          by_cases q : j = n
          · rw [if_pos q, if_pos q]
          · rw [if_neg q, if_neg q]; exact p5 j (by omega)
      · exact zqShe_c hW.2.2.2.1 (fun b j hb => old B b1 b j (by omega) (by omega) (by omega) (by omega) (by omega))
      · exact zqMis_c hW.2.2.2.2 (fun b j hb => old B b1 b j (by omega) (by omega) (by omega) (by omega) (by omega))
      · show zu2 (zu2 (zrtw B.2.1 0) 1156 n x) 1153 5 ((n : Int) + 1) 1153 0 = 0
        unfold zrtw
        rw [zu2_sj (by omega), zu2_sj (by omega), zu2_eq]
  · exact zqAg_no (e := 0) (d := 1) hW (by omega) (fun Q => c187_0 h) (.inl 0) (fun B b1 b2 Q => c333_1 h) c0
end ZASKQ5
