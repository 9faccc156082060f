/-! both note a change after more than the told kind -/
section ZAGREE2Q
variable {L m : Nat} {M M0 C2 : zM}
theorem zqAg_g2 {mc mr : Nat} {ac ar : List zV} {cc : Nat → Int} {e : Int} (T : zM → zM) (h01 : M.1 = M0.1) (h02 : M.2.2.1 1205 = M0.2.2.1 1205) (h03 : M.2.2.2 = M0.2.2.2) (hW : zqW m M) (hm6 : m < 60) (hc : zqCw m C2 M) (hl : C2.2.2.1 1205 = M.2.2.1 1205) (c1 : C2.1 = M.1) (told : ∀ B : zM, B.2.2.2 = M.2.2.2 → (∀ b j, 1153 ≤ b → B.2.1 b j = M.2.1 b j) → zqTold m (T B) B ∧ (∀ b j, zqXs b j → (T B).2.1 b j = B.2.1 b j) ∧ (T B).1 = B.1 ∧ (T B).2.2.1 1205 = B.2.2.1 1205 ∧ zqJe C2 (T B) m) (eC : ∀ (v : Int) (M9 : zM), (∀ Q : zO → zM → Prop, zFR (zK L) 10 0 (zcall 10 [.inr (.inr 3), .inr (.inr (855 + 4 * m)), .inl (m : Int)]) [] C2 Q = Q (.inl (some (.inl v))) M9) → M9.2.2.2 = M.2.2.2 → M9.2.1 2 2 = (m : Int) → (∀ b j, 1095 ≤ b → M9.2.1 b j = M.2.1 b j) → ∀ Q : zO → zM → Prop, zFR (zK L) mc 0 (zcall mc ac) [] M0 Q = ((v = -1 → Q (.inr 1) (zthrown M9)) ∧ (¬ v = -1 → Q (.inl (some (.inl v))) (zwI M9 (zu2 (zu2 M9.2.1 (855 + 4 * m) 11 1) 2 2 ((m : Int) + 1)))))) (eR0 : ∀ (B M9 : zM), B.2.2.2 = M.2.2.2 → (∀ b j, 1153 ≤ b → B.2.1 b j = M.2.1 b j) → (∀ Q : zO → zM → Prop, zFR (zK L) 192 0 (zcall 192 [.inr (.inr 1153), .inl (m : Int)]) [] (T B) Q = Q (.inl (some (.inl 0))) M9) → ∀ Q : zO → zM → Prop, zFR (zK L) mr 0 (zcall mr ar) [] B Q = Q (.inl (some (.inl 0))) (zwI M9 (zrtw M9.2.1 e))) (eR1 : ∀ (B M9 : zM), B.2.2.2 = M.2.2.2 → (∀ b j, 1153 ≤ b → B.2.1 b j = M.2.1 b j) → (∀ Q : zO → zM → Prop, zFR (zK L) 192 0 (zcall 192 [.inr (.inr 1153), .inl (m : Int)]) [] (T B) Q = Q (.inl (some (.inl 1))) M9) → zLay M9.2.2.2 → M9.2.1 1153 8 = (m : Int) → ∀ Q : zO → zM → Prop, zFR (zK L) mr 0 (zcall mr ar) [] B Q = Q (.inl (some (.inl (M9.2.1 1153 36)))) (zwI M9 (zrmk M9.2.1 m))) (hcc : cc 1 = e) : zqAg L M0 mc ac mr ar cc := by
  have self := told M rfl (fun _ _ _ => rfl)
  obtain ⟨F, v, e1, F22, f1, r⟩ := zqPmk (L := L) (C := M) (N0 := M) (zqsplit hW.1 (fun _ _ _ => rfl) (fun _ => rfl) rfl) hm6 hc self.1 self.2.2.2.2
  have FM : ∀ b j, 1095 ≤ b → F b j = M.2.1 b j := fun b j hb => (f1 b j (by omega)).trans (hc.1 b j (by omega))
  have ec := eC v (zwI C2 F) e1 hc.2.2 F22 FM
  have m8 : M.2.1 1153 8 = (m : Int) := hW.1.2.2.2.1.2
  by_cases hv : v = -1
  · refine ⟨.inr 1, zthrown (zwI C2 F), fun Q => (ec Q).trans (zyes hv), hc.2.2.trans h03, hl.trans h02, fun B b1 b2 b3 b4 => ?_⟩
    have b2' : B.2.1 = F := b2
    have b4' : B.2.2.2 = M.2.2.2 := b4.trans hc.2.2
    have bn : ∀ b j, 1153 ≤ b → B.2.1 b j = M.2.1 b j := fun b j hb => by rw [b2']; exact FM b j (by omega)
    have bl : ∀ j, B.2.2.1 1162 j = M.2.2.1 1162 j := fun j => by
      rw [b3 1162 (by omega)]
      exact hc.2.1 _ _ (by omega)
    obtain ⟨t1, t2, t3, t4, t5⟩ := told B b4' bn
    obtain ⟨G, g1, g2, r⟩ := r B _ (zqsplit hW.1 bn bl b4') t1 t5
    rcases r with ⟨_, e2, r⟩ | ⟨v0, _⟩
    · refine ⟨.inl 0, zwI (T B) (zrtw G e), m, fun Q => eR0 B (zwI (T B) G) b4' bn e2 Q, t3, t4, ⟨zqjoin (r e) (fun b j hb => ?_) (fun _ _ _ => rfl) (fun k j hk => ?_) (fun j => rfl) (t1.2.2.trans (b4'.trans hc.2.2.symm)), ?_⟩, Or.inr ⟨1, by omega, rfl, ?_, ?_⟩⟩
      · show zrtw G e b j = F b j
        unfold zrtw
        rw [zu2_sj (by omega), g1 b j (by omega), t1.1 b j (by omega) (by omega) (by omega) (by omega) (by omega) (by omega), b2']
      · show (T B).2.2.1 (855 + 4 * k) j = C2.2.2.1 (855 + 4 * k) j
        rw [t1.2.1 _ _ (by omega), b3 _ (by omega)]
        rfl
      · refine zqX_c (fun b j hb => ?_) hW.2
        have hb2 := hb
        unfold zqXs at hb
        show zrtw G e b j = _
        unfold zrtw
        rw [zu2_sj (by omega)]
        by_cases q : b = 1153
        · subst q
          rw [g2 j (by omega) (by omega) (by omega), t2 1153 j hb2, bn _ _ (by omega)]
        · rw [g1 b j (by omega), t2 b j hb2, b2']
          exact FM b j (by omega)
      · show zrtw G e 1153 0 = _
        unfold zrtw
        rw [zu2_eq, hcc]
      · show (zthrown (zwI C2 F)).1 = _
        unfold zthrown
        rw [zwI_1, c1, h01]
    · omega
  · refine ⟨.inl (some (.inl v)), _, fun Q => (ec Q).trans (znot hv), hc.2.2.trans h03, hl.trans h02, fun B b1 b2 b3 b4 => ?_⟩
    have b2' : B.2.1 = zu2 (zu2 F (855 + 4 * m) 11 1) 2 2 ((m : Int) + 1) := b2
    have b4' : B.2.2.2 = M.2.2.2 := b4.trans hc.2.2
    have bF : ∀ b j, 1095 ≤ b → B.2.1 b j = M.2.1 b j := fun b j hb => by
      rw [b2', zu2_sj (by omega), zu2_sj (by omega)]
      exact FM b j hb
    have bn : ∀ b j, 1153 ≤ b → B.2.1 b j = M.2.1 b j := fun b j hb => bF b j (by omega)
    have bl : ∀ j, B.2.2.1 1162 j = M.2.2.1 1162 j := fun j => by
      rw [b3 1162 (by omega)]
      exact hc.2.1 _ _ (by omega)
    obtain ⟨t1, t2, t3, t4, t5⟩ := told B b4' bn
    obtain ⟨G, g1, g2, r⟩ := r B _ (zqsplit hW.1 bn bl b4') t1 t5
    rcases r with ⟨v1, _⟩ | ⟨v0, e2, ga, r⟩
    · exact absurd v1 hv
    · have g8 : G 1153 8 = (m : Int) := (g2 8 (by omega) (by omega) (by omega)).trans ((t1.1 1153 8 (by omega) (by omega) (by omega) (by omega) (by omega) (by omega)).trans ((bn _ _ (by omega)).trans m8))
      have lT : zLay (T B).2.2.2 := by rw [t1.2.2, b4']; exact hW.1.1
      refine ⟨.inl v, zwI (T B) (zrmk G m), m + 1, fun Q => ?_, t3, t4, ⟨zqjoin r (fun b j hb => ?_) (fun _ _ _ => rfl) (fun k j hk => ?_) (fun j => rfl) (t1.2.2.trans (b4'.trans hc.2.2.symm)), ?_⟩, Or.inl ⟨rfl, ?_, c1.trans h01⟩⟩
      · have := eR1 B (zwI (T B) G) b4' bn e2 lT g8 Q
        rw [zwI_I, ga] at this
        exact this
      · show zrmk G m b j = zu2 (zu2 F (855 + 4 * m) 11 1) 2 2 ((m : Int) + 1) b j
        unfold zrmk zrtw
        rw [zu2_sj (by omega), zu2_sj (by omega), zu2_sj (by omega), g1 b j (by omega), t1.1 b j (by omega) (by omega) (by omega) (by omega) (by omega) (by omega), b2']
      · show (T B).2.2.1 (855 + 4 * k) j = C2.2.2.1 (855 + 4 * k) j
        rw [t1.2.1 _ _ (by omega), b3 _ (by omega)]
        rfl
      · refine zqX_c (fun b j hb => ?_) hW.2
        have hb2 := hb
        unfold zqXs at hb
        show zrmk G m b j = _
        unfold zrmk zrtw
        rw [zu2_sj (by omega), zu2_sj (by omega), zu2_sj (by omega)]
        by_cases q : b = 1153
        · subst q
          rw [g2 j (by omega) (by omega) (by omega), t2 1153 j hb2, bn _ _ (by omega)]
        · rw [g1 b j (by omega), t2 b j hb2]
          exact bF b j (by omega)
      · show zrmk G m 1153 0 = 0
        unfold zrmk zrtw
        rw [zu2_sj (by omega), zu2_sj (by omega), zu2_eq]
end ZAGREE2Q
/-! new shapes asked for: box, diamond, trace, draw -/
section ZDRAWQ
variable {L m : Nat} {M M0 B C2 : zM} {Q : zO → zM → Prop} {cc : Nat → Int}
/-- a new shape noted by the class -/
def zpnM (M : zM) (m : Nat) (h l c : Int) (n : Nat) (X Y : Nat → Int) : zM := zwI (zdgM M m h l c) (zpset (zdgM M m h l c).2.1 (856 + 4 * m) n X Y)
theorem zpn_cw {h l c : Int} {n : Nat} {X Y : Nat → Int} : zqCw m (zpnM M m h l c n X Y) M := by
  refine ⟨fun b j hb => ?_, fun b j hb => ?_, rfl⟩
  · show zpset (zdgM M m h l c).2.1 (856 + 4 * m) n X Y b j = _
    rw [zpset_ob (by omega), zdg_o (by omega) (by omega)]
  · show zl2 M.2.2.1 (855 + 4 * m) 10 _ b j = _
    unfold zl2
    rw [if_neg (by omega)]
theorem zpn_told {H : Nat → Nat → Int} {k h a b c d : Int} (ho : ∀ b j, ¬ (b = 1163 ∧ j = m) → ¬ ((b = 1164 ∨ b = 1165) ∧ 8 * m ≤ j ∧ j < 8 * m + 8) → ¬ (b = 1153 ∧ (j = 0 ∨ j = 3 ∨ j = 62)) → b ≠ 1189 → b ≠ 1190 → H b j = B.2.1 b j) : zqTold m (zwI B (zrtl H m k h a b c d)) B := by
  refine ⟨fun b9 j9 q1 q2 q3 q4 q5 q6 => ?_, fun _ _ _ => rfl, rfl⟩
  show zrtl H m k h a b c d b9 j9 = _
  unfold zrtl
  rw [zu2_sj (by omega), zu2_sj (by omega), zu2_sj (by omega), zu2_sj (by omega), zu2_sj (by omega), zu2_sj (by omega)]
  exact ho b9 j9 (by omega) q3 q4 q5 q6
theorem zpn_J {H : Nat → Nat → Int} {h l c : Int} {n : Nat} {X Y : Nat → Int} (hh : 0 ≤ h ∧ h ≤ 2) (hl : 0 ≤ l ∧ l ≤ 3) (hc : 1 ≤ c ∧ c ≤ 9) (hn : 3 ≤ n ∧ n ≤ 8) (hv : ∀ j, j < n → (0 ≤ X j ∧ X j ≤ 60) ∧ 0 ≤ Y j ∧ Y j ≤ 60) (hp : zpr (n : Int) X Y 0) (h63 : H 1163 m = (n : Int)) (hx : ∀ j, j < n → H 1164 (8 * m + j) = X j) (hy : ∀ j, j < n → H 1165 (8 * m + j) = Y j) : zqJe (zpnM M m h l c n X Y) (zwI B (zrtl H m 0 h l c 0 0)) m := by
  obtain ⟨t8, t9, u0, u1, u2, u3⟩ := zrtl_v (f := H) (i := m) (k := 0) (h := h) (a := l) (b := c) (c := 0) (d := 0)
  obtain ⟨g0, g1, g2, g3, g4, g5, _⟩ := zbg_v (f := M.2.1) (c := 855 + 4 * m) (w := 0) (h := h) (t := -1)
  have tH : ∀ b j, 1162 < b → b < 1166 → zrtl H m 0 h l c 0 0 b j = H b j := fun b j b1 b2 => by
    unfold zrtl
    rw [zu2_sj (by omega), zu2_sj (by omega), zu2_sj (by omega), zu2_sj (by omega), zu2_sj (by omega), zu2_sj (by omega)]
  have cs : ∀ j, (zpnM M m h l c n X Y).2.1 (855 + 4 * m) j = zu2 (zu2 (zbg M.2.1 (855 + 4 * m) 0 h (-1)) (855 + 4 * m) 4 l) (855 + 4 * m) 5 c (855 + 4 * m) j := fun j => zpset_ob (by omega)
  have s0 : (zpnM M m h l c n X Y).2.1 (855 + 4 * m) 0 = 0 := by rw [cs, zu2_sj (by omega), zu2_sj (by omega), g0]
  have s1 : (zpnM M m h l c n X Y).2.1 (855 + 4 * m) 1 = h := by rw [cs, zu2_sj (by omega), zu2_sj (by omega), g1]
  have s2 : (zpnM M m h l c n X Y).2.1 (855 + 4 * m) 2 = -1 := by rw [cs, zu2_sj (by omega), zu2_sj (by omega), g2]
  have s3 : (zpnM M m h l c n X Y).2.1 (855 + 4 * m) 3 = -1 := by rw [cs, zu2_sj (by omega), zu2_sj (by omega), g3]
  have s4 : (zpnM M m h l c n X Y).2.1 (855 + 4 * m) 4 = l := by rw [cs, zu2_sj (by omega), zu2_eq]
  have s5 : (zpnM M m h l c n X Y).2.1 (855 + 4 * m) 5 = c := by rw [cs, zu2_eq]
  have sn : (zpnM M m h l c n X Y).2.1 (856 + 4 * m) 0 = (n : Int) := zpset_n _ _ _ _ _
  have sx : ∀ j, j < n → (zpnM M m h l c n X Y).2.1 (857 + 4 * m) j = X j := fun j hj => by
    rw [show 857 + 4 * m = 856 + 4 * m + 1 by omega]
    exact zpset_X _ _ hj _ _
  have sy : ∀ j, j < n → (zpnM M m h l c n X Y).2.1 (858 + 4 * m) j = Y j := fun j hj => by
    rw [show 858 + 4 * m = 856 + 4 * m + 2 by omega]
    exact zpset_Y _ _ hj _ _
  have r63 : (zwI B (zrtl H m 0 h l c 0 0)).2.1 1163 m = (n : Int) := (tH 1163 m (by omega) (by omega)).trans h63
  have rx : ∀ j, j < n → (zwI B (zrtl H m 0 h l c 0 0)).2.1 1164 (8 * m + j) = X j := fun j hj => (tH 1164 _ (by omega) (by omega)).trans (hx j hj)
  have ry : ∀ j, j < n → (zwI B (zrtl H m 0 h l c 0 0)).2.1 1165 (8 * m + j) = Y j := fun j hj => (tH 1165 _ (by omega) (by omega)).trans (hy j hj)
  have w8 : (zwI B (zrtl H m 0 h l c 0 0)).2.1 1158 m = 0 := t8
  have w9 : (zwI B (zrtl H m 0 h l c 0 0)).2.1 1159 m = h := t9
  have v0 : (zwI B (zrtl H m 0 h l c 0 0)).2.1 1161 (4 * m) = l := u0
  have v1 : (zwI B (zrtl H m 0 h l c 0 0)).2.1 1161 (4 * m + 1) = c := u1
  generalize zwI B (zrtl H m 0 h l c 0 0) = T at *
  generalize zpnM M m h l c n X Y = C at *
  unfold zqJe
  refine ⟨⟨s1.trans w9.symm, by omega⟩, Or.inl ?_⟩
  unfold zqJ0 zqJw
  rw [r63]
  refine ⟨⟨s0, w8⟩, ⟨s2, s3⟩, s1.trans w9.symm, ⟨s4.trans v0.symm, by omega⟩, ⟨s5.trans v1.symm, by omega⟩, ⟨sn, by omega⟩, fun j hj => ?_, zpr_cg (fun k hk => rx k (by omega)) (fun k hk => ry k (by omega)) hp⟩
  rw [rx j (by omega), ry j (by omega)]
  exact ⟨sx j (by omega), sy j (by omega), hv j (by omega)⟩
/-- the reference's points laid out -/
theorem zrpts_H {F : Nat → Nat → Int} {n : Nat} {X Y : Nat → Int} (hn : n ≤ 8) (hF : ∀ b j, ¬ (b = 1153 ∧ (j = 0 ∨ j = 3 ∨ j = 62)) → b ≠ 1189 → b ≠ 1190 → F b j = B.2.1 b j) : (zrpts F m X Y n 1163 m = (n : Int) ∧ (∀ j, j < n → zrpts F m X Y n 1164 (8 * m + j) = X j) ∧ ∀ j, j < n → zrpts F m X Y n 1165 (8 * m + j) = Y j) ∧ ∀ b j, ¬ (b = 1163 ∧ j = m) → ¬ ((b = 1164 ∨ b = 1165) ∧ 8 * m ≤ j ∧ j < 8 * m + 8) → ¬ (b = 1153 ∧ (j = 0 ∨ j = 3 ∨ j = 62)) → b ≠ 1189 → b ≠ 1190 → zrpts F m X Y n b j = B.2.1 b j := by
  refine ⟨⟨zrpts_k n, fun j hj => ?_, fun j hj => ?_⟩, fun b j q1 q2 q3 q4 q5 => ?_⟩
  · rw [zrpts_x, if_pos (by omega)]
    congr 1
    omega
  · rw [zrpts_y, if_pos (by omega)]
    congr 1
    omega
  · by_cases c : b < 1163 ∨ 1165 < b
    · rw [zrpts_o c]
      exact hF b j q3 q4 q5
    · by_cases c3 : b = 1163
      · subst c3
        rw [zrpts_i (by omega)]
        exact hF _ _ q3 q4 q5
      · by_cases c4 : b = 1164
        · subst c4
          rw [zrpts_x, if_neg (by omega)]
          exact hF _ _ q3 q4 q5
        · have c5 : b = 1165 := by omega
          subst c5
          rw [zrpts_y, if_neg (by omega)]
          exact hF _ _ q3 q4 q5
theorem zpr_bx {x y w g : Int} (hw : 1 ≤ w) (hg : 1 ≤ g) : zpr ((4 : Nat) : Int) (zbx x w) (zby y g) 0 := by
  intro j _ h
  have e : j = 0 ∨ j = 1 ∨ j = 2 ∨ j = 3 := by omega
  have x0 : zbx x w 0 = x := if_neg (by omega)
  have x1 : zbx x w 1 = x + w := if_pos (by omega)
  have x2 : zbx x w 2 = x + w := if_pos (by omega)
  have x3 : zbx x w 3 = x := if_neg (by omega)
  have y0 : zby y g 0 = y := if_pos (by omega)
  have y1 : zby y g 1 = y := if_pos (by omega)
  have y2 : zby y g 2 = y + g := if_neg (by omega)
  have y3 : zby y g 3 = y + g := if_neg (by omega)
  have a0 : zaf ((4 : Nat) : Int) 0 = 1 := if_pos (by omega)
  have a1 : zaf ((4 : Nat) : Int) 1 = 2 := if_pos (by omega)
  have a2 : zaf ((4 : Nat) : Int) 2 = 3 := if_pos (by omega)
  have a3 : zaf ((4 : Nat) : Int) 3 = 0 := if_neg (by omega)
  unfold zwd zcg
  rcases e with rfl | rfl | rfl | rfl
  · rw [a0, x0, x1, y0, y1]; split <;> omega
  · rw [a1, x1, x2, y1, y2]; split <;> omega
  · rw [a2, x2, x3, y2, y3]; split <;> omega
  · rw [a3, x3, x0, y3, y0]; split <;> omega
theorem zpr_dx {x y r : Int} (hr : 1 ≤ r) : zpr ((4 : Nat) : Int) (zdx x r) (zdy y r) 0 := by
  intro j _ h
  have e : j = 0 ∨ j = 1 ∨ j = 2 ∨ j = 3 := by omega
  have x0 : zdx x r 0 = x - r := if_pos (by omega)
  have x1 : zdx x r 1 = x := (if_neg (by omega)).trans (if_neg (by omega))
  have x2 : zdx x r 2 = x + r := (if_neg (by omega)).trans (if_pos (by omega))
  have x3 : zdx x r 3 = x := (if_neg (by omega)).trans (if_neg (by omega))
  have y0 : zdy y r 0 = y := (if_neg (by omega)).trans (if_neg (by omega))
  have y1 : zdy y r 1 = y - r := if_pos (by omega)
  have y2 : zdy y r 2 = y := (if_neg (by omega)).trans (if_neg (by omega))
  have y3 : zdy y r 3 = y + r := (if_neg (by omega)).trans (if_pos (by omega))
  have a0 : zaf ((4 : Nat) : Int) 0 = 1 := if_pos (by omega)
  have a1 : zaf ((4 : Nat) : Int) 1 = 2 := if_pos (by omega)
  have a2 : zaf ((4 : Nat) : Int) 2 = 3 := if_pos (by omega)
  have a3 : zaf ((4 : Nat) : Int) 3 = 0 := if_neg (by omega)
  unfold zwd zcg
  rcases e with rfl | rfl | rfl | rfl
  · rw [a0, x0, x1, y0, y1]; split <;> omega
  · rw [a1, x1, x2, y1, y2]; split <;> omega
  · rw [a2, x2, x3, y2, y3]; split <;> omega
  · rw [a3, x3, x0, y3, y0]; split <;> omega
-- box, the class
theorem c140_0 {h l c x y w g : Int} (kn : ¬ ((0 ≤ h ∧ h < 3) ∧ 0 ≤ l ∧ l < 4)) : zFR (zK L) 140 0 (zcall 140 [.inr (.inr 2), .inl h, .inl l, .inl c, .inl x, .inl y, .inl w, .inl g]) [] M Q = Q (.inr 2) (zthrown M) := by
  refine zFR_det ?_ Q
  by_cases k0 : 0 ≤ h ∧ h < 3
  · have e0 := fun Q => (c131 (L := L) (M := M) (Q := Q) (h := h)).trans (zyes k0)
    have e1 := fun Q => (c132 (L := L) (M := M) (Q := Q) (h := l)).trans (znot (fun k1 => kn ⟨k0, k1⟩))
    refine zW_sound 60 [] ?_
    simp only [ZF140, ZR140, zk_2, ZF131.1, ZF131.2.1, ZF131.2.2.1, ZF132.1, ZF132.2.1, ZF132.2.2.1, e0, e1, zR1_p ZF140.2.2.1, zW_succ, zE_iload, zE_aload, zE_lload, zE_iinc, zE_istore, zE_astore, zE_lstore, zE_iconst, zE_ldc2, zE_iadd, zE_isub, zE_imul, zE_idiv, zE_irem, zE_ineg, zE_iand, zE_ior, zE_ixor, zE_ishl, zE_ishr, zE_land, zE_lor, zE_lxor, zE_lshl, zE_lshr, zE_i2l, zE_lcmp, zE_dup_i, zE_dup_a, zE_dup2_ia, zE_pop_i, zE_pop_a, zE_pop2, zE_goto, zE_if_eq, zE_icmp_eq, zE_if_ne, zE_icmp_ne, zE_if_lt, zE_icmp_lt, zE_if_ge, zE_icmp_ge, zE_if_gt, zE_icmp_gt, zE_if_le, zE_icmp_le, zE_iaload, zE_baload, zE_laload, zE_aaload, zE_iastore, zE_bastore, zE_lastore, zE_aastore, zE_alen, zE_getf0, zE_getf1, zE_getf2, zE_getf3, zE_putf0, zE_putf1, zE_putf2, zE_putf3, zE_new, zE_newa, zE_newq, zE_ireturn, zE_lreturn, zE_areturn, zE_return, zE_athrow, zE_st0, zE_vi0, zE_st1, zE_vi1, zE_st2, zE_vi2, zE_st3, zE_vi3, zE_st4, zE_vi4, zE_st5, zE_vi5, zE_st6, zE_vi6, zE_st7, zE_vi7, zE_st8, zE_vi8, zSt_0, zSL_0, zSt_1n, zSt_1i, zSt_1a, zSt_1l, zSt_2n, zSt_2i, zSt_2a, zSt_2l, zSt_3n, zSt_3i, zSt_3a, zSt_3l, zSt_4n, zSt_4i, zSt_4a, zSt_4l, zSt_5n, zSt_5i, zSt_5a, zSt_5l, zSt_6n, zSt_6i, zSt_6a, zSt_6l, zSt_7n, zSt_7i, zSt_7a, zSt_7l, zSt_8n, zSt_8i, zSt_8a, zSt_8l, zSt_9n, zSt_9i, zSt_9a, zSt_9l, zSt_10n, zSt_10i, zSt_10a, zSt_10l, zSt_11n, zSt_11i, zSt_11a, zSt_11l, zSt_12n, zSt_12i, zSt_12a, zSt_12l, zSt_13n, zSt_13i, zSt_13a, zSt_13l, zSL_1n, zSL_1i, zSL_1a, zSL_1l, zSL_2n, zSL_2i, zSL_2a, zSL_2l, zSL_3n, zSL_3i, zSL_3a, zSL_3l, zSL_4n, zSL_4i, zSL_4a, zSL_4l, zSL_5n, zSL_5i, zSL_5a, zSL_5l, zSL_6n, zSL_6i, zSL_6a, zSL_6l, zSL_7n, zSL_7i, zSL_7a, zSL_7l, zSL_8n, zSL_8i, zSL_8a, zSL_8l, zSL_9n, zSL_9i, zSL_9a, zSL_9l, zSL_10n, zSL_10i, zSL_10a, zSL_10l, zSL_11n, zSL_11i, zSL_11a, zSL_11l, zSL_12n, zSL_12i, zSL_12a, zSL_12l, zLI_0, zLL_0, zLA_0, zLI_1, zLL_1, zLA_1, zLI_2, zLL_2, zLA_2, zLI_3, zLL_3, zLA_3, zLI_4, zLL_4, zLA_4, zLI_5, zLL_5, zLA_5, zLI_6, zLL_6, zLA_6, zLI_7, zLL_7, zLA_7, zLI_8, zLL_8, zLA_8, zLI_9, zLL_9, zLA_9, zLI_10, zLL_10, zLA_10, zLI_11, zLL_11, zLA_11, zLI_12, zLL_12, zLA_12, zLI_13, zLL_13, zLA_13, zst_0, zst_1n, zst_1i, zst_1a, zst_2n, zst_2i, zst_2a, zst_3n, zst_3i, zst_3a, zst_4n, zst_4i, zst_4a, zst_5n, zst_5i, zst_5a, zst_6n, zst_6i, zst_6a, zst_7n, zst_7i, zst_7a, zst_8n, zst_8i, zst_8a, zst_9n, zst_9i, zst_9a, zst_10n, zst_10i, zst_10a, zst_11n, zst_11i, zst_11a, zst_12n, zst_12i, zst_12a, zst_13n, zst_13i, zst_13a, zst_14n, zst_14i, zst_14a, zst_15n, zst_15i, zst_15a, zR1_n, zR1_v, zsum_n, zsum_i, zsum_l, zsum_a, zlen_n, zlen_i, zlen_l, zlen_a, List.not_mem_nil, List.mem_cons, or_false, false_or, or_self, ↓reduceIte, if_false, if_true, Nat.reduceEqDiff, Nat.reduceAdd, Nat.reduceLeDiff, true_and, and_true, reduceCtorEq, ne_eq, Int.toNat_natCast, not_true_eq_false, not_false_eq_true, true_implies, false_implies, implies_true, Int.reduceToNat, Int.toNat_zero, Int.reduceLT, Int.reduceLE, Int.reduceEq, Int.reduceAdd, Int.reduceMul, Int.reduceNeg]
  · have e0 := fun Q => (c131 (L := L) (M := M) (Q := Q) (h := h)).trans (znot k0)
    refine zW_sound 60 [] ?_
    simp only [ZF140, ZR140, zk_2, ZF131.1, ZF131.2.1, ZF131.2.2.1, e0, zR1_p ZF140.2.2.1, zW_succ, zE_iload, zE_aload, zE_lload, zE_iinc, zE_istore, zE_astore, zE_lstore, zE_iconst, zE_ldc2, zE_iadd, zE_isub, zE_imul, zE_idiv, zE_irem, zE_ineg, zE_iand, zE_ior, zE_ixor, zE_ishl, zE_ishr, zE_land, zE_lor, zE_lxor, zE_lshl, zE_lshr, zE_i2l, zE_lcmp, zE_dup_i, zE_dup_a, zE_dup2_ia, zE_pop_i, zE_pop_a, zE_pop2, zE_goto, zE_if_eq, zE_icmp_eq, zE_if_ne, zE_icmp_ne, zE_if_lt, zE_icmp_lt, zE_if_ge, zE_icmp_ge, zE_if_gt, zE_icmp_gt, zE_if_le, zE_icmp_le, zE_iaload, zE_baload, zE_laload, zE_aaload, zE_iastore, zE_bastore, zE_lastore, zE_aastore, zE_alen, zE_getf0, zE_getf1, zE_getf2, zE_getf3, zE_putf0, zE_putf1, zE_putf2, zE_putf3, zE_new, zE_newa, zE_newq, zE_ireturn, zE_lreturn, zE_areturn, zE_return, zE_athrow, zE_st0, zE_vi0, zE_st1, zE_vi1, zE_st2, zE_vi2, zE_st3, zE_vi3, zE_st4, zE_vi4, zE_st5, zE_vi5, zE_st6, zE_vi6, zE_st7, zE_vi7, zE_st8, zE_vi8, zSt_0, zSL_0, zSt_1n, zSt_1i, zSt_1a, zSt_1l, zSt_2n, zSt_2i, zSt_2a, zSt_2l, zSt_3n, zSt_3i, zSt_3a, zSt_3l, zSt_4n, zSt_4i, zSt_4a, zSt_4l, zSt_5n, zSt_5i, zSt_5a, zSt_5l, zSt_6n, zSt_6i, zSt_6a, zSt_6l, zSt_7n, zSt_7i, zSt_7a, zSt_7l, zSt_8n, zSt_8i, zSt_8a, zSt_8l, zSt_9n, zSt_9i, zSt_9a, zSt_9l, zSt_10n, zSt_10i, zSt_10a, zSt_10l, zSt_11n, zSt_11i, zSt_11a, zSt_11l, zSt_12n, zSt_12i, zSt_12a, zSt_12l, zSt_13n, zSt_13i, zSt_13a, zSt_13l, zSL_1n, zSL_1i, zSL_1a, zSL_1l, zSL_2n, zSL_2i, zSL_2a, zSL_2l, zSL_3n, zSL_3i, zSL_3a, zSL_3l, zSL_4n, zSL_4i, zSL_4a, zSL_4l, zSL_5n, zSL_5i, zSL_5a, zSL_5l, zSL_6n, zSL_6i, zSL_6a, zSL_6l, zSL_7n, zSL_7i, zSL_7a, zSL_7l, zSL_8n, zSL_8i, zSL_8a, zSL_8l, zSL_9n, zSL_9i, zSL_9a, zSL_9l, zSL_10n, zSL_10i, zSL_10a, zSL_10l, zSL_11n, zSL_11i, zSL_11a, zSL_11l, zSL_12n, zSL_12i, zSL_12a, zSL_12l, zLI_0, zLL_0, zLA_0, zLI_1, zLL_1, zLA_1, zLI_2, zLL_2, zLA_2, zLI_3, zLL_3, zLA_3, zLI_4, zLL_4, zLA_4, zLI_5, zLL_5, zLA_5, zLI_6, zLL_6, zLA_6, zLI_7, zLL_7, zLA_7, zLI_8, zLL_8, zLA_8, zLI_9, zLL_9, zLA_9, zLI_10, zLL_10, zLA_10, zLI_11, zLL_11, zLA_11, zLI_12, zLL_12, zLA_12, zLI_13, zLL_13, zLA_13, zst_0, zst_1n, zst_1i, zst_1a, zst_2n, zst_2i, zst_2a, zst_3n, zst_3i, zst_3a, zst_4n, zst_4i, zst_4a, zst_5n, zst_5i, zst_5a, zst_6n, zst_6i, zst_6a, zst_7n, zst_7i, zst_7a, zst_8n, zst_8i, zst_8a, zst_9n, zst_9i, zst_9a, zst_10n, zst_10i, zst_10a, zst_11n, zst_11i, zst_11a, zst_12n, zst_12i, zst_12a, zst_13n, zst_13i, zst_13a, zst_14n, zst_14i, zst_14a, zst_15n, zst_15i, zst_15a, zR1_n, zR1_v, zsum_n, zsum_i, zsum_l, zsum_a, zlen_n, zlen_i, zlen_l, zlen_a, List.not_mem_nil, List.mem_cons, or_false, false_or, or_self, ↓reduceIte, if_false, if_true, Nat.reduceEqDiff, Nat.reduceAdd, Nat.reduceLeDiff, true_and, and_true, reduceCtorEq, ne_eq, Int.toNat_natCast, not_true_eq_false, not_false_eq_true, true_implies, false_implies, implies_true, Int.reduceToNat, Int.toNat_zero, Int.reduceLT, Int.reduceLE, Int.reduceEq, Int.reduceAdd, Int.reduceMul, Int.reduceNeg]
theorem c140_1 {h l c x y w g : Int} (hx : zr32 x) (hy : zr32 y) (k0 : 0 ≤ h ∧ h < 3) (k1 : 0 ≤ l ∧ l < 4) (kn : ¬ ((1 ≤ c ∧ c ≤ 9) ∧ zrec x y w g)) : zFR (zK L) 140 0 (zcall 140 [.inr (.inr 2), .inl h, .inl l, .inl c, .inl x, .inl y, .inl w, .inl g]) [] M Q = Q (.inr 0) (zthrown M) := by
  have e0 := fun Q => (c131 (L := L) (M := M) (Q := Q) (h := h)).trans (zyes k0)
  have e1 := fun Q => (c132 (L := L) (M := M) (Q := Q) (h := l)).trans (zyes k1)
  refine zFR_det ?_ Q
  by_cases k2 : 1 ≤ c ∧ c ≤ 9
  · have e2 := fun Q => (c133 (L := L) (M := M) (Q := Q) (v := c)).trans (zyes k2)
    have e3 := fun Q => (c141 (L := L) (M := M) (Q := Q) (x := x) (y := y) (w := w) (h := g) hx hy).trans (znot (fun k3 => kn ⟨k2, k3⟩))
    refine zW_sound 60 [] ?_
    simp only [ZF140, ZR140, zk_2, ZF131.1, ZF131.2.1, ZF131.2.2.1, ZF132.1, ZF132.2.1, ZF132.2.2.1, ZF133.1, ZF133.2.1, ZF133.2.2.1, ZF141.1, ZF141.2.1, ZF141.2.2.1, e0, e1, e2, e3, zR1_p ZF140.2.2.1, zW_succ, zE_iload, zE_aload, zE_lload, zE_iinc, zE_istore, zE_astore, zE_lstore, zE_iconst, zE_ldc2, zE_iadd, zE_isub, zE_imul, zE_idiv, zE_irem, zE_ineg, zE_iand, zE_ior, zE_ixor, zE_ishl, zE_ishr, zE_land, zE_lor, zE_lxor, zE_lshl, zE_lshr, zE_i2l, zE_lcmp, zE_dup_i, zE_dup_a, zE_dup2_ia, zE_pop_i, zE_pop_a, zE_pop2, zE_goto, zE_if_eq, zE_icmp_eq, zE_if_ne, zE_icmp_ne, zE_if_lt, zE_icmp_lt, zE_if_ge, zE_icmp_ge, zE_if_gt, zE_icmp_gt, zE_if_le, zE_icmp_le, zE_iaload, zE_baload, zE_laload, zE_aaload, zE_iastore, zE_bastore, zE_lastore, zE_aastore, zE_alen, zE_getf0, zE_getf1, zE_getf2, zE_getf3, zE_putf0, zE_putf1, zE_putf2, zE_putf3, zE_new, zE_newa, zE_newq, zE_ireturn, zE_lreturn, zE_areturn, zE_return, zE_athrow, zE_st0, zE_vi0, zE_st1, zE_vi1, zE_st2, zE_vi2, zE_st3, zE_vi3, zE_st4, zE_vi4, zE_st5, zE_vi5, zE_st6, zE_vi6, zE_st7, zE_vi7, zE_st8, zE_vi8, zSt_0, zSL_0, zSt_1n, zSt_1i, zSt_1a, zSt_1l, zSt_2n, zSt_2i, zSt_2a, zSt_2l, zSt_3n, zSt_3i, zSt_3a, zSt_3l, zSt_4n, zSt_4i, zSt_4a, zSt_4l, zSt_5n, zSt_5i, zSt_5a, zSt_5l, zSt_6n, zSt_6i, zSt_6a, zSt_6l, zSt_7n, zSt_7i, zSt_7a, zSt_7l, zSt_8n, zSt_8i, zSt_8a, zSt_8l, zSt_9n, zSt_9i, zSt_9a, zSt_9l, zSt_10n, zSt_10i, zSt_10a, zSt_10l, zSt_11n, zSt_11i, zSt_11a, zSt_11l, zSt_12n, zSt_12i, zSt_12a, zSt_12l, zSt_13n, zSt_13i, zSt_13a, zSt_13l, zSL_1n, zSL_1i, zSL_1a, zSL_1l, zSL_2n, zSL_2i, zSL_2a, zSL_2l, zSL_3n, zSL_3i, zSL_3a, zSL_3l, zSL_4n, zSL_4i, zSL_4a, zSL_4l, zSL_5n, zSL_5i, zSL_5a, zSL_5l, zSL_6n, zSL_6i, zSL_6a, zSL_6l, zSL_7n, zSL_7i, zSL_7a, zSL_7l, zSL_8n, zSL_8i, zSL_8a, zSL_8l, zSL_9n, zSL_9i, zSL_9a, zSL_9l, zSL_10n, zSL_10i, zSL_10a, zSL_10l, zSL_11n, zSL_11i, zSL_11a, zSL_11l, zSL_12n, zSL_12i, zSL_12a, zSL_12l, zLI_0, zLL_0, zLA_0, zLI_1, zLL_1, zLA_1, zLI_2, zLL_2, zLA_2, zLI_3, zLL_3, zLA_3, zLI_4, zLL_4, zLA_4, zLI_5, zLL_5, zLA_5, zLI_6, zLL_6, zLA_6, zLI_7, zLL_7, zLA_7, zLI_8, zLL_8, zLA_8, zLI_9, zLL_9, zLA_9, zLI_10, zLL_10, zLA_10, zLI_11, zLL_11, zLA_11, zLI_12, zLL_12, zLA_12, zLI_13, zLL_13, zLA_13, zst_0, zst_1n, zst_1i, zst_1a, zst_2n, zst_2i, zst_2a, zst_3n, zst_3i, zst_3a, zst_4n, zst_4i, zst_4a, zst_5n, zst_5i, zst_5a, zst_6n, zst_6i, zst_6a, zst_7n, zst_7i, zst_7a, zst_8n, zst_8i, zst_8a, zst_9n, zst_9i, zst_9a, zst_10n, zst_10i, zst_10a, zst_11n, zst_11i, zst_11a, zst_12n, zst_12i, zst_12a, zst_13n, zst_13i, zst_13a, zst_14n, zst_14i, zst_14a, zst_15n, zst_15i, zst_15a, zR1_n, zR1_v, zsum_n, zsum_i, zsum_l, zsum_a, zlen_n, zlen_i, zlen_l, zlen_a, List.not_mem_nil, List.mem_cons, or_false, false_or, or_self, ↓reduceIte, if_false, if_true, Nat.reduceEqDiff, Nat.reduceAdd, Nat.reduceLeDiff, true_and, and_true, reduceCtorEq, ne_eq, Int.toNat_natCast, not_true_eq_false, not_false_eq_true, true_implies, false_implies, implies_true, Int.reduceToNat, Int.toNat_zero, Int.reduceLT, Int.reduceLE, Int.reduceEq, Int.reduceAdd, Int.reduceMul, Int.reduceNeg]
  · have e2 := fun Q => (c133 (L := L) (M := M) (Q := Q) (v := c)).trans (znot k2)
    refine zW_sound 60 [] ?_
    simp only [ZF140, ZR140, zk_2, ZF131.1, ZF131.2.1, ZF131.2.2.1, ZF132.1, ZF132.2.1, ZF132.2.2.1, ZF133.1, ZF133.2.1, ZF133.2.2.1, e0, e1, e2, zR1_p ZF140.2.2.1, zW_succ, zE_iload, zE_aload, zE_lload, zE_iinc, zE_istore, zE_astore, zE_lstore, zE_iconst, zE_ldc2, zE_iadd, zE_isub, zE_imul, zE_idiv, zE_irem, zE_ineg, zE_iand, zE_ior, zE_ixor, zE_ishl, zE_ishr, zE_land, zE_lor, zE_lxor, zE_lshl, zE_lshr, zE_i2l, zE_lcmp, zE_dup_i, zE_dup_a, zE_dup2_ia, zE_pop_i, zE_pop_a, zE_pop2, zE_goto, zE_if_eq, zE_icmp_eq, zE_if_ne, zE_icmp_ne, zE_if_lt, zE_icmp_lt, zE_if_ge, zE_icmp_ge, zE_if_gt, zE_icmp_gt, zE_if_le, zE_icmp_le, zE_iaload, zE_baload, zE_laload, zE_aaload, zE_iastore, zE_bastore, zE_lastore, zE_aastore, zE_alen, zE_getf0, zE_getf1, zE_getf2, zE_getf3, zE_putf0, zE_putf1, zE_putf2, zE_putf3, zE_new, zE_newa, zE_newq, zE_ireturn, zE_lreturn, zE_areturn, zE_return, zE_athrow, zE_st0, zE_vi0, zE_st1, zE_vi1, zE_st2, zE_vi2, zE_st3, zE_vi3, zE_st4, zE_vi4, zE_st5, zE_vi5, zE_st6, zE_vi6, zE_st7, zE_vi7, zE_st8, zE_vi8, zSt_0, zSL_0, zSt_1n, zSt_1i, zSt_1a, zSt_1l, zSt_2n, zSt_2i, zSt_2a, zSt_2l, zSt_3n, zSt_3i, zSt_3a, zSt_3l, zSt_4n, zSt_4i, zSt_4a, zSt_4l, zSt_5n, zSt_5i, zSt_5a, zSt_5l, zSt_6n, zSt_6i, zSt_6a, zSt_6l, zSt_7n, zSt_7i, zSt_7a, zSt_7l, zSt_8n, zSt_8i, zSt_8a, zSt_8l, zSt_9n, zSt_9i, zSt_9a, zSt_9l, zSt_10n, zSt_10i, zSt_10a, zSt_10l, zSt_11n, zSt_11i, zSt_11a, zSt_11l, zSt_12n, zSt_12i, zSt_12a, zSt_12l, zSt_13n, zSt_13i, zSt_13a, zSt_13l, zSL_1n, zSL_1i, zSL_1a, zSL_1l, zSL_2n, zSL_2i, zSL_2a, zSL_2l, zSL_3n, zSL_3i, zSL_3a, zSL_3l, zSL_4n, zSL_4i, zSL_4a, zSL_4l, zSL_5n, zSL_5i, zSL_5a, zSL_5l, zSL_6n, zSL_6i, zSL_6a, zSL_6l, zSL_7n, zSL_7i, zSL_7a, zSL_7l, zSL_8n, zSL_8i, zSL_8a, zSL_8l, zSL_9n, zSL_9i, zSL_9a, zSL_9l, zSL_10n, zSL_10i, zSL_10a, zSL_10l, zSL_11n, zSL_11i, zSL_11a, zSL_11l, zSL_12n, zSL_12i, zSL_12a, zSL_12l, zLI_0, zLL_0, zLA_0, zLI_1, zLL_1, zLA_1, zLI_2, zLL_2, zLA_2, zLI_3, zLL_3, zLA_3, zLI_4, zLL_4, zLA_4, zLI_5, zLL_5, zLA_5, zLI_6, zLL_6, zLA_6, zLI_7, zLL_7, zLA_7, zLI_8, zLL_8, zLA_8, zLI_9, zLL_9, zLA_9, zLI_10, zLL_10, zLA_10, zLI_11, zLL_11, zLA_11, zLI_12, zLL_12, zLA_12, zLI_13, zLL_13, zLA_13, zst_0, zst_1n, zst_1i, zst_1a, zst_2n, zst_2i, zst_2a, zst_3n, zst_3i, zst_3a, zst_4n, zst_4i, zst_4a, zst_5n, zst_5i, zst_5a, zst_6n, zst_6i, zst_6a, zst_7n, zst_7i, zst_7a, zst_8n, zst_8i, zst_8a, zst_9n, zst_9i, zst_9a, zst_10n, zst_10i, zst_10a, zst_11n, zst_11i, zst_11a, zst_12n, zst_12i, zst_12a, zst_13n, zst_13i, zst_13a, zst_14n, zst_14i, zst_14a, zst_15n, zst_15i, zst_15a, zR1_n, zR1_v, zsum_n, zsum_i, zsum_l, zsum_a, zlen_n, zlen_i, zlen_l, zlen_a, List.not_mem_nil, List.mem_cons, or_false, false_or, or_self, ↓reduceIte, if_false, if_true, Nat.reduceEqDiff, Nat.reduceAdd, Nat.reduceLeDiff, true_and, and_true, reduceCtorEq, ne_eq, Int.toNat_natCast, not_true_eq_false, not_false_eq_true, true_implies, false_implies, implies_true, Int.reduceToNat, Int.toNat_zero, Int.reduceLT, Int.reduceLE, Int.reduceEq, Int.reduceAdd, Int.reduceMul, Int.reduceNeg]
theorem c140_f {h l c x y w g : Int} (hR : zLay M.2.2.2) (hm : zmd M.2.1 m) (hm6 : ¬ m < 60) (hx : zr32 x) (hy : zr32 y) (k0 : 0 ≤ h ∧ h < 3) (k1 : 0 ≤ l ∧ l < 4) (k2 : 1 ≤ c ∧ c ≤ 9) (k3 : zrec x y w g) : zFR (zK L) 140 0 (zcall 140 [.inr (.inr 2), .inl h, .inl l, .inl c, .inl x, .inl y, .inl w, .inl g]) [] M Q = Q (.inr 1) (zthrown M) := by
  have e0 := fun Q => (c131 (L := L) (M := M) (Q := Q) (h := h)).trans (zyes k0)
  have e1 := fun Q => (c132 (L := L) (M := M) (Q := Q) (h := l)).trans (zyes k1)
  have e2 := fun Q => (c133 (L := L) (M := M) (Q := Q) (v := c)).trans (zyes k2)
  have e3 := fun Q => (c141 (L := L) (M := M) (Q := Q) (x := x) (y := y) (w := w) (h := g) hx hy).trans (zyes k3)
  have e4 := fun Q => (c136 (L := L) (M := M) (Q := Q) (m := m) (h := h) (l := l) (c := c) hR hm).trans (znot hm6)
  refine zFR_det (zW_sound 60 [] ?_) Q
  simp only [ZF140, ZR140, zk_2, ZF131.1, ZF131.2.1, ZF131.2.2.1, ZF132.1, ZF132.2.1, ZF132.2.2.1, ZF133.1, ZF133.2.1, ZF133.2.2.1, ZF141.1, ZF141.2.1, ZF141.2.2.1, ZF136.1, ZF136.2.1, ZF136.2.2.1, e0, e1, e2, e3, e4, zR1_p ZF140.2.2.1, zW_succ, zE_iload, zE_aload, zE_lload, zE_iinc, zE_istore, zE_astore, zE_lstore, zE_iconst, zE_ldc2, zE_iadd, zE_isub, zE_imul, zE_idiv, zE_irem, zE_ineg, zE_iand, zE_ior, zE_ixor, zE_ishl, zE_ishr, zE_land, zE_lor, zE_lxor, zE_lshl, zE_lshr, zE_i2l, zE_lcmp, zE_dup_i, zE_dup_a, zE_dup2_ia, zE_pop_i, zE_pop_a, zE_pop2, zE_goto, zE_if_eq, zE_icmp_eq, zE_if_ne, zE_icmp_ne, zE_if_lt, zE_icmp_lt, zE_if_ge, zE_icmp_ge, zE_if_gt, zE_icmp_gt, zE_if_le, zE_icmp_le, zE_iaload, zE_baload, zE_laload, zE_aaload, zE_iastore, zE_bastore, zE_lastore, zE_aastore, zE_alen, zE_getf0, zE_getf1, zE_getf2, zE_getf3, zE_putf0, zE_putf1, zE_putf2, zE_putf3, zE_new, zE_newa, zE_newq, zE_ireturn, zE_lreturn, zE_areturn, zE_return, zE_athrow, zE_st0, zE_vi0, zE_st1, zE_vi1, zE_st2, zE_vi2, zE_st3, zE_vi3, zE_st4, zE_vi4, zE_st5, zE_vi5, zE_st6, zE_vi6, zE_st7, zE_vi7, zE_st8, zE_vi8, zSt_0, zSL_0, zSt_1n, zSt_1i, zSt_1a, zSt_1l, zSt_2n, zSt_2i, zSt_2a, zSt_2l, zSt_3n, zSt_3i, zSt_3a, zSt_3l, zSt_4n, zSt_4i, zSt_4a, zSt_4l, zSt_5n, zSt_5i, zSt_5a, zSt_5l, zSt_6n, zSt_6i, zSt_6a, zSt_6l, zSt_7n, zSt_7i, zSt_7a, zSt_7l, zSt_8n, zSt_8i, zSt_8a, zSt_8l, zSt_9n, zSt_9i, zSt_9a, zSt_9l, zSt_10n, zSt_10i, zSt_10a, zSt_10l, zSt_11n, zSt_11i, zSt_11a, zSt_11l, zSt_12n, zSt_12i, zSt_12a, zSt_12l, zSt_13n, zSt_13i, zSt_13a, zSt_13l, zSL_1n, zSL_1i, zSL_1a, zSL_1l, zSL_2n, zSL_2i, zSL_2a, zSL_2l, zSL_3n, zSL_3i, zSL_3a, zSL_3l, zSL_4n, zSL_4i, zSL_4a, zSL_4l, zSL_5n, zSL_5i, zSL_5a, zSL_5l, zSL_6n, zSL_6i, zSL_6a, zSL_6l, zSL_7n, zSL_7i, zSL_7a, zSL_7l, zSL_8n, zSL_8i, zSL_8a, zSL_8l, zSL_9n, zSL_9i, zSL_9a, zSL_9l, zSL_10n, zSL_10i, zSL_10a, zSL_10l, zSL_11n, zSL_11i, zSL_11a, zSL_11l, zSL_12n, zSL_12i, zSL_12a, zSL_12l, zLI_0, zLL_0, zLA_0, zLI_1, zLL_1, zLA_1, zLI_2, zLL_2, zLA_2, zLI_3, zLL_3, zLA_3, zLI_4, zLL_4, zLA_4, zLI_5, zLL_5, zLA_5, zLI_6, zLL_6, zLA_6, zLI_7, zLL_7, zLA_7, zLI_8, zLL_8, zLA_8, zLI_9, zLL_9, zLA_9, zLI_10, zLL_10, zLA_10, zLI_11, zLL_11, zLA_11, zLI_12, zLL_12, zLA_12, zLI_13, zLL_13, zLA_13, zst_0, zst_1n, zst_1i, zst_1a, zst_2n, zst_2i, zst_2a, zst_3n, zst_3i, zst_3a, zst_4n, zst_4i, zst_4a, zst_5n, zst_5i, zst_5a, zst_6n, zst_6i, zst_6a, zst_7n, zst_7i, zst_7a, zst_8n, zst_8i, zst_8a, zst_9n, zst_9i, zst_9a, zst_10n, zst_10i, zst_10a, zst_11n, zst_11i, zst_11a, zst_12n, zst_12i, zst_12a, zst_13n, zst_13i, zst_13a, zst_14n, zst_14i, zst_14a, zst_15n, zst_15i, zst_15a, zR1_n, zR1_v, zsum_n, zsum_i, zsum_l, zsum_a, zlen_n, zlen_i, zlen_l, zlen_a, List.not_mem_nil, List.mem_cons, or_false, false_or, or_self, ↓reduceIte, if_false, if_true, Nat.reduceEqDiff, Nat.reduceAdd, Nat.reduceLeDiff, true_and, and_true, reduceCtorEq, ne_eq, Int.toNat_natCast, not_true_eq_false, not_false_eq_true, true_implies, false_implies, implies_true, Int.reduceToNat, Int.toNat_zero, Int.reduceLT, Int.reduceLE, Int.reduceEq, Int.reduceAdd, Int.reduceMul, Int.reduceNeg]
theorem c140_g {h l c x y w g v : Int} {M9 : zM} (hR : zLay M.2.2.2) (hm : zmd M.2.1 m) (hm6 : m < 60) (hx : zr32 x) (hy : zr32 y) (k0 : 0 ≤ h ∧ h < 3) (k1 : 0 ≤ l ∧ l < 4) (k2 : 1 ≤ c ∧ c ≤ 9) (k3 : zrec x y w g) (e10 : ∀ Q : zO → zM → Prop, zFR (zK L) 10 0 (zcall 10 [.inr (.inr 3), .inr (.inr (855 + 4 * m)), .inl (m : Int)]) [] (zpnM M m h l c 4 (zbx x w) (zby y g)) Q = Q (.inl (some (.inl v))) M9) (hR9 : M9.2.2.2 = M.2.2.2) (hm9 : M9.2.1 2 2 = (m : Int)) : zFR (zK L) 140 0 (zcall 140 [.inr (.inr 2), .inl h, .inl l, .inl c, .inl x, .inl y, .inl w, .inl g]) [] M Q = ((v = -1 → Q (.inr 1) (zthrown M9)) ∧ (¬ v = -1 → Q (.inl (some (.inl v))) (zwI M9 (zu2 (zu2 M9.2.1 (855 + 4 * m) 11 1) 2 2 ((m : Int) + 1))))) := by
  have e0 := fun Q => (c131 (L := L) (M := M) (Q := Q) (h := h)).trans (zyes k0)
  have e1 := fun Q => (c132 (L := L) (M := M) (Q := Q) (h := l)).trans (zyes k1)
  have e2 := fun Q => (c133 (L := L) (M := M) (Q := Q) (v := c)).trans (zyes k2)
  have e3 := fun Q => (c141 (L := L) (M := M) (Q := Q) (x := x) (y := y) (w := w) (h := g) hx hy).trans (zyes k3)
  have e4 := fun Q => (c136 (L := L) (M := M) (Q := Q) (m := m) (h := h) (l := l) (c := c) hR hm).trans (zyes hm6)
  unfold zrec at k3
  have e5 := fun Q => c85 (L := L) (M := zdgM M m h l c) (Q := Q) (a := 856 + 4 * m) (x := x) (y := y) (w := w) (h := g) (zPoA_ch hm6) hR (by unfold zr32; omega) (by unfold zr32; omega)
  have e5' : ∀ Q : zO → zM → Prop, zFR (zK L) 85 0 (zcall 85 [.inr (.inr (856 + 4 * m)), .inl x, .inl y, .inl w, .inl g]) [] (zdgM M m h l c) Q = Q (.inl none) (zpnM M m h l c 4 (zbx x w) (zby y g)) := e5
  have hm2 : (zpnM M m h l c 4 (zbx x w) (zby y g)).2.1 2 2 = (m : Int) := (zpn_cw.1 2 2 (by omega)).trans hm.1
  have e138 := fun Q => c138 (L := L) (M := zpnM M m h l c 4 (zbx x w) (zby y g)) (Q := Q) (m := m) (v := v) (M9 := M9) hR hR9 hm2 hm9 hm6 e10
  have kp := (zK_po (L := L) (zPoA_ch hm6)).1
  have r12 : (zdgM M m h l c).2.2.2 (855 + 4 * m) 12 = 856 + 4 * m := (hR.2.2.2 m hm6).2.2
  by_cases hv : v = -1
  · have e138v := fun Q => (e138 Q).trans (zyes hv)
    rw [zFR_det (r0 := .inr 1) (M0 := zthrown M9) (zW_sound 60 [] ?_) Q]
    · exact (zyes hv).symm
    · simp only [ZF140, ZR140, zk_2, zK_ch hm6, kp, r12, ZF131.1, ZF131.2.1, ZF131.2.2.1, ZF132.1, ZF132.2.1, ZF132.2.2.1, ZF133.1, ZF133.2.1, ZF133.2.2.1, ZF141.1, ZF141.2.1, ZF141.2.2.1, ZF136.1, ZF136.2.1, ZF136.2.2.1, ZF85.1, ZF85.2.1, ZF85.2.2.1, ZF138.1, ZF138.2.1, ZF138.2.2.1, e0, e1, e2, e3, e4, e5', e138v, zR1_p ZF140.2.2.1, zW_succ, zE_iload, zE_aload, zE_lload, zE_iinc, zE_istore, zE_astore, zE_lstore, zE_iconst, zE_ldc2, zE_iadd, zE_isub, zE_imul, zE_idiv, zE_irem, zE_ineg, zE_iand, zE_ior, zE_ixor, zE_ishl, zE_ishr, zE_land, zE_lor, zE_lxor, zE_lshl, zE_lshr, zE_i2l, zE_lcmp, zE_dup_i, zE_dup_a, zE_dup2_ia, zE_pop_i, zE_pop_a, zE_pop2, zE_goto, zE_if_eq, zE_icmp_eq, zE_if_ne, zE_icmp_ne, zE_if_lt, zE_icmp_lt, zE_if_ge, zE_icmp_ge, zE_if_gt, zE_icmp_gt, zE_if_le, zE_icmp_le, zE_iaload, zE_baload, zE_laload, zE_aaload, zE_iastore, zE_bastore, zE_lastore, zE_aastore, zE_alen, zE_getf0, zE_getf1, zE_getf2, zE_getf3, zE_putf0, zE_putf1, zE_putf2, zE_putf3, zE_new, zE_newa, zE_newq, zE_ireturn, zE_lreturn, zE_areturn, zE_return, zE_athrow, zE_st0, zE_vi0, zE_st1, zE_vi1, zE_st2, zE_vi2, zE_st3, zE_vi3, zE_st4, zE_vi4, zE_st5, zE_vi5, zE_st6, zE_vi6, zE_st7, zE_vi7, zE_st8, zE_vi8, zSt_0, zSL_0, zSt_1n, zSt_1i, zSt_1a, zSt_1l, zSt_2n, zSt_2i, zSt_2a, zSt_2l, zSt_3n, zSt_3i, zSt_3a, zSt_3l, zSt_4n, zSt_4i, zSt_4a, zSt_4l, zSt_5n, zSt_5i, zSt_5a, zSt_5l, zSt_6n, zSt_6i, zSt_6a, zSt_6l, zSt_7n, zSt_7i, zSt_7a, zSt_7l, zSt_8n, zSt_8i, zSt_8a, zSt_8l, zSt_9n, zSt_9i, zSt_9a, zSt_9l, zSt_10n, zSt_10i, zSt_10a, zSt_10l, zSt_11n, zSt_11i, zSt_11a, zSt_11l, zSt_12n, zSt_12i, zSt_12a, zSt_12l, zSt_13n, zSt_13i, zSt_13a, zSt_13l, zSL_1n, zSL_1i, zSL_1a, zSL_1l, zSL_2n, zSL_2i, zSL_2a, zSL_2l, zSL_3n, zSL_3i, zSL_3a, zSL_3l, zSL_4n, zSL_4i, zSL_4a, zSL_4l, zSL_5n, zSL_5i, zSL_5a, zSL_5l, zSL_6n, zSL_6i, zSL_6a, zSL_6l, zSL_7n, zSL_7i, zSL_7a, zSL_7l, zSL_8n, zSL_8i, zSL_8a, zSL_8l, zSL_9n, zSL_9i, zSL_9a, zSL_9l, zSL_10n, zSL_10i, zSL_10a, zSL_10l, zSL_11n, zSL_11i, zSL_11a, zSL_11l, zSL_12n, zSL_12i, zSL_12a, zSL_12l, zLI_0, zLL_0, zLA_0, zLI_1, zLL_1, zLA_1, zLI_2, zLL_2, zLA_2, zLI_3, zLL_3, zLA_3, zLI_4, zLL_4, zLA_4, zLI_5, zLL_5, zLA_5, zLI_6, zLL_6, zLA_6, zLI_7, zLL_7, zLA_7, zLI_8, zLL_8, zLA_8, zLI_9, zLL_9, zLA_9, zLI_10, zLL_10, zLA_10, zLI_11, zLL_11, zLA_11, zLI_12, zLL_12, zLA_12, zLI_13, zLL_13, zLA_13, zst_0, zst_1n, zst_1i, zst_1a, zst_2n, zst_2i, zst_2a, zst_3n, zst_3i, zst_3a, zst_4n, zst_4i, zst_4a, zst_5n, zst_5i, zst_5a, zst_6n, zst_6i, zst_6a, zst_7n, zst_7i, zst_7a, zst_8n, zst_8i, zst_8a, zst_9n, zst_9i, zst_9a, zst_10n, zst_10i, zst_10a, zst_11n, zst_11i, zst_11a, zst_12n, zst_12i, zst_12a, zst_13n, zst_13i, zst_13a, zst_14n, zst_14i, zst_14a, zst_15n, zst_15i, zst_15a, zR1_n, zR1_v, zsum_n, zsum_i, zsum_l, zsum_a, zlen_n, zlen_i, zlen_l, zlen_a, List.not_mem_nil, List.mem_cons, or_false, false_or, or_self, ↓reduceIte, if_false, if_true, Nat.reduceEqDiff, Nat.reduceAdd, Nat.reduceLeDiff, true_and, and_true, reduceCtorEq, ne_eq, Int.toNat_natCast, not_true_eq_false, not_false_eq_true, true_implies, false_implies, implies_true, Int.reduceToNat, Int.toNat_zero, Int.reduceLT, Int.reduceLE, Int.reduceEq, Int.reduceAdd, Int.reduceMul, Int.reduceNeg]
      all_goals ((repeat' (first | with_reducible refine And.intro ?_ ?_ | with_reducible intro _)) <;> try first | with_reducible rfl | with_reducible assumption | omega | (unfold zr32; omega) | contradiction | (exact absurd (by omega) (by assumption)) | rfl | (simp only [Sum.inl.injEq, Option.some.injEq]; omega))
  · have e138v := fun Q => (e138 Q).trans (znot hv)
    rw [zFR_det (r0 := .inl (some (.inl v))) (M0 := zwI M9 (zu2 (zu2 M9.2.1 (855 + 4 * m) 11 1) 2 2 ((m : Int) + 1))) (zW_sound 60 [] ?_) Q]
    · exact (znot hv).symm
    · simp only [ZF140, ZR140, zk_2, zK_ch hm6, kp, r12, ZF131.1, ZF131.2.1, ZF131.2.2.1, ZF132.1, ZF132.2.1, ZF132.2.2.1, ZF133.1, ZF133.2.1, ZF133.2.2.1, ZF141.1, ZF141.2.1, ZF141.2.2.1, ZF136.1, ZF136.2.1, ZF136.2.2.1, ZF85.1, ZF85.2.1, ZF85.2.2.1, ZF138.1, ZF138.2.1, ZF138.2.2.1, e0, e1, e2, e3, e4, e5', e138v, zR1_p ZF140.2.2.1, zW_succ, zE_iload, zE_aload, zE_lload, zE_iinc, zE_istore, zE_astore, zE_lstore, zE_iconst, zE_ldc2, zE_iadd, zE_isub, zE_imul, zE_idiv, zE_irem, zE_ineg, zE_iand, zE_ior, zE_ixor, zE_ishl, zE_ishr, zE_land, zE_lor, zE_lxor, zE_lshl, zE_lshr, zE_i2l, zE_lcmp, zE_dup_i, zE_dup_a, zE_dup2_ia, zE_pop_i, zE_pop_a, zE_pop2, zE_goto, zE_if_eq, zE_icmp_eq, zE_if_ne, zE_icmp_ne, zE_if_lt, zE_icmp_lt, zE_if_ge, zE_icmp_ge, zE_if_gt, zE_icmp_gt, zE_if_le, zE_icmp_le, zE_iaload, zE_baload, zE_laload, zE_aaload, zE_iastore, zE_bastore, zE_lastore, zE_aastore, zE_alen, zE_getf0, zE_getf1, zE_getf2, zE_getf3, zE_putf0, zE_putf1, zE_putf2, zE_putf3, zE_new, zE_newa, zE_newq, zE_ireturn, zE_lreturn, zE_areturn, zE_return, zE_athrow, zE_st0, zE_vi0, zE_st1, zE_vi1, zE_st2, zE_vi2, zE_st3, zE_vi3, zE_st4, zE_vi4, zE_st5, zE_vi5, zE_st6, zE_vi6, zE_st7, zE_vi7, zE_st8, zE_vi8, zSt_0, zSL_0, zSt_1n, zSt_1i, zSt_1a, zSt_1l, zSt_2n, zSt_2i, zSt_2a, zSt_2l, zSt_3n, zSt_3i, zSt_3a, zSt_3l, zSt_4n, zSt_4i, zSt_4a, zSt_4l, zSt_5n, zSt_5i, zSt_5a, zSt_5l, zSt_6n, zSt_6i, zSt_6a, zSt_6l, zSt_7n, zSt_7i, zSt_7a, zSt_7l, zSt_8n, zSt_8i, zSt_8a, zSt_8l, zSt_9n, zSt_9i, zSt_9a, zSt_9l, zSt_10n, zSt_10i, zSt_10a, zSt_10l, zSt_11n, zSt_11i, zSt_11a, zSt_11l, zSt_12n, zSt_12i, zSt_12a, zSt_12l, zSt_13n, zSt_13i, zSt_13a, zSt_13l, zSL_1n, zSL_1i, zSL_1a, zSL_1l, zSL_2n, zSL_2i, zSL_2a, zSL_2l, zSL_3n, zSL_3i, zSL_3a, zSL_3l, zSL_4n, zSL_4i, zSL_4a, zSL_4l, zSL_5n, zSL_5i, zSL_5a, zSL_5l, zSL_6n, zSL_6i, zSL_6a, zSL_6l, zSL_7n, zSL_7i, zSL_7a, zSL_7l, zSL_8n, zSL_8i, zSL_8a, zSL_8l, zSL_9n, zSL_9i, zSL_9a, zSL_9l, zSL_10n, zSL_10i, zSL_10a, zSL_10l, zSL_11n, zSL_11i, zSL_11a, zSL_11l, zSL_12n, zSL_12i, zSL_12a, zSL_12l, zLI_0, zLL_0, zLA_0, zLI_1, zLL_1, zLA_1, zLI_2, zLL_2, zLA_2, zLI_3, zLL_3, zLA_3, zLI_4, zLL_4, zLA_4, zLI_5, zLL_5, zLA_5, zLI_6, zLL_6, zLA_6, zLI_7, zLL_7, zLA_7, zLI_8, zLL_8, zLA_8, zLI_9, zLL_9, zLA_9, zLI_10, zLL_10, zLA_10, zLI_11, zLL_11, zLA_11, zLI_12, zLL_12, zLA_12, zLI_13, zLL_13, zLA_13, zst_0, zst_1n, zst_1i, zst_1a, zst_2n, zst_2i, zst_2a, zst_3n, zst_3i, zst_3a, zst_4n, zst_4i, zst_4a, zst_5n, zst_5i, zst_5a, zst_6n, zst_6i, zst_6a, zst_7n, zst_7i, zst_7a, zst_8n, zst_8i, zst_8a, zst_9n, zst_9i, zst_9a, zst_10n, zst_10i, zst_10a, zst_11n, zst_11i, zst_11a, zst_12n, zst_12i, zst_12a, zst_13n, zst_13i, zst_13a, zst_14n, zst_14i, zst_14a, zst_15n, zst_15i, zst_15a, zR1_n, zR1_v, zsum_n, zsum_i, zsum_l, zsum_a, zlen_n, zlen_i, zlen_l, zlen_a, List.not_mem_nil, List.mem_cons, or_false, false_or, or_self, ↓reduceIte, if_false, if_true, Nat.reduceEqDiff, Nat.reduceAdd, Nat.reduceLeDiff, true_and, and_true, reduceCtorEq, ne_eq, Int.toNat_natCast, not_true_eq_false, not_false_eq_true, true_implies, false_implies, implies_true, Int.reduceToNat, Int.toNat_zero, Int.reduceLT, Int.reduceLE, Int.reduceEq, Int.reduceAdd, Int.reduceMul, Int.reduceNeg]
      all_goals ((repeat' (first | with_reducible refine And.intro ?_ ?_ | with_reducible intro _)) <;> try first | with_reducible rfl | with_reducible assumption | omega | (unfold zr32; omega) | contradiction | (exact absurd (by omega) (by assumption)) | rfl | (simp only [Sum.inl.injEq, Option.some.injEq]; omega))
theorem zqA_140 (hW : zqW m M) (c2 : cc 2 = 1) (c0 : cc 0 = 2) (c1 : cc 1 = 3) {h l c x y w g : Int} (hx : zr32 x) (hy : zr32 y) : zqAg L M 140 [.inr (.inr 2), .inl h, .inl l, .inl c, .inl x, .inl y, .inl w, .inl g] 261 [.inr (.inr 1153), .inl h, .inl l, .inl c, .inl x, .inl y, .inl w, .inl g] cc := by
  have hR := hW.1.1
  have hm := zqmd hW
  have m8 : M.2.1 1153 8 = (m : Int) := hW.1.2.2.2.1.2
  by_cases k : (0 ≤ h ∧ h < 3) ∧ 0 ≤ l ∧ l < 4
  · by_cases k2 : (1 ≤ c ∧ c ≤ 9) ∧ zrec x y w g
    · obtain ⟨k2, k3⟩ := k2
      have k4 := k3
      unfold zrec at k4
      have kr : (1 ≤ c ∧ c ≤ 9) ∧ (1 ≤ w ∧ w ≤ 60) ∧ (1 ≤ g ∧ g ≤ 60) ∧ (0 ≤ x ∧ x ≤ 60 - w) ∧ (0 ≤ y ∧ y ≤ 60 - g) := by omega
      by_cases hm6 : m < 60
      · refine zqAg_g2 (e := 3) (fun B => zwI B (zrtl (zrpts (zrtw B.2.1 0) m (zbx x w) (zby y g) 4) m 0 h l c 0 0)) rfl rfl rfl hW hm6 (C2 := zpnM M m h l c 4 (zbx x w) (zby y g)) zpn_cw ?_ rfl (fun B b4 bn => ?_) (fun v M9 e10 hR9 hm9 _ Q => c140_g hR hm hm6 hx hy k.1 k.2 k2 k3 e10 hR9 hm9) (fun B M9 b4 bn e192 Q => ?_) (fun B M9 b4 bn e192 lM h8 Q => ?_) c1
        · exact funext fun j => zpn_cw.2.1 _ _ (by omega)
        · obtain ⟨⟨p1, p2, p3⟩, p4⟩ := zrpts_H (m := m) (B := B) (F := zrtw B.2.1 0) (n := 4) (X := zbx x w) (Y := zby y g) (by omega) (fun b j q1 q2 q3 => zu2_sj (by omega))
          refine ⟨zpn_told p4, fun b j hb => ?_, rfl, rfl, zpn_J (by omega) (by omega) k2 (by omega) (fun j hj => ?_) (zpr_bx (by omega) (by omega)) p1 p2 p3⟩
          · unfold zqXs at hb
            show zrtl _ m 0 h l c 0 0 b j = _
            unfold zrtl
            rw [zu2_sj (by omega), zu2_sj (by omega), zu2_sj (by omega), zu2_sj (by omega), zu2_sj (by omega), zu2_sj (by omega), zrpts_o (by omega)]
            exact zu2_sj (by omega)
          · unfold zbx zby
            constructor <;> split <;> omega
        · have m8B : (zrpts (zrtw B.2.1 0) m (zbx x w) (zby y g) 4) 1153 8 = (m : Int) := by
            rw [zrpts_o (by omega)]
            exact (zu2_sj (by omega)).trans ((bn _ _ (by omega)).trans m8)
          exact c261_g (by rw [b4]; exact hR) (by omega) (by omega) kr ((bn _ _ (by omega)).trans m8) hm6 (fun Q9 => c253_0 (M := zwI B (zrpts (zrtw B.2.1 0) m (zbx x w) (zby y g) 4)) (show zLay B.2.2.2 by rw [b4]; exact hR) m8B hm6 e192)
        · have m8B : (zrpts (zrtw B.2.1 0) m (zbx x w) (zby y g) 4) 1153 8 = (m : Int) := by
            rw [zrpts_o (by omega)]
            exact (zu2_sj (by omega)).trans ((bn _ _ (by omega)).trans m8)
          exact c261_g (by rw [b4]; exact hR) (by omega) (by omega) kr ((bn _ _ (by omega)).trans m8) hm6 (fun Q9 => c253_1 (M := zwI B (zrpts (zrtw B.2.1 0) m (zbx x w) (zby y g) 4)) (show zLay B.2.2.2 by rw [b4]; exact hR) m8B hm6 e192 lM h8)
      · exact zqAg_no (e := 1) (d := 3) hW (by omega) (fun Q => c140_f hR hm hm6 hx hy k.1 k.2 k2 k3) (.inl 0) (fun B b2 b4 Q => c261_3 (by omega) (by omega) kr (by rw [b2, m8]; have := hm.2; omega)) c1
    · refine zqAg_no (e := 0) (d := 2) hW (by omega) (fun Q => c140_1 hx hy k.1 k.2 k2) (.inl 0) (fun B b2 b4 Q => c261_2 (by omega) (by omega) (fun kr => k2 ?_)) c0
      unfold zrec
      omega
  · exact zqAg_no (e := 2) (d := 1) hW (by omega) (fun Q => c140_0 k) (.inl 0) (fun B b2 b4 Q => c261_1 (by omega)) c2
end ZDRAWQ
/-! a diamond asked for -/
section ZDIAQ
variable {L m : Nat} {M M0 B C2 : zM} {Q : zO → zM → Prop} {cc : Nat → Int}
def zdia (x y r : Int) : Prop := (1 ≤ r ∧ r ≤ 30) ∧ (0 ≤ x ∧ x ≤ 60) ∧ (0 ≤ y ∧ y ≤ 60) ∧ (0 ≤ x - r ∧ x - r ≤ 60) ∧ (0 ≤ x + r ∧ x + r ≤ 60) ∧ (0 ≤ y - r ∧ y - r ≤ 60) ∧ 0 ≤ y + r ∧ y + r ≤ 60
-- diamond, the class
theorem c142_0 {h l c x y r : Int} (kn : ¬ ((0 ≤ h ∧ h < 3) ∧ 0 ≤ l ∧ l < 4)) : zFR (zK L) 142 0 (zcall 142 [.inr (.inr 2), .inl h, .inl l, .inl c, .inl x, .inl y, .inl r]) [] M Q = Q (.inr 2) (zthrown M) := by
  refine zFR_det ?_ Q
  by_cases k0 : 0 ≤ h ∧ h < 3
  · have e0 := fun Q => (c131 (L := L) (M := M) (Q := Q) (h := h)).trans (zyes k0)
    have e1 := fun Q => (c132 (L := L) (M := M) (Q := Q) (h := l)).trans (znot (fun k1 => kn ⟨k0, k1⟩))
    refine zW_sound 60 [] ?_
    simp only [ZF142, ZR142, zk_2, ZF131.1, ZF131.2.1, ZF131.2.2.1, ZF132.1, ZF132.2.1, ZF132.2.2.1, e0, e1, zR1_p ZF142.2.2.1, zW_succ, zE_iload, zE_aload, zE_lload, zE_iinc, zE_istore, zE_astore, zE_lstore, zE_iconst, zE_ldc2, zE_iadd, zE_isub, zE_imul, zE_idiv, zE_irem, zE_ineg, zE_iand, zE_ior, zE_ixor, zE_ishl, zE_ishr, zE_land, zE_lor, zE_lxor, zE_lshl, zE_lshr, zE_i2l, zE_lcmp, zE_dup_i, zE_dup_a, zE_dup2_ia, zE_pop_i, zE_pop_a, zE_pop2, zE_goto, zE_if_eq, zE_icmp_eq, zE_if_ne, zE_icmp_ne, zE_if_lt, zE_icmp_lt, zE_if_ge, zE_icmp_ge, zE_if_gt, zE_icmp_gt, zE_if_le, zE_icmp_le, zE_iaload, zE_baload, zE_laload, zE_aaload, zE_iastore, zE_bastore, zE_lastore, zE_aastore, zE_alen, zE_getf0, zE_getf1, zE_getf2, zE_getf3, zE_putf0, zE_putf1, zE_putf2, zE_putf3, zE_new, zE_newa, zE_newq, zE_ireturn, zE_lreturn, zE_areturn, zE_return, zE_athrow, zE_st0, zE_vi0, zE_st1, zE_vi1, zE_st2, zE_vi2, zE_st3, zE_vi3, zE_st4, zE_vi4, zE_st5, zE_vi5, zE_st6, zE_vi6, zE_st7, zE_vi7, zE_st8, zE_vi8, zSt_0, zSL_0, zSt_1n, zSt_1i, zSt_1a, zSt_1l, zSt_2n, zSt_2i, zSt_2a, zSt_2l, zSt_3n, zSt_3i, zSt_3a, zSt_3l, zSt_4n, zSt_4i, zSt_4a, zSt_4l, zSt_5n, zSt_5i, zSt_5a, zSt_5l, zSt_6n, zSt_6i, zSt_6a, zSt_6l, zSt_7n, zSt_7i, zSt_7a, zSt_7l, zSt_8n, zSt_8i, zSt_8a, zSt_8l, zSt_9n, zSt_9i, zSt_9a, zSt_9l, zSt_10n, zSt_10i, zSt_10a, zSt_10l, zSt_11n, zSt_11i, zSt_11a, zSt_11l, zSt_12n, zSt_12i, zSt_12a, zSt_12l, zSt_13n, zSt_13i, zSt_13a, zSt_13l, zSL_1n, zSL_1i, zSL_1a, zSL_1l, zSL_2n, zSL_2i, zSL_2a, zSL_2l, zSL_3n, zSL_3i, zSL_3a, zSL_3l, zSL_4n, zSL_4i, zSL_4a, zSL_4l, zSL_5n, zSL_5i, zSL_5a, zSL_5l, zSL_6n, zSL_6i, zSL_6a, zSL_6l, zSL_7n, zSL_7i, zSL_7a, zSL_7l, zSL_8n, zSL_8i, zSL_8a, zSL_8l, zSL_9n, zSL_9i, zSL_9a, zSL_9l, zSL_10n, zSL_10i, zSL_10a, zSL_10l, zSL_11n, zSL_11i, zSL_11a, zSL_11l, zSL_12n, zSL_12i, zSL_12a, zSL_12l, zLI_0, zLL_0, zLA_0, zLI_1, zLL_1, zLA_1, zLI_2, zLL_2, zLA_2, zLI_3, zLL_3, zLA_3, zLI_4, zLL_4, zLA_4, zLI_5, zLL_5, zLA_5, zLI_6, zLL_6, zLA_6, zLI_7, zLL_7, zLA_7, zLI_8, zLL_8, zLA_8, zLI_9, zLL_9, zLA_9, zLI_10, zLL_10, zLA_10, zLI_11, zLL_11, zLA_11, zLI_12, zLL_12, zLA_12, zLI_13, zLL_13, zLA_13, zst_0, zst_1n, zst_1i, zst_1a, zst_2n, zst_2i, zst_2a, zst_3n, zst_3i, zst_3a, zst_4n, zst_4i, zst_4a, zst_5n, zst_5i, zst_5a, zst_6n, zst_6i, zst_6a, zst_7n, zst_7i, zst_7a, zst_8n, zst_8i, zst_8a, zst_9n, zst_9i, zst_9a, zst_10n, zst_10i, zst_10a, zst_11n, zst_11i, zst_11a, zst_12n, zst_12i, zst_12a, zst_13n, zst_13i, zst_13a, zst_14n, zst_14i, zst_14a, zst_15n, zst_15i, zst_15a, zR1_n, zR1_v, zsum_n, zsum_i, zsum_l, zsum_a, zlen_n, zlen_i, zlen_l, zlen_a, List.not_mem_nil, List.mem_cons, or_false, false_or, or_self, ↓reduceIte, if_false, if_true, Nat.reduceEqDiff, Nat.reduceAdd, Nat.reduceLeDiff, true_and, and_true, reduceCtorEq, ne_eq, Int.toNat_natCast, not_true_eq_false, not_false_eq_true, true_implies, false_implies, implies_true, Int.reduceToNat, Int.toNat_zero, Int.reduceLT, Int.reduceLE, Int.reduceEq, Int.reduceAdd, Int.reduceMul, Int.reduceNeg]
  · have e0 := fun Q => (c131 (L := L) (M := M) (Q := Q) (h := h)).trans (znot k0)
    refine zW_sound 60 [] ?_
    simp only [ZF142, ZR142, zk_2, ZF131.1, ZF131.2.1, ZF131.2.2.1, e0, zR1_p ZF142.2.2.1, zW_succ, zE_iload, zE_aload, zE_lload, zE_iinc, zE_istore, zE_astore, zE_lstore, zE_iconst, zE_ldc2, zE_iadd, zE_isub, zE_imul, zE_idiv, zE_irem, zE_ineg, zE_iand, zE_ior, zE_ixor, zE_ishl, zE_ishr, zE_land, zE_lor, zE_lxor, zE_lshl, zE_lshr, zE_i2l, zE_lcmp, zE_dup_i, zE_dup_a, zE_dup2_ia, zE_pop_i, zE_pop_a, zE_pop2, zE_goto, zE_if_eq, zE_icmp_eq, zE_if_ne, zE_icmp_ne, zE_if_lt, zE_icmp_lt, zE_if_ge, zE_icmp_ge, zE_if_gt, zE_icmp_gt, zE_if_le, zE_icmp_le, zE_iaload, zE_baload, zE_laload, zE_aaload, zE_iastore, zE_bastore, zE_lastore, zE_aastore, zE_alen, zE_getf0, zE_getf1, zE_getf2, zE_getf3, zE_putf0, zE_putf1, zE_putf2, zE_putf3, zE_new, zE_newa, zE_newq, zE_ireturn, zE_lreturn, zE_areturn, zE_return, zE_athrow, zE_st0, zE_vi0, zE_st1, zE_vi1, zE_st2, zE_vi2, zE_st3, zE_vi3, zE_st4, zE_vi4, zE_st5, zE_vi5, zE_st6, zE_vi6, zE_st7, zE_vi7, zE_st8, zE_vi8, zSt_0, zSL_0, zSt_1n, zSt_1i, zSt_1a, zSt_1l, zSt_2n, zSt_2i, zSt_2a, zSt_2l, zSt_3n, zSt_3i, zSt_3a, zSt_3l, zSt_4n, zSt_4i, zSt_4a, zSt_4l, zSt_5n, zSt_5i, zSt_5a, zSt_5l, zSt_6n, zSt_6i, zSt_6a, zSt_6l, zSt_7n, zSt_7i, zSt_7a, zSt_7l, zSt_8n, zSt_8i, zSt_8a, zSt_8l, zSt_9n, zSt_9i, zSt_9a, zSt_9l, zSt_10n, zSt_10i, zSt_10a, zSt_10l, zSt_11n, zSt_11i, zSt_11a, zSt_11l, zSt_12n, zSt_12i, zSt_12a, zSt_12l, zSt_13n, zSt_13i, zSt_13a, zSt_13l, zSL_1n, zSL_1i, zSL_1a, zSL_1l, zSL_2n, zSL_2i, zSL_2a, zSL_2l, zSL_3n, zSL_3i, zSL_3a, zSL_3l, zSL_4n, zSL_4i, zSL_4a, zSL_4l, zSL_5n, zSL_5i, zSL_5a, zSL_5l, zSL_6n, zSL_6i, zSL_6a, zSL_6l, zSL_7n, zSL_7i, zSL_7a, zSL_7l, zSL_8n, zSL_8i, zSL_8a, zSL_8l, zSL_9n, zSL_9i, zSL_9a, zSL_9l, zSL_10n, zSL_10i, zSL_10a, zSL_10l, zSL_11n, zSL_11i, zSL_11a, zSL_11l, zSL_12n, zSL_12i, zSL_12a, zSL_12l, zLI_0, zLL_0, zLA_0, zLI_1, zLL_1, zLA_1, zLI_2, zLL_2, zLA_2, zLI_3, zLL_3, zLA_3, zLI_4, zLL_4, zLA_4, zLI_5, zLL_5, zLA_5, zLI_6, zLL_6, zLA_6, zLI_7, zLL_7, zLA_7, zLI_8, zLL_8, zLA_8, zLI_9, zLL_9, zLA_9, zLI_10, zLL_10, zLA_10, zLI_11, zLL_11, zLA_11, zLI_12, zLL_12, zLA_12, zLI_13, zLL_13, zLA_13, zst_0, zst_1n, zst_1i, zst_1a, zst_2n, zst_2i, zst_2a, zst_3n, zst_3i, zst_3a, zst_4n, zst_4i, zst_4a, zst_5n, zst_5i, zst_5a, zst_6n, zst_6i, zst_6a, zst_7n, zst_7i, zst_7a, zst_8n, zst_8i, zst_8a, zst_9n, zst_9i, zst_9a, zst_10n, zst_10i, zst_10a, zst_11n, zst_11i, zst_11a, zst_12n, zst_12i, zst_12a, zst_13n, zst_13i, zst_13a, zst_14n, zst_14i, zst_14a, zst_15n, zst_15i, zst_15a, zR1_n, zR1_v, zsum_n, zsum_i, zsum_l, zsum_a, zlen_n, zlen_i, zlen_l, zlen_a, List.not_mem_nil, List.mem_cons, or_false, false_or, or_self, ↓reduceIte, if_false, if_true, Nat.reduceEqDiff, Nat.reduceAdd, Nat.reduceLeDiff, true_and, and_true, reduceCtorEq, ne_eq, Int.toNat_natCast, not_true_eq_false, not_false_eq_true, true_implies, false_implies, implies_true, Int.reduceToNat, Int.toNat_zero, Int.reduceLT, Int.reduceLE, Int.reduceEq, Int.reduceAdd, Int.reduceMul, Int.reduceNeg]
theorem c142_1 {h l c x y r : Int} (hx : zr32 x) (hy : zr32 y) (k0 : 0 ≤ h ∧ h < 3) (k1 : 0 ≤ l ∧ l < 4) (kn : ¬ ((1 ≤ c ∧ c ≤ 9) ∧ zdia x y r)) : zFR (zK L) 142 0 (zcall 142 [.inr (.inr 2), .inl h, .inl l, .inl c, .inl x, .inl y, .inl r]) [] M Q = Q (.inr 0) (zthrown M) := by
  have e0 := fun Q => (c131 (L := L) (M := M) (Q := Q) (h := h)).trans (zyes k0)
  have e1 := fun Q => (c132 (L := L) (M := M) (Q := Q) (h := l)).trans (zyes k1)
  refine zFR_det ?_ Q
  by_cases k2 : 1 ≤ c ∧ c ≤ 9
  · have e2 := fun Q => (c133 (L := L) (M := M) (Q := Q) (v := c)).trans (zyes k2)
    have k3 : ¬ zdia x y r := fun k3 => kn ⟨k2, k3⟩
    have fin : zFR (zK L) 142 88 [some (.inr (.inr 2)), some (.inl h), some (.inl l), some (.inl c), some (.inl x), some (.inl y), some (.inl r), none] [] M (fun r M2 => r = .inr 0 ∧ M2 = zthrown M) := by
      refine zW_sound 60 [] ?_
      simp only [ZR142, zE_athrow, zW_succ, zE_iload, zE_aload, zE_lload, zE_iinc, zE_istore, zE_astore, zE_lstore, zE_iconst, zE_ldc2, zE_iadd, zE_isub, zE_imul, zE_idiv, zE_irem, zE_ineg, zE_iand, zE_ior, zE_ixor, zE_ishl, zE_ishr, zE_land, zE_lor, zE_lxor, zE_lshl, zE_lshr, zE_i2l, zE_lcmp, zE_dup_i, zE_dup_a, zE_dup2_ia, zE_pop_i, zE_pop_a, zE_pop2, zE_goto, zE_if_eq, zE_icmp_eq, zE_if_ne, zE_icmp_ne, zE_if_lt, zE_icmp_lt, zE_if_ge, zE_icmp_ge, zE_if_gt, zE_icmp_gt, zE_if_le, zE_icmp_le, zE_iaload, zE_baload, zE_laload, zE_aaload, zE_iastore, zE_bastore, zE_lastore, zE_aastore, zE_alen, zE_getf0, zE_getf1, zE_getf2, zE_getf3, zE_putf0, zE_putf1, zE_putf2, zE_putf3, zE_new, zE_newa, zE_newq, zE_ireturn, zE_lreturn, zE_areturn, zE_return, zE_athrow, zE_st0, zE_vi0, zE_st1, zE_vi1, zE_st2, zE_vi2, zE_st3, zE_vi3, zE_st4, zE_vi4, zE_st5, zE_vi5, zE_st6, zE_vi6, zE_st7, zE_vi7, zE_st8, zE_vi8, zSt_0, zSL_0, zSt_1n, zSt_1i, zSt_1a, zSt_1l, zSt_2n, zSt_2i, zSt_2a, zSt_2l, zSt_3n, zSt_3i, zSt_3a, zSt_3l, zSt_4n, zSt_4i, zSt_4a, zSt_4l, zSt_5n, zSt_5i, zSt_5a, zSt_5l, zSt_6n, zSt_6i, zSt_6a, zSt_6l, zSt_7n, zSt_7i, zSt_7a, zSt_7l, zSt_8n, zSt_8i, zSt_8a, zSt_8l, zSt_9n, zSt_9i, zSt_9a, zSt_9l, zSt_10n, zSt_10i, zSt_10a, zSt_10l, zSt_11n, zSt_11i, zSt_11a, zSt_11l, zSt_12n, zSt_12i, zSt_12a, zSt_12l, zSt_13n, zSt_13i, zSt_13a, zSt_13l, zSL_1n, zSL_1i, zSL_1a, zSL_1l, zSL_2n, zSL_2i, zSL_2a, zSL_2l, zSL_3n, zSL_3i, zSL_3a, zSL_3l, zSL_4n, zSL_4i, zSL_4a, zSL_4l, zSL_5n, zSL_5i, zSL_5a, zSL_5l, zSL_6n, zSL_6i, zSL_6a, zSL_6l, zSL_7n, zSL_7i, zSL_7a, zSL_7l, zSL_8n, zSL_8i, zSL_8a, zSL_8l, zSL_9n, zSL_9i, zSL_9a, zSL_9l, zSL_10n, zSL_10i, zSL_10a, zSL_10l, zSL_11n, zSL_11i, zSL_11a, zSL_11l, zSL_12n, zSL_12i, zSL_12a, zSL_12l, zLI_0, zLL_0, zLA_0, zLI_1, zLL_1, zLA_1, zLI_2, zLL_2, zLA_2, zLI_3, zLL_3, zLA_3, zLI_4, zLL_4, zLA_4, zLI_5, zLL_5, zLA_5, zLI_6, zLL_6, zLA_6, zLI_7, zLL_7, zLA_7, zLI_8, zLL_8, zLA_8, zLI_9, zLL_9, zLA_9, zLI_10, zLL_10, zLA_10, zLI_11, zLL_11, zLA_11, zLI_12, zLL_12, zLA_12, zLI_13, zLL_13, zLA_13, zst_0, zst_1n, zst_1i, zst_1a, zst_2n, zst_2i, zst_2a, zst_3n, zst_3i, zst_3a, zst_4n, zst_4i, zst_4a, zst_5n, zst_5i, zst_5a, zst_6n, zst_6i, zst_6a, zst_7n, zst_7i, zst_7a, zst_8n, zst_8i, zst_8a, zst_9n, zst_9i, zst_9a, zst_10n, zst_10i, zst_10a, zst_11n, zst_11i, zst_11a, zst_12n, zst_12i, zst_12a, zst_13n, zst_13i, zst_13a, zst_14n, zst_14i, zst_14a, zst_15n, zst_15i, zst_15a, zR1_n, zR1_v, zsum_n, zsum_i, zsum_l, zsum_a, zlen_n, zlen_i, zlen_l, zlen_a, List.not_mem_nil, List.mem_cons, or_false, false_or, or_self, ↓reduceIte, if_false, if_true, Nat.reduceEqDiff, Nat.reduceAdd, Nat.reduceLeDiff, true_and, and_true, reduceCtorEq, ne_eq, Int.toNat_natCast, not_true_eq_false, not_false_eq_true, true_implies, false_implies, implies_true, Int.reduceToNat, Int.toNat_zero, Int.reduceLT, Int.reduceLE, Int.reduceEq, Int.reduceAdd, Int.reduceMul, Int.reduceNeg]
    unfold zdia at k3
    refine zW_sound 60 [88, 98] ?_
    simp only [ZF142, ZR142, zk_2, ZF131.1, ZF131.2.1, ZF131.2.2.1, ZF132.1, ZF132.2.1, ZF132.2.2.1, ZF133.1, ZF133.2.1, ZF133.2.2.1, ZF127.1, ZF127.2.1, ZF127.2.2.1, c127, e0, e1, e2, zR1_p ZF142.2.2.1, zW_succ, zE_iload, zE_aload, zE_lload, zE_iinc, zE_istore, zE_astore, zE_lstore, zE_iconst, zE_ldc2, zE_iadd, zE_isub, zE_imul, zE_idiv, zE_irem, zE_ineg, zE_iand, zE_ior, zE_ixor, zE_ishl, zE_ishr, zE_land, zE_lor, zE_lxor, zE_lshl, zE_lshr, zE_i2l, zE_lcmp, zE_dup_i, zE_dup_a, zE_dup2_ia, zE_pop_i, zE_pop_a, zE_pop2, zE_goto, zE_if_eq, zE_icmp_eq, zE_if_ne, zE_icmp_ne, zE_if_lt, zE_icmp_lt, zE_if_ge, zE_icmp_ge, zE_if_gt, zE_icmp_gt, zE_if_le, zE_icmp_le, zE_iaload, zE_baload, zE_laload, zE_aaload, zE_iastore, zE_bastore, zE_lastore, zE_aastore, zE_alen, zE_getf0, zE_getf1, zE_getf2, zE_getf3, zE_putf0, zE_putf1, zE_putf2, zE_putf3, zE_new, zE_newa, zE_newq, zE_ireturn, zE_lreturn, zE_areturn, zE_return, zE_athrow, zE_st0, zE_vi0, zE_st1, zE_vi1, zE_st2, zE_vi2, zE_st3, zE_vi3, zE_st4, zE_vi4, zE_st5, zE_vi5, zE_st6, zE_vi6, zE_st7, zE_vi7, zE_st8, zE_vi8, zSt_0, zSL_0, zSt_1n, zSt_1i, zSt_1a, zSt_1l, zSt_2n, zSt_2i, zSt_2a, zSt_2l, zSt_3n, zSt_3i, zSt_3a, zSt_3l, zSt_4n, zSt_4i, zSt_4a, zSt_4l, zSt_5n, zSt_5i, zSt_5a, zSt_5l, zSt_6n, zSt_6i, zSt_6a, zSt_6l, zSt_7n, zSt_7i, zSt_7a, zSt_7l, zSt_8n, zSt_8i, zSt_8a, zSt_8l, zSt_9n, zSt_9i, zSt_9a, zSt_9l, zSt_10n, zSt_10i, zSt_10a, zSt_10l, zSt_11n, zSt_11i, zSt_11a, zSt_11l, zSt_12n, zSt_12i, zSt_12a, zSt_12l, zSt_13n, zSt_13i, zSt_13a, zSt_13l, zSL_1n, zSL_1i, zSL_1a, zSL_1l, zSL_2n, zSL_2i, zSL_2a, zSL_2l, zSL_3n, zSL_3i, zSL_3a, zSL_3l, zSL_4n, zSL_4i, zSL_4a, zSL_4l, zSL_5n, zSL_5i, zSL_5a, zSL_5l, zSL_6n, zSL_6i, zSL_6a, zSL_6l, zSL_7n, zSL_7i, zSL_7a, zSL_7l, zSL_8n, zSL_8i, zSL_8a, zSL_8l, zSL_9n, zSL_9i, zSL_9a, zSL_9l, zSL_10n, zSL_10i, zSL_10a, zSL_10l, zSL_11n, zSL_11i, zSL_11a, zSL_11l, zSL_12n, zSL_12i, zSL_12a, zSL_12l, zLI_0, zLL_0, zLA_0, zLI_1, zLL_1, zLA_1, zLI_2, zLL_2, zLA_2, zLI_3, zLL_3, zLA_3, zLI_4, zLL_4, zLA_4, zLI_5, zLL_5, zLA_5, zLI_6, zLL_6, zLA_6, zLI_7, zLL_7, zLA_7, zLI_8, zLL_8, zLA_8, zLI_9, zLL_9, zLA_9, zLI_10, zLL_10, zLA_10, zLI_11, zLL_11, zLA_11, zLI_12, zLL_12, zLA_12, zLI_13, zLL_13, zLA_13, zst_0, zst_1n, zst_1i, zst_1a, zst_2n, zst_2i, zst_2a, zst_3n, zst_3i, zst_3a, zst_4n, zst_4i, zst_4a, zst_5n, zst_5i, zst_5a, zst_6n, zst_6i, zst_6a, zst_7n, zst_7i, zst_7a, zst_8n, zst_8i, zst_8a, zst_9n, zst_9i, zst_9a, zst_10n, zst_10i, zst_10a, zst_11n, zst_11i, zst_11a, zst_12n, zst_12i, zst_12a, zst_13n, zst_13i, zst_13a, zst_14n, zst_14i, zst_14a, zst_15n, zst_15i, zst_15a, zR1_n, zR1_v, zsum_n, zsum_i, zsum_l, zsum_a, zlen_n, zlen_i, zlen_l, zlen_a, List.not_mem_nil, List.mem_cons, or_false, false_or, or_self, ↓reduceIte, if_false, if_true, Nat.reduceEqDiff, Nat.reduceAdd, Nat.reduceLeDiff, true_and, and_true, reduceCtorEq, ne_eq, Int.toNat_natCast, not_true_eq_false, not_false_eq_true, true_implies, false_implies, implies_true, Int.reduceToNat, Int.toNat_zero, Int.reduceLT, Int.reduceLE, Int.reduceEq, Int.reduceAdd, Int.reduceMul, Int.reduceNeg]
    (repeat' (first | with_reducible refine And.intro ?_ ?_ | with_reducible intro _)) <;> first | exact fin | (unfold zr32 at *; omega) | omega
  · have e2 := fun Q => (c133 (L := L) (M := M) (Q := Q) (v := c)).trans (znot k2)
    refine zW_sound 60 [] ?_
    simp only [ZF142, ZR142, zk_2, ZF131.1, ZF131.2.1, ZF131.2.2.1, ZF132.1, ZF132.2.1, ZF132.2.2.1, ZF133.1, ZF133.2.1, ZF133.2.2.1, e0, e1, e2, zR1_p ZF142.2.2.1, zW_succ, zE_iload, zE_aload, zE_lload, zE_iinc, zE_istore, zE_astore, zE_lstore, zE_iconst, zE_ldc2, zE_iadd, zE_isub, zE_imul, zE_idiv, zE_irem, zE_ineg, zE_iand, zE_ior, zE_ixor, zE_ishl, zE_ishr, zE_land, zE_lor, zE_lxor, zE_lshl, zE_lshr, zE_i2l, zE_lcmp, zE_dup_i, zE_dup_a, zE_dup2_ia, zE_pop_i, zE_pop_a, zE_pop2, zE_goto, zE_if_eq, zE_icmp_eq, zE_if_ne, zE_icmp_ne, zE_if_lt, zE_icmp_lt, zE_if_ge, zE_icmp_ge, zE_if_gt, zE_icmp_gt, zE_if_le, zE_icmp_le, zE_iaload, zE_baload, zE_laload, zE_aaload, zE_iastore, zE_bastore, zE_lastore, zE_aastore, zE_alen, zE_getf0, zE_getf1, zE_getf2, zE_getf3, zE_putf0, zE_putf1, zE_putf2, zE_putf3, zE_new, zE_newa, zE_newq, zE_ireturn, zE_lreturn, zE_areturn, zE_return, zE_athrow, zE_st0, zE_vi0, zE_st1, zE_vi1, zE_st2, zE_vi2, zE_st3, zE_vi3, zE_st4, zE_vi4, zE_st5, zE_vi5, zE_st6, zE_vi6, zE_st7, zE_vi7, zE_st8, zE_vi8, zSt_0, zSL_0, zSt_1n, zSt_1i, zSt_1a, zSt_1l, zSt_2n, zSt_2i, zSt_2a, zSt_2l, zSt_3n, zSt_3i, zSt_3a, zSt_3l, zSt_4n, zSt_4i, zSt_4a, zSt_4l, zSt_5n, zSt_5i, zSt_5a, zSt_5l, zSt_6n, zSt_6i, zSt_6a, zSt_6l, zSt_7n, zSt_7i, zSt_7a, zSt_7l, zSt_8n, zSt_8i, zSt_8a, zSt_8l, zSt_9n, zSt_9i, zSt_9a, zSt_9l, zSt_10n, zSt_10i, zSt_10a, zSt_10l, zSt_11n, zSt_11i, zSt_11a, zSt_11l, zSt_12n, zSt_12i, zSt_12a, zSt_12l, zSt_13n, zSt_13i, zSt_13a, zSt_13l, zSL_1n, zSL_1i, zSL_1a, zSL_1l, zSL_2n, zSL_2i, zSL_2a, zSL_2l, zSL_3n, zSL_3i, zSL_3a, zSL_3l, zSL_4n, zSL_4i, zSL_4a, zSL_4l, zSL_5n, zSL_5i, zSL_5a, zSL_5l, zSL_6n, zSL_6i, zSL_6a, zSL_6l, zSL_7n, zSL_7i, zSL_7a, zSL_7l, zSL_8n, zSL_8i, zSL_8a, zSL_8l, zSL_9n, zSL_9i, zSL_9a, zSL_9l, zSL_10n, zSL_10i, zSL_10a, zSL_10l, zSL_11n, zSL_11i, zSL_11a, zSL_11l, zSL_12n, zSL_12i, zSL_12a, zSL_12l, zLI_0, zLL_0, zLA_0, zLI_1, zLL_1, zLA_1, zLI_2, zLL_2, zLA_2, zLI_3, zLL_3, zLA_3, zLI_4, zLL_4, zLA_4, zLI_5, zLL_5, zLA_5, zLI_6, zLL_6, zLA_6, zLI_7, zLL_7, zLA_7, zLI_8, zLL_8, zLA_8, zLI_9, zLL_9, zLA_9, zLI_10, zLL_10, zLA_10, zLI_11, zLL_11, zLA_11, zLI_12, zLL_12, zLA_12, zLI_13, zLL_13, zLA_13, zst_0, zst_1n, zst_1i, zst_1a, zst_2n, zst_2i, zst_2a, zst_3n, zst_3i, zst_3a, zst_4n, zst_4i, zst_4a, zst_5n, zst_5i, zst_5a, zst_6n, zst_6i, zst_6a, zst_7n, zst_7i, zst_7a, zst_8n, zst_8i, zst_8a, zst_9n, zst_9i, zst_9a, zst_10n, zst_10i, zst_10a, zst_11n, zst_11i, zst_11a, zst_12n, zst_12i, zst_12a, zst_13n, zst_13i, zst_13a, zst_14n, zst_14i, zst_14a, zst_15n, zst_15i, zst_15a, zR1_n, zR1_v, zsum_n, zsum_i, zsum_l, zsum_a, zlen_n, zlen_i, zlen_l, zlen_a, List.not_mem_nil, List.mem_cons, or_false, false_or, or_self, ↓reduceIte, if_false, if_true, Nat.reduceEqDiff, Nat.reduceAdd, Nat.reduceLeDiff, true_and, and_true, reduceCtorEq, ne_eq, Int.toNat_natCast, not_true_eq_false, not_false_eq_true, true_implies, false_implies, implies_true, Int.reduceToNat, Int.toNat_zero, Int.reduceLT, Int.reduceLE, Int.reduceEq, Int.reduceAdd, Int.reduceMul, Int.reduceNeg]
theorem c142_f {h l c x y r : Int} (hR : zLay M.2.2.2) (hm : zmd M.2.1 m) (hm6 : ¬ m < 60) (hx : zr32 x) (hy : zr32 y) (k0 : 0 ≤ h ∧ h < 3) (k1 : 0 ≤ l ∧ l < 4) (k2 : 1 ≤ c ∧ c ≤ 9) (k3 : zdia x y r) : zFR (zK L) 142 0 (zcall 142 [.inr (.inr 2), .inl h, .inl l, .inl c, .inl x, .inl y, .inl r]) [] M Q = Q (.inr 1) (zthrown M) := by
  have k9 := k3
  unfold zdia at k9
  have y1 := fun Q => (c127 (L := L) (M := M) (Q := Q) (x := x)).trans (zyes (show 0 ≤ x ∧ x ≤ 60 by omega))
  have y2 := fun Q => (c127 (L := L) (M := M) (Q := Q) (x := y)).trans (zyes (show 0 ≤ y ∧ y ≤ 60 by omega))
  have y3 := fun Q => (c127 (L := L) (M := M) (Q := Q) (x := x + -r)).trans (zyes (show 0 ≤ x + -r ∧ x + -r ≤ 60 by omega))
  have y4 := fun Q => (c127 (L := L) (M := M) (Q := Q) (x := x + r)).trans (zyes (show 0 ≤ x + r ∧ x + r ≤ 60 by omega))
  have y5 := fun Q => (c127 (L := L) (M := M) (Q := Q) (x := y + -r)).trans (zyes (show 0 ≤ y + -r ∧ y + -r ≤ 60 by omega))
  have y6 := fun Q => (c127 (L := L) (M := M) (Q := Q) (x := y + r)).trans (zyes (show 0 ≤ y + r ∧ y + r ≤ 60 by omega))
  have y7 := y3
  have y8 := y5
  rw [← Int.sub_eq_add_neg] at y7 y8
  have e0 := fun Q => (c131 (L := L) (M := M) (Q := Q) (h := h)).trans (zyes k0)
  have e1 := fun Q => (c132 (L := L) (M := M) (Q := Q) (h := l)).trans (zyes k1)
  have e2 := fun Q => (c133 (L := L) (M := M) (Q := Q) (v := c)).trans (zyes k2)
  have e4 := fun Q => (c136 (L := L) (M := M) (Q := Q) (m := m) (h := h) (l := l) (c := c) hR hm).trans (znot hm6)
  refine zFR_det (zW_sound 60 [88] ?_) Q
  simp only [ZF142, ZR142, zk_2, ZF131.1, ZF131.2.1, ZF131.2.2.1, ZF132.1, ZF132.2.1, ZF132.2.2.1, ZF133.1, ZF133.2.1, ZF133.2.2.1, ZF136.1, ZF136.2.1, ZF136.2.2.1, ZF127.1, ZF127.2.1, ZF127.2.2.1, y1, y2, y3, y4, y5, y6, y7, y8, e0, e1, e2, e4, zR1_p ZF142.2.2.1, zW_succ, zE_iload, zE_aload, zE_lload, zE_iinc, zE_istore, zE_astore, zE_lstore, zE_iconst, zE_ldc2, zE_iadd, zE_isub, zE_imul, zE_idiv, zE_irem, zE_ineg, zE_iand, zE_ior, zE_ixor, zE_ishl, zE_ishr, zE_land, zE_lor, zE_lxor, zE_lshl, zE_lshr, zE_i2l, zE_lcmp, zE_dup_i, zE_dup_a, zE_dup2_ia, zE_pop_i, zE_pop_a, zE_pop2, zE_goto, zE_if_eq, zE_icmp_eq, zE_if_ne, zE_icmp_ne, zE_if_lt, zE_icmp_lt, zE_if_ge, zE_icmp_ge, zE_if_gt, zE_icmp_gt, zE_if_le, zE_icmp_le, zE_iaload, zE_baload, zE_laload, zE_aaload, zE_iastore, zE_bastore, zE_lastore, zE_aastore, zE_alen, zE_getf0, zE_getf1, zE_getf2, zE_getf3, zE_putf0, zE_putf1, zE_putf2, zE_putf3, zE_new, zE_newa, zE_newq, zE_ireturn, zE_lreturn, zE_areturn, zE_return, zE_athrow, zE_st0, zE_vi0, zE_st1, zE_vi1, zE_st2, zE_vi2, zE_st3, zE_vi3, zE_st4, zE_vi4, zE_st5, zE_vi5, zE_st6, zE_vi6, zE_st7, zE_vi7, zE_st8, zE_vi8, zSt_0, zSL_0, zSt_1n, zSt_1i, zSt_1a, zSt_1l, zSt_2n, zSt_2i, zSt_2a, zSt_2l, zSt_3n, zSt_3i, zSt_3a, zSt_3l, zSt_4n, zSt_4i, zSt_4a, zSt_4l, zSt_5n, zSt_5i, zSt_5a, zSt_5l, zSt_6n, zSt_6i, zSt_6a, zSt_6l, zSt_7n, zSt_7i, zSt_7a, zSt_7l, zSt_8n, zSt_8i, zSt_8a, zSt_8l, zSt_9n, zSt_9i, zSt_9a, zSt_9l, zSt_10n, zSt_10i, zSt_10a, zSt_10l, zSt_11n, zSt_11i, zSt_11a, zSt_11l, zSt_12n, zSt_12i, zSt_12a, zSt_12l, zSt_13n, zSt_13i, zSt_13a, zSt_13l, zSL_1n, zSL_1i, zSL_1a, zSL_1l, zSL_2n, zSL_2i, zSL_2a, zSL_2l, zSL_3n, zSL_3i, zSL_3a, zSL_3l, zSL_4n, zSL_4i, zSL_4a, zSL_4l, zSL_5n, zSL_5i, zSL_5a, zSL_5l, zSL_6n, zSL_6i, zSL_6a, zSL_6l, zSL_7n, zSL_7i, zSL_7a, zSL_7l, zSL_8n, zSL_8i, zSL_8a, zSL_8l, zSL_9n, zSL_9i, zSL_9a, zSL_9l, zSL_10n, zSL_10i, zSL_10a, zSL_10l, zSL_11n, zSL_11i, zSL_11a, zSL_11l, zSL_12n, zSL_12i, zSL_12a, zSL_12l, zLI_0, zLL_0, zLA_0, zLI_1, zLL_1, zLA_1, zLI_2, zLL_2, zLA_2, zLI_3, zLL_3, zLA_3, zLI_4, zLL_4, zLA_4, zLI_5, zLL_5, zLA_5, zLI_6, zLL_6, zLA_6, zLI_7, zLL_7, zLA_7, zLI_8, zLL_8, zLA_8, zLI_9, zLL_9, zLA_9, zLI_10, zLL_10, zLA_10, zLI_11, zLL_11, zLA_11, zLI_12, zLL_12, zLA_12, zLI_13, zLL_13, zLA_13, zst_0, zst_1n, zst_1i, zst_1a, zst_2n, zst_2i, zst_2a, zst_3n, zst_3i, zst_3a, zst_4n, zst_4i, zst_4a, zst_5n, zst_5i, zst_5a, zst_6n, zst_6i, zst_6a, zst_7n, zst_7i, zst_7a, zst_8n, zst_8i, zst_8a, zst_9n, zst_9i, zst_9a, zst_10n, zst_10i, zst_10a, zst_11n, zst_11i, zst_11a, zst_12n, zst_12i, zst_12a, zst_13n, zst_13i, zst_13a, zst_14n, zst_14i, zst_14a, zst_15n, zst_15i, zst_15a, zR1_n, zR1_v, zsum_n, zsum_i, zsum_l, zsum_a, zlen_n, zlen_i, zlen_l, zlen_a, List.not_mem_nil, List.mem_cons, or_false, false_or, or_self, ↓reduceIte, if_false, if_true, Nat.reduceEqDiff, Nat.reduceAdd, Nat.reduceLeDiff, true_and, and_true, reduceCtorEq, ne_eq, Int.toNat_natCast, not_true_eq_false, not_false_eq_true, true_implies, false_implies, implies_true, Int.reduceToNat, Int.toNat_zero, Int.reduceLT, Int.reduceLE, Int.reduceEq, Int.reduceAdd, Int.reduceMul, Int.reduceNeg]
  all_goals ((repeat' (first | with_reducible refine And.intro ?_ ?_ | with_reducible intro _)) <;> try first | with_reducible rfl | with_reducible assumption | omega | (unfold zr32; omega) | contradiction | (exact absurd (by omega) (by assumption)) | rfl | (simp only [Sum.inl.injEq, Option.some.injEq]; omega))
theorem c142_g {h l c x y r v : Int} {M9 : zM} (hR : zLay M.2.2.2) (hm : zmd M.2.1 m) (hm6 : m < 60) (hx : zr32 x) (hy : zr32 y) (k0 : 0 ≤ h ∧ h < 3) (k1 : 0 ≤ l ∧ l < 4) (k2 : 1 ≤ c ∧ c ≤ 9) (k3 : zdia x y r) (e10 : ∀ Q : zO → zM → Prop, zFR (zK L) 10 0 (zcall 10 [.inr (.inr 3), .inr (.inr (855 + 4 * m)), .inl (m : Int)]) [] (zpnM M m h l c 4 (zdx x r) (zdy y r)) Q = Q (.inl (some (.inl v))) M9) (hR9 : M9.2.2.2 = M.2.2.2) (hm9 : M9.2.1 2 2 = (m : Int)) : zFR (zK L) 142 0 (zcall 142 [.inr (.inr 2), .inl h, .inl l, .inl c, .inl x, .inl y, .inl r]) [] M Q = ((v = -1 → Q (.inr 1) (zthrown M9)) ∧ (¬ v = -1 → Q (.inl (some (.inl v))) (zwI M9 (zu2 (zu2 M9.2.1 (855 + 4 * m) 11 1) 2 2 ((m : Int) + 1))))) := by
  have k9 := k3
  unfold zdia at k9
  have y1 := fun Q => (c127 (L := L) (M := M) (Q := Q) (x := x)).trans (zyes (show 0 ≤ x ∧ x ≤ 60 by omega))
  have y2 := fun Q => (c127 (L := L) (M := M) (Q := Q) (x := y)).trans (zyes (show 0 ≤ y ∧ y ≤ 60 by omega))
  have y3 := fun Q => (c127 (L := L) (M := M) (Q := Q) (x := x + -r)).trans (zyes (show 0 ≤ x + -r ∧ x + -r ≤ 60 by omega))
  have y4 := fun Q => (c127 (L := L) (M := M) (Q := Q) (x := x + r)).trans (zyes (show 0 ≤ x + r ∧ x + r ≤ 60 by omega))
  have y5 := fun Q => (c127 (L := L) (M := M) (Q := Q) (x := y + -r)).trans (zyes (show 0 ≤ y + -r ∧ y + -r ≤ 60 by omega))
  have y6 := fun Q => (c127 (L := L) (M := M) (Q := Q) (x := y + r)).trans (zyes (show 0 ≤ y + r ∧ y + r ≤ 60 by omega))
  have y7 := y3
  have y8 := y5
  rw [← Int.sub_eq_add_neg] at y7 y8
  have e0 := fun Q => (c131 (L := L) (M := M) (Q := Q) (h := h)).trans (zyes k0)
  have e1 := fun Q => (c132 (L := L) (M := M) (Q := Q) (h := l)).trans (zyes k1)
  have e2 := fun Q => (c133 (L := L) (M := M) (Q := Q) (v := c)).trans (zyes k2)
  have e4 := fun Q => (c136 (L := L) (M := M) (Q := Q) (m := m) (h := h) (l := l) (c := c) hR hm).trans (zyes hm6)
  have k8 := k9
  have e5 := fun Q => c86 (L := L) (M := zdgM M m h l c) (Q := Q) (a := 856 + 4 * m) (x := x) (y := y) (r := r) (zPoA_ch hm6) hR (by unfold zr32; omega) (by unfold zr32; omega) (by unfold zr32; omega) (by unfold zr32; omega)
  have e5' : ∀ Q : zO → zM → Prop, zFR (zK L) 86 0 (zcall 86 [.inr (.inr (856 + 4 * m)), .inl x, .inl y, .inl r]) [] (zdgM M m h l c) Q = Q (.inl none) (zpnM M m h l c 4 (zdx x r) (zdy y r)) := e5
  have hm2 : (zpnM M m h l c 4 (zdx x r) (zdy y r)).2.1 2 2 = (m : Int) := (zpn_cw.1 2 2 (by omega)).trans hm.1
  have e138 := fun Q => c138 (L := L) (M := zpnM M m h l c 4 (zdx x r) (zdy y r)) (Q := Q) (m := m) (v := v) (M9 := M9) hR hR9 hm2 hm9 hm6 e10
  have kp := (zK_po (L := L) (zPoA_ch hm6)).1
  have r12 : (zdgM M m h l c).2.2.2 (855 + 4 * m) 12 = 856 + 4 * m := (hR.2.2.2 m hm6).2.2
  by_cases hv : v = -1
  · have e138v := fun Q => (e138 Q).trans (zyes hv)
    rw [zFR_det (r0 := .inr 1) (M0 := zthrown M9) (zW_sound 60 [88] ?_) Q]
    · exact (zyes hv).symm
    · simp only [ZF142, ZR142, zk_2, zK_ch hm6, kp, r12, ZF131.1, ZF131.2.1, ZF131.2.2.1, ZF132.1, ZF132.2.1, ZF132.2.2.1, ZF133.1, ZF133.2.1, ZF133.2.2.1, ZF136.1, ZF136.2.1, ZF136.2.2.1, ZF86.1, ZF86.2.1, ZF86.2.2.1, ZF138.1, ZF138.2.1, ZF138.2.2.1, ZF127.1, ZF127.2.1, ZF127.2.2.1, y1, y2, y3, y4, y5, y6, y7, y8, e0, e1, e2, e4, e5', e138v, zR1_p ZF142.2.2.1, zW_succ, zE_iload, zE_aload, zE_lload, zE_iinc, zE_istore, zE_astore, zE_lstore, zE_iconst, zE_ldc2, zE_iadd, zE_isub, zE_imul, zE_idiv, zE_irem, zE_ineg, zE_iand, zE_ior, zE_ixor, zE_ishl, zE_ishr, zE_land, zE_lor, zE_lxor, zE_lshl, zE_lshr, zE_i2l, zE_lcmp, zE_dup_i, zE_dup_a, zE_dup2_ia, zE_pop_i, zE_pop_a, zE_pop2, zE_goto, zE_if_eq, zE_icmp_eq, zE_if_ne, zE_icmp_ne, zE_if_lt, zE_icmp_lt, zE_if_ge, zE_icmp_ge, zE_if_gt, zE_icmp_gt, zE_if_le, zE_icmp_le, zE_iaload, zE_baload, zE_laload, zE_aaload, zE_iastore, zE_bastore, zE_lastore, zE_aastore, zE_alen, zE_getf0, zE_getf1, zE_getf2, zE_getf3, zE_putf0, zE_putf1, zE_putf2, zE_putf3, zE_new, zE_newa, zE_newq, zE_ireturn, zE_lreturn, zE_areturn, zE_return, zE_athrow, zE_st0, zE_vi0, zE_st1, zE_vi1, zE_st2, zE_vi2, zE_st3, zE_vi3, zE_st4, zE_vi4, zE_st5, zE_vi5, zE_st6, zE_vi6, zE_st7, zE_vi7, zE_st8, zE_vi8, zSt_0, zSL_0, zSt_1n, zSt_1i, zSt_1a, zSt_1l, zSt_2n, zSt_2i, zSt_2a, zSt_2l, zSt_3n, zSt_3i, zSt_3a, zSt_3l, zSt_4n, zSt_4i, zSt_4a, zSt_4l, zSt_5n, zSt_5i, zSt_5a, zSt_5l, zSt_6n, zSt_6i, zSt_6a, zSt_6l, zSt_7n, zSt_7i, zSt_7a, zSt_7l, zSt_8n, zSt_8i, zSt_8a, zSt_8l, zSt_9n, zSt_9i, zSt_9a, zSt_9l, zSt_10n, zSt_10i, zSt_10a, zSt_10l, zSt_11n, zSt_11i, zSt_11a, zSt_11l, zSt_12n, zSt_12i, zSt_12a, zSt_12l, zSt_13n, zSt_13i, zSt_13a, zSt_13l, zSL_1n, zSL_1i, zSL_1a, zSL_1l, zSL_2n, zSL_2i, zSL_2a, zSL_2l, zSL_3n, zSL_3i, zSL_3a, zSL_3l, zSL_4n, zSL_4i, zSL_4a, zSL_4l, zSL_5n, zSL_5i, zSL_5a, zSL_5l, zSL_6n, zSL_6i, zSL_6a, zSL_6l, zSL_7n, zSL_7i, zSL_7a, zSL_7l, zSL_8n, zSL_8i, zSL_8a, zSL_8l, zSL_9n, zSL_9i, zSL_9a, zSL_9l, zSL_10n, zSL_10i, zSL_10a, zSL_10l, zSL_11n, zSL_11i, zSL_11a, zSL_11l, zSL_12n, zSL_12i, zSL_12a, zSL_12l, zLI_0, zLL_0, zLA_0, zLI_1, zLL_1, zLA_1, zLI_2, zLL_2, zLA_2, zLI_3, zLL_3, zLA_3, zLI_4, zLL_4, zLA_4, zLI_5, zLL_5, zLA_5, zLI_6, zLL_6, zLA_6, zLI_7, zLL_7, zLA_7, zLI_8, zLL_8, zLA_8, zLI_9, zLL_9, zLA_9, zLI_10, zLL_10, zLA_10, zLI_11, zLL_11, zLA_11, zLI_12, zLL_12, zLA_12, zLI_13, zLL_13, zLA_13, zst_0, zst_1n, zst_1i, zst_1a, zst_2n, zst_2i, zst_2a, zst_3n, zst_3i, zst_3a, zst_4n, zst_4i, zst_4a, zst_5n, zst_5i, zst_5a, zst_6n, zst_6i, zst_6a, zst_7n, zst_7i, zst_7a, zst_8n, zst_8i, zst_8a, zst_9n, zst_9i, zst_9a, zst_10n, zst_10i, zst_10a, zst_11n, zst_11i, zst_11a, zst_12n, zst_12i, zst_12a, zst_13n, zst_13i, zst_13a, zst_14n, zst_14i, zst_14a, zst_15n, zst_15i, zst_15a, zR1_n, zR1_v, zsum_n, zsum_i, zsum_l, zsum_a, zlen_n, zlen_i, zlen_l, zlen_a, List.not_mem_nil, List.mem_cons, or_false, false_or, or_self, ↓reduceIte, if_false, if_true, Nat.reduceEqDiff, Nat.reduceAdd, Nat.reduceLeDiff, true_and, and_true, reduceCtorEq, ne_eq, Int.toNat_natCast, not_true_eq_false, not_false_eq_true, true_implies, false_implies, implies_true, Int.reduceToNat, Int.toNat_zero, Int.reduceLT, Int.reduceLE, Int.reduceEq, Int.reduceAdd, Int.reduceMul, Int.reduceNeg]
      all_goals ((repeat' (first | with_reducible refine And.intro ?_ ?_ | with_reducible intro _)) <;> try first | with_reducible rfl | with_reducible assumption | omega | (unfold zr32; omega) | contradiction | (exact absurd (by omega) (by assumption)) | rfl | (simp only [Sum.inl.injEq, Option.some.injEq]; omega))
  · have e138v := fun Q => (e138 Q).trans (znot hv)
    rw [zFR_det (r0 := .inl (some (.inl v))) (M0 := zwI M9 (zu2 (zu2 M9.2.1 (855 + 4 * m) 11 1) 2 2 ((m : Int) + 1))) (zW_sound 60 [88] ?_) Q]
    · exact (znot hv).symm
    · simp only [ZF142, ZR142, zk_2, zK_ch hm6, kp, r12, ZF131.1, ZF131.2.1, ZF131.2.2.1, ZF132.1, ZF132.2.1, ZF132.2.2.1, ZF133.1, ZF133.2.1, ZF133.2.2.1, ZF136.1, ZF136.2.1, ZF136.2.2.1, ZF86.1, ZF86.2.1, ZF86.2.2.1, ZF138.1, ZF138.2.1, ZF138.2.2.1, ZF127.1, ZF127.2.1, ZF127.2.2.1, y1, y2, y3, y4, y5, y6, y7, y8, e0, e1, e2, e4, e5', e138v, zR1_p ZF142.2.2.1, zW_succ, zE_iload, zE_aload, zE_lload, zE_iinc, zE_istore, zE_astore, zE_lstore, zE_iconst, zE_ldc2, zE_iadd, zE_isub, zE_imul, zE_idiv, zE_irem, zE_ineg, zE_iand, zE_ior, zE_ixor, zE_ishl, zE_ishr, zE_land, zE_lor, zE_lxor, zE_lshl, zE_lshr, zE_i2l, zE_lcmp, zE_dup_i, zE_dup_a, zE_dup2_ia, zE_pop_i, zE_pop_a, zE_pop2, zE_goto, zE_if_eq, zE_icmp_eq, zE_if_ne, zE_icmp_ne, zE_if_lt, zE_icmp_lt, zE_if_ge, zE_icmp_ge, zE_if_gt, zE_icmp_gt, zE_if_le, zE_icmp_le, zE_iaload, zE_baload, zE_laload, zE_aaload, zE_iastore, zE_bastore, zE_lastore, zE_aastore, zE_alen, zE_getf0, zE_getf1, zE_getf2, zE_getf3, zE_putf0, zE_putf1, zE_putf2, zE_putf3, zE_new, zE_newa, zE_newq, zE_ireturn, zE_lreturn, zE_areturn, zE_return, zE_athrow, zE_st0, zE_vi0, zE_st1, zE_vi1, zE_st2, zE_vi2, zE_st3, zE_vi3, zE_st4, zE_vi4, zE_st5, zE_vi5, zE_st6, zE_vi6, zE_st7, zE_vi7, zE_st8, zE_vi8, zSt_0, zSL_0, zSt_1n, zSt_1i, zSt_1a, zSt_1l, zSt_2n, zSt_2i, zSt_2a, zSt_2l, zSt_3n, zSt_3i, zSt_3a, zSt_3l, zSt_4n, zSt_4i, zSt_4a, zSt_4l, zSt_5n, zSt_5i, zSt_5a, zSt_5l, zSt_6n, zSt_6i, zSt_6a, zSt_6l, zSt_7n, zSt_7i, zSt_7a, zSt_7l, zSt_8n, zSt_8i, zSt_8a, zSt_8l, zSt_9n, zSt_9i, zSt_9a, zSt_9l, zSt_10n, zSt_10i, zSt_10a, zSt_10l, zSt_11n, zSt_11i, zSt_11a, zSt_11l, zSt_12n, zSt_12i, zSt_12a, zSt_12l, zSt_13n, zSt_13i, zSt_13a, zSt_13l, zSL_1n, zSL_1i, zSL_1a, zSL_1l, zSL_2n, zSL_2i, zSL_2a, zSL_2l, zSL_3n, zSL_3i, zSL_3a, zSL_3l, zSL_4n, zSL_4i, zSL_4a, zSL_4l, zSL_5n, zSL_5i, zSL_5a, zSL_5l, zSL_6n, zSL_6i, zSL_6a, zSL_6l, zSL_7n, zSL_7i, zSL_7a, zSL_7l, zSL_8n, zSL_8i, zSL_8a, zSL_8l, zSL_9n, zSL_9i, zSL_9a, zSL_9l, zSL_10n, zSL_10i, zSL_10a, zSL_10l, zSL_11n, zSL_11i, zSL_11a, zSL_11l, zSL_12n, zSL_12i, zSL_12a, zSL_12l, zLI_0, zLL_0, zLA_0, zLI_1, zLL_1, zLA_1, zLI_2, zLL_2, zLA_2, zLI_3, zLL_3, zLA_3, zLI_4, zLL_4, zLA_4, zLI_5, zLL_5, zLA_5, zLI_6, zLL_6, zLA_6, zLI_7, zLL_7, zLA_7, zLI_8, zLL_8, zLA_8, zLI_9, zLL_9, zLA_9, zLI_10, zLL_10, zLA_10, zLI_11, zLL_11, zLA_11, zLI_12, zLL_12, zLA_12, zLI_13, zLL_13, zLA_13, zst_0, zst_1n, zst_1i, zst_1a, zst_2n, zst_2i, zst_2a, zst_3n, zst_3i, zst_3a, zst_4n, zst_4i, zst_4a, zst_5n, zst_5i, zst_5a, zst_6n, zst_6i, zst_6a, zst_7n, zst_7i, zst_7a, zst_8n, zst_8i, zst_8a, zst_9n, zst_9i, zst_9a, zst_10n, zst_10i, zst_10a, zst_11n, zst_11i, zst_11a, zst_12n, zst_12i, zst_12a, zst_13n, zst_13i, zst_13a, zst_14n, zst_14i, zst_14a, zst_15n, zst_15i, zst_15a, zR1_n, zR1_v, zsum_n, zsum_i, zsum_l, zsum_a, zlen_n, zlen_i, zlen_l, zlen_a, List.not_mem_nil, List.mem_cons, or_false, false_or, or_self, ↓reduceIte, if_false, if_true, Nat.reduceEqDiff, Nat.reduceAdd, Nat.reduceLeDiff, true_and, and_true, reduceCtorEq, ne_eq, Int.toNat_natCast, not_true_eq_false, not_false_eq_true, true_implies, false_implies, implies_true, Int.reduceToNat, Int.toNat_zero, Int.reduceLT, Int.reduceLE, Int.reduceEq, Int.reduceAdd, Int.reduceMul, Int.reduceNeg]
      all_goals ((repeat' (first | with_reducible refine And.intro ?_ ?_ | with_reducible intro _)) <;> try first | with_reducible rfl | with_reducible assumption | omega | (unfold zr32; omega) | contradiction | (exact absurd (by omega) (by assumption)) | rfl | (simp only [Sum.inl.injEq, Option.some.injEq]; omega))
theorem zqA_142 (hW : zqW m M) (c2 : cc 2 = 1) (c0 : cc 0 = 2) (c1 : cc 1 = 3) {h l c x y r : Int} (hx : zr32 x) (hy : zr32 y) : zqAg L M 142 [.inr (.inr 2), .inl h, .inl l, .inl c, .inl x, .inl y, .inl r] 263 [.inr (.inr 1153), .inl h, .inl l, .inl c, .inl x, .inl y, .inl r] cc := by
  have hR := hW.1.1
  have hm := zqmd hW
  have m8 : M.2.1 1153 8 = (m : Int) := hW.1.2.2.2.1.2
  by_cases k : (0 ≤ h ∧ h < 3) ∧ 0 ≤ l ∧ l < 4
  · by_cases k2 : (1 ≤ c ∧ c ≤ 9) ∧ zdia x y r
    · obtain ⟨k2, k3⟩ := k2
      have k4 := k3
      unfold zdia at k4
      have kr : (1 ≤ c ∧ c ≤ 9) ∧ (1 ≤ r ∧ r ≤ 30) ∧ (r ≤ x ∧ x ≤ 60 - r) ∧ (r ≤ y ∧ y ≤ 60 - r) := by omega
      by_cases hm6 : m < 60
      · refine zqAg_g2 (e := 3) (fun B => zwI B (zrtl (zrpts (zrtw B.2.1 0) m (zdx x r) (zdy y r) 4) m 0 h l c 0 0)) rfl rfl rfl hW hm6 (C2 := zpnM M m h l c 4 (zdx x r) (zdy y r)) zpn_cw ?_ rfl (fun B b4 bn => ?_) (fun v M9 e10 hR9 hm9 _ Q => c142_g hR hm hm6 hx hy k.1 k.2 k2 k3 e10 hR9 hm9) (fun B M9 b4 bn e192 Q => ?_) (fun B M9 b4 bn e192 lM h8 Q => ?_) c1
        · exact funext fun j => zpn_cw.2.1 _ _ (by omega)
        · obtain ⟨⟨p1, p2, p3⟩, p4⟩ := zrpts_H (m := m) (B := B) (F := zrtw B.2.1 0) (n := 4) (X := zdx x r) (Y := zdy y r) (by omega) (fun b j q1 q2 q3 => zu2_sj (by omega))
          refine ⟨zpn_told p4, fun b j hb => ?_, rfl, rfl, zpn_J (by omega) (by omega) k2 (by omega) (fun j hj => ?_) (zpr_dx (by omega)) p1 p2 p3⟩
          · unfold zqXs at hb
            show zrtl _ m 0 h l c 0 0 b j = _
            unfold zrtl
            rw [zu2_sj (by omega), zu2_sj (by omega), zu2_sj (by omega), zu2_sj (by omega), zu2_sj (by omega), zu2_sj (by omega), zrpts_o (by omega)]
            exact zu2_sj (by omega)
          · unfold zdx zdy
            constructor <;> split <;> (try split) <;> omega
        · have m8B : (zrpts (zrtw B.2.1 0) m (zdx x r) (zdy y r) 4) 1153 8 = (m : Int) := by
            rw [zrpts_o (by omega)]
            exact (zu2_sj (by omega)).trans ((bn _ _ (by omega)).trans m8)
          exact c263_g (by rw [b4]; exact hR) (by omega) (by omega) kr ((bn _ _ (by omega)).trans m8) hm6 (fun Q9 => c253_0 (M := zwI B (zrpts (zrtw B.2.1 0) m (zdx x r) (zdy y r) 4)) (show zLay B.2.2.2 by rw [b4]; exact hR) m8B hm6 e192)
        · have m8B : (zrpts (zrtw B.2.1 0) m (zdx x r) (zdy y r) 4) 1153 8 = (m : Int) := by
            rw [zrpts_o (by omega)]
            exact (zu2_sj (by omega)).trans ((bn _ _ (by omega)).trans m8)
          exact c263_g (by rw [b4]; exact hR) (by omega) (by omega) kr ((bn _ _ (by omega)).trans m8) hm6 (fun Q9 => c253_1 (M := zwI B (zrpts (zrtw B.2.1 0) m (zdx x r) (zdy y r) 4)) (show zLay B.2.2.2 by rw [b4]; exact hR) m8B hm6 e192 lM h8)
      · exact zqAg_no (e := 1) (d := 3) hW (by omega) (fun Q => c142_f hR hm hm6 hx hy k.1 k.2 k2 k3) (.inl 0) (fun B b2 b4 Q => c263_3 (by omega) (by omega) kr (by rw [b2, m8]; have := hm.2; omega)) c1
    · refine zqAg_no (e := 0) (d := 2) hW (by omega) (fun Q => c142_1 hx hy k.1 k.2 k2) (.inl 0) (fun B b2 b4 Q => c263_2 (by omega) (by omega) (fun kr => k2 ?_)) c0
      unfold zdia
      omega
  · exact zqAg_no (e := 2) (d := 1) hW (by omega) (fun Q => c142_0 k) (.inl 0) (fun B b2 b4 Q => c263_1 (by omega)) c2
end ZDIAQ
/-! draw: both note it, and empty the pen -/
section ZPENQ
variable {L m : Nat} {M M0 B C2 : zM} {Q : zO → zM → Prop} {cc : Nat → Int}
theorem zqAg_g3 {mc mr : Nat} {ac ar : List zV} {cc : Nat → Int} (T : zM → zM) (hW : zqW m M) (hm6 : m < 60) (hc : zqCw m C2 M) (hl : C2.2.2.1 1205 = M.2.2.1 1205) (c1 : C2.1 = M.1) (told : ∀ B : zM, B.2.2.2 = M.2.2.2 → (∀ b j, 1153 ≤ b → B.2.1 b j = M.2.1 b j) → zqTold m (T B) B ∧ (∀ b j, zqXs b j → (b ≠ 1153 ∨ j ≠ 3) → (T B).2.1 b j = B.2.1 b j) ∧ (T B).1 = B.1 ∧ (T B).2.2.1 1205 = B.2.2.1 1205 ∧ zqJe C2 (T B) m ∧ (T B).2.1 1153 3 = 0) (nf : ∀ (v : Int) (M9 : zM), (∀ Q : zO → zM → Prop, zFR (zK L) 10 0 (zcall 10 [.inr (.inr 3), .inr (.inr (855 + 4 * m)), .inl (m : Int)]) [] C2 Q = Q (.inl (some (.inl v))) M9) → v ≠ -1) (eC : ∀ (v : Int) (M9 : zM), (∀ Q : zO → zM → Prop, zFR (zK L) 10 0 (zcall 10 [.inr (.inr 3), .inr (.inr (855 + 4 * m)), .inl (m : Int)]) [] C2 Q = Q (.inl (some (.inl v))) M9) → M9.2.2.2 = M.2.2.2 → M9.2.1 2 2 = (m : Int) → (∀ b j, 1095 ≤ b → M9.2.1 b j = M.2.1 b j) → v ≠ -1 → ∀ Q : zO → zM → Prop, zFR (zK L) mc 0 (zcall mc ac) [] M Q = Q (.inl (some (.inl v))) (zwI M9 (zu2 (zu2 (zu2 M9.2.1 (855 + 4 * m) 11 1) 2 2 ((m : Int) + 1)) 1095 0 0))) (eR1 : ∀ (B M9 : zM), B.2.2.2 = M.2.2.2 → (∀ b j, 1153 ≤ b → B.2.1 b j = M.2.1 b j) → (∀ Q : zO → zM → Prop, zFR (zK L) 192 0 (zcall 192 [.inr (.inr 1153), .inl (m : Int)]) [] (T B) Q = Q (.inl (some (.inl 1))) M9) → zLay M9.2.2.2 → M9.2.1 1153 8 = (m : Int) → ∀ Q : zO → zM → Prop, zFR (zK L) mr 0 (zcall mr ar) [] B Q = Q (.inl (some (.inl (M9.2.1 1153 36)))) (zwI M9 (zrmk M9.2.1 m))) : zqAg L M mc ac mr ar cc := by
  have self := told M rfl (fun _ _ _ => rfl)
  obtain ⟨F, v, e1, F22, f1, r⟩ := zqPmk (L := L) (C := M) (N0 := M) (zqsplit hW.1 (fun _ _ _ => rfl) (fun _ => rfl) rfl) hm6 hc self.1 self.2.2.2.2.1
  have FM : ∀ b j, 1095 ≤ b → F b j = M.2.1 b j := fun b j hb => (f1 b j (by omega)).trans (hc.1 b j (by omega))
  have hv := nf v _ e1
  have ec := eC v (zwI C2 F) e1 hc.2.2 F22 FM hv
  have m8 : M.2.1 1153 8 = (m : Int) := hW.1.2.2.2.1.2
  refine ⟨.inl (some (.inl v)), _, ec, hc.2.2, hl, fun B b1 b2 b3 b4 => ?_⟩
  have b2' : B.2.1 = zu2 (zu2 (zu2 F (855 + 4 * m) 11 1) 2 2 ((m : Int) + 1)) 1095 0 0 := b2
  have b4' : B.2.2.2 = M.2.2.2 := b4.trans hc.2.2
  have bF : ∀ b j, 1095 ≤ b → (b ≠ 1095 ∨ j ≠ 0) → B.2.1 b j = M.2.1 b j := fun b j hb hb2 => by
    rw [b2', zu2_sj hb2, zu2_sj (by omega), zu2_sj (by omega)]
    exact FM b j hb
  have bn : ∀ b j, 1153 ≤ b → B.2.1 b j = M.2.1 b j := fun b j hb => bF b j (by omega) (by omega)
  have bl : ∀ j, B.2.2.1 1162 j = M.2.2.1 1162 j := fun j => by
    rw [b3 1162 (by omega)]
    exact hc.2.1 _ _ (by omega)
  obtain ⟨t1, t2, t3, t4, t5, t6⟩ := told B b4' bn
  obtain ⟨G, g1, g2, r⟩ := r B _ (zqsplit hW.1 bn bl b4') t1 t5
  rcases r with ⟨v1, _⟩ | ⟨v0, e2, ga, r⟩
  · exact absurd v1 hv
  · have g8 : G 1153 8 = (m : Int) := (g2 8 (by omega) (by omega) (by omega)).trans ((t1.1 1153 8 (by omega) (by omega) (by omega) (by omega) (by omega) (by omega)).trans ((bn _ _ (by omega)).trans m8))
    have lT : zLay (T B).2.2.2 := by rw [t1.2.2, b4']; exact hW.1.1
    have fin : ∀ b j, (b ≠ 1153 ∨ (j ≠ 0 ∧ j ≠ 8)) → b ≠ 1160 → zrmk G m b j = G b j := fun b j q1 q2 => by
      unfold zrmk zrtw
      rw [zu2_sj (by omega), zu2_sj (by omega), zu2_sj (by omega)]
    have oX : ∀ b j, zqXs b j → (b ≠ 1153 ∨ j ≠ 3) → (b ≠ 1095 ∨ j ≠ 0) → zrmk G m b j = M.2.1 b j := fun b j hb q1 q2 => by
      have hb2 := hb
      unfold zqXs at hb
      rw [fin b j (by omega) (by omega)]
      by_cases q : b = 1153
      · subst q
        rw [g2 j (by omega) (by omega) (by omega), t2 1153 j hb2 q1, bn _ _ (by omega)]
      · rw [g1 b j (by omega), t2 b j hb2 q1]
        exact bF b j (by omega) q2
    refine ⟨.inl v, zwI (T B) (zrmk G m), m + 1, fun Q => ?_, t3, t4, ⟨zqjoin (C := zwI C2 (zu2 (zu2 F (855 + 4 * m) 11 1) 2 2 ((m : Int) + 1))) r (fun b j hb => ?_) (fun _ _ _ => rfl) (fun k j hk => ?_) (fun j => rfl) (t1.2.2.trans (b4'.trans hc.2.2.symm)), ⟨?_, ?_, ?_, ?_⟩⟩, Or.inl ⟨rfl, ?_, c1⟩⟩
    · have := eR1 B (zwI (T B) G) b4' bn e2 lT g8 Q
      rw [zwI_I, ga] at this
      exact this
    · show zrmk G m b j = zu2 (zu2 F (855 + 4 * m) 11 1) 2 2 ((m : Int) + 1) b j
      rw [fin b j (by omega) (by omega), g1 b j (by omega), t1.1 b j (by omega) (by omega) (by omega) (by omega) (by omega) (by omega), b2', zu2_sj (by omega)]
    · show (T B).2.2.1 (855 + 4 * k) j = C2.2.2.1 (855 + 4 * k) j
      rw [t1.2.1 _ _ (by omega), b3 _ (by omega)]
      rfl
    · have p1 : zrmk G m 1153 3 = 0 := by
        rw [fin 1153 3 (by omega) (by omega), g2 3 (by omega) (by omega) (by omega), t6]
      have p2 : zrmk G m 1095 0 = 0 := by
        rw [fin 1095 0 (by omega) (by omega), g1 1095 0 (by omega), t2 1095 0 (by unfold zqXs; omega) (by omega), b2', zu2_eq]
      show zqPen (zrmk G m)
      unfold zqPen
      rw [p1, p2]
      exact ⟨by omega, fun j hj => absurd hj (by omega)⟩
    · exact zqTap_c hW.2.2.1 (fun b j hb => oX b j (by unfold zqXs; omega) (by omega) (by omega))
    · exact zqShe_c hW.2.2.2.1 (fun b j hb => oX b j (by unfold zqXs; omega) (by omega) (by omega))
    · exact zqMis_c hW.2.2.2.2 (fun b j hb => oX b j (by unfold zqXs; omega) (by omega) (by omega))
    · show zrmk G m 1153 0 = 0
      unfold zrmk zrtw
      rw [zu2_sj (by omega), zu2_sj (by omega), zu2_eq]
/-- a new shape is never refused -/
theorem zqno {N : zM} {v : Int} {M9 : zM} (hc : zqCw m C2 M) (hW : zqW m M) (hm6 : m < 60) (hj : zqJ0 C2 N m) (e10 : ∀ Q : zO → zM → Prop, zFR (zK L) 10 0 (zcall 10 [.inr (.inr 3), .inr (.inr (855 + 4 * m)), .inl (m : Int)]) [] C2 Q = Q (.inl (some (.inl v))) M9) : v ≠ -1 := by
  obtain ⟨⟨j0, j1⟩, ⟨j2, j3⟩, jh, ⟨j4, j4b⟩, ⟨j5, j5b⟩, ⟨j6, j6b⟩, j7, j8⟩ := hj
  have hM : zLay C2.2.2.2 := by rw [hc.2.2]; exact hW.1.1
  have rel : zqR m C2.2.1 M.2.1 := zqR_keep3 (fun b j hb => hc.1 b j (by omega)) (fun j hj => by rw [hc.1 8 j (by omega)]; exact zqR_ch hW.1.2.1 j hj) (fun _ _ _ => rfl) rfl hW.1.2.1
  have hg : zgua C2.2.1 m := ⟨Or.inl j2, Or.inl j3⟩
  have ec := fun Q9 => c11 (L := L) (M := C2) (c := m) (num := m) (Q := Q9) hM (zqR_bk rel) hm6 hm6 (rel.2.2.2.2.2.2.2.2.1 m hm6) ⟨by omega, by omega, fun j hj => by
    obtain ⟨a, b, c, d⟩ := j7 j (by omega)
    rw [a, b]
    exact ⟨c.1, c.2, d.1, d.2⟩⟩
  have e0 := fun Q9 => c10_0 (L := L) (M := C2) (Q := Q9) (c := m) (num := m) hM (zqR_01 rel) hm6 hm6 hg j0 ec
  obtain ⟨u1, _⟩ := zFR_uq e0 e10
  have := Sum.inl.inj (Option.some.inj (Sum.inl.inj u1))
  omega
-- the class
theorem c130_0 {h l c : Int} (kn : ¬ ((0 ≤ h ∧ h < 3) ∧ 0 ≤ l ∧ l < 4)) : zFR (zK L) 130 0 (zcall 130 [.inr (.inr 2), .inl h, .inl l, .inl c]) [] M Q = Q (.inr 2) (zthrown M) := by
  refine zFR_det ?_ Q
  by_cases k0 : 0 ≤ h ∧ h < 3
  · have e0 := fun Q => (c131 (L := L) (M := M) (Q := Q) (h := h)).trans (zyes k0)
    have e1 := fun Q => (c132 (L := L) (M := M) (Q := Q) (h := l)).trans (znot (fun k1 => kn ⟨k0, k1⟩))
    refine zW_sound 60 [] ?_
    simp only [ZF130, ZR130, zk_2, ZF131.1, ZF131.2.1, ZF131.2.2.1, ZF132.1, ZF132.2.1, ZF132.2.2.1, e0, e1, zR1_p ZF130.2.2.1, zW_succ, zE_iload, zE_aload, zE_lload, zE_iinc, zE_istore, zE_astore, zE_lstore, zE_iconst, zE_ldc2, zE_iadd, zE_isub, zE_imul, zE_idiv, zE_irem, zE_ineg, zE_iand, zE_ior, zE_ixor, zE_ishl, zE_ishr, zE_land, zE_lor, zE_lxor, zE_lshl, zE_lshr, zE_i2l, zE_lcmp, zE_dup_i, zE_dup_a, zE_dup2_ia, zE_pop_i, zE_pop_a, zE_pop2, zE_goto, zE_if_eq, zE_icmp_eq, zE_if_ne, zE_icmp_ne, zE_if_lt, zE_icmp_lt, zE_if_ge, zE_icmp_ge, zE_if_gt, zE_icmp_gt, zE_if_le, zE_icmp_le, zE_iaload, zE_baload, zE_laload, zE_aaload, zE_iastore, zE_bastore, zE_lastore, zE_aastore, zE_alen, zE_getf0, zE_getf1, zE_getf2, zE_getf3, zE_putf0, zE_putf1, zE_putf2, zE_putf3, zE_new, zE_newa, zE_newq, zE_ireturn, zE_lreturn, zE_areturn, zE_return, zE_athrow, zE_st0, zE_vi0, zE_st1, zE_vi1, zE_st2, zE_vi2, zE_st3, zE_vi3, zE_st4, zE_vi4, zE_st5, zE_vi5, zE_st6, zE_vi6, zE_st7, zE_vi7, zE_st8, zE_vi8, zSt_0, zSL_0, zSt_1n, zSt_1i, zSt_1a, zSt_1l, zSt_2n, zSt_2i, zSt_2a, zSt_2l, zSt_3n, zSt_3i, zSt_3a, zSt_3l, zSt_4n, zSt_4i, zSt_4a, zSt_4l, zSt_5n, zSt_5i, zSt_5a, zSt_5l, zSt_6n, zSt_6i, zSt_6a, zSt_6l, zSt_7n, zSt_7i, zSt_7a, zSt_7l, zSt_8n, zSt_8i, zSt_8a, zSt_8l, zSt_9n, zSt_9i, zSt_9a, zSt_9l, zSt_10n, zSt_10i, zSt_10a, zSt_10l, zSt_11n, zSt_11i, zSt_11a, zSt_11l, zSt_12n, zSt_12i, zSt_12a, zSt_12l, zSt_13n, zSt_13i, zSt_13a, zSt_13l, zSL_1n, zSL_1i, zSL_1a, zSL_1l, zSL_2n, zSL_2i, zSL_2a, zSL_2l, zSL_3n, zSL_3i, zSL_3a, zSL_3l, zSL_4n, zSL_4i, zSL_4a, zSL_4l, zSL_5n, zSL_5i, zSL_5a, zSL_5l, zSL_6n, zSL_6i, zSL_6a, zSL_6l, zSL_7n, zSL_7i, zSL_7a, zSL_7l, zSL_8n, zSL_8i, zSL_8a, zSL_8l, zSL_9n, zSL_9i, zSL_9a, zSL_9l, zSL_10n, zSL_10i, zSL_10a, zSL_10l, zSL_11n, zSL_11i, zSL_11a, zSL_11l, zSL_12n, zSL_12i, zSL_12a, zSL_12l, zLI_0, zLL_0, zLA_0, zLI_1, zLL_1, zLA_1, zLI_2, zLL_2, zLA_2, zLI_3, zLL_3, zLA_3, zLI_4, zLL_4, zLA_4, zLI_5, zLL_5, zLA_5, zLI_6, zLL_6, zLA_6, zLI_7, zLL_7, zLA_7, zLI_8, zLL_8, zLA_8, zLI_9, zLL_9, zLA_9, zLI_10, zLL_10, zLA_10, zLI_11, zLL_11, zLA_11, zLI_12, zLL_12, zLA_12, zLI_13, zLL_13, zLA_13, zst_0, zst_1n, zst_1i, zst_1a, zst_2n, zst_2i, zst_2a, zst_3n, zst_3i, zst_3a, zst_4n, zst_4i, zst_4a, zst_5n, zst_5i, zst_5a, zst_6n, zst_6i, zst_6a, zst_7n, zst_7i, zst_7a, zst_8n, zst_8i, zst_8a, zst_9n, zst_9i, zst_9a, zst_10n, zst_10i, zst_10a, zst_11n, zst_11i, zst_11a, zst_12n, zst_12i, zst_12a, zst_13n, zst_13i, zst_13a, zst_14n, zst_14i, zst_14a, zst_15n, zst_15i, zst_15a, zR1_n, zR1_v, zsum_n, zsum_i, zsum_l, zsum_a, zlen_n, zlen_i, zlen_l, zlen_a, List.not_mem_nil, List.mem_cons, or_false, false_or, or_self, ↓reduceIte, if_false, if_true, Nat.reduceEqDiff, Nat.reduceAdd, Nat.reduceLeDiff, true_and, and_true, reduceCtorEq, ne_eq, Int.toNat_natCast, not_true_eq_false, not_false_eq_true, true_implies, false_implies, implies_true, Int.reduceToNat, Int.toNat_zero, Int.reduceLT, Int.reduceLE, Int.reduceEq, Int.reduceAdd, Int.reduceMul, Int.reduceNeg]
  · have e0 := fun Q => (c131 (L := L) (M := M) (Q := Q) (h := h)).trans (znot k0)
    refine zW_sound 60 [] ?_
    simp only [ZF130, ZR130, zk_2, ZF131.1, ZF131.2.1, ZF131.2.2.1, e0, zR1_p ZF130.2.2.1, zW_succ, zE_iload, zE_aload, zE_lload, zE_iinc, zE_istore, zE_astore, zE_lstore, zE_iconst, zE_ldc2, zE_iadd, zE_isub, zE_imul, zE_idiv, zE_irem, zE_ineg, zE_iand, zE_ior, zE_ixor, zE_ishl, zE_ishr, zE_land, zE_lor, zE_lxor, zE_lshl, zE_lshr, zE_i2l, zE_lcmp, zE_dup_i, zE_dup_a, zE_dup2_ia, zE_pop_i, zE_pop_a, zE_pop2, zE_goto, zE_if_eq, zE_icmp_eq, zE_if_ne, zE_icmp_ne, zE_if_lt, zE_icmp_lt, zE_if_ge, zE_icmp_ge, zE_if_gt, zE_icmp_gt, zE_if_le, zE_icmp_le, zE_iaload, zE_baload, zE_laload, zE_aaload, zE_iastore, zE_bastore, zE_lastore, zE_aastore, zE_alen, zE_getf0, zE_getf1, zE_getf2, zE_getf3, zE_putf0, zE_putf1, zE_putf2, zE_putf3, zE_new, zE_newa, zE_newq, zE_ireturn, zE_lreturn, zE_areturn, zE_return, zE_athrow, zE_st0, zE_vi0, zE_st1, zE_vi1, zE_st2, zE_vi2, zE_st3, zE_vi3, zE_st4, zE_vi4, zE_st5, zE_vi5, zE_st6, zE_vi6, zE_st7, zE_vi7, zE_st8, zE_vi8, zSt_0, zSL_0, zSt_1n, zSt_1i, zSt_1a, zSt_1l, zSt_2n, zSt_2i, zSt_2a, zSt_2l, zSt_3n, zSt_3i, zSt_3a, zSt_3l, zSt_4n, zSt_4i, zSt_4a, zSt_4l, zSt_5n, zSt_5i, zSt_5a, zSt_5l, zSt_6n, zSt_6i, zSt_6a, zSt_6l, zSt_7n, zSt_7i, zSt_7a, zSt_7l, zSt_8n, zSt_8i, zSt_8a, zSt_8l, zSt_9n, zSt_9i, zSt_9a, zSt_9l, zSt_10n, zSt_10i, zSt_10a, zSt_10l, zSt_11n, zSt_11i, zSt_11a, zSt_11l, zSt_12n, zSt_12i, zSt_12a, zSt_12l, zSt_13n, zSt_13i, zSt_13a, zSt_13l, zSL_1n, zSL_1i, zSL_1a, zSL_1l, zSL_2n, zSL_2i, zSL_2a, zSL_2l, zSL_3n, zSL_3i, zSL_3a, zSL_3l, zSL_4n, zSL_4i, zSL_4a, zSL_4l, zSL_5n, zSL_5i, zSL_5a, zSL_5l, zSL_6n, zSL_6i, zSL_6a, zSL_6l, zSL_7n, zSL_7i, zSL_7a, zSL_7l, zSL_8n, zSL_8i, zSL_8a, zSL_8l, zSL_9n, zSL_9i, zSL_9a, zSL_9l, zSL_10n, zSL_10i, zSL_10a, zSL_10l, zSL_11n, zSL_11i, zSL_11a, zSL_11l, zSL_12n, zSL_12i, zSL_12a, zSL_12l, zLI_0, zLL_0, zLA_0, zLI_1, zLL_1, zLA_1, zLI_2, zLL_2, zLA_2, zLI_3, zLL_3, zLA_3, zLI_4, zLL_4, zLA_4, zLI_5, zLL_5, zLA_5, zLI_6, zLL_6, zLA_6, zLI_7, zLL_7, zLA_7, zLI_8, zLL_8, zLA_8, zLI_9, zLL_9, zLA_9, zLI_10, zLL_10, zLA_10, zLI_11, zLL_11, zLA_11, zLI_12, zLL_12, zLA_12, zLI_13, zLL_13, zLA_13, zst_0, zst_1n, zst_1i, zst_1a, zst_2n, zst_2i, zst_2a, zst_3n, zst_3i, zst_3a, zst_4n, zst_4i, zst_4a, zst_5n, zst_5i, zst_5a, zst_6n, zst_6i, zst_6a, zst_7n, zst_7i, zst_7a, zst_8n, zst_8i, zst_8a, zst_9n, zst_9i, zst_9a, zst_10n, zst_10i, zst_10a, zst_11n, zst_11i, zst_11a, zst_12n, zst_12i, zst_12a, zst_13n, zst_13i, zst_13a, zst_14n, zst_14i, zst_14a, zst_15n, zst_15i, zst_15a, zR1_n, zR1_v, zsum_n, zsum_i, zsum_l, zsum_a, zlen_n, zlen_i, zlen_l, zlen_a, List.not_mem_nil, List.mem_cons, or_false, false_or, or_self, ↓reduceIte, if_false, if_true, Nat.reduceEqDiff, Nat.reduceAdd, Nat.reduceLeDiff, true_and, and_true, reduceCtorEq, ne_eq, Int.toNat_natCast, not_true_eq_false, not_false_eq_true, true_implies, false_implies, implies_true, Int.reduceToNat, Int.toNat_zero, Int.reduceLT, Int.reduceLE, Int.reduceEq, Int.reduceAdd, Int.reduceMul, Int.reduceNeg]
theorem c130_1 {h l c : Int} (k0 : 0 ≤ h ∧ h < 3) (k1 : 0 ≤ l ∧ l < 4) (kn : ¬ (1 ≤ c ∧ c ≤ 9)) : zFR (zK L) 130 0 (zcall 130 [.inr (.inr 2), .inl h, .inl l, .inl c]) [] M Q = Q (.inr 0) (zthrown M) := by
  have e0 := fun Q => (c131 (L := L) (M := M) (Q := Q) (h := h)).trans (zyes k0)
  have e1 := fun Q => (c132 (L := L) (M := M) (Q := Q) (h := l)).trans (zyes k1)
  have e2 := fun Q => (c133 (L := L) (M := M) (Q := Q) (v := c)).trans (znot kn)
  refine zFR_det (zW_sound 60 [] ?_) Q
  simp only [ZF130, ZR130, zk_2, ZF131.1, ZF131.2.1, ZF131.2.2.1, ZF132.1, ZF132.2.1, ZF132.2.2.1, ZF133.1, ZF133.2.1, ZF133.2.2.1, e0, e1, e2, zR1_p ZF130.2.2.1, zW_succ, zE_iload, zE_aload, zE_lload, zE_iinc, zE_istore, zE_astore, zE_lstore, zE_iconst, zE_ldc2, zE_iadd, zE_isub, zE_imul, zE_idiv, zE_irem, zE_ineg, zE_iand, zE_ior, zE_ixor, zE_ishl, zE_ishr, zE_land, zE_lor, zE_lxor, zE_lshl, zE_lshr, zE_i2l, zE_lcmp, zE_dup_i, zE_dup_a, zE_dup2_ia, zE_pop_i, zE_pop_a, zE_pop2, zE_goto, zE_if_eq, zE_icmp_eq, zE_if_ne, zE_icmp_ne, zE_if_lt, zE_icmp_lt, zE_if_ge, zE_icmp_ge, zE_if_gt, zE_icmp_gt, zE_if_le, zE_icmp_le, zE_iaload, zE_baload, zE_laload, zE_aaload, zE_iastore, zE_bastore, zE_lastore, zE_aastore, zE_alen, zE_getf0, zE_getf1, zE_getf2, zE_getf3, zE_putf0, zE_putf1, zE_putf2, zE_putf3, zE_new, zE_newa, zE_newq, zE_ireturn, zE_lreturn, zE_areturn, zE_return, zE_athrow, zE_st0, zE_vi0, zE_st1, zE_vi1, zE_st2, zE_vi2, zE_st3, zE_vi3, zE_st4, zE_vi4, zE_st5, zE_vi5, zE_st6, zE_vi6, zE_st7, zE_vi7, zE_st8, zE_vi8, zSt_0, zSL_0, zSt_1n, zSt_1i, zSt_1a, zSt_1l, zSt_2n, zSt_2i, zSt_2a, zSt_2l, zSt_3n, zSt_3i, zSt_3a, zSt_3l, zSt_4n, zSt_4i, zSt_4a, zSt_4l, zSt_5n, zSt_5i, zSt_5a, zSt_5l, zSt_6n, zSt_6i, zSt_6a, zSt_6l, zSt_7n, zSt_7i, zSt_7a, zSt_7l, zSt_8n, zSt_8i, zSt_8a, zSt_8l, zSt_9n, zSt_9i, zSt_9a, zSt_9l, zSt_10n, zSt_10i, zSt_10a, zSt_10l, zSt_11n, zSt_11i, zSt_11a, zSt_11l, zSt_12n, zSt_12i, zSt_12a, zSt_12l, zSt_13n, zSt_13i, zSt_13a, zSt_13l, zSL_1n, zSL_1i, zSL_1a, zSL_1l, zSL_2n, zSL_2i, zSL_2a, zSL_2l, zSL_3n, zSL_3i, zSL_3a, zSL_3l, zSL_4n, zSL_4i, zSL_4a, zSL_4l, zSL_5n, zSL_5i, zSL_5a, zSL_5l, zSL_6n, zSL_6i, zSL_6a, zSL_6l, zSL_7n, zSL_7i, zSL_7a, zSL_7l, zSL_8n, zSL_8i, zSL_8a, zSL_8l, zSL_9n, zSL_9i, zSL_9a, zSL_9l, zSL_10n, zSL_10i, zSL_10a, zSL_10l, zSL_11n, zSL_11i, zSL_11a, zSL_11l, zSL_12n, zSL_12i, zSL_12a, zSL_12l, zLI_0, zLL_0, zLA_0, zLI_1, zLL_1, zLA_1, zLI_2, zLL_2, zLA_2, zLI_3, zLL_3, zLA_3, zLI_4, zLL_4, zLA_4, zLI_5, zLL_5, zLA_5, zLI_6, zLL_6, zLA_6, zLI_7, zLL_7, zLA_7, zLI_8, zLL_8, zLA_8, zLI_9, zLL_9, zLA_9, zLI_10, zLL_10, zLA_10, zLI_11, zLL_11, zLA_11, zLI_12, zLL_12, zLA_12, zLI_13, zLL_13, zLA_13, zst_0, zst_1n, zst_1i, zst_1a, zst_2n, zst_2i, zst_2a, zst_3n, zst_3i, zst_3a, zst_4n, zst_4i, zst_4a, zst_5n, zst_5i, zst_5a, zst_6n, zst_6i, zst_6a, zst_7n, zst_7i, zst_7a, zst_8n, zst_8i, zst_8a, zst_9n, zst_9i, zst_9a, zst_10n, zst_10i, zst_10a, zst_11n, zst_11i, zst_11a, zst_12n, zst_12i, zst_12a, zst_13n, zst_13i, zst_13a, zst_14n, zst_14i, zst_14a, zst_15n, zst_15i, zst_15a, zR1_n, zR1_v, zsum_n, zsum_i, zsum_l, zsum_a, zlen_n, zlen_i, zlen_l, zlen_a, List.not_mem_nil, List.mem_cons, or_false, false_or, or_self, ↓reduceIte, if_false, if_true, Nat.reduceEqDiff, Nat.reduceAdd, Nat.reduceLeDiff, true_and, and_true, reduceCtorEq, ne_eq, Int.toNat_natCast, not_true_eq_false, not_false_eq_true, true_implies, false_implies, implies_true, Int.reduceToNat, Int.toNat_zero, Int.reduceLT, Int.reduceLE, Int.reduceEq, Int.reduceAdd, Int.reduceMul, Int.reduceNeg]
theorem c130_3 {h l c : Int} (hR : zLay M.2.2.2) (hm : zmd M.2.1 m) (hg : zPg 0 (M.2.1 1095 0) (M.2.1 (1095 + 1)) (M.2.1 (1095 + 2))) (k0 : 0 ≤ h ∧ h < 3) (k1 : 0 ≤ l ∧ l < 4) (k2 : 1 ≤ c ∧ c ≤ 9) (kn : ¬ ((3 ≤ M.2.1 1095 0 ∧ zpr (M.2.1 1095 0) (M.2.1 (1095 + 1)) (M.2.1 (1095 + 2)) 0) ∧ m < 60)) : zFR (zK L) 130 0 (zcall 130 [.inr (.inr 2), .inl h, .inl l, .inl c]) [] M Q = Q (.inr 1) (zthrown M) := by
  have hF := hR.1
  unfold zLayF at hF
  have e0 := fun Q => (c131 (L := L) (M := M) (Q := Q) (h := h)).trans (zyes k0)
  have e1 := fun Q => (c132 (L := L) (M := M) (Q := Q) (h := l)).trans (zyes k1)
  have e2 := fun Q => (c133 (L := L) (M := M) (Q := Q) (v := c)).trans (zyes k2)
  have e3 := fun Q => (c135 (L := L) (M := M) (Q := Q) (m := m) (h := h) (l := l) (c := c) (p := 1095) hR hm (Or.inl rfl) hg).trans (znot kn)
  refine zFR_det (zW_sound 60 [] ?_) Q
  simp only [ZF130, ZR130, zk_2, hF, ZF131.1, ZF131.2.1, ZF131.2.2.1, ZF132.1, ZF132.2.1, ZF132.2.2.1, ZF133.1, ZF133.2.1, ZF133.2.2.1, ZF135.1, ZF135.2.1, ZF135.2.2.1, e0, e1, e2, e3, zR1_p ZF130.2.2.1, zW_succ, zE_iload, zE_aload, zE_lload, zE_iinc, zE_istore, zE_astore, zE_lstore, zE_iconst, zE_ldc2, zE_iadd, zE_isub, zE_imul, zE_idiv, zE_irem, zE_ineg, zE_iand, zE_ior, zE_ixor, zE_ishl, zE_ishr, zE_land, zE_lor, zE_lxor, zE_lshl, zE_lshr, zE_i2l, zE_lcmp, zE_dup_i, zE_dup_a, zE_dup2_ia, zE_pop_i, zE_pop_a, zE_pop2, zE_goto, zE_if_eq, zE_icmp_eq, zE_if_ne, zE_icmp_ne, zE_if_lt, zE_icmp_lt, zE_if_ge, zE_icmp_ge, zE_if_gt, zE_icmp_gt, zE_if_le, zE_icmp_le, zE_iaload, zE_baload, zE_laload, zE_aaload, zE_iastore, zE_bastore, zE_lastore, zE_aastore, zE_alen, zE_getf0, zE_getf1, zE_getf2, zE_getf3, zE_putf0, zE_putf1, zE_putf2, zE_putf3, zE_new, zE_newa, zE_newq, zE_ireturn, zE_lreturn, zE_areturn, zE_return, zE_athrow, zE_st0, zE_vi0, zE_st1, zE_vi1, zE_st2, zE_vi2, zE_st3, zE_vi3, zE_st4, zE_vi4, zE_st5, zE_vi5, zE_st6, zE_vi6, zE_st7, zE_vi7, zE_st8, zE_vi8, zSt_0, zSL_0, zSt_1n, zSt_1i, zSt_1a, zSt_1l, zSt_2n, zSt_2i, zSt_2a, zSt_2l, zSt_3n, zSt_3i, zSt_3a, zSt_3l, zSt_4n, zSt_4i, zSt_4a, zSt_4l, zSt_5n, zSt_5i, zSt_5a, zSt_5l, zSt_6n, zSt_6i, zSt_6a, zSt_6l, zSt_7n, zSt_7i, zSt_7a, zSt_7l, zSt_8n, zSt_8i, zSt_8a, zSt_8l, zSt_9n, zSt_9i, zSt_9a, zSt_9l, zSt_10n, zSt_10i, zSt_10a, zSt_10l, zSt_11n, zSt_11i, zSt_11a, zSt_11l, zSt_12n, zSt_12i, zSt_12a, zSt_12l, zSt_13n, zSt_13i, zSt_13a, zSt_13l, zSL_1n, zSL_1i, zSL_1a, zSL_1l, zSL_2n, zSL_2i, zSL_2a, zSL_2l, zSL_3n, zSL_3i, zSL_3a, zSL_3l, zSL_4n, zSL_4i, zSL_4a, zSL_4l, zSL_5n, zSL_5i, zSL_5a, zSL_5l, zSL_6n, zSL_6i, zSL_6a, zSL_6l, zSL_7n, zSL_7i, zSL_7a, zSL_7l, zSL_8n, zSL_8i, zSL_8a, zSL_8l, zSL_9n, zSL_9i, zSL_9a, zSL_9l, zSL_10n, zSL_10i, zSL_10a, zSL_10l, zSL_11n, zSL_11i, zSL_11a, zSL_11l, zSL_12n, zSL_12i, zSL_12a, zSL_12l, zLI_0, zLL_0, zLA_0, zLI_1, zLL_1, zLA_1, zLI_2, zLL_2, zLA_2, zLI_3, zLL_3, zLA_3, zLI_4, zLL_4, zLA_4, zLI_5, zLL_5, zLA_5, zLI_6, zLL_6, zLA_6, zLI_7, zLL_7, zLA_7, zLI_8, zLL_8, zLA_8, zLI_9, zLL_9, zLA_9, zLI_10, zLL_10, zLA_10, zLI_11, zLL_11, zLA_11, zLI_12, zLL_12, zLA_12, zLI_13, zLL_13, zLA_13, zst_0, zst_1n, zst_1i, zst_1a, zst_2n, zst_2i, zst_2a, zst_3n, zst_3i, zst_3a, zst_4n, zst_4i, zst_4a, zst_5n, zst_5i, zst_5a, zst_6n, zst_6i, zst_6a, zst_7n, zst_7i, zst_7a, zst_8n, zst_8i, zst_8a, zst_9n, zst_9i, zst_9a, zst_10n, zst_10i, zst_10a, zst_11n, zst_11i, zst_11a, zst_12n, zst_12i, zst_12a, zst_13n, zst_13i, zst_13a, zst_14n, zst_14i, zst_14a, zst_15n, zst_15i, zst_15a, zR1_n, zR1_v, zsum_n, zsum_i, zsum_l, zsum_a, zlen_n, zlen_i, zlen_l, zlen_a, List.not_mem_nil, List.mem_cons, or_false, false_or, or_self, ↓reduceIte, if_false, if_true, Nat.reduceEqDiff, Nat.reduceAdd, Nat.reduceLeDiff, true_and, and_true, reduceCtorEq, ne_eq, Int.toNat_natCast, not_true_eq_false, not_false_eq_true, true_implies, false_implies, implies_true, Int.reduceToNat, Int.toNat_zero, Int.reduceLT, Int.reduceLE, Int.reduceEq, Int.reduceAdd, Int.reduceMul, Int.reduceNeg]
theorem c130_g {h l c v : Int} {n : Nat} {M9 : zM} (hR : zLay M.2.2.2) (hm : zmd M.2.1 m) (hm6 : m < 60) (hg : zPg 0 (M.2.1 1095 0) (M.2.1 (1095 + 1)) (M.2.1 (1095 + 2))) (k0 : 0 ≤ h ∧ h < 3) (k1 : 0 ≤ l ∧ l < 4) (k2 : 1 ≤ c ∧ c ≤ 9) (ky : 3 ≤ M.2.1 1095 0 ∧ zpr (M.2.1 1095 0) (M.2.1 (1095 + 1)) (M.2.1 (1095 + 2)) 0) (hn : M.2.1 1095 0 = (n : Int)) (e10 : ∀ Q : zO → zM → Prop, zFR (zK L) 10 0 (zcall 10 [.inr (.inr 3), .inr (.inr (855 + 4 * m)), .inl (m : Int)]) [] (zpnM M m h l c n (M.2.1 1096) (M.2.1 1097)) Q = Q (.inl (some (.inl v))) M9) (hR9 : M9.2.2.2 = M.2.2.2) (hm9 : M9.2.1 2 2 = (m : Int)) (hv : v ≠ -1) : zFR (zK L) 130 0 (zcall 130 [.inr (.inr 2), .inl h, .inl l, .inl c]) [] M Q = Q (.inl (some (.inl v))) (zwI M9 (zu2 (zu2 (zu2 M9.2.1 (855 + 4 * m) 11 1) 2 2 ((m : Int) + 1)) 1095 0 0)) := by
  have hF := hR.1
  unfold zLayF at hF
  have e0 := fun Q => (c131 (L := L) (M := M) (Q := Q) (h := h)).trans (zyes k0)
  have e1 := fun Q => (c132 (L := L) (M := M) (Q := Q) (h := l)).trans (zyes k1)
  have e2 := fun Q => (c133 (L := L) (M := M) (Q := Q) (v := c)).trans (zyes k2)
  have e3 := fun Q => (c135 (L := L) (M := M) (Q := Q) (m := m) (h := h) (l := l) (c := c) (p := 1095) hR hm (Or.inl rfl) hg).trans (zyes ⟨ky, hm6⟩)
  have en : znpM M m h l c 1095 = zpnM M m h l c n (M.2.1 1096) (M.2.1 1097) := by
    unfold znpM zpnM
    rw [hn, Int.toNat_natCast]
  rw [en] at e3
  have hm2 : (zpnM M m h l c n (M.2.1 1096) (M.2.1 1097)).2.1 2 2 = (m : Int) := (zpn_cw.1 2 2 (by omega)).trans hm.1
  have e138 := fun Q => (c138 (L := L) (M := zpnM M m h l c n (M.2.1 1096) (M.2.1 1097)) (Q := Q) (m := m) (v := v) (M9 := M9) hR hR9 hm2 hm9 hm6 e10).trans (znot hv)
  have e76 := fun Q => c76 (L := L) (M := zwI M9 (zu2 (zu2 M9.2.1 (855 + 4 * m) 11 1) 2 2 ((m : Int) + 1))) (Q := Q) (a := 1095) (Or.inr (Or.inr (Or.inl rfl)))
  simp only [zsI_wI] at e76
  have r3 : M9.2.2.2 2 3 = 1095 := by rw [hR9]; exact hF.2.2.1
  refine zFR_det (zW_sound 60 [] ?_) Q
  simp only [ZF130, ZR130, zk_2, zk_1095, zK_ch hm6, hF, r3, zwI_2, zwI_I, ZF131.1, ZF131.2.1, ZF131.2.2.1, ZF132.1, ZF132.2.1, ZF132.2.2.1, ZF133.1, ZF133.2.1, ZF133.2.2.1, ZF135.1, ZF135.2.1, ZF135.2.2.1, ZF138.1, ZF138.2.1, ZF138.2.2.1, ZF76.1, ZF76.2.1, ZF76.2.2.1, e0, e1, e2, e3, e138, e76, zR1_p ZF130.2.2.1, zW_succ, zE_iload, zE_aload, zE_lload, zE_iinc, zE_istore, zE_astore, zE_lstore, zE_iconst, zE_ldc2, zE_iadd, zE_isub, zE_imul, zE_idiv, zE_irem, zE_ineg, zE_iand, zE_ior, zE_ixor, zE_ishl, zE_ishr, zE_land, zE_lor, zE_lxor, zE_lshl, zE_lshr, zE_i2l, zE_lcmp, zE_dup_i, zE_dup_a, zE_dup2_ia, zE_pop_i, zE_pop_a, zE_pop2, zE_goto, zE_if_eq, zE_icmp_eq, zE_if_ne, zE_icmp_ne, zE_if_lt, zE_icmp_lt, zE_if_ge, zE_icmp_ge, zE_if_gt, zE_icmp_gt, zE_if_le, zE_icmp_le, zE_iaload, zE_baload, zE_laload, zE_aaload, zE_iastore, zE_bastore, zE_lastore, zE_aastore, zE_alen, zE_getf0, zE_getf1, zE_getf2, zE_getf3, zE_putf0, zE_putf1, zE_putf2, zE_putf3, zE_new, zE_newa, zE_newq, zE_ireturn, zE_lreturn, zE_areturn, zE_return, zE_athrow, zE_st0, zE_vi0, zE_st1, zE_vi1, zE_st2, zE_vi2, zE_st3, zE_vi3, zE_st4, zE_vi4, zE_st5, zE_vi5, zE_st6, zE_vi6, zE_st7, zE_vi7, zE_st8, zE_vi8, zSt_0, zSL_0, zSt_1n, zSt_1i, zSt_1a, zSt_1l, zSt_2n, zSt_2i, zSt_2a, zSt_2l, zSt_3n, zSt_3i, zSt_3a, zSt_3l, zSt_4n, zSt_4i, zSt_4a, zSt_4l, zSt_5n, zSt_5i, zSt_5a, zSt_5l, zSt_6n, zSt_6i, zSt_6a, zSt_6l, zSt_7n, zSt_7i, zSt_7a, zSt_7l, zSt_8n, zSt_8i, zSt_8a, zSt_8l, zSt_9n, zSt_9i, zSt_9a, zSt_9l, zSt_10n, zSt_10i, zSt_10a, zSt_10l, zSt_11n, zSt_11i, zSt_11a, zSt_11l, zSt_12n, zSt_12i, zSt_12a, zSt_12l, zSt_13n, zSt_13i, zSt_13a, zSt_13l, zSL_1n, zSL_1i, zSL_1a, zSL_1l, zSL_2n, zSL_2i, zSL_2a, zSL_2l, zSL_3n, zSL_3i, zSL_3a, zSL_3l, zSL_4n, zSL_4i, zSL_4a, zSL_4l, zSL_5n, zSL_5i, zSL_5a, zSL_5l, zSL_6n, zSL_6i, zSL_6a, zSL_6l, zSL_7n, zSL_7i, zSL_7a, zSL_7l, zSL_8n, zSL_8i, zSL_8a, zSL_8l, zSL_9n, zSL_9i, zSL_9a, zSL_9l, zSL_10n, zSL_10i, zSL_10a, zSL_10l, zSL_11n, zSL_11i, zSL_11a, zSL_11l, zSL_12n, zSL_12i, zSL_12a, zSL_12l, zLI_0, zLL_0, zLA_0, zLI_1, zLL_1, zLA_1, zLI_2, zLL_2, zLA_2, zLI_3, zLL_3, zLA_3, zLI_4, zLL_4, zLA_4, zLI_5, zLL_5, zLA_5, zLI_6, zLL_6, zLA_6, zLI_7, zLL_7, zLA_7, zLI_8, zLL_8, zLA_8, zLI_9, zLL_9, zLA_9, zLI_10, zLL_10, zLA_10, zLI_11, zLL_11, zLA_11, zLI_12, zLL_12, zLA_12, zLI_13, zLL_13, zLA_13, zst_0, zst_1n, zst_1i, zst_1a, zst_2n, zst_2i, zst_2a, zst_3n, zst_3i, zst_3a, zst_4n, zst_4i, zst_4a, zst_5n, zst_5i, zst_5a, zst_6n, zst_6i, zst_6a, zst_7n, zst_7i, zst_7a, zst_8n, zst_8i, zst_8a, zst_9n, zst_9i, zst_9a, zst_10n, zst_10i, zst_10a, zst_11n, zst_11i, zst_11a, zst_12n, zst_12i, zst_12a, zst_13n, zst_13i, zst_13a, zst_14n, zst_14i, zst_14a, zst_15n, zst_15i, zst_15a, zR1_n, zR1_v, zsum_n, zsum_i, zsum_l, zsum_a, zlen_n, zlen_i, zlen_l, zlen_a, List.not_mem_nil, List.mem_cons, or_false, false_or, or_self, ↓reduceIte, if_false, if_true, Nat.reduceEqDiff, Nat.reduceAdd, Nat.reduceLeDiff, true_and, and_true, reduceCtorEq, ne_eq, Int.toNat_natCast, not_true_eq_false, not_false_eq_true, true_implies, false_implies, implies_true, Int.reduceToNat, Int.toNat_zero, Int.reduceLT, Int.reduceLE, Int.reduceEq, Int.reduceAdd, Int.reduceMul, Int.reduceNeg]
theorem zcgp_pr {n : Nat} {X Y : Nat → Int} : zcgp n X Y n ↔ (3 ≤ (n : Int) ∧ zpr (n : Int) X Y 0) := by
  unfold zcgp zpr
  constructor
  · rintro ⟨a, b⟩
    exact ⟨by omega, fun j _ hj => b j (by omega)⟩
  · rintro ⟨a, b⟩
    exact ⟨by omega, fun j hj => b j (by omega) (by omega)⟩
theorem zqA_130 (hW : zqW m M) (c2 : cc 2 = 1) (c0 : cc 0 = 2) (c1 : cc 1 = 3) {h l c : Int} : zqAg L M 130 [.inr (.inr 2), .inl h, .inl l, .inl c] 246 [.inr (.inr 1153), .inl h, .inl l, .inl c] cc := by
  have hR := hW.1.1
  have hm := zqmd hW
  have m8 : M.2.1 1153 8 = (m : Int) := hW.1.2.2.2.1.2
  obtain ⟨⟨p1, p2, p3⟩, p4⟩ := hW.2.1
  obtain ⟨n, hn⟩ : ∃ n : Nat, M.2.1 1095 0 = (n : Int) := ⟨(M.2.1 1095 0).toNat, by omega⟩
  have n8 : n ≤ 8 := by omega
  have pg : zPg 0 (M.2.1 1095 0) (M.2.1 (1095 + 1)) (M.2.1 (1095 + 2)) := by
    rw [hn]
    refine ⟨by omega, by omega, fun k hk => ?_⟩
    have := (p4 k (by omega)).2.2
    exact ⟨this.1.1, this.1.2, this.2⟩
  have q3 : ∀ B : zM, (∀ b j, 1153 ≤ b → B.2.1 b j = M.2.1 b j) → B.2.1 1153 3 = (n : Int) := fun B bn => (bn _ _ (by omega)).trans (p3.trans hn)
  have eX : ∀ B : zM, (∀ b j, 1153 ≤ b → B.2.1 b j = M.2.1 b j) → ∀ k, k < n → B.2.1 1154 k = M.2.1 1096 k ∧ B.2.1 1155 k = M.2.1 1097 k := fun B bn k hk => ⟨(bn _ _ (by omega)).trans (p4 k (by omega)).1, (bn _ _ (by omega)).trans (p4 k (by omega)).2.1⟩
  have hvB : ∀ B : zM, (∀ b j, 1153 ≤ b → B.2.1 b j = M.2.1 b j) → ∀ k, k < n → (0 ≤ B.2.1 1154 k ∧ B.2.1 1154 k ≤ 60) ∧ 0 ≤ B.2.1 1155 k ∧ B.2.1 1155 k ≤ 60 := fun B bn k hk => by
    rw [(eX B bn k hk).1, (eX B bn k hk).2]
    exact (p4 k (by omega)).2.2
  have cgB : ∀ B : zM, (∀ b j, 1153 ≤ b → B.2.1 b j = M.2.1 b j) → (zcgp n (B.2.1 1154) (B.2.1 1155) n ↔ (3 ≤ M.2.1 1095 0 ∧ zpr (M.2.1 1095 0) (M.2.1 (1095 + 1)) (M.2.1 (1095 + 2)) 0)) := fun B bn => by
    rw [zcgp_pr, hn]
    exact and_congr_right (fun _ => ⟨zpr_cg (fun k hk => (eX B bn k (by omega)).1.symm) (fun k hk => (eX B bn k (by omega)).2.symm), zpr_cg (fun k hk => (eX B bn k (by omega)).1) (fun k hk => (eX B bn k (by omega)).2)⟩)
  by_cases k : (0 ≤ h ∧ h < 3) ∧ 0 ≤ l ∧ l < 4
  · by_cases k2 : 1 ≤ c ∧ c ≤ 9
    · by_cases k3 : (3 ≤ M.2.1 1095 0 ∧ zpr (M.2.1 1095 0) (M.2.1 (1095 + 1)) (M.2.1 (1095 + 2)) 0) ∧ m < 60
      · obtain ⟨k3, hm6⟩ := k3
        have told : ∀ B : zM, (∀ b j, 1153 ≤ b → B.2.1 b j = M.2.1 b j) → _ := fun B bn => zrpts_H (m := m) (B := B) (F := zrtw B.2.1 0) (n := n) (X := B.2.1 1154) (Y := B.2.1 1155) n8 (fun b j q1 q2 q3 => zu2_sj (by omega))
        have J : ∀ B : zM, (∀ b j, 1153 ≤ b → B.2.1 b j = M.2.1 b j) → zqJe (zpnM M m h l c n (M.2.1 1096) (M.2.1 1097)) (zwI B (zrtl (zu2 (zrpts (zrtw B.2.1 0) m (B.2.1 1154) (B.2.1 1155) n) 1153 3 0) m 0 h l c 0 0)) m := fun B bn => by
          obtain ⟨⟨t1, t2, t3⟩, t4⟩ := told B bn
          rw [hn] at k3
          exact zpn_J (by omega) (by omega) k2 (by omega) (fun j hj => (p4 j (by omega)).2.2) k3.2 ((zu2_sj (by omega)).trans t1) (fun j hj => (zu2_sj (by omega)).trans ((t2 j hj).trans (eX B bn j hj).1)) (fun j hj => (zu2_sj (by omega)).trans ((t3 j hj).trans (eX B bn j hj).2))
        refine zqAg_g3 (fun B => zwI B (zrtl (zu2 (zrpts (zrtw B.2.1 0) m (B.2.1 1154) (B.2.1 1155) n) 1153 3 0) m 0 h l c 0 0)) hW hm6 (C2 := zpnM M m h l c n (M.2.1 1096) (M.2.1 1097)) zpn_cw (funext fun j => zpn_cw.2.1 _ _ (by omega)) rfl (fun B b4 bn => ?_) (fun v M9 e10 => ?_) (fun v M9 e10 hR9 hm9 _ hv Q => c130_g hR hm hm6 pg k.1 k.2 k2 k3 hn e10 hR9 hm9 hv) (fun B M9 b4 bn e192 lM h8 Q => ?_)
        · obtain ⟨⟨t1, t2, t3⟩, t4⟩ := told B bn
          refine ⟨zpn_told (fun b j q1 q2 q3 q4 q5 => (zu2_sj (by omega)).trans (t4 b j q1 q2 q3 q4 q5)), fun b j hb hb2 => ?_, rfl, rfl, J B bn, ?_⟩
          · unfold zqXs at hb
            show zrtl _ m 0 h l c 0 0 b j = _
            unfold zrtl
            rw [zu2_sj (by omega), zu2_sj (by omega), zu2_sj (by omega), zu2_sj (by omega), zu2_sj (by omega), zu2_sj (by omega), zu2_sj hb2, zrpts_o (by omega)]
            exact zu2_sj (by omega)
          · show zrtl (zu2 (zrpts (zrtw B.2.1 0) m (B.2.1 1154) (B.2.1 1155) n) 1153 3 0) m 0 h l c 0 0 1153 3 = 0
            unfold zrtl
            rw [zu2_sj (by omega), zu2_sj (by omega), zu2_sj (by omega), zu2_sj (by omega), zu2_sj (by omega), zu2_sj (by omega), zu2_eq]
        · have jj := (J M (fun _ _ _ => rfl)).2
          rcases jj with jj | jj
          · exact zqno zpn_cw hW hm6 jj e10
          · exfalso
            have w0 : (zpnM M m h l c n (M.2.1 1096) (M.2.1 1097)).2.1 (855 + 4 * m) 0 = 0 := by
              show zpset _ (856 + 4 * m) n _ _ (855 + 4 * m) 0 = 0
              rw [zpset_ob (by omega)]
              show zu2 (zu2 (zbg M.2.1 (855 + 4 * m) 0 h (-1)) (855 + 4 * m) 4 l) (855 + 4 * m) 5 c (855 + 4 * m) 0 = 0
              rw [zu2_sj (by omega), zu2_sj (by omega)]
              exact zbg_v.1
            unfold zqJ1 zqJ17 zqJw at jj
            omega
        · have m8B : (zu2 (zrpts (zrtw B.2.1 0) m (B.2.1 1154) (B.2.1 1155) n) 1153 3 0) 1153 8 = (m : Int) := by
            rw [zu2_sj (by omega), zrpts_o (by omega)]
            exact (zu2_sj (by omega)).trans ((bn _ _ (by omega)).trans m8)
          exact c246_g (by rw [b4]; exact hR) (q3 B bn) n8 (hvB B bn) (by omega) (by omega) k2 ⟨(cgB B bn).mpr k3, by rw [bn _ _ (by omega), m8]; omega⟩ ((bn _ _ (by omega)).trans m8) hm6 (fun Q9 => c253_1 (M := zwI B (zu2 (zrpts (zrtw B.2.1 0) m (B.2.1 1154) (B.2.1 1155) n) 1153 3 0)) (show zLay B.2.2.2 by rw [b4]; exact hR) m8B hm6 e192 lM h8)
      · refine zqAg_no (e := 1) (d := 3) hW (by omega) (fun Q => c130_3 hR hm pg k.1 k.2 k2 k3) (.inl 0) (fun B b2 b4 Q => ?_) c1
        have bn : ∀ b j, 1153 ≤ b → B.2.1 b j = M.2.1 b j := fun b j _ => by rw [b2]
        refine c246_3 (by rw [b4]; exact hR) (q3 B bn) n8 (hvB B bn) (by omega) (by omega) k2 (fun kk => k3 ⟨(cgB B bn).mp kk.1, ?_⟩)
        have := kk.2
        rw [bn _ _ (by omega), m8] at this
        omega
    · refine zqAg_no (e := 0) (d := 2) hW (by omega) (fun Q => c130_1 k.1 k.2 k2) (.inl 0) (fun B b2 b4 Q => ?_) c0
      have bn : ∀ b j, 1153 ≤ b → B.2.1 b j = M.2.1 b j := fun b j _ => by rw [b2]
      exact c246_2 (by rw [b4]; exact hR) (q3 B bn) n8 (hvB B bn) (by omega) (by omega) k2
  · refine zqAg_no (e := 2) (d := 1) hW (by omega) (fun Q => c130_0 k) (.inl 0) (fun B b2 b4 Q => ?_) c2
    have bn : ∀ b j, 1153 ≤ b → B.2.1 b j = M.2.1 b j := fun b j _ => by rw [b2]
    exact c246_1 (by rw [b4]; exact hR) (q3 B bn) n8 (hvB B bn) (by omega)
end ZPENQ
/-! gather, asked for -/
section ZGASKQ
variable {L m : Nat} {M M0 B C2 : zM} {Q : zO → zM → Prop} {cc : Nat → Int}
def zpgM (M : zM) (m : Nat) (h : Int) (x : Int64) : zM := zsL (zbgM M m 12 h (-1)) (855 + 4 * m) 10 x
theorem zpg_cw {h : Int} {x : Int64} : zqCw m (zpgM M m h x) M := by
  refine ⟨fun b j hb => ?_, fun b j hb => ?_, rfl⟩
  · show zbg M.2.1 (855 + 4 * m) 12 h (-1) b j = _
    rw [zbg_o (by omega) (by omega)]
  · show zup (zl2 M.2.2.1 (855 + 4 * m) 10 _) (855 + 4 * m) _ b j = _
    unfold zup zl2
    rw [if_neg hb, if_neg (by omega)]
theorem c158_0 {h : Int} {x : Int64} (hR : zLay M.2.2.2) (h01 : ∀ i, i < 60 → M.2.1 (14 + 14 * i) 0 = 0 ∨ M.2.1 (14 + 14 * i) 0 = 1) (kn : ¬ ((0 ≤ h ∧ h < 3) ∧ zina M.2.1 x)) : zFR (zK L) 158 0 (zcall 158 [.inr (.inr 2), .inl h, .inr (.inl x)]) [] M Q = Q (.inr 2) (zthrown M) := by
  have hF := hR.1
  unfold zLayF at hF
  refine zFR_det ?_ Q
  by_cases k0 : 0 ≤ h ∧ h < 3
  · have e0 := fun Q => (c131 (L := L) (M := M) (Q := Q) (h := h)).trans (zyes k0)
    have k1 : ¬ zina M.2.1 x := fun k1 => kn ⟨k0, k1⟩
    unfold zina at k1
    refine zW_sound 60 [33] ?_
    simp only [ZF158, ZR158, zk_2, zk_3, hF, ZF131.1, ZF131.2.1, ZF131.2.2.1, ZF1.1, ZF1.2.1, ZF1.2.2.1, c1 hR h01, e0, zR1_p ZF158.2.2.1, zE_athrow, zW_succ, zE_iload, zE_aload, zE_lload, zE_iinc, zE_istore, zE_astore, zE_lstore, zE_iconst, zE_ldc2, zE_iadd, zE_isub, zE_imul, zE_idiv, zE_irem, zE_ineg, zE_iand, zE_ior, zE_ixor, zE_ishl, zE_ishr, zE_land, zE_lor, zE_lxor, zE_lshl, zE_lshr, zE_i2l, zE_lcmp, zE_dup_i, zE_dup_a, zE_dup2_ia, zE_pop_i, zE_pop_a, zE_pop2, zE_goto, zE_if_eq, zE_icmp_eq, zE_if_ne, zE_icmp_ne, zE_if_lt, zE_icmp_lt, zE_if_ge, zE_icmp_ge, zE_if_gt, zE_icmp_gt, zE_if_le, zE_icmp_le, zE_iaload, zE_baload, zE_laload, zE_aaload, zE_iastore, zE_bastore, zE_lastore, zE_aastore, zE_alen, zE_getf0, zE_getf1, zE_getf2, zE_getf3, zE_putf0, zE_putf1, zE_putf2, zE_putf3, zE_new, zE_newa, zE_newq, zE_ireturn, zE_lreturn, zE_areturn, zE_return, zE_athrow, zE_st0, zE_vi0, zE_st1, zE_vi1, zE_st2, zE_vi2, zE_st3, zE_vi3, zE_st4, zE_vi4, zE_st5, zE_vi5, zE_st6, zE_vi6, zE_st7, zE_vi7, zE_st8, zE_vi8, zSt_0, zSL_0, zSt_1n, zSt_1i, zSt_1a, zSt_1l, zSt_2n, zSt_2i, zSt_2a, zSt_2l, zSt_3n, zSt_3i, zSt_3a, zSt_3l, zSt_4n, zSt_4i, zSt_4a, zSt_4l, zSt_5n, zSt_5i, zSt_5a, zSt_5l, zSt_6n, zSt_6i, zSt_6a, zSt_6l, zSt_7n, zSt_7i, zSt_7a, zSt_7l, zSt_8n, zSt_8i, zSt_8a, zSt_8l, zSt_9n, zSt_9i, zSt_9a, zSt_9l, zSt_10n, zSt_10i, zSt_10a, zSt_10l, zSt_11n, zSt_11i, zSt_11a, zSt_11l, zSt_12n, zSt_12i, zSt_12a, zSt_12l, zSt_13n, zSt_13i, zSt_13a, zSt_13l, zSL_1n, zSL_1i, zSL_1a, zSL_1l, zSL_2n, zSL_2i, zSL_2a, zSL_2l, zSL_3n, zSL_3i, zSL_3a, zSL_3l, zSL_4n, zSL_4i, zSL_4a, zSL_4l, zSL_5n, zSL_5i, zSL_5a, zSL_5l, zSL_6n, zSL_6i, zSL_6a, zSL_6l, zSL_7n, zSL_7i, zSL_7a, zSL_7l, zSL_8n, zSL_8i, zSL_8a, zSL_8l, zSL_9n, zSL_9i, zSL_9a, zSL_9l, zSL_10n, zSL_10i, zSL_10a, zSL_10l, zSL_11n, zSL_11i, zSL_11a, zSL_11l, zSL_12n, zSL_12i, zSL_12a, zSL_12l, zLI_0, zLL_0, zLA_0, zLI_1, zLL_1, zLA_1, zLI_2, zLL_2, zLA_2, zLI_3, zLL_3, zLA_3, zLI_4, zLL_4, zLA_4, zLI_5, zLL_5, zLA_5, zLI_6, zLL_6, zLA_6, zLI_7, zLL_7, zLA_7, zLI_8, zLL_8, zLA_8, zLI_9, zLL_9, zLA_9, zLI_10, zLL_10, zLA_10, zLI_11, zLL_11, zLA_11, zLI_12, zLL_12, zLA_12, zLI_13, zLL_13, zLA_13, zst_0, zst_1n, zst_1i, zst_1a, zst_2n, zst_2i, zst_2a, zst_3n, zst_3i, zst_3a, zst_4n, zst_4i, zst_4a, zst_5n, zst_5i, zst_5a, zst_6n, zst_6i, zst_6a, zst_7n, zst_7i, zst_7a, zst_8n, zst_8i, zst_8a, zst_9n, zst_9i, zst_9a, zst_10n, zst_10i, zst_10a, zst_11n, zst_11i, zst_11a, zst_12n, zst_12i, zst_12a, zst_13n, zst_13i, zst_13a, zst_14n, zst_14i, zst_14a, zst_15n, zst_15i, zst_15a, zR1_n, zR1_v, zsum_n, zsum_i, zsum_l, zsum_a, zlen_n, zlen_i, zlen_l, zlen_a, List.not_mem_nil, List.mem_cons, or_false, false_or, or_self, ↓reduceIte, if_false, if_true, Nat.reduceEqDiff, Nat.reduceAdd, Nat.reduceLeDiff, true_and, and_true, reduceCtorEq, ne_eq, Int.toNat_natCast, not_true_eq_false, not_false_eq_true, true_implies, false_implies, implies_true, Int.reduceToNat, Int.toNat_zero, Int.reduceLT, Int.reduceLE, Int.reduceEq, Int.reduceAdd, Int.reduceMul, Int.reduceNeg]
    exact fun h => absurd h k1
  · have e0 := fun Q => (c131 (L := L) (M := M) (Q := Q) (h := h)).trans (znot k0)
    refine zW_sound 60 [] ?_
    simp only [ZF158, ZR158, zk_2, ZF131.1, ZF131.2.1, ZF131.2.2.1, e0, zR1_p ZF158.2.2.1, zW_succ, zE_iload, zE_aload, zE_lload, zE_iinc, zE_istore, zE_astore, zE_lstore, zE_iconst, zE_ldc2, zE_iadd, zE_isub, zE_imul, zE_idiv, zE_irem, zE_ineg, zE_iand, zE_ior, zE_ixor, zE_ishl, zE_ishr, zE_land, zE_lor, zE_lxor, zE_lshl, zE_lshr, zE_i2l, zE_lcmp, zE_dup_i, zE_dup_a, zE_dup2_ia, zE_pop_i, zE_pop_a, zE_pop2, zE_goto, zE_if_eq, zE_icmp_eq, zE_if_ne, zE_icmp_ne, zE_if_lt, zE_icmp_lt, zE_if_ge, zE_icmp_ge, zE_if_gt, zE_icmp_gt, zE_if_le, zE_icmp_le, zE_iaload, zE_baload, zE_laload, zE_aaload, zE_iastore, zE_bastore, zE_lastore, zE_aastore, zE_alen, zE_getf0, zE_getf1, zE_getf2, zE_getf3, zE_putf0, zE_putf1, zE_putf2, zE_putf3, zE_new, zE_newa, zE_newq, zE_ireturn, zE_lreturn, zE_areturn, zE_return, zE_athrow, zE_st0, zE_vi0, zE_st1, zE_vi1, zE_st2, zE_vi2, zE_st3, zE_vi3, zE_st4, zE_vi4, zE_st5, zE_vi5, zE_st6, zE_vi6, zE_st7, zE_vi7, zE_st8, zE_vi8, zSt_0, zSL_0, zSt_1n, zSt_1i, zSt_1a, zSt_1l, zSt_2n, zSt_2i, zSt_2a, zSt_2l, zSt_3n, zSt_3i, zSt_3a, zSt_3l, zSt_4n, zSt_4i, zSt_4a, zSt_4l, zSt_5n, zSt_5i, zSt_5a, zSt_5l, zSt_6n, zSt_6i, zSt_6a, zSt_6l, zSt_7n, zSt_7i, zSt_7a, zSt_7l, zSt_8n, zSt_8i, zSt_8a, zSt_8l, zSt_9n, zSt_9i, zSt_9a, zSt_9l, zSt_10n, zSt_10i, zSt_10a, zSt_10l, zSt_11n, zSt_11i, zSt_11a, zSt_11l, zSt_12n, zSt_12i, zSt_12a, zSt_12l, zSt_13n, zSt_13i, zSt_13a, zSt_13l, zSL_1n, zSL_1i, zSL_1a, zSL_1l, zSL_2n, zSL_2i, zSL_2a, zSL_2l, zSL_3n, zSL_3i, zSL_3a, zSL_3l, zSL_4n, zSL_4i, zSL_4a, zSL_4l, zSL_5n, zSL_5i, zSL_5a, zSL_5l, zSL_6n, zSL_6i, zSL_6a, zSL_6l, zSL_7n, zSL_7i, zSL_7a, zSL_7l, zSL_8n, zSL_8i, zSL_8a, zSL_8l, zSL_9n, zSL_9i, zSL_9a, zSL_9l, zSL_10n, zSL_10i, zSL_10a, zSL_10l, zSL_11n, zSL_11i, zSL_11a, zSL_11l, zSL_12n, zSL_12i, zSL_12a, zSL_12l, zLI_0, zLL_0, zLA_0, zLI_1, zLL_1, zLA_1, zLI_2, zLL_2, zLA_2, zLI_3, zLL_3, zLA_3, zLI_4, zLL_4, zLA_4, zLI_5, zLL_5, zLA_5, zLI_6, zLL_6, zLA_6, zLI_7, zLL_7, zLA_7, zLI_8, zLL_8, zLA_8, zLI_9, zLL_9, zLA_9, zLI_10, zLL_10, zLA_10, zLI_11, zLL_11, zLA_11, zLI_12, zLL_12, zLA_12, zLI_13, zLL_13, zLA_13, zst_0, zst_1n, zst_1i, zst_1a, zst_2n, zst_2i, zst_2a, zst_3n, zst_3i, zst_3a, zst_4n, zst_4i, zst_4a, zst_5n, zst_5i, zst_5a, zst_6n, zst_6i, zst_6a, zst_7n, zst_7i, zst_7a, zst_8n, zst_8i, zst_8a, zst_9n, zst_9i, zst_9a, zst_10n, zst_10i, zst_10a, zst_11n, zst_11i, zst_11a, zst_12n, zst_12i, zst_12a, zst_13n, zst_13i, zst_13a, zst_14n, zst_14i, zst_14a, zst_15n, zst_15i, zst_15a, zR1_n, zR1_v, zsum_n, zsum_i, zsum_l, zsum_a, zlen_n, zlen_i, zlen_l, zlen_a, List.not_mem_nil, List.mem_cons, or_false, false_or, or_self, ↓reduceIte, if_false, if_true, Nat.reduceEqDiff, Nat.reduceAdd, Nat.reduceLeDiff, true_and, and_true, reduceCtorEq, ne_eq, Int.toNat_natCast, not_true_eq_false, not_false_eq_true, true_implies, false_implies, implies_true, Int.reduceToNat, Int.toNat_zero, Int.reduceLT, Int.reduceLE, Int.reduceEq, Int.reduceAdd, Int.reduceMul, Int.reduceNeg]
theorem c158_f {h : Int} {x : Int64} (hR : zLay M.2.2.2) (h01 : ∀ i, i < 60 → M.2.1 (14 + 14 * i) 0 = 0 ∨ M.2.1 (14 + 14 * i) 0 = 1) (hm : zmd M.2.1 m) (hm6 : ¬ m < 60) (k0 : 0 ≤ h ∧ h < 3) (k1 : zina M.2.1 x) : zFR (zK L) 158 0 (zcall 158 [.inr (.inr 2), .inl h, .inr (.inl x)]) [] M Q = Q (.inr 1) (zthrown M) := by
  have hF := hR.1
  unfold zLayF at hF
  have e0 := fun Q => (c131 (L := L) (M := M) (Q := Q) (h := h)).trans (zyes k0)
  have e137 := fun Q => (c137 (L := L) (M := M) (Q := Q) (m := m) (w := 12) (h := h) (t := -1) hR hm).trans (znot hm6)
  unfold zina at k1
  refine zFR_det (zW_sound 60 [23] ?_) Q
  simp only [ZF158, ZR158, zk_2, zk_3, hF, ZF131.1, ZF131.2.1, ZF131.2.2.1, ZF1.1, ZF1.2.1, ZF1.2.2.1, c1 hR h01, ZF137.1, ZF137.2.1, ZF137.2.2.1, e0, e137, zR1_p ZF158.2.2.1, zW_succ, zE_iload, zE_aload, zE_lload, zE_iinc, zE_istore, zE_astore, zE_lstore, zE_iconst, zE_ldc2, zE_iadd, zE_isub, zE_imul, zE_idiv, zE_irem, zE_ineg, zE_iand, zE_ior, zE_ixor, zE_ishl, zE_ishr, zE_land, zE_lor, zE_lxor, zE_lshl, zE_lshr, zE_i2l, zE_lcmp, zE_dup_i, zE_dup_a, zE_dup2_ia, zE_pop_i, zE_pop_a, zE_pop2, zE_goto, zE_if_eq, zE_icmp_eq, zE_if_ne, zE_icmp_ne, zE_if_lt, zE_icmp_lt, zE_if_ge, zE_icmp_ge, zE_if_gt, zE_icmp_gt, zE_if_le, zE_icmp_le, zE_iaload, zE_baload, zE_laload, zE_aaload, zE_iastore, zE_bastore, zE_lastore, zE_aastore, zE_alen, zE_getf0, zE_getf1, zE_getf2, zE_getf3, zE_putf0, zE_putf1, zE_putf2, zE_putf3, zE_new, zE_newa, zE_newq, zE_ireturn, zE_lreturn, zE_areturn, zE_return, zE_athrow, zE_st0, zE_vi0, zE_st1, zE_vi1, zE_st2, zE_vi2, zE_st3, zE_vi3, zE_st4, zE_vi4, zE_st5, zE_vi5, zE_st6, zE_vi6, zE_st7, zE_vi7, zE_st8, zE_vi8, zSt_0, zSL_0, zSt_1n, zSt_1i, zSt_1a, zSt_1l, zSt_2n, zSt_2i, zSt_2a, zSt_2l, zSt_3n, zSt_3i, zSt_3a, zSt_3l, zSt_4n, zSt_4i, zSt_4a, zSt_4l, zSt_5n, zSt_5i, zSt_5a, zSt_5l, zSt_6n, zSt_6i, zSt_6a, zSt_6l, zSt_7n, zSt_7i, zSt_7a, zSt_7l, zSt_8n, zSt_8i, zSt_8a, zSt_8l, zSt_9n, zSt_9i, zSt_9a, zSt_9l, zSt_10n, zSt_10i, zSt_10a, zSt_10l, zSt_11n, zSt_11i, zSt_11a, zSt_11l, zSt_12n, zSt_12i, zSt_12a, zSt_12l, zSt_13n, zSt_13i, zSt_13a, zSt_13l, zSL_1n, zSL_1i, zSL_1a, zSL_1l, zSL_2n, zSL_2i, zSL_2a, zSL_2l, zSL_3n, zSL_3i, zSL_3a, zSL_3l, zSL_4n, zSL_4i, zSL_4a, zSL_4l, zSL_5n, zSL_5i, zSL_5a, zSL_5l, zSL_6n, zSL_6i, zSL_6a, zSL_6l, zSL_7n, zSL_7i, zSL_7a, zSL_7l, zSL_8n, zSL_8i, zSL_8a, zSL_8l, zSL_9n, zSL_9i, zSL_9a, zSL_9l, zSL_10n, zSL_10i, zSL_10a, zSL_10l, zSL_11n, zSL_11i, zSL_11a, zSL_11l, zSL_12n, zSL_12i, zSL_12a, zSL_12l, zLI_0, zLL_0, zLA_0, zLI_1, zLL_1, zLA_1, zLI_2, zLL_2, zLA_2, zLI_3, zLL_3, zLA_3, zLI_4, zLL_4, zLA_4, zLI_5, zLL_5, zLA_5, zLI_6, zLL_6, zLA_6, zLI_7, zLL_7, zLA_7, zLI_8, zLL_8, zLA_8, zLI_9, zLL_9, zLA_9, zLI_10, zLL_10, zLA_10, zLI_11, zLL_11, zLA_11, zLI_12, zLL_12, zLA_12, zLI_13, zLL_13, zLA_13, zst_0, zst_1n, zst_1i, zst_1a, zst_2n, zst_2i, zst_2a, zst_3n, zst_3i, zst_3a, zst_4n, zst_4i, zst_4a, zst_5n, zst_5i, zst_5a, zst_6n, zst_6i, zst_6a, zst_7n, zst_7i, zst_7a, zst_8n, zst_8i, zst_8a, zst_9n, zst_9i, zst_9a, zst_10n, zst_10i, zst_10a, zst_11n, zst_11i, zst_11a, zst_12n, zst_12i, zst_12a, zst_13n, zst_13i, zst_13a, zst_14n, zst_14i, zst_14a, zst_15n, zst_15i, zst_15a, zR1_n, zR1_v, zsum_n, zsum_i, zsum_l, zsum_a, zlen_n, zlen_i, zlen_l, zlen_a, List.not_mem_nil, List.mem_cons, or_false, false_or, or_self, ↓reduceIte, if_false, if_true, Nat.reduceEqDiff, Nat.reduceAdd, Nat.reduceLeDiff, true_and, and_true, reduceCtorEq, ne_eq, Int.toNat_natCast, not_true_eq_false, not_false_eq_true, true_implies, false_implies, implies_true, Int.reduceToNat, Int.toNat_zero, Int.reduceLT, Int.reduceLE, Int.reduceEq, Int.reduceAdd, Int.reduceMul, Int.reduceNeg]
  exact fun h => absurd k1 h
theorem c158_g {h v : Int} {x : Int64} {M9 : zM} (hR : zLay M.2.2.2) (h01 : ∀ i, i < 60 → M.2.1 (14 + 14 * i) 0 = 0 ∨ M.2.1 (14 + 14 * i) 0 = 1) (hm : zmd M.2.1 m) (hm6 : m < 60) (k0 : 0 ≤ h ∧ h < 3) (k1 : zina M.2.1 x) (e10 : ∀ Q : zO → zM → Prop, zFR (zK L) 10 0 (zcall 10 [.inr (.inr 3), .inr (.inr (855 + 4 * m)), .inl (m : Int)]) [] (zpgM M m h x) Q = Q (.inl (some (.inl v))) M9) (hR9 : M9.2.2.2 = M.2.2.2) (hm9 : M9.2.1 2 2 = (m : Int)) : zFR (zK L) 158 0 (zcall 158 [.inr (.inr 2), .inl h, .inr (.inl x)]) [] M Q = ((v = -1 → Q (.inr 1) (zthrown M9)) ∧ (¬ v = -1 → Q (.inl (some (.inl v))) (zwI M9 (zu2 (zu2 M9.2.1 (855 + 4 * m) 11 1) 2 2 ((m : Int) + 1))))) := by
  have hF := hR.1
  unfold zLayF at hF
  have e0 := fun Q => (c131 (L := L) (M := M) (Q := Q) (h := h)).trans (zyes k0)
  have e137 := fun Q => (c137 (L := L) (M := M) (Q := Q) (m := m) (w := 12) (h := h) (t := -1) hR hm).trans (zyes hm6)
  have hm2 : (zpgM M m h x).2.1 2 2 = (m : Int) := (zpg_cw.1 2 2 (by omega)).trans hm.1
  have e138 := fun Q => c138 (L := L) (M := zpgM M m h x) (Q := Q) (m := m) (v := v) (M9 := M9) hR hR9 hm2 hm9 hm6 e10
  unfold zina at k1
  have eg : zsL (zbgM M m 12 h (-1)) (855 + 4 * m) 10 x = zpgM M m h x := rfl
  by_cases hv : v = -1
  · have e138v := fun Q => (e138 Q).trans (zyes hv)
    rw [zFR_det (r0 := .inr 1) (M0 := zthrown M9) (zW_sound 60 [23] ?_) Q]
    · exact (zyes hv).symm
    · simp only [ZF158, ZR158, zk_2, zk_3, zK_ch hm6, hF, eg, ZF131.1, ZF131.2.1, ZF131.2.2.1, ZF1.1, ZF1.2.1, ZF1.2.2.1, c1 hR h01, ZF137.1, ZF137.2.1, ZF137.2.2.1, ZF138.1, ZF138.2.1, ZF138.2.2.1, e0, e137, e138v, zR1_p ZF158.2.2.1, zW_succ, zE_iload, zE_aload, zE_lload, zE_iinc, zE_istore, zE_astore, zE_lstore, zE_iconst, zE_ldc2, zE_iadd, zE_isub, zE_imul, zE_idiv, zE_irem, zE_ineg, zE_iand, zE_ior, zE_ixor, zE_ishl, zE_ishr, zE_land, zE_lor, zE_lxor, zE_lshl, zE_lshr, zE_i2l, zE_lcmp, zE_dup_i, zE_dup_a, zE_dup2_ia, zE_pop_i, zE_pop_a, zE_pop2, zE_goto, zE_if_eq, zE_icmp_eq, zE_if_ne, zE_icmp_ne, zE_if_lt, zE_icmp_lt, zE_if_ge, zE_icmp_ge, zE_if_gt, zE_icmp_gt, zE_if_le, zE_icmp_le, zE_iaload, zE_baload, zE_laload, zE_aaload, zE_iastore, zE_bastore, zE_lastore, zE_aastore, zE_alen, zE_getf0, zE_getf1, zE_getf2, zE_getf3, zE_putf0, zE_putf1, zE_putf2, zE_putf3, zE_new, zE_newa, zE_newq, zE_ireturn, zE_lreturn, zE_areturn, zE_return, zE_athrow, zE_st0, zE_vi0, zE_st1, zE_vi1, zE_st2, zE_vi2, zE_st3, zE_vi3, zE_st4, zE_vi4, zE_st5, zE_vi5, zE_st6, zE_vi6, zE_st7, zE_vi7, zE_st8, zE_vi8, zSt_0, zSL_0, zSt_1n, zSt_1i, zSt_1a, zSt_1l, zSt_2n, zSt_2i, zSt_2a, zSt_2l, zSt_3n, zSt_3i, zSt_3a, zSt_3l, zSt_4n, zSt_4i, zSt_4a, zSt_4l, zSt_5n, zSt_5i, zSt_5a, zSt_5l, zSt_6n, zSt_6i, zSt_6a, zSt_6l, zSt_7n, zSt_7i, zSt_7a, zSt_7l, zSt_8n, zSt_8i, zSt_8a, zSt_8l, zSt_9n, zSt_9i, zSt_9a, zSt_9l, zSt_10n, zSt_10i, zSt_10a, zSt_10l, zSt_11n, zSt_11i, zSt_11a, zSt_11l, zSt_12n, zSt_12i, zSt_12a, zSt_12l, zSt_13n, zSt_13i, zSt_13a, zSt_13l, zSL_1n, zSL_1i, zSL_1a, zSL_1l, zSL_2n, zSL_2i, zSL_2a, zSL_2l, zSL_3n, zSL_3i, zSL_3a, zSL_3l, zSL_4n, zSL_4i, zSL_4a, zSL_4l, zSL_5n, zSL_5i, zSL_5a, zSL_5l, zSL_6n, zSL_6i, zSL_6a, zSL_6l, zSL_7n, zSL_7i, zSL_7a, zSL_7l, zSL_8n, zSL_8i, zSL_8a, zSL_8l, zSL_9n, zSL_9i, zSL_9a, zSL_9l, zSL_10n, zSL_10i, zSL_10a, zSL_10l, zSL_11n, zSL_11i, zSL_11a, zSL_11l, zSL_12n, zSL_12i, zSL_12a, zSL_12l, zLI_0, zLL_0, zLA_0, zLI_1, zLL_1, zLA_1, zLI_2, zLL_2, zLA_2, zLI_3, zLL_3, zLA_3, zLI_4, zLL_4, zLA_4, zLI_5, zLL_5, zLA_5, zLI_6, zLL_6, zLA_6, zLI_7, zLL_7, zLA_7, zLI_8, zLL_8, zLA_8, zLI_9, zLL_9, zLA_9, zLI_10, zLL_10, zLA_10, zLI_11, zLL_11, zLA_11, zLI_12, zLL_12, zLA_12, zLI_13, zLL_13, zLA_13, zst_0, zst_1n, zst_1i, zst_1a, zst_2n, zst_2i, zst_2a, zst_3n, zst_3i, zst_3a, zst_4n, zst_4i, zst_4a, zst_5n, zst_5i, zst_5a, zst_6n, zst_6i, zst_6a, zst_7n, zst_7i, zst_7a, zst_8n, zst_8i, zst_8a, zst_9n, zst_9i, zst_9a, zst_10n, zst_10i, zst_10a, zst_11n, zst_11i, zst_11a, zst_12n, zst_12i, zst_12a, zst_13n, zst_13i, zst_13a, zst_14n, zst_14i, zst_14a, zst_15n, zst_15i, zst_15a, zR1_n, zR1_v, zsum_n, zsum_i, zsum_l, zsum_a, zlen_n, zlen_i, zlen_l, zlen_a, List.not_mem_nil, List.mem_cons, or_false, false_or, or_self, ↓reduceIte, if_false, if_true, Nat.reduceEqDiff, Nat.reduceAdd, Nat.reduceLeDiff, true_and, and_true, reduceCtorEq, ne_eq, Int.toNat_natCast, not_true_eq_false, not_false_eq_true, true_implies, false_implies, implies_true, Int.reduceToNat, Int.toNat_zero, Int.reduceLT, Int.reduceLE, Int.reduceEq, Int.reduceAdd, Int.reduceMul, Int.reduceNeg]
      exact fun h => absurd k1 h
  · have e138v := fun Q => (e138 Q).trans (znot hv)
    rw [zFR_det (r0 := .inl (some (.inl v))) (M0 := zwI M9 (zu2 (zu2 M9.2.1 (855 + 4 * m) 11 1) 2 2 ((m : Int) + 1))) (zW_sound 60 [23] ?_) Q]
    · exact (znot hv).symm
    · simp only [ZF158, ZR158, zk_2, zk_3, zK_ch hm6, hF, eg, ZF131.1, ZF131.2.1, ZF131.2.2.1, ZF1.1, ZF1.2.1, ZF1.2.2.1, c1 hR h01, ZF137.1, ZF137.2.1, ZF137.2.2.1, ZF138.1, ZF138.2.1, ZF138.2.2.1, e0, e137, e138v, zR1_p ZF158.2.2.1, zW_succ, zE_iload, zE_aload, zE_lload, zE_iinc, zE_istore, zE_astore, zE_lstore, zE_iconst, zE_ldc2, zE_iadd, zE_isub, zE_imul, zE_idiv, zE_irem, zE_ineg, zE_iand, zE_ior, zE_ixor, zE_ishl, zE_ishr, zE_land, zE_lor, zE_lxor, zE_lshl, zE_lshr, zE_i2l, zE_lcmp, zE_dup_i, zE_dup_a, zE_dup2_ia, zE_pop_i, zE_pop_a, zE_pop2, zE_goto, zE_if_eq, zE_icmp_eq, zE_if_ne, zE_icmp_ne, zE_if_lt, zE_icmp_lt, zE_if_ge, zE_icmp_ge, zE_if_gt, zE_icmp_gt, zE_if_le, zE_icmp_le, zE_iaload, zE_baload, zE_laload, zE_aaload, zE_iastore, zE_bastore, zE_lastore, zE_aastore, zE_alen, zE_getf0, zE_getf1, zE_getf2, zE_getf3, zE_putf0, zE_putf1, zE_putf2, zE_putf3, zE_new, zE_newa, zE_newq, zE_ireturn, zE_lreturn, zE_areturn, zE_return, zE_athrow, zE_st0, zE_vi0, zE_st1, zE_vi1, zE_st2, zE_vi2, zE_st3, zE_vi3, zE_st4, zE_vi4, zE_st5, zE_vi5, zE_st6, zE_vi6, zE_st7, zE_vi7, zE_st8, zE_vi8, zSt_0, zSL_0, zSt_1n, zSt_1i, zSt_1a, zSt_1l, zSt_2n, zSt_2i, zSt_2a, zSt_2l, zSt_3n, zSt_3i, zSt_3a, zSt_3l, zSt_4n, zSt_4i, zSt_4a, zSt_4l, zSt_5n, zSt_5i, zSt_5a, zSt_5l, zSt_6n, zSt_6i, zSt_6a, zSt_6l, zSt_7n, zSt_7i, zSt_7a, zSt_7l, zSt_8n, zSt_8i, zSt_8a, zSt_8l, zSt_9n, zSt_9i, zSt_9a, zSt_9l, zSt_10n, zSt_10i, zSt_10a, zSt_10l, zSt_11n, zSt_11i, zSt_11a, zSt_11l, zSt_12n, zSt_12i, zSt_12a, zSt_12l, zSt_13n, zSt_13i, zSt_13a, zSt_13l, zSL_1n, zSL_1i, zSL_1a, zSL_1l, zSL_2n, zSL_2i, zSL_2a, zSL_2l, zSL_3n, zSL_3i, zSL_3a, zSL_3l, zSL_4n, zSL_4i, zSL_4a, zSL_4l, zSL_5n, zSL_5i, zSL_5a, zSL_5l, zSL_6n, zSL_6i, zSL_6a, zSL_6l, zSL_7n, zSL_7i, zSL_7a, zSL_7l, zSL_8n, zSL_8i, zSL_8a, zSL_8l, zSL_9n, zSL_9i, zSL_9a, zSL_9l, zSL_10n, zSL_10i, zSL_10a, zSL_10l, zSL_11n, zSL_11i, zSL_11a, zSL_11l, zSL_12n, zSL_12i, zSL_12a, zSL_12l, zLI_0, zLL_0, zLA_0, zLI_1, zLL_1, zLA_1, zLI_2, zLL_2, zLA_2, zLI_3, zLL_3, zLA_3, zLI_4, zLL_4, zLA_4, zLI_5, zLL_5, zLA_5, zLI_6, zLL_6, zLA_6, zLI_7, zLL_7, zLA_7, zLI_8, zLL_8, zLA_8, zLI_9, zLL_9, zLA_9, zLI_10, zLL_10, zLA_10, zLI_11, zLL_11, zLA_11, zLI_12, zLL_12, zLA_12, zLI_13, zLL_13, zLA_13, zst_0, zst_1n, zst_1i, zst_1a, zst_2n, zst_2i, zst_2a, zst_3n, zst_3i, zst_3a, zst_4n, zst_4i, zst_4a, zst_5n, zst_5i, zst_5a, zst_6n, zst_6i, zst_6a, zst_7n, zst_7i, zst_7a, zst_8n, zst_8i, zst_8a, zst_9n, zst_9i, zst_9a, zst_10n, zst_10i, zst_10a, zst_11n, zst_11i, zst_11a, zst_12n, zst_12i, zst_12a, zst_13n, zst_13i, zst_13a, zst_14n, zst_14i, zst_14a, zst_15n, zst_15i, zst_15a, zR1_n, zR1_v, zsum_n, zsum_i, zsum_l, zsum_a, zlen_n, zlen_i, zlen_l, zlen_a, List.not_mem_nil, List.mem_cons, or_false, false_or, or_self, ↓reduceIte, if_false, if_true, Nat.reduceEqDiff, Nat.reduceAdd, Nat.reduceLeDiff, true_and, and_true, reduceCtorEq, ne_eq, Int.toNat_natCast, not_true_eq_false, not_false_eq_true, true_implies, false_implies, implies_true, Int.reduceToNat, Int.toNat_zero, Int.reduceLT, Int.reduceLE, Int.reduceEq, Int.reduceAdd, Int.reduceMul, Int.reduceNeg]
      exact fun h => absurd k1 h
theorem zqA_158 (hW : zqW m M) (c2 : cc 2 = 1) (c1 : cc 1 = 2) {h : Int} {x : Int64} : zqAg L M 158 [.inr (.inr 2), .inl h, .inr (.inl x)] 279 [.inr (.inr 1153), .inl h, .inr (.inl x)] cc := by
  have hR := hW.1.1
  have rel := hW.1.2.1
  have h01 := zqR_01 rel
  have hm := zqmd hW
  have m8 : M.2.1 1153 8 = (m : Int) := hW.1.2.2.2.1.2
  have ina : ∀ B : zM, B.2.2.2 = M.2.2.2 → (∀ b j, 1153 ≤ b → B.2.1 b j = M.2.1 b j) → (zina M.2.1 x ↔ zat B.2.1 x 64) := fun B b4 bn => by
    rw [zqina rel]
    unfold zat zrt
    rw [show B.2.1 1166 = M.2.1 1166 from funext fun j => bn _ _ (by omega)]
  by_cases k : (0 ≤ h ∧ h < 3) ∧ zina M.2.1 x
  · by_cases hm6 : m < 60
    · refine zqAg_g2 (e := 2) (fun B => zwI (zsL (zwI B (zrtw B.2.1 0)) 1162 m x) (zrtl (zrtw B.2.1 0) m 12 h 0 0 0 0)) rfl rfl rfl hW hm6 (C2 := zpgM M m h x) zpg_cw (funext fun j => zpg_cw.2.1 _ _ (by omega)) rfl (fun B b4 bn => ⟨⟨fun b j q1 q2 q3 q4 q5 q6 => ?_, fun b j q1 => ?_, rfl⟩, fun b j hb => ?_, rfl, ?_, ?_⟩) (fun v M9 e10 hR9 hm9 _ Q => c158_g hR h01 hm hm6 k.1 k.2 e10 hR9 hm9) (fun B M9 b4 bn e192 Q => ?_) (fun B M9 b4 bn e192 lM h8 Q => ?_) c1
      · show zrtl (zrtw B.2.1 0) m 12 h 0 0 0 0 b j = _
        unfold zrtl zrtw
        rw [zu2_sj (by omega), zu2_sj (by omega), zu2_sj (by omega), zu2_sj (by omega), zu2_sj (by omega), zu2_sj (by omega), zu2_sj (by omega)]
      · show zup B.2.2.1 1162 (zup (B.2.2.1 1162) m x) b j = _
        unfold zup
        by_cases c : b = 1162
        · subst c
          rw [if_pos rfl, if_neg (by omega)]
        · rw [if_neg c]
      · unfold zqXs at hb
        show zrtl (zrtw B.2.1 0) m 12 h 0 0 0 0 b j = _
        unfold zrtl zrtw
        rw [zu2_sj (by omega), zu2_sj (by omega), zu2_sj (by omega), zu2_sj (by omega), zu2_sj (by omega), zu2_sj (by omega), zu2_sj (by omega)]
      · show zup B.2.2.1 1162 (zup (B.2.2.1 1162) m x) 1205 = _
        unfold zup
        rw [if_neg (by omega)]
      · obtain ⟨t8, t9, u0, u1, u2, u3⟩ := zrtl_v (f := zrtw B.2.1 0) (i := m) (k := 12) (h := h) (a := 0) (b := 0) (c := 0) (d := 0)
        obtain ⟨g0, g1, g2, g3, _⟩ := zbg_v (f := M.2.1) (c := 855 + 4 * m) (w := 12) (h := h) (t := -1)
        have s0 : (zpgM M m h x).2.1 (855 + 4 * m) 0 = 12 := g0
        have s1 : (zpgM M m h x).2.1 (855 + 4 * m) 1 = h := g1
        have s2 : (zpgM M m h x).2.1 (855 + 4 * m) 2 = -1 := g2
        have s3 : (zpgM M m h x).2.1 (855 + 4 * m) 3 = -1 := g3
        have l1 : (zpgM M m h x).2.2.1 (855 + 4 * m) 10 = x := by
          show zup (zl2 M.2.2.1 (855 + 4 * m) 10 (Int64.ofInt 0)) (855 + 4 * m) (zup (zl2 M.2.2.1 (855 + 4 * m) 10 (Int64.ofInt 0) (855 + 4 * m)) 10 x) (855 + 4 * m) 10 = x
          unfold zup
          rw [if_pos rfl, if_pos rfl]
        have l2 : (zwI (zsL (zwI B (zrtw B.2.1 0)) 1162 m x) (zrtl (zrtw B.2.1 0) m 12 h 0 0 0 0)).2.2.1 1162 m = x := by
          show zup B.2.2.1 1162 (zup (B.2.2.1 1162) m x) 1162 m = x
          unfold zup
          rw [if_pos rfl, if_pos rfl]
        have w8 : (zwI (zsL (zwI B (zrtw B.2.1 0)) 1162 m x) (zrtl (zrtw B.2.1 0) m 12 h 0 0 0 0)).2.1 1158 m = 12 := t8
        have w9 : (zwI (zsL (zwI B (zrtw B.2.1 0)) 1162 m x) (zrtl (zrtw B.2.1 0) m 12 h 0 0 0 0)).2.1 1159 m = h := t9
        generalize zwI (zsL (zwI B (zrtw B.2.1 0)) 1162 m x) (zrtl (zrtw B.2.1 0) m 12 h 0 0 0 0) = T at *
        exact ⟨⟨s1.trans w9.symm, by omega⟩, Or.inr (Or.inr (Or.inr (Or.inr (Or.inr (Or.inr (Or.inr (Or.inr (Or.inr (Or.inr (Or.inr (Or.inr (Or.inl ⟨⟨s0, w8⟩, s2, s3, l1.trans l2.symm⟩))))))))))))⟩
      · have m8B : (zsL (zwI B (zrtw B.2.1 0)) 1162 m x).2.1 1153 8 = (m : Int) := by
          show zrtw B.2.1 0 1153 8 = _
          exact (zu2_sj (by omega)).trans ((bn _ _ (by omega)).trans m8)
        exact c279_g (by rw [b4]; exact hR) (fun k hk => by rw [bn _ _ (by omega)]; exact zqR_r01 rel k hk) (by omega) ((ina B b4 bn).mp k.2) ((bn _ _ (by omega)).trans m8) hm6 (fun Q9 => c253_0 (M := zsL (zwI B (zrtw B.2.1 0)) 1162 m x) (show zLay B.2.2.2 by rw [b4]; exact hR) m8B hm6 e192)
      · have m8B : (zsL (zwI B (zrtw B.2.1 0)) 1162 m x).2.1 1153 8 = (m : Int) := by
          show zrtw B.2.1 0 1153 8 = _
          exact (zu2_sj (by omega)).trans ((bn _ _ (by omega)).trans m8)
        exact c279_g (by rw [b4]; exact hR) (fun k hk => by rw [bn _ _ (by omega)]; exact zqR_r01 rel k hk) (by omega) ((ina B b4 bn).mp k.2) ((bn _ _ (by omega)).trans m8) hm6 (fun Q9 => c253_1 (M := zsL (zwI B (zrtw B.2.1 0)) 1162 m x) (show zLay B.2.2.2 by rw [b4]; exact hR) m8B hm6 e192 lM h8)
    · exact zqAg_no (e := 1) (d := 2) hW (by omega) (fun Q => c158_f hR h01 hm hm6 k.1 k.2) (.inl 0) (fun B b2 b4 Q => c279_2 (by rw [b4]; exact hR) (by rw [b2]; exact zqR_r01 rel) (by omega) ((ina B b4 (fun b j _ => by rw [b2])).mp k.2) (by rw [b2, m8]; have := hm.2; omega)) c1
  · exact zqAg_no (e := 2) (d := 1) hW (by omega) (fun Q => c158_0 hR h01 k) (.inl 0) (fun B b2 b4 Q => c279_1 (by rw [b4]; exact hR) (by rw [b2]; exact zqR_r01 rel) (fun kk => k ⟨by omega, (ina B b4 (fun b j _ => by rw [b2])).mpr kk.2⟩)) c2
end ZGASKQ
/-! undo -/
section ZUNDOQ
variable {L m : Nat} {M M0 B C2 : zM} {Q : zO → zM → Prop} {cc : Nat → Int}
theorem c164_0 {h : Int} (kn : ¬ (0 ≤ h ∧ h < 3)) : zFR (zK L) 164 0 (zcall 164 [.inr (.inr 2), .inl h]) [] M Q = Q (.inr 2) (zthrown M) := by
  have e0 := fun Q => (c131 (L := L) (M := M) (Q := Q) (h := h)).trans (znot kn)
  refine zFR_det (zW_sound 60 [] ?_) Q
  simp only [ZF164, ZR164, zk_2, ZF131.1, ZF131.2.1, ZF131.2.2.1, e0, zR1_p ZF164.2.2.1, zW_succ, zE_iload, zE_aload, zE_lload, zE_iinc, zE_istore, zE_astore, zE_lstore, zE_iconst, zE_ldc2, zE_iadd, zE_isub, zE_imul, zE_idiv, zE_irem, zE_ineg, zE_iand, zE_ior, zE_ixor, zE_ishl, zE_ishr, zE_land, zE_lor, zE_lxor, zE_lshl, zE_lshr, zE_i2l, zE_lcmp, zE_dup_i, zE_dup_a, zE_dup2_ia, zE_pop_i, zE_pop_a, zE_pop2, zE_goto, zE_if_eq, zE_icmp_eq, zE_if_ne, zE_icmp_ne, zE_if_lt, zE_icmp_lt, zE_if_ge, zE_icmp_ge, zE_if_gt, zE_icmp_gt, zE_if_le, zE_icmp_le, zE_iaload, zE_baload, zE_laload, zE_aaload, zE_iastore, zE_bastore, zE_lastore, zE_aastore, zE_alen, zE_getf0, zE_getf1, zE_getf2, zE_getf3, zE_putf0, zE_putf1, zE_putf2, zE_putf3, zE_new, zE_newa, zE_newq, zE_ireturn, zE_lreturn, zE_areturn, zE_return, zE_athrow, zE_st0, zE_vi0, zE_st1, zE_vi1, zE_st2, zE_vi2, zE_st3, zE_vi3, zE_st4, zE_vi4, zE_st5, zE_vi5, zE_st6, zE_vi6, zE_st7, zE_vi7, zE_st8, zE_vi8, zSt_0, zSL_0, zSt_1n, zSt_1i, zSt_1a, zSt_1l, zSt_2n, zSt_2i, zSt_2a, zSt_2l, zSt_3n, zSt_3i, zSt_3a, zSt_3l, zSt_4n, zSt_4i, zSt_4a, zSt_4l, zSt_5n, zSt_5i, zSt_5a, zSt_5l, zSt_6n, zSt_6i, zSt_6a, zSt_6l, zSt_7n, zSt_7i, zSt_7a, zSt_7l, zSt_8n, zSt_8i, zSt_8a, zSt_8l, zSt_9n, zSt_9i, zSt_9a, zSt_9l, zSt_10n, zSt_10i, zSt_10a, zSt_10l, zSt_11n, zSt_11i, zSt_11a, zSt_11l, zSt_12n, zSt_12i, zSt_12a, zSt_12l, zSt_13n, zSt_13i, zSt_13a, zSt_13l, zSL_1n, zSL_1i, zSL_1a, zSL_1l, zSL_2n, zSL_2i, zSL_2a, zSL_2l, zSL_3n, zSL_3i, zSL_3a, zSL_3l, zSL_4n, zSL_4i, zSL_4a, zSL_4l, zSL_5n, zSL_5i, zSL_5a, zSL_5l, zSL_6n, zSL_6i, zSL_6a, zSL_6l, zSL_7n, zSL_7i, zSL_7a, zSL_7l, zSL_8n, zSL_8i, zSL_8a, zSL_8l, zSL_9n, zSL_9i, zSL_9a, zSL_9l, zSL_10n, zSL_10i, zSL_10a, zSL_10l, zSL_11n, zSL_11i, zSL_11a, zSL_11l, zSL_12n, zSL_12i, zSL_12a, zSL_12l, zLI_0, zLL_0, zLA_0, zLI_1, zLL_1, zLA_1, zLI_2, zLL_2, zLA_2, zLI_3, zLL_3, zLA_3, zLI_4, zLL_4, zLA_4, zLI_5, zLL_5, zLA_5, zLI_6, zLL_6, zLA_6, zLI_7, zLL_7, zLA_7, zLI_8, zLL_8, zLA_8, zLI_9, zLL_9, zLA_9, zLI_10, zLL_10, zLA_10, zLI_11, zLL_11, zLA_11, zLI_12, zLL_12, zLA_12, zLI_13, zLL_13, zLA_13, zst_0, zst_1n, zst_1i, zst_1a, zst_2n, zst_2i, zst_2a, zst_3n, zst_3i, zst_3a, zst_4n, zst_4i, zst_4a, zst_5n, zst_5i, zst_5a, zst_6n, zst_6i, zst_6a, zst_7n, zst_7i, zst_7a, zst_8n, zst_8i, zst_8a, zst_9n, zst_9i, zst_9a, zst_10n, zst_10i, zst_10a, zst_11n, zst_11i, zst_11a, zst_12n, zst_12i, zst_12a, zst_13n, zst_13i, zst_13a, zst_14n, zst_14i, zst_14a, zst_15n, zst_15i, zst_15a, zR1_n, zR1_v, zsum_n, zsum_i, zsum_l, zsum_a, zlen_n, zlen_i, zlen_l, zlen_a, List.not_mem_nil, List.mem_cons, or_false, false_or, or_self, ↓reduceIte, if_false, if_true, Nat.reduceEqDiff, Nat.reduceAdd, Nat.reduceLeDiff, true_and, and_true, reduceCtorEq, ne_eq, Int.toNat_natCast, not_true_eq_false, not_false_eq_true, true_implies, false_implies, implies_true, Int.reduceToNat, Int.toNat_zero, Int.reduceLT, Int.reduceLE, Int.reduceEq, Int.reduceAdd, Int.reduceMul, Int.reduceNeg]
theorem c164_1 {h : Int} (hR : zLay M.2.2.2) (hm : zmd M.2.1 m) (k0 : 0 ≤ h ∧ h < 3) (kl : zlat M.2.1 h m < 0) : zFR (zK L) 164 0 (zcall 164 [.inr (.inr 2), .inl h]) [] M Q = Q (.inr 1) (zthrown M) := by
  have e0 := fun Q => (c131 (L := L) (M := M) (Q := Q) (h := h)).trans (zyes k0)
  have e1 := fun Q => c165 (L := L) (M := M) (Q := Q) (h := h) hR hm
  generalize zlat M.2.1 h m = l at *
  refine zFR_det (zW_sound 60 [31] ?_) Q
  simp only [ZF164, ZR164, zk_2, ZF131.1, ZF131.2.1, ZF131.2.2.1, ZF165.1, ZF165.2.1, ZF165.2.2.1, e0, e1, zR1_p ZF164.2.2.1, zE_athrow, zW_succ, zE_iload, zE_aload, zE_lload, zE_iinc, zE_istore, zE_astore, zE_lstore, zE_iconst, zE_ldc2, zE_iadd, zE_isub, zE_imul, zE_idiv, zE_irem, zE_ineg, zE_iand, zE_ior, zE_ixor, zE_ishl, zE_ishr, zE_land, zE_lor, zE_lxor, zE_lshl, zE_lshr, zE_i2l, zE_lcmp, zE_dup_i, zE_dup_a, zE_dup2_ia, zE_pop_i, zE_pop_a, zE_pop2, zE_goto, zE_if_eq, zE_icmp_eq, zE_if_ne, zE_icmp_ne, zE_if_lt, zE_icmp_lt, zE_if_ge, zE_icmp_ge, zE_if_gt, zE_icmp_gt, zE_if_le, zE_icmp_le, zE_iaload, zE_baload, zE_laload, zE_aaload, zE_iastore, zE_bastore, zE_lastore, zE_aastore, zE_alen, zE_getf0, zE_getf1, zE_getf2, zE_getf3, zE_putf0, zE_putf1, zE_putf2, zE_putf3, zE_new, zE_newa, zE_newq, zE_ireturn, zE_lreturn, zE_areturn, zE_return, zE_athrow, zE_st0, zE_vi0, zE_st1, zE_vi1, zE_st2, zE_vi2, zE_st3, zE_vi3, zE_st4, zE_vi4, zE_st5, zE_vi5, zE_st6, zE_vi6, zE_st7, zE_vi7, zE_st8, zE_vi8, zSt_0, zSL_0, zSt_1n, zSt_1i, zSt_1a, zSt_1l, zSt_2n, zSt_2i, zSt_2a, zSt_2l, zSt_3n, zSt_3i, zSt_3a, zSt_3l, zSt_4n, zSt_4i, zSt_4a, zSt_4l, zSt_5n, zSt_5i, zSt_5a, zSt_5l, zSt_6n, zSt_6i, zSt_6a, zSt_6l, zSt_7n, zSt_7i, zSt_7a, zSt_7l, zSt_8n, zSt_8i, zSt_8a, zSt_8l, zSt_9n, zSt_9i, zSt_9a, zSt_9l, zSt_10n, zSt_10i, zSt_10a, zSt_10l, zSt_11n, zSt_11i, zSt_11a, zSt_11l, zSt_12n, zSt_12i, zSt_12a, zSt_12l, zSt_13n, zSt_13i, zSt_13a, zSt_13l, zSL_1n, zSL_1i, zSL_1a, zSL_1l, zSL_2n, zSL_2i, zSL_2a, zSL_2l, zSL_3n, zSL_3i, zSL_3a, zSL_3l, zSL_4n, zSL_4i, zSL_4a, zSL_4l, zSL_5n, zSL_5i, zSL_5a, zSL_5l, zSL_6n, zSL_6i, zSL_6a, zSL_6l, zSL_7n, zSL_7i, zSL_7a, zSL_7l, zSL_8n, zSL_8i, zSL_8a, zSL_8l, zSL_9n, zSL_9i, zSL_9a, zSL_9l, zSL_10n, zSL_10i, zSL_10a, zSL_10l, zSL_11n, zSL_11i, zSL_11a, zSL_11l, zSL_12n, zSL_12i, zSL_12a, zSL_12l, zLI_0, zLL_0, zLA_0, zLI_1, zLL_1, zLA_1, zLI_2, zLL_2, zLA_2, zLI_3, zLL_3, zLA_3, zLI_4, zLL_4, zLA_4, zLI_5, zLL_5, zLA_5, zLI_6, zLL_6, zLA_6, zLI_7, zLL_7, zLA_7, zLI_8, zLL_8, zLA_8, zLI_9, zLL_9, zLA_9, zLI_10, zLL_10, zLA_10, zLI_11, zLL_11, zLA_11, zLI_12, zLL_12, zLA_12, zLI_13, zLL_13, zLA_13, zst_0, zst_1n, zst_1i, zst_1a, zst_2n, zst_2i, zst_2a, zst_3n, zst_3i, zst_3a, zst_4n, zst_4i, zst_4a, zst_5n, zst_5i, zst_5a, zst_6n, zst_6i, zst_6a, zst_7n, zst_7i, zst_7a, zst_8n, zst_8i, zst_8a, zst_9n, zst_9i, zst_9a, zst_10n, zst_10i, zst_10a, zst_11n, zst_11i, zst_11a, zst_12n, zst_12i, zst_12a, zst_13n, zst_13i, zst_13a, zst_14n, zst_14i, zst_14a, zst_15n, zst_15i, zst_15a, zR1_n, zR1_v, zsum_n, zsum_i, zsum_l, zsum_a, zlen_n, zlen_i, zlen_l, zlen_a, List.not_mem_nil, List.mem_cons, or_false, false_or, or_self, ↓reduceIte, if_false, if_true, Nat.reduceEqDiff, Nat.reduceAdd, Nat.reduceLeDiff, true_and, and_true, reduceCtorEq, ne_eq, Int.toNat_natCast, not_true_eq_false, not_false_eq_true, true_implies, false_implies, implies_true, Int.reduceToNat, Int.toNat_zero, Int.reduceLT, Int.reduceLE, Int.reduceEq, Int.reduceAdd, Int.reduceMul, Int.reduceNeg]
  (repeat' (first | with_reducible refine And.intro ?_ ?_ | with_reducible intro _)) <;> try first | with_reducible rfl | with_reducible assumption | omega | (unfold zr32; omega) | contradiction | (exact absurd (by omega) (by assumption)) | rfl | (simp only [Sum.inl.injEq, Option.some.injEq]; omega)
theorem c164_g {h : Int} {l : Nat} {M9 : zM} (hR : zLay M.2.2.2) (hm : zmd M.2.1 m) (k0 : 0 ≤ h ∧ h < 3) (kl : zlat M.2.1 h m = (l : Int)) (l6 : l < 60) (e166 : ∀ Q : zO → zM → Prop, zFR (zK L) 166 0 (zcall 166 [.inr (.inr 2)]) [] (zwI M (zu2 M.2.1 (855 + 4 * l) 11 0)) Q = Q (.inl none) M9) : zFR (zK L) 164 0 (zcall 164 [.inr (.inr 2), .inl h]) [] M Q = Q (.inl (some (.inl (l : Int)))) M9 := by
  have hF := hR.1
  unfold zLayF at hF
  have e0 := fun Q => (c131 (L := L) (M := M) (Q := Q) (h := h)).trans (zyes k0)
  have e1 := fun Q => c165 (L := L) (M := M) (Q := Q) (h := h) hR hm
  rw [kl] at e1
  refine zFR_det (zW_sound 60 [21] ?_) Q
  simp only [ZF164, ZR164, zk_2, zk_854, zK_ch l6, hF, (hR.2.2.2 l l6).2.1, Int.toNat_natCast, ZF131.1, ZF131.2.1, ZF131.2.2.1, ZF165.1, ZF165.2.1, ZF165.2.2.1, ZF166.1, ZF166.2.1, ZF166.2.2.1, e0, e1, zsI_w, e166, zR1_p ZF164.2.2.1, zW_succ, zE_iload, zE_aload, zE_lload, zE_iinc, zE_istore, zE_astore, zE_lstore, zE_iconst, zE_ldc2, zE_iadd, zE_isub, zE_imul, zE_idiv, zE_irem, zE_ineg, zE_iand, zE_ior, zE_ixor, zE_ishl, zE_ishr, zE_land, zE_lor, zE_lxor, zE_lshl, zE_lshr, zE_i2l, zE_lcmp, zE_dup_i, zE_dup_a, zE_dup2_ia, zE_pop_i, zE_pop_a, zE_pop2, zE_goto, zE_if_eq, zE_icmp_eq, zE_if_ne, zE_icmp_ne, zE_if_lt, zE_icmp_lt, zE_if_ge, zE_icmp_ge, zE_if_gt, zE_icmp_gt, zE_if_le, zE_icmp_le, zE_iaload, zE_baload, zE_laload, zE_aaload, zE_iastore, zE_bastore, zE_lastore, zE_aastore, zE_alen, zE_getf0, zE_getf1, zE_getf2, zE_getf3, zE_putf0, zE_putf1, zE_putf2, zE_putf3, zE_new, zE_newa, zE_newq, zE_ireturn, zE_lreturn, zE_areturn, zE_return, zE_athrow, zE_st0, zE_vi0, zE_st1, zE_vi1, zE_st2, zE_vi2, zE_st3, zE_vi3, zE_st4, zE_vi4, zE_st5, zE_vi5, zE_st6, zE_vi6, zE_st7, zE_vi7, zE_st8, zE_vi8, zSt_0, zSL_0, zSt_1n, zSt_1i, zSt_1a, zSt_1l, zSt_2n, zSt_2i, zSt_2a, zSt_2l, zSt_3n, zSt_3i, zSt_3a, zSt_3l, zSt_4n, zSt_4i, zSt_4a, zSt_4l, zSt_5n, zSt_5i, zSt_5a, zSt_5l, zSt_6n, zSt_6i, zSt_6a, zSt_6l, zSt_7n, zSt_7i, zSt_7a, zSt_7l, zSt_8n, zSt_8i, zSt_8a, zSt_8l, zSt_9n, zSt_9i, zSt_9a, zSt_9l, zSt_10n, zSt_10i, zSt_10a, zSt_10l, zSt_11n, zSt_11i, zSt_11a, zSt_11l, zSt_12n, zSt_12i, zSt_12a, zSt_12l, zSt_13n, zSt_13i, zSt_13a, zSt_13l, zSL_1n, zSL_1i, zSL_1a, zSL_1l, zSL_2n, zSL_2i, zSL_2a, zSL_2l, zSL_3n, zSL_3i, zSL_3a, zSL_3l, zSL_4n, zSL_4i, zSL_4a, zSL_4l, zSL_5n, zSL_5i, zSL_5a, zSL_5l, zSL_6n, zSL_6i, zSL_6a, zSL_6l, zSL_7n, zSL_7i, zSL_7a, zSL_7l, zSL_8n, zSL_8i, zSL_8a, zSL_8l, zSL_9n, zSL_9i, zSL_9a, zSL_9l, zSL_10n, zSL_10i, zSL_10a, zSL_10l, zSL_11n, zSL_11i, zSL_11a, zSL_11l, zSL_12n, zSL_12i, zSL_12a, zSL_12l, zLI_0, zLL_0, zLA_0, zLI_1, zLL_1, zLA_1, zLI_2, zLL_2, zLA_2, zLI_3, zLL_3, zLA_3, zLI_4, zLL_4, zLA_4, zLI_5, zLL_5, zLA_5, zLI_6, zLL_6, zLA_6, zLI_7, zLL_7, zLA_7, zLI_8, zLL_8, zLA_8, zLI_9, zLL_9, zLA_9, zLI_10, zLL_10, zLA_10, zLI_11, zLL_11, zLA_11, zLI_12, zLL_12, zLA_12, zLI_13, zLL_13, zLA_13, zst_0, zst_1n, zst_1i, zst_1a, zst_2n, zst_2i, zst_2a, zst_3n, zst_3i, zst_3a, zst_4n, zst_4i, zst_4a, zst_5n, zst_5i, zst_5a, zst_6n, zst_6i, zst_6a, zst_7n, zst_7i, zst_7a, zst_8n, zst_8i, zst_8a, zst_9n, zst_9i, zst_9a, zst_10n, zst_10i, zst_10a, zst_11n, zst_11i, zst_11a, zst_12n, zst_12i, zst_12a, zst_13n, zst_13i, zst_13a, zst_14n, zst_14i, zst_14a, zst_15n, zst_15i, zst_15a, zR1_n, zR1_v, zsum_n, zsum_i, zsum_l, zsum_a, zlen_n, zlen_i, zlen_l, zlen_a, List.not_mem_nil, List.mem_cons, or_false, false_or, or_self, ↓reduceIte, if_false, if_true, Nat.reduceEqDiff, Nat.reduceAdd, Nat.reduceLeDiff, true_and, and_true, reduceCtorEq, ne_eq, Int.toNat_natCast, not_true_eq_false, not_false_eq_true, true_implies, false_implies, implies_true, Int.reduceToNat, Int.toNat_zero, Int.reduceLT, Int.reduceLE, Int.reduceEq, Int.reduceAdd, Int.reduceMul, Int.reduceNeg]
  (repeat' (first | with_reducible refine And.intro ?_ ?_ | with_reducible intro _)) <;> try first | with_reducible rfl | with_reducible assumption | omega | (unfold zr32; omega) | contradiction | (exact absurd (by omega) (by assumption)) | rfl | (simp only [Sum.inl.injEq, Option.some.injEq]; omega)
theorem zqlat {f : Nat → Nat → Int} {h : Int} : ∀ m, (∀ k, k < m → f (855 + 4 * k) 11 = f 1160 k ∧ f (855 + 4 * k) 1 = f 1159 k) → zlat f h m = zrlh f h m
  | 0, _ => rfl
  | m + 1, hh => by
    have e : zlat f h (m + 1) = if f (855 + 4 * m) 11 ≠ 0 ∧ f (855 + 4 * m) 1 = h then (m : Int) else zlat f h m := rfl
    rw [e, zrlh_s, (hh m (by omega)).1, (hh m (by omega)).2, zqlat m (fun k hk => hh k (by omega))]
theorem zrlh_c {f f' : Nat → Nat → Int} {h : Int} : ∀ m, (∀ k, k < m → f' 1160 k = f 1160 k ∧ f' 1159 k = f 1159 k) → zrlh f' h m = zrlh f h m
  | 0, _ => rfl
  | m + 1, hh => by
    rw [zrlh_s, zrlh_s, (hh m (by omega)).1, (hh m (by omega)).2, zrlh_c m (fun k hk => hh k (by omega))]
theorem zqA_164 (hW : zqW m M) (c2 : cc 2 = 1) (c1 : cc 1 = 2) {h : Int} : zqAg L M 164 [.inr (.inr 2), .inl h] 285 [.inr (.inr 1153), .inl h] cc := by
  have hR := hW.1.1
  have rel := hW.1.2.1
  have hm := zqmd hW
  have m8 : M.2.1 1153 8 = (m : Int) := hW.1.2.2.2.1.2
  have hJn := hW.1.2.2
  have la : zlat M.2.1 h m = zrlh M.2.1 h m := zqlat m (fun k hk => ⟨(hJn.2.2 k hk).2.1, (hJn.2.2 k hk).1.1.1⟩)
  have lb := zrlh_b M.2.1 h m
  by_cases k0 : 0 ≤ h ∧ h < 3
  · by_cases k1 : zrlh M.2.1 h m < 0
    · exact zqAg_no (e := 1) (d := 2) hW (by omega) (fun Q => c164_1 hR hm k0 (by rw [la]; exact k1)) (.inl 0) (fun B b2 b4 Q => c285_2 (m := m) (by rw [b4]; exact hR) (by omega) (by rw [b2]; exact m8) hm.2 (by rw [b2]; exact k1)) c1
    · obtain ⟨l, hl⟩ : ∃ l : Nat, zrlh M.2.1 h m = (l : Int) := ⟨(zrlh M.2.1 h m).toNat, by omega⟩
      have lm : l < m := by omega
      have m60 := hm.2
      -- the class's memory and the reference's before they do all anew
      have NB : ∀ (B : zM) b j, (b ≠ 1160 ∨ j ≠ l) → (b ≠ 1153 ∨ j ≠ 0) → (zwI B (zu2 (zrtw B.2.1 0) 1160 l 0)).2.1 b j = B.2.1 b j := fun B b j h1 h2 => by
        show zu2 (zrtw B.2.1 0) 1160 l 0 b j = _
        unfold zrtw
        rw [zu2_sj h1, zu2_sj h2]
      have CB : ∀ b j, (b ≠ 855 + 4 * l ∨ j ≠ 11) → (zwI M (zu2 M.2.1 (855 + 4 * l) 11 0)).2.1 b j = M.2.1 b j := fun b j h1 => zu2_sj h1
      have hv : ∀ B : zM, (∀ b j, 1153 ≤ b → B.2.1 b j = M.2.1 b j) → ∀ i, i < 60 → (0 ≤ (zwI B (zu2 (zrtw B.2.1 0) 1160 l 0)).2.1 1167 i ∧ (zwI B (zu2 (zrtw B.2.1 0) 1160 l 0)).2.1 1167 i ≤ 3) ∧ 0 ≤ (zwI B (zu2 (zrtw B.2.1 0) 1160 l 0)).2.1 1168 i ∧ (zwI B (zu2 (zrtw B.2.1 0) 1160 l 0)).2.1 1168 i ≤ 9 := fun B bn i hi => by
        have e7 : zu2 (zrtw B.2.1 0) 1160 l 0 1167 i = M.2.1 1167 i := (zu2_sj (by omega)).trans ((zu2_sj (by omega)).trans (bn _ _ (by omega)))
        have e8 : zu2 (zrtw B.2.1 0) 1160 l 0 1168 i = M.2.1 1168 i := (zu2_sj (by omega)).trans ((zu2_sj (by omega)).trans (bn _ _ (by omega)))
        show (0 ≤ zu2 (zrtw B.2.1 0) 1160 l 0 1167 i ∧ zu2 (zrtw B.2.1 0) 1160 l 0 1167 i ≤ 3) ∧ 0 ≤ zu2 (zrtw B.2.1 0) 1160 l 0 1168 i ∧ zu2 (zrtw B.2.1 0) 1160 l 0 1168 i ≤ 9
        rw [e7, e8]
        exact rel.2.2.2.2.2.1.2 i hi
      have hj : zqJ (zwI M (zu2 M.2.1 (855 + 4 * l) 11 0)).2.1 := by
        refine zqJ_c (fun i hi => ⟨?_, ?_, ?_, ?_, ?_⟩) (fun j hj => ?_) rel.2.2.2.2.2.2.2.2
        · exact zu2_sj (by omega)
        · exact zu2_sj (by omega)
        · exact zu2_sj (by omega)
        · exact zu2_sj (by omega)
        · exact zu2_sj (by omega)
        · show zu2 M.2.1 (855 + 4 * l) 11 0 8 j = 0 ∨ zu2 M.2.1 (855 + 4 * l) 11 0 8 j = 1
          rw [zu2_sj (by omega)]
          exact zqR_ch rel j hj
      have hJ : ∀ B : zM, (∀ b j, 1153 ≤ b → B.2.1 b j = M.2.1 b j) → (∀ j, B.2.2.1 1162 j = M.2.2.1 1162 j) → zqJn (zwI M (zu2 M.2.1 (855 + 4 * l) 11 0)) (zwI B (zu2 (zrtw B.2.1 0) 1160 l 0)) m := fun B bn bl => by
        refine ⟨m60, ⟨(CB _ _ (by omega)).trans hm.1, (NB B _ _ (by omega) (by omega)).trans ((bn _ _ (by omega)).trans m8)⟩, fun k hk => ?_⟩
        obtain ⟨je, s1, s2⟩ := hJn.2.2 k hk
        refine ⟨zqJe_p (C := M) (N := M) (fun b j hb => CB b j (by omega)) (fun j => rfl) (bl k) (fun b hb => (NB B _ _ (by omega) (by omega)).trans (bn _ _ (by omega))) (fun j hj => (NB B _ _ (by omega) (by omega)).trans (bn _ _ (by omega))) (fun j hj => ⟨(NB B _ _ (by omega) (by omega)).trans (bn _ _ (by omega)), (NB B _ _ (by omega) (by omega)).trans (bn _ _ (by omega))⟩) je, ?_⟩
        show zu2 M.2.1 (855 + 4 * l) 11 0 (855 + 4 * k) 11 = zu2 (zrtw B.2.1 0) 1160 l 0 1160 k ∧ (zu2 (zrtw B.2.1 0) 1160 l 0 1160 k = 0 ∨ zu2 (zrtw B.2.1 0) 1160 l 0 1160 k = 1)
        by_cases q : k = l
        · subst q
          rw [zu2_eq, zu2_eq]
          exact ⟨rfl, Or.inl rfl⟩
        · have e6 : zu2 (zrtw B.2.1 0) 1160 l 0 1160 k = M.2.1 1160 k := (zu2_sj (by omega)).trans ((zu2_sj (by omega)).trans (bn _ _ (by omega)))
          rw [e6, zu2_sj (by omega)]
          exact ⟨s1, s2⟩
      obtain ⟨F, G0, e1, _, _, kc, _⟩ := zqanew (L := L) (M := zwI M (zu2 M.2.1 (855 + 4 * l) 11 0)) (N := zwI M (zu2 (zrtw M.2.1 0) 1160 l 0)) hR hR (hv M (fun _ _ _ => rfl)) hj (hJ M (fun _ _ _ => rfl) (fun _ => rfl))
      have Fo : ∀ b j, (b < 3 ∨ 854 ≤ b) → F b j = zu2 M.2.1 (855 + 4 * l) 11 0 b j := fun b j hb => kc b j hb
      have FM : ∀ b j, 1095 ≤ b → F b j = M.2.1 b j := fun b j hb => (Fo b j (by omega)).trans (zu2_sj (by omega))
      refine zqAg_ok (m' := m) (fun Q => c164_g hR hm k0 (la.trans hl) (by omega) e1) rfl rfl rfl (fun B b1 b2 b3 => ?_)
      have b1' : B.2.1 = F := b1
      have bn : ∀ b j, 1153 ≤ b → B.2.1 b j = M.2.1 b j := fun b j hb => by rw [b1']; exact FM b j (by omega)
      have bl : ∀ j, B.2.2.1 1162 j = M.2.2.1 1162 j := fun j => by
        rw [b2 1162 (by omega)]
        rfl
      have b3' : B.2.2.2 = M.2.2.2 := b3
      obtain ⟨F', G, e1', e2, rl, _, kr1, kr2⟩ := zqanew (L := L) (M := zwI M (zu2 M.2.1 (855 + 4 * l) 11 0)) (N := zwI B (zu2 (zrtw B.2.1 0) 1160 l 0)) hR (by show zLay B.2.2.2; rw [b3']; exact hR) (hv B bn) hj (hJ B bn bl)
      obtain ⟨_, u2⟩ := zFR_uq e1 e1'
      have eF : F' = F := congrArg (fun X : zM => X.2.1) u2
      subst eF
      have Gc : ∀ b j, b < 1153 → G b j = F' b j := fun b j hb => by
        rw [kr1 b j (by omega)]
        show zu2 (zrtw B.2.1 0) 1160 l 0 b j = _
        unfold zrtw
        rw [zu2_sj (by omega), zu2_sj (by omega), b1']
      have Gx : ∀ b j, zqXs b j → G b j = M.2.1 b j := fun b j hb => by
        unfold zqXs at hb
        by_cases q : b = 1153
        · subst q
          rw [kr2 j (by omega) (by omega) (by omega)]
          show zu2 (zrtw B.2.1 0) 1160 l 0 1153 j = _
          unfold zrtw
          rw [zu2_sj (by omega), zu2_sj (by omega)]
          exact bn _ _ (by omega)
        · rw [kr1 b j (by omega)]
          show zu2 (zrtw B.2.1 0) 1160 l 0 b j = _
          unfold zrtw
          rw [zu2_sj (by omega), zu2_sj (by omega), b1']
          exact FM b j (by omega)
      refine ⟨zwI B G, fun Q => c285_g (m := m) (by rw [b3']; exact hR) (by omega) ((bn _ _ (by omega)).trans m8) m60 ?_ e2, rfl, rfl, ⟨zqjoin (C := zwI M F') (N := zwI B G) ⟨hR, by show zLay B.2.2.2; rw [b3']; exact hR, rl, ?_⟩ (fun b j hb => Gc b j (by omega)) (fun _ _ _ => rfl) (fun k j hk => ?_) (fun _ => rfl) b3', zqX_c Gx hW.2⟩, ?_⟩
      · rw [← hl]
        exact zrlh_c m (fun k _ => ⟨bn _ _ (by omega), bn _ _ (by omega)⟩)
      · exact zqJn_p (C := zwI M (zu2 M.2.1 (855 + 4 * l) 11 0)) (N := zwI B (zu2 (zrtw B.2.1 0) 1160 l 0)) (n := m) ⟨(Fo 2 2 (by omega)).trans ((zu2_sj (by omega)).trans hm.1), (kr2 8 (by omega) (by omega) (by omega)).trans ((NB B _ _ (by omega) (by omega)).trans ((bn _ _ (by omega)).trans m8))⟩ m60 (Nat.le_refl _) (fun k hk b j hb => kc b j (by omega)) (fun k hk j => rfl) (fun k hk => rfl) (fun k hk => ⟨fun b hb => kr1 _ _ (by omega), fun j hj => kr1 _ _ (by omega), fun j hj => ⟨kr1 _ _ (by omega), kr1 _ _ (by omega)⟩⟩) (hJ B bn bl) (fun k h1 h2 => absurd h1 (by omega))
      · show B.2.2.1 (855 + 4 * k) j = M.2.2.1 (855 + 4 * k) j
        rw [b2 _ (by omega)]
        rfl
      · show G 1153 0 = 0
        rw [kr2 0 (by omega) (by omega) (by omega)]
        show zu2 (zrtw B.2.1 0) 1160 l 0 1153 0 = 0
        unfold zrtw
        rw [zu2_sj (by omega), zu2_eq]
  · exact zqAg_no (e := 2) (d := 1) hW (by omega) (fun Q => c164_0 k0) (.inl 0) (fun B b2 b4 Q => c285_1 (by omega)) c2
end ZUNDOQ
