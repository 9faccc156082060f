/-! the changes that only note what they are asked for: class and reference -/
section ZSIMPLEQ
variable {L m : Nat} {M : zM} {cc : Nat → Int}
/-- the numbers of the throws: two kinds, three kinds -/
def zqc2 (e : Nat) : Int := if e = 2 then 1 else 2
def zqc3 (e : Nat) : Int := if e = 2 then 1 else if e = 0 then 2 else 3
theorem zbg_v {f : Nat → Nat → Int} {c : Nat} {w h t : Int} : zbg f c w h t c 0 = w ∧ zbg f c w h t c 1 = h ∧ zbg f c w h t c 2 = t ∧ zbg f c w h t c 3 = -1 ∧ zbg f c w h t c 4 = 0 ∧ zbg f c w h t c 5 = 1 ∧ zbg f c w h t c 6 = 0 ∧ zbg f c w h t c 7 = 0 ∧ zbg f c w h t c 8 = 0 ∧ zbg f c w h t c 9 = 0 := by
  simp [zbg, zu2]
theorem zrtl_v {f : Nat → Nat → Int} {i : Nat} {k h a b c d : Int} : zrtl f i k h a b c d 1158 i = k ∧ zrtl f i k h a b c d 1159 i = h ∧ zrtl f i k h a b c d 1161 (4 * i) = a ∧ zrtl f i k h a b c d 1161 (4 * i + 1) = b ∧ zrtl f i k h a b c d 1161 (4 * i + 2) = c ∧ zrtl f i k h a b c d 1161 (4 * i + 3) = d := by
  unfold zrtl
  refine ⟨?_, ?_, ?_, ?_, ?_, ?_⟩
  · rw [zu2_a (by omega), zu2_a (by omega), zu2_a (by omega), zu2_a (by omega), zu2_a (by omega), zu2_eq]
  · rw [zu2_a (by omega), zu2_a (by omega), zu2_a (by omega), zu2_a (by omega), zu2_eq]
  · rw [zu2_i (by omega), zu2_i (by omega), zu2_i (by omega), zu2_eq]
  · rw [zu2_i (by omega), zu2_i (by omega), zu2_eq]
  · rw [zu2_i (by omega), zu2_eq]
  · rw [zu2_eq]
theorem zqrt {B : zM} {i : Int} (hW : zqW m M) (bn : ∀ b j, 1153 ≤ b → B.2.1 b j = M.2.1 b j) (h : zth M.2.1 i) : zrt B.2.1 i := by
  have := (zqth_iff (B := M) hW rfl).mp h
  exact ⟨this.1, this.2.1, by rw [bn _ _ (by omega)]; exact this.2.2⟩
theorem zqb01 {B : zM} (hW : zqW m M) (bn : ∀ b j, 1153 ≤ b → B.2.1 b j = M.2.1 b j) : ∀ k : Nat, k < 60 → B.2.1 1166 k = 0 ∨ B.2.1 1166 k = 1 := fun k hk => by
  rw [bn _ _ (by omega)]
  exact zqR_r01 hW.1.2.1 k hk
theorem zqmd (hW : zqW m M) : zmd M.2.1 m := ⟨hW.1.2.2.2.1.1, hW.1.2.2.1⟩
theorem zqA_145 (hW : zqW m M) (c2 : cc 2 = 1) (c1 : cc 1 = 2) {h i : Int}  : zqAg L M 145 [.inr (.inr 2), .inl h, .inl i] 267 [.inr (.inr 1153), .inl h, .inl i] cc := by
  have hR := hW.1.1
  have h01 := zqR_01 hW.1.2.1
  have hm := zqmd hW
  by_cases k0 : 0 ≤ h ∧ h < 3
  · by_cases k1 : zth M.2.1 i
    · by_cases hm6 : m < 60
      · have hc : zqCw m (zbgM M m 1 h i) M := by
          refine ⟨fun b9 j9 hb => ?_, fun b9 j9 hb => ?_, rfl⟩
          · show (zbg M.2.1 (855 + 4 * m) 1 h i) b9 j9 = _
            rw [zbg_o (by omega) (by omega)]
          · show zl2 M.2.2.1 (855 + 4 * m) 10 _ b9 j9 = _
            unfold zl2
            rw [if_neg (by omega)]
        obtain ⟨g0, g1, g2, g3, g4, g5, g6, g7, g8, g9⟩ := zbg_v (f := M.2.1) (c := 855 + 4 * m) (w := 1) (h := h) (t := i)
        have s0 : ((zbgM M m 1 h i)).2.1 (855 + 4 * m) 0 = 1 := by
          show (zbg M.2.1 (855 + 4 * m) 1 h i) (855 + 4 * m) 0 = _
          rw [g0]
        have s1 : ((zbgM M m 1 h i)).2.1 (855 + 4 * m) 1 = h := by
          show (zbg M.2.1 (855 + 4 * m) 1 h i) (855 + 4 * m) 1 = _
          rw [g1]
        have s2 : ((zbgM M m 1 h i)).2.1 (855 + 4 * m) 2 = i := by
          show (zbg M.2.1 (855 + 4 * m) 1 h i) (855 + 4 * m) 2 = _
          rw [g2]
        have s3 : ((zbgM M m 1 h i)).2.1 (855 + 4 * m) 3 = -1 := by
          show (zbg M.2.1 (855 + 4 * m) 1 h i) (855 + 4 * m) 3 = _
          rw [g3]
        refine zqAg_go (C2 := (zbgM M m 1 h i)) (k := 1) (h := h) (p1 := i) (p2 := 0) (p3 := 0) (p4 := 0) (e := 2) hW hm6 hc (funext fun j => hc.2.1 _ _ (by omega)) rfl (fun B => ?_) (fun v M9 e10 hR9 hm9 Q => c145_g hR h01 hm hm6 k0 k1  e10 hR9 hm9) (fun B w M9 b4 bn e253 Q => ?_) c1
        · obtain ⟨t8, t9, u0, u1, u2, u3⟩ := zrtl_v (f := zrtw B.2.1 0) (i := m) (k := 1) (h := h) (a := i) (b := 0) (c := 0) (d := 0)
          show zqJe _ (zwI B (zrtl (zrtw B.2.1 0) m 1 h i 0 0 0)) m
          exact ⟨⟨s1.trans t9.symm, by rw [zwI_I, t9]; omega⟩, Or.inr (Or.inl (⟨⟨s0, t8⟩, ⟨s2.trans u0.symm, by rw [zwI_I, u0]; exact ⟨k1.1, k1.2.1⟩⟩, s3⟩))⟩
        · exact c267_g (show zLay B.2.2.2 by rw [b4]; exact hR) (zqb01 hW bn)  (show 0 ≤ h ∧ h ≤ 2 by omega) (zqrt hW bn k1) e253
      · have m60 : M.2.1 1153 8 = 60 := by
          have q1 := hW.1.2.2.1
          have q2 := hW.1.2.2.2.1.2
          omega
        refine zqAg_no (d := 2) hW (by omega) (fun Q => c145_f hR h01 hm hm6 k0 k1) (.inl 0) (fun B b2 b4 Q => ?_) c1
        have bn : ∀ b j, 1153 ≤ b → B.2.1 b j = M.2.1 b j := fun b j _ => by rw [b2]
        have := c267_g (L := L) (M := B) (Q := Q) (v := 0) (M9 := zwI B (zrtw B.2.1 2)) (show zLay B.2.2.2 by rw [b4]; exact hR) (zqb01 hW bn)  (show 0 ≤ h ∧ h ≤ 2 by omega) (zqrt hW bn k1) (fun Q9 => ?_)
        · exact this
        · have c := c253_f (L := L) (M := zwI B (zrtw B.2.1 0)) (Q := Q9) (k := 1) (h := h) (a := i) (b := 0) (c := 0) (d := 0) (e := 2) (by
            show zrtw B.2.1 0 1153 8 = 60
            unfold zrtw
            rw [zu2_sj (by omega), b2]
            exact m60)
          have ez : zrtw (zrtw B.2.1 0) 2 = zrtw B.2.1 2 := zu2_u _ _ _ _ _
          rw [zwI_I, zwI_w, ez] at c
          exact c
    · refine zqAg_no (d := 1) hW (by omega) (fun Q => c145_1 hR h01 k0 k1) (.inl 0) (fun B b2 b4 Q => ?_) c2
      have bn : ∀ b j, 1153 ≤ b → B.2.1 b j = M.2.1 b j := fun b j _ => by rw [b2]
      refine c267_1 (show zLay B.2.2.2 by rw [b4]; exact hR) (zqb01 hW bn) (fun hx => ?_)
      exact k1 ((zqth_iff hW b2).mpr (hx.2))
  · refine zqAg_no (d := 1) hW (by omega) (fun Q => c145_0 hR h01  k0) (.inl 0) (fun B b2 b4 Q => ?_) c2
    have bn : ∀ b j, 1153 ≤ b → B.2.1 b j = M.2.1 b j := fun b j _ => by rw [b2]
    refine c267_1 (show zLay B.2.2.2 by rw [b4]; exact hR) (zqb01 hW bn) (fun hx => ?_)
    have hy := hx.1
    omega
theorem zqA_147 (hW : zqW m M) (c2 : cc 2 = 1) (c0 : cc 0 = 2) (c1 : cc 1 = 3) {h i a b t : Int} (hb0 : t = 0 ∨ t = 1) : zqAg L M 147 [.inr (.inr 2), .inl h, .inl i, .inl a, .inl b, .inl t] 268 [.inr (.inr 1153), .inl h, .inl i, .inl a, .inl b, .inl t] cc := by
  have hR := hW.1.1
  have h01 := zqR_01 hW.1.2.1
  have hm := zqmd hW
  by_cases k0 : 0 ≤ h ∧ h < 3
  · by_cases k1 : zth M.2.1 i
    · by_cases k2 : (-60 ≤ a ∧ a ≤ 60) ∧ -60 ≤ b ∧ b ≤ 60
      · by_cases hm6 : m < 60
        · have hc : zqCw m (zwI (zbgM M m 2 h i) (zu2 (zu2 (zu2 (zbgM M m 2 h i).2.1 (855 + 4 * m) 6 a) (855 + 4 * m) 7 b) (855 + 4 * m) 9 t)) M := by
            refine ⟨fun b9 j9 hb => ?_, fun b9 j9 hb => ?_, rfl⟩
            · show (zu2 (zu2 (zu2 (zbg M.2.1 (855 + 4 * m) 2 h i) (855 + 4 * m) 6 a) (855 + 4 * m) 7 b) (855 + 4 * m) 9 t) b9 j9 = _
              rw [zu2_a (by omega), zu2_a (by omega), zu2_a (by omega), zbg_o (by omega) (by omega)]
            · show zl2 M.2.2.1 (855 + 4 * m) 10 _ b9 j9 = _
              unfold zl2
              rw [if_neg (by omega)]
          obtain ⟨g0, g1, g2, g3, g4, g5, g6, g7, g8, g9⟩ := zbg_v (f := M.2.1) (c := 855 + 4 * m) (w := 2) (h := h) (t := i)
          have s0 : ((zwI (zbgM M m 2 h i) (zu2 (zu2 (zu2 (zbgM M m 2 h i).2.1 (855 + 4 * m) 6 a) (855 + 4 * m) 7 b) (855 + 4 * m) 9 t))).2.1 (855 + 4 * m) 0 = 2 := by
            show (zu2 (zu2 (zu2 (zbg M.2.1 (855 + 4 * m) 2 h i) (855 + 4 * m) 6 a) (855 + 4 * m) 7 b) (855 + 4 * m) 9 t) (855 + 4 * m) 0 = _
            rw [zu2_i (by omega), zu2_i (by omega), zu2_i (by omega), g0]
          have s1 : ((zwI (zbgM M m 2 h i) (zu2 (zu2 (zu2 (zbgM M m 2 h i).2.1 (855 + 4 * m) 6 a) (855 + 4 * m) 7 b) (855 + 4 * m) 9 t))).2.1 (855 + 4 * m) 1 = h := by
            show (zu2 (zu2 (zu2 (zbg M.2.1 (855 + 4 * m) 2 h i) (855 + 4 * m) 6 a) (855 + 4 * m) 7 b) (855 + 4 * m) 9 t) (855 + 4 * m) 1 = _
            rw [zu2_i (by omega), zu2_i (by omega), zu2_i (by omega), g1]
          have s2 : ((zwI (zbgM M m 2 h i) (zu2 (zu2 (zu2 (zbgM M m 2 h i).2.1 (855 + 4 * m) 6 a) (855 + 4 * m) 7 b) (855 + 4 * m) 9 t))).2.1 (855 + 4 * m) 2 = i := by
            show (zu2 (zu2 (zu2 (zbg M.2.1 (855 + 4 * m) 2 h i) (855 + 4 * m) 6 a) (855 + 4 * m) 7 b) (855 + 4 * m) 9 t) (855 + 4 * m) 2 = _
            rw [zu2_i (by omega), zu2_i (by omega), zu2_i (by omega), g2]
          have s3 : ((zwI (zbgM M m 2 h i) (zu2 (zu2 (zu2 (zbgM M m 2 h i).2.1 (855 + 4 * m) 6 a) (855 + 4 * m) 7 b) (855 + 4 * m) 9 t))).2.1 (855 + 4 * m) 3 = -1 := by
            show (zu2 (zu2 (zu2 (zbg M.2.1 (855 + 4 * m) 2 h i) (855 + 4 * m) 6 a) (855 + 4 * m) 7 b) (855 + 4 * m) 9 t) (855 + 4 * m) 3 = _
            rw [zu2_i (by omega), zu2_i (by omega), zu2_i (by omega), g3]
          have s6 : ((zwI (zbgM M m 2 h i) (zu2 (zu2 (zu2 (zbgM M m 2 h i).2.1 (855 + 4 * m) 6 a) (855 + 4 * m) 7 b) (855 + 4 * m) 9 t))).2.1 (855 + 4 * m) 6 = a := by
            show (zu2 (zu2 (zu2 (zbg M.2.1 (855 + 4 * m) 2 h i) (855 + 4 * m) 6 a) (855 + 4 * m) 7 b) (855 + 4 * m) 9 t) (855 + 4 * m) 6 = _
            rw [zu2_i (by omega), zu2_i (by omega), zu2_eq]
          have s7 : ((zwI (zbgM M m 2 h i) (zu2 (zu2 (zu2 (zbgM M m 2 h i).2.1 (855 + 4 * m) 6 a) (855 + 4 * m) 7 b) (855 + 4 * m) 9 t))).2.1 (855 + 4 * m) 7 = b := by
            show (zu2 (zu2 (zu2 (zbg M.2.1 (855 + 4 * m) 2 h i) (855 + 4 * m) 6 a) (855 + 4 * m) 7 b) (855 + 4 * m) 9 t) (855 + 4 * m) 7 = _
            rw [zu2_i (by omega), zu2_eq]
          have s9 : ((zwI (zbgM M m 2 h i) (zu2 (zu2 (zu2 (zbgM M m 2 h i).2.1 (855 + 4 * m) 6 a) (855 + 4 * m) 7 b) (855 + 4 * m) 9 t))).2.1 (855 + 4 * m) 9 = t := by
            show (zu2 (zu2 (zu2 (zbg M.2.1 (855 + 4 * m) 2 h i) (855 + 4 * m) 6 a) (855 + 4 * m) 7 b) (855 + 4 * m) 9 t) (855 + 4 * m) 9 = _
            rw [zu2_eq]
          refine zqAg_go (C2 := (zwI (zbgM M m 2 h i) (zu2 (zu2 (zu2 (zbgM M m 2 h i).2.1 (855 + 4 * m) 6 a) (855 + 4 * m) 7 b) (855 + 4 * m) 9 t))) (k := 2) (h := h) (p1 := i) (p2 := a) (p3 := b) (p4 := t) (e := 3) hW hm6 hc (funext fun j => hc.2.1 _ _ (by omega)) rfl (fun B => ?_) (fun v M9 e10 hR9 hm9 Q => c147_g hR h01 hm hm6 k0 k1 k2 hb0 e10 hR9 hm9) (fun B w M9 b4 bn e253 Q => ?_) c1
          · obtain ⟨t8, t9, u0, u1, u2, u3⟩ := zrtl_v (f := zrtw B.2.1 0) (i := m) (k := 2) (h := h) (a := i) (b := a) (c := b) (d := t)
            show zqJe _ (zwI B (zrtl (zrtw B.2.1 0) m 2 h i a b t)) m
            exact ⟨⟨s1.trans t9.symm, by rw [zwI_I, t9]; omega⟩, Or.inr (Or.inr (Or.inl (⟨⟨⟨s0, t8⟩, ⟨s2.trans u0.symm, by rw [zwI_I, u0]; exact ⟨k1.1, k1.2.1⟩⟩, s3⟩, ⟨s6.trans u1.symm, by rw [zwI_I, u1]; exact k2.1⟩, ⟨s7.trans u2.symm, by rw [zwI_I, u2]; exact k2.2⟩, ⟨s9.trans u3.symm, by rw [zwI_I, u3]; exact hb0⟩⟩)))⟩
          · exact c268_g (show zLay B.2.2.2 by rw [b4]; exact hR) (zqb01 hW bn) hb0 (show 0 ≤ h ∧ h ≤ 2 by omega) (zqrt hW bn k1) k2.1 k2.2 e253
        · have m60 : M.2.1 1153 8 = 60 := by
            have q1 := hW.1.2.2.1
            have q2 := hW.1.2.2.2.1.2
            omega
          refine zqAg_no (d := 3) hW (by omega) (fun Q => c147_f hR h01 hm hm6 k0 k1 k2) (.inl 0) (fun B b2 b4 Q => ?_) c1
          have bn : ∀ b j, 1153 ≤ b → B.2.1 b j = M.2.1 b j := fun b j _ => by rw [b2]
          have := c268_g (L := L) (M := B) (Q := Q) (v := 0) (M9 := zwI B (zrtw B.2.1 3)) (show zLay B.2.2.2 by rw [b4]; exact hR) (zqb01 hW bn) hb0 (show 0 ≤ h ∧ h ≤ 2 by omega) (zqrt hW bn k1) k2.1 k2.2 (fun Q9 => ?_)
          · exact this
          · have c := c253_f (L := L) (M := zwI B (zrtw B.2.1 0)) (Q := Q9) (k := 2) (h := h) (a := i) (b := a) (c := b) (d := t) (e := 3) (by
              show zrtw B.2.1 0 1153 8 = 60
              unfold zrtw
              rw [zu2_sj (by omega), b2]
              exact m60)
            have ez : zrtw (zrtw B.2.1 0) 3 = zrtw B.2.1 3 := zu2_u _ _ _ _ _
            rw [zwI_I, zwI_w, ez] at c
            exact c
      · refine zqAg_no (d := 2) hW (by omega) (fun Q => c147_2 hR h01 k0 k1 k2) (.inl 0) (fun B b2 b4 Q => ?_) c0
        have bn : ∀ b j, 1153 ≤ b → B.2.1 b j = M.2.1 b j := fun b j _ => by rw [b2]
        exact c268_2 (show zLay B.2.2.2 by rw [b4]; exact hR) (zqb01 hW bn) (show 0 ≤ h ∧ h ≤ 2 by omega) (zqrt hW bn k1) k2
    · refine zqAg_no (d := 1) hW (by omega) (fun Q => c147_1 hR h01 k0 k1) (.inl 0) (fun B b2 b4 Q => ?_) c2
      have bn : ∀ b j, 1153 ≤ b → B.2.1 b j = M.2.1 b j := fun b j _ => by rw [b2]
      refine c268_1 (show zLay B.2.2.2 by rw [b4]; exact hR) (zqb01 hW bn) (fun hx => ?_)
      exact k1 ((zqth_iff hW b2).mpr (hx.2))
  · refine zqAg_no (d := 1) hW (by omega) (fun Q => c147_0 hR h01  k0) (.inl 0) (fun B b2 b4 Q => ?_) c2
    have bn : ∀ b j, 1153 ≤ b → B.2.1 b j = M.2.1 b j := fun b j _ => by rw [b2]
    refine c268_1 (show zLay B.2.2.2 by rw [b4]; exact hR) (zqb01 hW bn) (fun hx => ?_)
    have hy := hx.1
    omega
theorem zqA_148 (hW : zqW m M) (c2 : cc 2 = 1) (c0 : cc 0 = 2) (c1 : cc 1 = 3) {h i a : Int}  : zqAg L M 148 [.inr (.inr 2), .inl h, .inl i, .inl a] 269 [.inr (.inr 1153), .inl h, .inl i, .inl a] cc := by
  have hR := hW.1.1
  have h01 := zqR_01 hW.1.2.1
  have hm := zqmd hW
  by_cases k0 : 0 ≤ h ∧ h < 3
  · by_cases k1 : zth M.2.1 i
    · by_cases k2 : 1 ≤ a ∧ a ≤ 3
      · by_cases hm6 : m < 60
        · have hc : zqCw m (zwI (zbgM M m 3 h i) (zu2 (zbgM M m 3 h i).2.1 (855 + 4 * m) 8 a)) M := by
            refine ⟨fun b9 j9 hb => ?_, fun b9 j9 hb => ?_, rfl⟩
            · show (zu2 (zbg M.2.1 (855 + 4 * m) 3 h i) (855 + 4 * m) 8 a) b9 j9 = _
              rw [zu2_a (by omega), zbg_o (by omega) (by omega)]
            · show zl2 M.2.2.1 (855 + 4 * m) 10 _ b9 j9 = _
              unfold zl2
              rw [if_neg (by omega)]
          obtain ⟨g0, g1, g2, g3, g4, g5, g6, g7, g8, g9⟩ := zbg_v (f := M.2.1) (c := 855 + 4 * m) (w := 3) (h := h) (t := i)
          have s0 : ((zwI (zbgM M m 3 h i) (zu2 (zbgM M m 3 h i).2.1 (855 + 4 * m) 8 a))).2.1 (855 + 4 * m) 0 = 3 := by
            show (zu2 (zbg M.2.1 (855 + 4 * m) 3 h i) (855 + 4 * m) 8 a) (855 + 4 * m) 0 = _
            rw [zu2_i (by omega), g0]
          have s1 : ((zwI (zbgM M m 3 h i) (zu2 (zbgM M m 3 h i).2.1 (855 + 4 * m) 8 a))).2.1 (855 + 4 * m) 1 = h := by
            show (zu2 (zbg M.2.1 (855 + 4 * m) 3 h i) (855 + 4 * m) 8 a) (855 + 4 * m) 1 = _
            rw [zu2_i (by omega), g1]
          have s2 : ((zwI (zbgM M m 3 h i) (zu2 (zbgM M m 3 h i).2.1 (855 + 4 * m) 8 a))).2.1 (855 + 4 * m) 2 = i := by
            show (zu2 (zbg M.2.1 (855 + 4 * m) 3 h i) (855 + 4 * m) 8 a) (855 + 4 * m) 2 = _
            rw [zu2_i (by omega), g2]
          have s3 : ((zwI (zbgM M m 3 h i) (zu2 (zbgM M m 3 h i).2.1 (855 + 4 * m) 8 a))).2.1 (855 + 4 * m) 3 = -1 := by
            show (zu2 (zbg M.2.1 (855 + 4 * m) 3 h i) (855 + 4 * m) 8 a) (855 + 4 * m) 3 = _
            rw [zu2_i (by omega), g3]
          have s8 : ((zwI (zbgM M m 3 h i) (zu2 (zbgM M m 3 h i).2.1 (855 + 4 * m) 8 a))).2.1 (855 + 4 * m) 8 = a := by
            show (zu2 (zbg M.2.1 (855 + 4 * m) 3 h i) (855 + 4 * m) 8 a) (855 + 4 * m) 8 = _
            rw [zu2_eq]
          refine zqAg_go (C2 := (zwI (zbgM M m 3 h i) (zu2 (zbgM M m 3 h i).2.1 (855 + 4 * m) 8 a))) (k := 3) (h := h) (p1 := i) (p2 := a) (p3 := 0) (p4 := 0) (e := 3) hW hm6 hc (funext fun j => hc.2.1 _ _ (by omega)) rfl (fun B => ?_) (fun v M9 e10 hR9 hm9 Q => c148_g hR h01 hm hm6 k0 k1 k2  e10 hR9 hm9) (fun B w M9 b4 bn e253 Q => ?_) c1
          · obtain ⟨t8, t9, u0, u1, u2, u3⟩ := zrtl_v (f := zrtw B.2.1 0) (i := m) (k := 3) (h := h) (a := i) (b := a) (c := 0) (d := 0)
            show zqJe _ (zwI B (zrtl (zrtw B.2.1 0) m 3 h i a 0 0)) m
            exact ⟨⟨s1.trans t9.symm, by rw [zwI_I, t9]; omega⟩, Or.inr (Or.inr (Or.inr (Or.inl (⟨⟨⟨s0, t8⟩, ⟨s2.trans u0.symm, by rw [zwI_I, u0]; exact ⟨k1.1, k1.2.1⟩⟩, s3⟩, ⟨s8.trans u1.symm, by rw [zwI_I, u1]; exact k2⟩⟩))))⟩
          · exact c269_g (show zLay B.2.2.2 by rw [b4]; exact hR) (zqb01 hW bn)  (show 0 ≤ h ∧ h ≤ 2 by omega) (zqrt hW bn k1) k2 e253
        · have m60 : M.2.1 1153 8 = 60 := by
            have q1 := hW.1.2.2.1
            have q2 := hW.1.2.2.2.1.2
            omega
          refine zqAg_no (d := 3) hW (by omega) (fun Q => c148_f hR h01 hm hm6 k0 k1 k2) (.inl 0) (fun B b2 b4 Q => ?_) c1
          have bn : ∀ b j, 1153 ≤ b → B.2.1 b j = M.2.1 b j := fun b j _ => by rw [b2]
          have := c269_g (L := L) (M := B) (Q := Q) (v := 0) (M9 := zwI B (zrtw B.2.1 3)) (show zLay B.2.2.2 by rw [b4]; exact hR) (zqb01 hW bn)  (show 0 ≤ h ∧ h ≤ 2 by omega) (zqrt hW bn k1) k2 (fun Q9 => ?_)
          · exact this
          · have c := c253_f (L := L) (M := zwI B (zrtw B.2.1 0)) (Q := Q9) (k := 3) (h := h) (a := i) (b := a) (c := 0) (d := 0) (e := 3) (by
              show zrtw B.2.1 0 1153 8 = 60
              unfold zrtw
              rw [zu2_sj (by omega), b2]
              exact m60)
            have ez : zrtw (zrtw B.2.1 0) 3 = zrtw B.2.1 3 := zu2_u _ _ _ _ _
            rw [zwI_I, zwI_w, ez] at c
            exact c
      · refine zqAg_no (d := 2) hW (by omega) (fun Q => c148_2 hR h01 k0 k1 k2) (.inl 0) (fun B b2 b4 Q => ?_) c0
        have bn : ∀ b j, 1153 ≤ b → B.2.1 b j = M.2.1 b j := fun b j _ => by rw [b2]
        exact c269_2 (show zLay B.2.2.2 by rw [b4]; exact hR) (zqb01 hW bn) (show 0 ≤ h ∧ h ≤ 2 by omega) (zqrt hW bn k1) k2
    · refine zqAg_no (d := 1) hW (by omega) (fun Q => c148_1 hR h01 k0 k1) (.inl 0) (fun B b2 b4 Q => ?_) c2
      have bn : ∀ b j, 1153 ≤ b → B.2.1 b j = M.2.1 b j := fun b j _ => by rw [b2]
      refine c269_1 (show zLay B.2.2.2 by rw [b4]; exact hR) (zqb01 hW bn) (fun hx => ?_)
      exact k1 ((zqth_iff hW b2).mpr (hx.2))
  · refine zqAg_no (d := 1) hW (by omega) (fun Q => c148_0 hR h01  k0) (.inl 0) (fun B b2 b4 Q => ?_) c2
    have bn : ∀ b j, 1153 ≤ b → B.2.1 b j = M.2.1 b j := fun b j _ => by rw [b2]
    refine c269_1 (show zLay B.2.2.2 by rw [b4]; exact hR) (zqb01 hW bn) (fun hx => ?_)
    have hy := hx.1
    omega
theorem zqA_149 (hW : zqW m M) (c2 : cc 2 = 1) (c1 : cc 1 = 2) {h i t : Int} (hb0 : t = 0 ∨ t = 1) : zqAg L M 149 [.inr (.inr 2), .inl h, .inl i, .inl t] 270 [.inr (.inr 1153), .inl h, .inl i, .inl t] cc := by
  have hR := hW.1.1
  have h01 := zqR_01 hW.1.2.1
  have hm := zqmd hW
  by_cases k0 : 0 ≤ h ∧ h < 3
  · by_cases k1 : zth M.2.1 i
    · by_cases hm6 : m < 60
      · have hc : zqCw m (zwI (zbgM M m 4 h i) (zu2 (zbgM M m 4 h i).2.1 (855 + 4 * m) 9 t)) M := by
          refine ⟨fun b9 j9 hb => ?_, fun b9 j9 hb => ?_, rfl⟩
          · show (zu2 (zbg M.2.1 (855 + 4 * m) 4 h i) (855 + 4 * m) 9 t) b9 j9 = _
            rw [zu2_a (by omega), zbg_o (by omega) (by omega)]
          · show zl2 M.2.2.1 (855 + 4 * m) 10 _ b9 j9 = _
            unfold zl2
            rw [if_neg (by omega)]
        obtain ⟨g0, g1, g2, g3, g4, g5, g6, g7, g8, g9⟩ := zbg_v (f := M.2.1) (c := 855 + 4 * m) (w := 4) (h := h) (t := i)
        have s0 : ((zwI (zbgM M m 4 h i) (zu2 (zbgM M m 4 h i).2.1 (855 + 4 * m) 9 t))).2.1 (855 + 4 * m) 0 = 4 := by
          show (zu2 (zbg M.2.1 (855 + 4 * m) 4 h i) (855 + 4 * m) 9 t) (855 + 4 * m) 0 = _
          rw [zu2_i (by omega), g0]
        have s1 : ((zwI (zbgM M m 4 h i) (zu2 (zbgM M m 4 h i).2.1 (855 + 4 * m) 9 t))).2.1 (855 + 4 * m) 1 = h := by
          show (zu2 (zbg M.2.1 (855 + 4 * m) 4 h i) (855 + 4 * m) 9 t) (855 + 4 * m) 1 = _
          rw [zu2_i (by omega), g1]
        have s2 : ((zwI (zbgM M m 4 h i) (zu2 (zbgM M m 4 h i).2.1 (855 + 4 * m) 9 t))).2.1 (855 + 4 * m) 2 = i := by
          show (zu2 (zbg M.2.1 (855 + 4 * m) 4 h i) (855 + 4 * m) 9 t) (855 + 4 * m) 2 = _
          rw [zu2_i (by omega), g2]
        have s3 : ((zwI (zbgM M m 4 h i) (zu2 (zbgM M m 4 h i).2.1 (855 + 4 * m) 9 t))).2.1 (855 + 4 * m) 3 = -1 := by
          show (zu2 (zbg M.2.1 (855 + 4 * m) 4 h i) (855 + 4 * m) 9 t) (855 + 4 * m) 3 = _
          rw [zu2_i (by omega), g3]
        have s9 : ((zwI (zbgM M m 4 h i) (zu2 (zbgM M m 4 h i).2.1 (855 + 4 * m) 9 t))).2.1 (855 + 4 * m) 9 = t := by
          show (zu2 (zbg M.2.1 (855 + 4 * m) 4 h i) (855 + 4 * m) 9 t) (855 + 4 * m) 9 = _
          rw [zu2_eq]
        refine zqAg_go (C2 := (zwI (zbgM M m 4 h i) (zu2 (zbgM M m 4 h i).2.1 (855 + 4 * m) 9 t))) (k := 4) (h := h) (p1 := i) (p2 := t) (p3 := 0) (p4 := 0) (e := 2) hW hm6 hc (funext fun j => hc.2.1 _ _ (by omega)) rfl (fun B => ?_) (fun v M9 e10 hR9 hm9 Q => c149_g hR h01 hm hm6 k0 k1 hb0 e10 hR9 hm9) (fun B w M9 b4 bn e253 Q => ?_) c1
        · obtain ⟨t8, t9, u0, u1, u2, u3⟩ := zrtl_v (f := zrtw B.2.1 0) (i := m) (k := 4) (h := h) (a := i) (b := t) (c := 0) (d := 0)
          show zqJe _ (zwI B (zrtl (zrtw B.2.1 0) m 4 h i t 0 0)) m
          exact ⟨⟨s1.trans t9.symm, by rw [zwI_I, t9]; omega⟩, Or.inr (Or.inr (Or.inr (Or.inr (Or.inl (⟨⟨⟨s0, t8⟩, ⟨s2.trans u0.symm, by rw [zwI_I, u0]; exact ⟨k1.1, k1.2.1⟩⟩, s3⟩, ⟨s9.trans u1.symm, by rw [zwI_I, u1]; exact hb0⟩⟩)))))⟩
        · exact c270_g (show zLay B.2.2.2 by rw [b4]; exact hR) (zqb01 hW bn) hb0 (show 0 ≤ h ∧ h ≤ 2 by omega) (zqrt hW bn k1) e253
      · have m60 : M.2.1 1153 8 = 60 := by
          have q1 := hW.1.2.2.1
          have q2 := hW.1.2.2.2.1.2
          omega
        refine zqAg_no (d := 2) hW (by omega) (fun Q => c149_f hR h01 hm hm6 k0 k1) (.inl 0) (fun B b2 b4 Q => ?_) c1
        have bn : ∀ b j, 1153 ≤ b → B.2.1 b j = M.2.1 b j := fun b j _ => by rw [b2]
        have := c270_g (L := L) (M := B) (Q := Q) (v := 0) (M9 := zwI B (zrtw B.2.1 2)) (show zLay B.2.2.2 by rw [b4]; exact hR) (zqb01 hW bn) hb0 (show 0 ≤ h ∧ h ≤ 2 by omega) (zqrt hW bn k1) (fun Q9 => ?_)
        · exact this
        · have c := c253_f (L := L) (M := zwI B (zrtw B.2.1 0)) (Q := Q9) (k := 4) (h := h) (a := i) (b := t) (c := 0) (d := 0) (e := 2) (by
            show zrtw B.2.1 0 1153 8 = 60
            unfold zrtw
            rw [zu2_sj (by omega), b2]
            exact m60)
          have ez : zrtw (zrtw B.2.1 0) 2 = zrtw B.2.1 2 := zu2_u _ _ _ _ _
          rw [zwI_I, zwI_w, ez] at c
          exact c
    · refine zqAg_no (d := 1) hW (by omega) (fun Q => c149_1 hR h01 k0 k1) (.inl 0) (fun B b2 b4 Q => ?_) c2
      have bn : ∀ b j, 1153 ≤ b → B.2.1 b j = M.2.1 b j := fun b j _ => by rw [b2]
      refine c270_1 (show zLay B.2.2.2 by rw [b4]; exact hR) (zqb01 hW bn) (fun hx => ?_)
      exact k1 ((zqth_iff hW b2).mpr (hx.2))
  · refine zqAg_no (d := 1) hW (by omega) (fun Q => c149_0 hR h01  k0) (.inl 0) (fun B b2 b4 Q => ?_) c2
    have bn : ∀ b j, 1153 ≤ b → B.2.1 b j = M.2.1 b j := fun b j _ => by rw [b2]
    refine c270_1 (show zLay B.2.2.2 by rw [b4]; exact hR) (zqb01 hW bn) (fun hx => ?_)
    have hy := hx.1
    omega
theorem zqA_150 (hW : zqW m M) (c2 : cc 2 = 1) (c0 : cc 0 = 2) (c1 : cc 1 = 3) {h i a : Int}  : zqAg L M 150 [.inr (.inr 2), .inl h, .inl i, .inl a] 271 [.inr (.inr 1153), .inl h, .inl i, .inl a] cc := by
  have hR := hW.1.1
  have h01 := zqR_01 hW.1.2.1
  have hm := zqmd hW
  by_cases k0 : 0 ≤ h ∧ h < 3
  · by_cases k1 : zth M.2.1 i
    · by_cases k2 : 2 ≤ a ∧ a ≤ 4
      · by_cases hm6 : m < 60
        · have hc : zqCw m (zwI (zbgM M m 5 h i) (zu2 (zbgM M m 5 h i).2.1 (855 + 4 * m) 8 a)) M := by
            refine ⟨fun b9 j9 hb => ?_, fun b9 j9 hb => ?_, rfl⟩
            · show (zu2 (zbg M.2.1 (855 + 4 * m) 5 h i) (855 + 4 * m) 8 a) b9 j9 = _
              rw [zu2_a (by omega), zbg_o (by omega) (by omega)]
            · show zl2 M.2.2.1 (855 + 4 * m) 10 _ b9 j9 = _
              unfold zl2
              rw [if_neg (by omega)]
          obtain ⟨g0, g1, g2, g3, g4, g5, g6, g7, g8, g9⟩ := zbg_v (f := M.2.1) (c := 855 + 4 * m) (w := 5) (h := h) (t := i)
          have s0 : ((zwI (zbgM M m 5 h i) (zu2 (zbgM M m 5 h i).2.1 (855 + 4 * m) 8 a))).2.1 (855 + 4 * m) 0 = 5 := by
            show (zu2 (zbg M.2.1 (855 + 4 * m) 5 h i) (855 + 4 * m) 8 a) (855 + 4 * m) 0 = _
            rw [zu2_i (by omega), g0]
          have s1 : ((zwI (zbgM M m 5 h i) (zu2 (zbgM M m 5 h i).2.1 (855 + 4 * m) 8 a))).2.1 (855 + 4 * m) 1 = h := by
            show (zu2 (zbg M.2.1 (855 + 4 * m) 5 h i) (855 + 4 * m) 8 a) (855 + 4 * m) 1 = _
            rw [zu2_i (by omega), g1]
          have s2 : ((zwI (zbgM M m 5 h i) (zu2 (zbgM M m 5 h i).2.1 (855 + 4 * m) 8 a))).2.1 (855 + 4 * m) 2 = i := by
            show (zu2 (zbg M.2.1 (855 + 4 * m) 5 h i) (855 + 4 * m) 8 a) (855 + 4 * m) 2 = _
            rw [zu2_i (by omega), g2]
          have s3 : ((zwI (zbgM M m 5 h i) (zu2 (zbgM M m 5 h i).2.1 (855 + 4 * m) 8 a))).2.1 (855 + 4 * m) 3 = -1 := by
            show (zu2 (zbg M.2.1 (855 + 4 * m) 5 h i) (855 + 4 * m) 8 a) (855 + 4 * m) 3 = _
            rw [zu2_i (by omega), g3]
          have s8 : ((zwI (zbgM M m 5 h i) (zu2 (zbgM M m 5 h i).2.1 (855 + 4 * m) 8 a))).2.1 (855 + 4 * m) 8 = a := by
            show (zu2 (zbg M.2.1 (855 + 4 * m) 5 h i) (855 + 4 * m) 8 a) (855 + 4 * m) 8 = _
            rw [zu2_eq]
          refine zqAg_go (C2 := (zwI (zbgM M m 5 h i) (zu2 (zbgM M m 5 h i).2.1 (855 + 4 * m) 8 a))) (k := 5) (h := h) (p1 := i) (p2 := a) (p3 := 0) (p4 := 0) (e := 3) hW hm6 hc (funext fun j => hc.2.1 _ _ (by omega)) rfl (fun B => ?_) (fun v M9 e10 hR9 hm9 Q => c150_g hR h01 hm hm6 k0 k1 k2  e10 hR9 hm9) (fun B w M9 b4 bn e253 Q => ?_) c1
          · obtain ⟨t8, t9, u0, u1, u2, u3⟩ := zrtl_v (f := zrtw B.2.1 0) (i := m) (k := 5) (h := h) (a := i) (b := a) (c := 0) (d := 0)
            show zqJe _ (zwI B (zrtl (zrtw B.2.1 0) m 5 h i a 0 0)) m
            exact ⟨⟨s1.trans t9.symm, by rw [zwI_I, t9]; omega⟩, Or.inr (Or.inr (Or.inr (Or.inr (Or.inr (Or.inl (⟨⟨⟨s0, t8⟩, ⟨s2.trans u0.symm, by rw [zwI_I, u0]; exact ⟨k1.1, k1.2.1⟩⟩, s3⟩, ⟨s8.trans u1.symm, by rw [zwI_I, u1]; exact k2⟩⟩))))))⟩
          · exact c271_g (show zLay B.2.2.2 by rw [b4]; exact hR) (zqb01 hW bn)  (show 0 ≤ h ∧ h ≤ 2 by omega) (zqrt hW bn k1) k2 e253
        · have m60 : M.2.1 1153 8 = 60 := by
            have q1 := hW.1.2.2.1
            have q2 := hW.1.2.2.2.1.2
            omega
          refine zqAg_no (d := 3) hW (by omega) (fun Q => c150_f hR h01 hm hm6 k0 k1 k2) (.inl 0) (fun B b2 b4 Q => ?_) c1
          have bn : ∀ b j, 1153 ≤ b → B.2.1 b j = M.2.1 b j := fun b j _ => by rw [b2]
          have := c271_g (L := L) (M := B) (Q := Q) (v := 0) (M9 := zwI B (zrtw B.2.1 3)) (show zLay B.2.2.2 by rw [b4]; exact hR) (zqb01 hW bn)  (show 0 ≤ h ∧ h ≤ 2 by omega) (zqrt hW bn k1) k2 (fun Q9 => ?_)
          · exact this
          · have c := c253_f (L := L) (M := zwI B (zrtw B.2.1 0)) (Q := Q9) (k := 5) (h := h) (a := i) (b := a) (c := 0) (d := 0) (e := 3) (by
              show zrtw B.2.1 0 1153 8 = 60
              unfold zrtw
              rw [zu2_sj (by omega), b2]
              exact m60)
            have ez : zrtw (zrtw B.2.1 0) 3 = zrtw B.2.1 3 := zu2_u _ _ _ _ _
            rw [zwI_I, zwI_w, ez] at c
            exact c
      · refine zqAg_no (d := 2) hW (by omega) (fun Q => c150_2 hR h01 k0 k1 k2) (.inl 0) (fun B b2 b4 Q => ?_) c0
        have bn : ∀ b j, 1153 ≤ b → B.2.1 b j = M.2.1 b j := fun b j _ => by rw [b2]
        exact c271_2 (show zLay B.2.2.2 by rw [b4]; exact hR) (zqb01 hW bn) (show 0 ≤ h ∧ h ≤ 2 by omega) (zqrt hW bn k1) k2
    · refine zqAg_no (d := 1) hW (by omega) (fun Q => c150_1 hR h01 k0 k1) (.inl 0) (fun B b2 b4 Q => ?_) c2
      have bn : ∀ b j, 1153 ≤ b → B.2.1 b j = M.2.1 b j := fun b j _ => by rw [b2]
      refine c271_1 (show zLay B.2.2.2 by rw [b4]; exact hR) (zqb01 hW bn) (fun hx => ?_)
      exact k1 ((zqth_iff hW b2).mpr (hx.2))
  · refine zqAg_no (d := 1) hW (by omega) (fun Q => c150_0 hR h01  k0) (.inl 0) (fun B b2 b4 Q => ?_) c2
    have bn : ∀ b j, 1153 ≤ b → B.2.1 b j = M.2.1 b j := fun b j _ => by rw [b2]
    refine c271_1 (show zLay B.2.2.2 by rw [b4]; exact hR) (zqb01 hW bn) (fun hx => ?_)
    have hy := hx.1
    omega
theorem zqA_151 (hW : zqW m M) (c2 : cc 2 = 1) (c0 : cc 0 = 2) (c1 : cc 1 = 3) {h i a : Int}  : zqAg L M 151 [.inr (.inr 2), .inl h, .inl i, .inl a] 272 [.inr (.inr 1153), .inl h, .inl i, .inl a] cc := by
  have hR := hW.1.1
  have h01 := zqR_01 hW.1.2.1
  have hm := zqmd hW
  by_cases k0 : 0 ≤ h ∧ h < 3
  · by_cases k1 : zth M.2.1 i
    · by_cases k2 : 1 ≤ a ∧ a ≤ 9
      · by_cases hm6 : m < 60
        · have hc : zqCw m (zwI (zbgM M m 6 h i) (zu2 (zbgM M m 6 h i).2.1 (855 + 4 * m) 5 a)) M := by
            refine ⟨fun b9 j9 hb => ?_, fun b9 j9 hb => ?_, rfl⟩
            · show (zu2 (zbg M.2.1 (855 + 4 * m) 6 h i) (855 + 4 * m) 5 a) b9 j9 = _
              rw [zu2_a (by omega), zbg_o (by omega) (by omega)]
            · show zl2 M.2.2.1 (855 + 4 * m) 10 _ b9 j9 = _
              unfold zl2
              rw [if_neg (by omega)]
          obtain ⟨g0, g1, g2, g3, g4, g5, g6, g7, g8, g9⟩ := zbg_v (f := M.2.1) (c := 855 + 4 * m) (w := 6) (h := h) (t := i)
          have s0 : ((zwI (zbgM M m 6 h i) (zu2 (zbgM M m 6 h i).2.1 (855 + 4 * m) 5 a))).2.1 (855 + 4 * m) 0 = 6 := by
            show (zu2 (zbg M.2.1 (855 + 4 * m) 6 h i) (855 + 4 * m) 5 a) (855 + 4 * m) 0 = _
            rw [zu2_i (by omega), g0]
          have s1 : ((zwI (zbgM M m 6 h i) (zu2 (zbgM M m 6 h i).2.1 (855 + 4 * m) 5 a))).2.1 (855 + 4 * m) 1 = h := by
            show (zu2 (zbg M.2.1 (855 + 4 * m) 6 h i) (855 + 4 * m) 5 a) (855 + 4 * m) 1 = _
            rw [zu2_i (by omega), g1]
          have s2 : ((zwI (zbgM M m 6 h i) (zu2 (zbgM M m 6 h i).2.1 (855 + 4 * m) 5 a))).2.1 (855 + 4 * m) 2 = i := by
            show (zu2 (zbg M.2.1 (855 + 4 * m) 6 h i) (855 + 4 * m) 5 a) (855 + 4 * m) 2 = _
            rw [zu2_i (by omega), g2]
          have s3 : ((zwI (zbgM M m 6 h i) (zu2 (zbgM M m 6 h i).2.1 (855 + 4 * m) 5 a))).2.1 (855 + 4 * m) 3 = -1 := by
            show (zu2 (zbg M.2.1 (855 + 4 * m) 6 h i) (855 + 4 * m) 5 a) (855 + 4 * m) 3 = _
            rw [zu2_i (by omega), g3]
          have s5 : ((zwI (zbgM M m 6 h i) (zu2 (zbgM M m 6 h i).2.1 (855 + 4 * m) 5 a))).2.1 (855 + 4 * m) 5 = a := by
            show (zu2 (zbg M.2.1 (855 + 4 * m) 6 h i) (855 + 4 * m) 5 a) (855 + 4 * m) 5 = _
            rw [zu2_eq]
          refine zqAg_go (C2 := (zwI (zbgM M m 6 h i) (zu2 (zbgM M m 6 h i).2.1 (855 + 4 * m) 5 a))) (k := 6) (h := h) (p1 := i) (p2 := a) (p3 := 0) (p4 := 0) (e := 3) hW hm6 hc (funext fun j => hc.2.1 _ _ (by omega)) rfl (fun B => ?_) (fun v M9 e10 hR9 hm9 Q => c151_g hR h01 hm hm6 k0 k1 k2  e10 hR9 hm9) (fun B w M9 b4 bn e253 Q => ?_) c1
          · obtain ⟨t8, t9, u0, u1, u2, u3⟩ := zrtl_v (f := zrtw B.2.1 0) (i := m) (k := 6) (h := h) (a := i) (b := a) (c := 0) (d := 0)
            show zqJe _ (zwI B (zrtl (zrtw B.2.1 0) m 6 h i a 0 0)) m
            exact ⟨⟨s1.trans t9.symm, by rw [zwI_I, t9]; omega⟩, Or.inr (Or.inr (Or.inr (Or.inr (Or.inr (Or.inr (Or.inl (⟨⟨⟨s0, t8⟩, ⟨s2.trans u0.symm, by rw [zwI_I, u0]; exact ⟨k1.1, k1.2.1⟩⟩, s3⟩, ⟨s5.trans u1.symm, by rw [zwI_I, u1]; exact k2⟩⟩)))))))⟩
          · exact c272_g (show zLay B.2.2.2 by rw [b4]; exact hR) (zqb01 hW bn)  (show 0 ≤ h ∧ h ≤ 2 by omega) (zqrt hW bn k1) k2 e253
        · have m60 : M.2.1 1153 8 = 60 := by
            have q1 := hW.1.2.2.1
            have q2 := hW.1.2.2.2.1.2
            omega
          refine zqAg_no (d := 3) hW (by omega) (fun Q => c151_f hR h01 hm hm6 k0 k1 k2) (.inl 0) (fun B b2 b4 Q => ?_) c1
          have bn : ∀ b j, 1153 ≤ b → B.2.1 b j = M.2.1 b j := fun b j _ => by rw [b2]
          have := c272_g (L := L) (M := B) (Q := Q) (v := 0) (M9 := zwI B (zrtw B.2.1 3)) (show zLay B.2.2.2 by rw [b4]; exact hR) (zqb01 hW bn)  (show 0 ≤ h ∧ h ≤ 2 by omega) (zqrt hW bn k1) k2 (fun Q9 => ?_)
          · exact this
          · have c := c253_f (L := L) (M := zwI B (zrtw B.2.1 0)) (Q := Q9) (k := 6) (h := h) (a := i) (b := a) (c := 0) (d := 0) (e := 3) (by
              show zrtw B.2.1 0 1153 8 = 60
              unfold zrtw
              rw [zu2_sj (by omega), b2]
              exact m60)
            have ez : zrtw (zrtw B.2.1 0) 3 = zrtw B.2.1 3 := zu2_u _ _ _ _ _
            rw [zwI_I, zwI_w, ez] at c
            exact c
      · refine zqAg_no (d := 2) hW (by omega) (fun Q => c151_2 hR h01 k0 k1 k2) (.inl 0) (fun B b2 b4 Q => ?_) c0
        have bn : ∀ b j, 1153 ≤ b → B.2.1 b j = M.2.1 b j := fun b j _ => by rw [b2]
        exact c272_2 (show zLay B.2.2.2 by rw [b4]; exact hR) (zqb01 hW bn) (show 0 ≤ h ∧ h ≤ 2 by omega) (zqrt hW bn k1) k2
    · refine zqAg_no (d := 1) hW (by omega) (fun Q => c151_1 hR h01 k0 k1) (.inl 0) (fun B b2 b4 Q => ?_) c2
      have bn : ∀ b j, 1153 ≤ b → B.2.1 b j = M.2.1 b j := fun b j _ => by rw [b2]
      refine c272_1 (show zLay B.2.2.2 by rw [b4]; exact hR) (zqb01 hW bn) (fun hx => ?_)
      exact k1 ((zqth_iff hW b2).mpr (hx.2))
  · refine zqAg_no (d := 1) hW (by omega) (fun Q => c151_0 hR h01  k0) (.inl 0) (fun B b2 b4 Q => ?_) c2
    have bn : ∀ b j, 1153 ≤ b → B.2.1 b j = M.2.1 b j := fun b j _ => by rw [b2]
    refine c272_1 (show zLay B.2.2.2 by rw [b4]; exact hR) (zqb01 hW bn) (fun hx => ?_)
    have hy := hx.1
    omega
theorem zqA_152 (hW : zqW m M) (c2 : cc 2 = 1) (c0 : cc 0 = 2) (c1 : cc 1 = 3) {h i a : Int}  : zqAg L M 152 [.inr (.inr 2), .inl h, .inl i, .inl a] 273 [.inr (.inr 1153), .inl h, .inl i, .inl a] cc := by
  have hR := hW.1.1
  have h01 := zqR_01 hW.1.2.1
  have hm := zqmd hW
  by_cases k0 : 0 ≤ h ∧ h < 3
  · by_cases k1 : zth M.2.1 i
    · by_cases k2 : 0 ≤ a ∧ a ≤ 3
      · by_cases hm6 : m < 60
        · have hc : zqCw m (zwI (zbgM M m 7 h i) (zu2 (zbgM M m 7 h i).2.1 (855 + 4 * m) 8 a)) M := by
            refine ⟨fun b9 j9 hb => ?_, fun b9 j9 hb => ?_, rfl⟩
            · show (zu2 (zbg M.2.1 (855 + 4 * m) 7 h i) (855 + 4 * m) 8 a) b9 j9 = _
              rw [zu2_a (by omega), zbg_o (by omega) (by omega)]
            · show zl2 M.2.2.1 (855 + 4 * m) 10 _ b9 j9 = _
              unfold zl2
              rw [if_neg (by omega)]
          obtain ⟨g0, g1, g2, g3, g4, g5, g6, g7, g8, g9⟩ := zbg_v (f := M.2.1) (c := 855 + 4 * m) (w := 7) (h := h) (t := i)
          have s0 : ((zwI (zbgM M m 7 h i) (zu2 (zbgM M m 7 h i).2.1 (855 + 4 * m) 8 a))).2.1 (855 + 4 * m) 0 = 7 := by
            show (zu2 (zbg M.2.1 (855 + 4 * m) 7 h i) (855 + 4 * m) 8 a) (855 + 4 * m) 0 = _
            rw [zu2_i (by omega), g0]
          have s1 : ((zwI (zbgM M m 7 h i) (zu2 (zbgM M m 7 h i).2.1 (855 + 4 * m) 8 a))).2.1 (855 + 4 * m) 1 = h := by
            show (zu2 (zbg M.2.1 (855 + 4 * m) 7 h i) (855 + 4 * m) 8 a) (855 + 4 * m) 1 = _
            rw [zu2_i (by omega), g1]
          have s2 : ((zwI (zbgM M m 7 h i) (zu2 (zbgM M m 7 h i).2.1 (855 + 4 * m) 8 a))).2.1 (855 + 4 * m) 2 = i := by
            show (zu2 (zbg M.2.1 (855 + 4 * m) 7 h i) (855 + 4 * m) 8 a) (855 + 4 * m) 2 = _
            rw [zu2_i (by omega), g2]
          have s3 : ((zwI (zbgM M m 7 h i) (zu2 (zbgM M m 7 h i).2.1 (855 + 4 * m) 8 a))).2.1 (855 + 4 * m) 3 = -1 := by
            show (zu2 (zbg M.2.1 (855 + 4 * m) 7 h i) (855 + 4 * m) 8 a) (855 + 4 * m) 3 = _
            rw [zu2_i (by omega), g3]
          have s8 : ((zwI (zbgM M m 7 h i) (zu2 (zbgM M m 7 h i).2.1 (855 + 4 * m) 8 a))).2.1 (855 + 4 * m) 8 = a := by
            show (zu2 (zbg M.2.1 (855 + 4 * m) 7 h i) (855 + 4 * m) 8 a) (855 + 4 * m) 8 = _
            rw [zu2_eq]
          refine zqAg_go (C2 := (zwI (zbgM M m 7 h i) (zu2 (zbgM M m 7 h i).2.1 (855 + 4 * m) 8 a))) (k := 7) (h := h) (p1 := i) (p2 := a) (p3 := 0) (p4 := 0) (e := 3) hW hm6 hc (funext fun j => hc.2.1 _ _ (by omega)) rfl (fun B => ?_) (fun v M9 e10 hR9 hm9 Q => c152_g hR h01 hm hm6 k0 k1 k2  e10 hR9 hm9) (fun B w M9 b4 bn e253 Q => ?_) c1
          · obtain ⟨t8, t9, u0, u1, u2, u3⟩ := zrtl_v (f := zrtw B.2.1 0) (i := m) (k := 7) (h := h) (a := i) (b := a) (c := 0) (d := 0)
            show zqJe _ (zwI B (zrtl (zrtw B.2.1 0) m 7 h i a 0 0)) m
            exact ⟨⟨s1.trans t9.symm, by rw [zwI_I, t9]; omega⟩, Or.inr (Or.inr (Or.inr (Or.inr (Or.inr (Or.inr (Or.inr (Or.inl (⟨⟨⟨s0, t8⟩, ⟨s2.trans u0.symm, by rw [zwI_I, u0]; exact ⟨k1.1, k1.2.1⟩⟩, s3⟩, ⟨s8.trans u1.symm, by rw [zwI_I, u1]; exact k2⟩⟩))))))))⟩
          · exact c273_g (show zLay B.2.2.2 by rw [b4]; exact hR) (zqb01 hW bn)  (show 0 ≤ h ∧ h ≤ 2 by omega) (zqrt hW bn k1) k2 e253
        · have m60 : M.2.1 1153 8 = 60 := by
            have q1 := hW.1.2.2.1
            have q2 := hW.1.2.2.2.1.2
            omega
          refine zqAg_no (d := 3) hW (by omega) (fun Q => c152_f hR h01 hm hm6 k0 k1 k2) (.inl 0) (fun B b2 b4 Q => ?_) c1
          have bn : ∀ b j, 1153 ≤ b → B.2.1 b j = M.2.1 b j := fun b j _ => by rw [b2]
          have := c273_g (L := L) (M := B) (Q := Q) (v := 0) (M9 := zwI B (zrtw B.2.1 3)) (show zLay B.2.2.2 by rw [b4]; exact hR) (zqb01 hW bn)  (show 0 ≤ h ∧ h ≤ 2 by omega) (zqrt hW bn k1) k2 (fun Q9 => ?_)
          · exact this
          · have c := c253_f (L := L) (M := zwI B (zrtw B.2.1 0)) (Q := Q9) (k := 7) (h := h) (a := i) (b := a) (c := 0) (d := 0) (e := 3) (by
              show zrtw B.2.1 0 1153 8 = 60
              unfold zrtw
              rw [zu2_sj (by omega), b2]
              exact m60)
            have ez : zrtw (zrtw B.2.1 0) 3 = zrtw B.2.1 3 := zu2_u _ _ _ _ _
            rw [zwI_I, zwI_w, ez] at c
            exact c
      · refine zqAg_no (d := 2) hW (by omega) (fun Q => c152_2 hR h01 k0 k1 k2) (.inl 0) (fun B b2 b4 Q => ?_) c0
        have bn : ∀ b j, 1153 ≤ b → B.2.1 b j = M.2.1 b j := fun b j _ => by rw [b2]
        exact c273_2 (show zLay B.2.2.2 by rw [b4]; exact hR) (zqb01 hW bn) (show 0 ≤ h ∧ h ≤ 2 by omega) (zqrt hW bn k1) k2
    · refine zqAg_no (d := 1) hW (by omega) (fun Q => c152_1 hR h01 k0 k1) (.inl 0) (fun B b2 b4 Q => ?_) c2
      have bn : ∀ b j, 1153 ≤ b → B.2.1 b j = M.2.1 b j := fun b j _ => by rw [b2]
      refine c273_1 (show zLay B.2.2.2 by rw [b4]; exact hR) (zqb01 hW bn) (fun hx => ?_)
      exact k1 ((zqth_iff hW b2).mpr (hx.2))
  · refine zqAg_no (d := 1) hW (by omega) (fun Q => c152_0 hR h01  k0) (.inl 0) (fun B b2 b4 Q => ?_) c2
    have bn : ∀ b j, 1153 ≤ b → B.2.1 b j = M.2.1 b j := fun b j _ => by rw [b2]
    refine c273_1 (show zLay B.2.2.2 by rw [b4]; exact hR) (zqb01 hW bn) (fun hx => ?_)
    have hy := hx.1
    omega
theorem zqA_153 (hW : zqW m M) (c2 : cc 2 = 1) (c1 : cc 1 = 2) {h i a : Int}  : zqAg L M 153 [.inr (.inr 2), .inl h, .inl i, .inl a] 274 [.inr (.inr 1153), .inl h, .inl i, .inl a] cc := by
  have hR := hW.1.1
  have h01 := zqR_01 hW.1.2.1
  have hm := zqmd hW
  by_cases k0 : 0 ≤ h ∧ h < 3
  · by_cases k1 : zth M.2.1 i
    · by_cases k2 : 0 ≤ a ∧ a < 4
      · by_cases hm6 : m < 60
        · have hc : zqCw m (zwI (zbgM M m 8 h i) (zu2 (zbgM M m 8 h i).2.1 (855 + 4 * m) 4 a)) M := by
            refine ⟨fun b9 j9 hb => ?_, fun b9 j9 hb => ?_, rfl⟩
            · show (zu2 (zbg M.2.1 (855 + 4 * m) 8 h i) (855 + 4 * m) 4 a) b9 j9 = _
              rw [zu2_a (by omega), zbg_o (by omega) (by omega)]
            · show zl2 M.2.2.1 (855 + 4 * m) 10 _ b9 j9 = _
              unfold zl2
              rw [if_neg (by omega)]
          obtain ⟨g0, g1, g2, g3, g4, g5, g6, g7, g8, g9⟩ := zbg_v (f := M.2.1) (c := 855 + 4 * m) (w := 8) (h := h) (t := i)
          have s0 : ((zwI (zbgM M m 8 h i) (zu2 (zbgM M m 8 h i).2.1 (855 + 4 * m) 4 a))).2.1 (855 + 4 * m) 0 = 8 := by
            show (zu2 (zbg M.2.1 (855 + 4 * m) 8 h i) (855 + 4 * m) 4 a) (855 + 4 * m) 0 = _
            rw [zu2_i (by omega), g0]
          have s1 : ((zwI (zbgM M m 8 h i) (zu2 (zbgM M m 8 h i).2.1 (855 + 4 * m) 4 a))).2.1 (855 + 4 * m) 1 = h := by
            show (zu2 (zbg M.2.1 (855 + 4 * m) 8 h i) (855 + 4 * m) 4 a) (855 + 4 * m) 1 = _
            rw [zu2_i (by omega), g1]
          have s2 : ((zwI (zbgM M m 8 h i) (zu2 (zbgM M m 8 h i).2.1 (855 + 4 * m) 4 a))).2.1 (855 + 4 * m) 2 = i := by
            show (zu2 (zbg M.2.1 (855 + 4 * m) 8 h i) (855 + 4 * m) 4 a) (855 + 4 * m) 2 = _
            rw [zu2_i (by omega), g2]
          have s3 : ((zwI (zbgM M m 8 h i) (zu2 (zbgM M m 8 h i).2.1 (855 + 4 * m) 4 a))).2.1 (855 + 4 * m) 3 = -1 := by
            show (zu2 (zbg M.2.1 (855 + 4 * m) 8 h i) (855 + 4 * m) 4 a) (855 + 4 * m) 3 = _
            rw [zu2_i (by omega), g3]
          have s4 : ((zwI (zbgM M m 8 h i) (zu2 (zbgM M m 8 h i).2.1 (855 + 4 * m) 4 a))).2.1 (855 + 4 * m) 4 = a := by
            show (zu2 (zbg M.2.1 (855 + 4 * m) 8 h i) (855 + 4 * m) 4 a) (855 + 4 * m) 4 = _
            rw [zu2_eq]
          refine zqAg_go (C2 := (zwI (zbgM M m 8 h i) (zu2 (zbgM M m 8 h i).2.1 (855 + 4 * m) 4 a))) (k := 8) (h := h) (p1 := i) (p2 := a) (p3 := 0) (p4 := 0) (e := 2) hW hm6 hc (funext fun j => hc.2.1 _ _ (by omega)) rfl (fun B => ?_) (fun v M9 e10 hR9 hm9 Q => c153_g hR h01 hm hm6 k0 k1 k2  e10 hR9 hm9) (fun B w M9 b4 bn e253 Q => ?_) c1
          · obtain ⟨t8, t9, u0, u1, u2, u3⟩ := zrtl_v (f := zrtw B.2.1 0) (i := m) (k := 8) (h := h) (a := i) (b := a) (c := 0) (d := 0)
            show zqJe _ (zwI B (zrtl (zrtw B.2.1 0) m 8 h i a 0 0)) m
            exact ⟨⟨s1.trans t9.symm, by rw [zwI_I, t9]; omega⟩, Or.inr (Or.inr (Or.inr (Or.inr (Or.inr (Or.inr (Or.inr (Or.inr (Or.inl (⟨⟨⟨s0, t8⟩, ⟨s2.trans u0.symm, by rw [zwI_I, u0]; exact ⟨k1.1, k1.2.1⟩⟩, s3⟩, ⟨s4.trans u1.symm, by rw [zwI_I, u1]; omega⟩⟩)))))))))⟩
          · exact c274_g (show zLay B.2.2.2 by rw [b4]; exact hR) (zqb01 hW bn)  (show 0 ≤ h ∧ h ≤ 2 by omega) (zqrt hW bn k1) (show 0 ≤ a ∧ a ≤ 3 by omega) e253
        · have m60 : M.2.1 1153 8 = 60 := by
            have q1 := hW.1.2.2.1
            have q2 := hW.1.2.2.2.1.2
            omega
          refine zqAg_no (d := 2) hW (by omega) (fun Q => c153_f hR h01 hm hm6 k0 k1 k2) (.inl 0) (fun B b2 b4 Q => ?_) c1
          have bn : ∀ b j, 1153 ≤ b → B.2.1 b j = M.2.1 b j := fun b j _ => by rw [b2]
          have := c274_g (L := L) (M := B) (Q := Q) (v := 0) (M9 := zwI B (zrtw B.2.1 2)) (show zLay B.2.2.2 by rw [b4]; exact hR) (zqb01 hW bn)  (show 0 ≤ h ∧ h ≤ 2 by omega) (zqrt hW bn k1) (show 0 ≤ a ∧ a ≤ 3 by omega) (fun Q9 => ?_)
          · exact this
          · have c := c253_f (L := L) (M := zwI B (zrtw B.2.1 0)) (Q := Q9) (k := 8) (h := h) (a := i) (b := a) (c := 0) (d := 0) (e := 2) (by
              show zrtw B.2.1 0 1153 8 = 60
              unfold zrtw
              rw [zu2_sj (by omega), b2]
              exact m60)
            have ez : zrtw (zrtw B.2.1 0) 2 = zrtw B.2.1 2 := zu2_u _ _ _ _ _
            rw [zwI_I, zwI_w, ez] at c
            exact c
      · refine zqAg_no (d := 1) hW (by omega) (fun Q => c153_2 hR h01 k0 k1 k2) (.inl 0) (fun B b2 b4 Q => ?_) c2
        have bn : ∀ b j, 1153 ≤ b → B.2.1 b j = M.2.1 b j := fun b j _ => by rw [b2]
        refine c274_1 (show zLay B.2.2.2 by rw [b4]; exact hR) (zqb01 hW bn) (fun hx => ?_)
        have hy := hx.2.2
        omega
    · refine zqAg_no (d := 1) hW (by omega) (fun Q => c153_1 hR h01 k0 k1) (.inl 0) (fun B b2 b4 Q => ?_) c2
      have bn : ∀ b j, 1153 ≤ b → B.2.1 b j = M.2.1 b j := fun b j _ => by rw [b2]
      refine c274_1 (show zLay B.2.2.2 by rw [b4]; exact hR) (zqb01 hW bn) (fun hx => ?_)
      exact k1 ((zqth_iff hW b2).mpr (hx.2.1))
  · refine zqAg_no (d := 1) hW (by omega) (fun Q => c153_0 hR h01  k0) (.inl 0) (fun B b2 b4 Q => ?_) c2
    have bn : ∀ b j, 1153 ≤ b → B.2.1 b j = M.2.1 b j := fun b j _ => by rw [b2]
    refine c274_1 (show zLay B.2.2.2 by rw [b4]; exact hR) (zqb01 hW bn) (fun hx => ?_)
    have hy := hx.1
    omega
theorem zqA_154 (hW : zqW m M) (c2 : cc 2 = 1) (c1 : cc 1 = 2) {h a t : Int} (hb0 : t = 0 ∨ t = 1) : zqAg L M 154 [.inr (.inr 2), .inl h, .inl a, .inl t] 275 [.inr (.inr 1153), .inl h, .inl a, .inl t] cc := by
  have hR := hW.1.1
  have h01 := zqR_01 hW.1.2.1
  have hm := zqmd hW
  by_cases k0 : 0 ≤ h ∧ h < 3
  · by_cases k1 : 0 ≤ a ∧ a < 4
    · by_cases hm6 : m < 60
      · have hc : zqCw m (zwI (zbgM M m 9 h (-1)) (zu2 (zu2 (zbgM M m 9 h (-1)).2.1 (855 + 4 * m) 4 a) (855 + 4 * m) 9 t)) M := by
          refine ⟨fun b9 j9 hb => ?_, fun b9 j9 hb => ?_, rfl⟩
          · show (zu2 (zu2 (zbg M.2.1 (855 + 4 * m) 9 h (-1)) (855 + 4 * m) 4 a) (855 + 4 * m) 9 t) b9 j9 = _
            rw [zu2_a (by omega), zu2_a (by omega), zbg_o (by omega) (by omega)]
          · show zl2 M.2.2.1 (855 + 4 * m) 10 _ b9 j9 = _
            unfold zl2
            rw [if_neg (by omega)]
        obtain ⟨g0, g1, g2, g3, g4, g5, g6, g7, g8, g9⟩ := zbg_v (f := M.2.1) (c := 855 + 4 * m) (w := 9) (h := h) (t := -1)
        have s0 : ((zwI (zbgM M m 9 h (-1)) (zu2 (zu2 (zbgM M m 9 h (-1)).2.1 (855 + 4 * m) 4 a) (855 + 4 * m) 9 t))).2.1 (855 + 4 * m) 0 = 9 := by
          show (zu2 (zu2 (zbg M.2.1 (855 + 4 * m) 9 h (-1)) (855 + 4 * m) 4 a) (855 + 4 * m) 9 t) (855 + 4 * m) 0 = _
          rw [zu2_i (by omega), zu2_i (by omega), g0]
        have s1 : ((zwI (zbgM M m 9 h (-1)) (zu2 (zu2 (zbgM M m 9 h (-1)).2.1 (855 + 4 * m) 4 a) (855 + 4 * m) 9 t))).2.1 (855 + 4 * m) 1 = h := by
          show (zu2 (zu2 (zbg M.2.1 (855 + 4 * m) 9 h (-1)) (855 + 4 * m) 4 a) (855 + 4 * m) 9 t) (855 + 4 * m) 1 = _
          rw [zu2_i (by omega), zu2_i (by omega), g1]
        have s2 : ((zwI (zbgM M m 9 h (-1)) (zu2 (zu2 (zbgM M m 9 h (-1)).2.1 (855 + 4 * m) 4 a) (855 + 4 * m) 9 t))).2.1 (855 + 4 * m) 2 = -1 := by
          show (zu2 (zu2 (zbg M.2.1 (855 + 4 * m) 9 h (-1)) (855 + 4 * m) 4 a) (855 + 4 * m) 9 t) (855 + 4 * m) 2 = _
          rw [zu2_i (by omega), zu2_i (by omega), g2]
        have s3 : ((zwI (zbgM M m 9 h (-1)) (zu2 (zu2 (zbgM M m 9 h (-1)).2.1 (855 + 4 * m) 4 a) (855 + 4 * m) 9 t))).2.1 (855 + 4 * m) 3 = -1 := by
          show (zu2 (zu2 (zbg M.2.1 (855 + 4 * m) 9 h (-1)) (855 + 4 * m) 4 a) (855 + 4 * m) 9 t) (855 + 4 * m) 3 = _
          rw [zu2_i (by omega), zu2_i (by omega), g3]
        have s4 : ((zwI (zbgM M m 9 h (-1)) (zu2 (zu2 (zbgM M m 9 h (-1)).2.1 (855 + 4 * m) 4 a) (855 + 4 * m) 9 t))).2.1 (855 + 4 * m) 4 = a := by
          show (zu2 (zu2 (zbg M.2.1 (855 + 4 * m) 9 h (-1)) (855 + 4 * m) 4 a) (855 + 4 * m) 9 t) (855 + 4 * m) 4 = _
          rw [zu2_i (by omega), zu2_eq]
        have s9 : ((zwI (zbgM M m 9 h (-1)) (zu2 (zu2 (zbgM M m 9 h (-1)).2.1 (855 + 4 * m) 4 a) (855 + 4 * m) 9 t))).2.1 (855 + 4 * m) 9 = t := by
          show (zu2 (zu2 (zbg M.2.1 (855 + 4 * m) 9 h (-1)) (855 + 4 * m) 4 a) (855 + 4 * m) 9 t) (855 + 4 * m) 9 = _
          rw [zu2_eq]
        refine zqAg_go (C2 := (zwI (zbgM M m 9 h (-1)) (zu2 (zu2 (zbgM M m 9 h (-1)).2.1 (855 + 4 * m) 4 a) (855 + 4 * m) 9 t))) (k := 9) (h := h) (p1 := a) (p2 := t) (p3 := 0) (p4 := 0) (e := 2) hW hm6 hc (funext fun j => hc.2.1 _ _ (by omega)) rfl (fun B => ?_) (fun v M9 e10 hR9 hm9 Q => c154_g hR h01 hm hm6 k0 k1 hb0 e10 hR9 hm9) (fun B w M9 b4 bn e253 Q => ?_) c1
        · obtain ⟨t8, t9, u0, u1, u2, u3⟩ := zrtl_v (f := zrtw B.2.1 0) (i := m) (k := 9) (h := h) (a := a) (b := t) (c := 0) (d := 0)
          show zqJe _ (zwI B (zrtl (zrtw B.2.1 0) m 9 h a t 0 0)) m
          exact ⟨⟨s1.trans t9.symm, by rw [zwI_I, t9]; omega⟩, Or.inr (Or.inr (Or.inr (Or.inr (Or.inr (Or.inr (Or.inr (Or.inr (Or.inr (Or.inl (⟨⟨s0, t8⟩, s2, s3, ⟨s4.trans u0.symm, by rw [zwI_I, u0]; omega⟩, ⟨s9.trans u1.symm, by rw [zwI_I, u1]; exact hb0⟩⟩))))))))))⟩
        · exact c275_g (show zLay B.2.2.2 by rw [b4]; exact hR) (zqb01 hW bn) hb0 (show 0 ≤ h ∧ h ≤ 2 by omega) (show 0 ≤ a ∧ a ≤ 3 by omega) e253
      · have m60 : M.2.1 1153 8 = 60 := by
          have q1 := hW.1.2.2.1
          have q2 := hW.1.2.2.2.1.2
          omega
        refine zqAg_no (d := 2) hW (by omega) (fun Q => c154_f hR h01 hm hm6 k0 k1) (.inl 0) (fun B b2 b4 Q => ?_) c1
        have bn : ∀ b j, 1153 ≤ b → B.2.1 b j = M.2.1 b j := fun b j _ => by rw [b2]
        have := c275_g (L := L) (M := B) (Q := Q) (v := 0) (M9 := zwI B (zrtw B.2.1 2)) (show zLay B.2.2.2 by rw [b4]; exact hR) (zqb01 hW bn) hb0 (show 0 ≤ h ∧ h ≤ 2 by omega) (show 0 ≤ a ∧ a ≤ 3 by omega) (fun Q9 => ?_)
        · exact this
        · have c := c253_f (L := L) (M := zwI B (zrtw B.2.1 0)) (Q := Q9) (k := 9) (h := h) (a := a) (b := t) (c := 0) (d := 0) (e := 2) (by
            show zrtw B.2.1 0 1153 8 = 60
            unfold zrtw
            rw [zu2_sj (by omega), b2]
            exact m60)
          have ez : zrtw (zrtw B.2.1 0) 2 = zrtw B.2.1 2 := zu2_u _ _ _ _ _
          rw [zwI_I, zwI_w, ez] at c
          exact c
    · refine zqAg_no (d := 1) hW (by omega) (fun Q => c154_1 hR h01 k0 k1) (.inl 0) (fun B b2 b4 Q => ?_) c2
      have bn : ∀ b j, 1153 ≤ b → B.2.1 b j = M.2.1 b j := fun b j _ => by rw [b2]
      refine c275_1 (show zLay B.2.2.2 by rw [b4]; exact hR) (zqb01 hW bn) (fun hx => ?_)
      have hy := hx.2
      omega
  · refine zqAg_no (d := 1) hW (by omega) (fun Q => c154_0 hR h01  k0) (.inl 0) (fun B b2 b4 Q => ?_) c2
    have bn : ∀ b j, 1153 ≤ b → B.2.1 b j = M.2.1 b j := fun b j _ => by rw [b2]
    refine c275_1 (show zLay B.2.2.2 by rw [b4]; exact hR) (zqb01 hW bn) (fun hx => ?_)
    have hy := hx.1
    omega
theorem zqA_155 (hW : zqW m M) (c2 : cc 2 = 1) (c0 : cc 0 = 2) (c1 : cc 1 = 3) {h i j a : Int}  : zqAg L M 155 [.inr (.inr 2), .inl h, .inl i, .inl j, .inl a] 276 [.inr (.inr 1153), .inl h, .inl i, .inl j, .inl a] cc := by
  have hR := hW.1.1
  have h01 := zqR_01 hW.1.2.1
  have hm := zqmd hW
  by_cases k0 : 0 ≤ h ∧ h < 3
  · by_cases k1 : zth M.2.1 i
    · by_cases k2 : zth M.2.1 j
      · by_cases k3 : 0 ≤ a ∧ a ≤ 2
        · by_cases hm6 : m < 60
          · have hc : zqCw m (zwI (zbgM M m 10 h i) (zu2 (zu2 (zbgM M m 10 h i).2.1 (855 + 4 * m) 3 j) (855 + 4 * m) 8 a)) M := by
              refine ⟨fun b9 j9 hb => ?_, fun b9 j9 hb => ?_, rfl⟩
              · show (zu2 (zu2 (zbg M.2.1 (855 + 4 * m) 10 h i) (855 + 4 * m) 3 j) (855 + 4 * m) 8 a) b9 j9 = _
                rw [zu2_a (by omega), zu2_a (by omega), zbg_o (by omega) (by omega)]
              · show zl2 M.2.2.1 (855 + 4 * m) 10 _ b9 j9 = _
                unfold zl2
                rw [if_neg (by omega)]
            obtain ⟨g0, g1, g2, g3, g4, g5, g6, g7, g8, g9⟩ := zbg_v (f := M.2.1) (c := 855 + 4 * m) (w := 10) (h := h) (t := i)
            have s0 : ((zwI (zbgM M m 10 h i) (zu2 (zu2 (zbgM M m 10 h i).2.1 (855 + 4 * m) 3 j) (855 + 4 * m) 8 a))).2.1 (855 + 4 * m) 0 = 10 := by
              show (zu2 (zu2 (zbg M.2.1 (855 + 4 * m) 10 h i) (855 + 4 * m) 3 j) (855 + 4 * m) 8 a) (855 + 4 * m) 0 = _
              rw [zu2_i (by omega), zu2_i (by omega), g0]
            have s1 : ((zwI (zbgM M m 10 h i) (zu2 (zu2 (zbgM M m 10 h i).2.1 (855 + 4 * m) 3 j) (855 + 4 * m) 8 a))).2.1 (855 + 4 * m) 1 = h := by
              show (zu2 (zu2 (zbg M.2.1 (855 + 4 * m) 10 h i) (855 + 4 * m) 3 j) (855 + 4 * m) 8 a) (855 + 4 * m) 1 = _
              rw [zu2_i (by omega), zu2_i (by omega), g1]
            have s2 : ((zwI (zbgM M m 10 h i) (zu2 (zu2 (zbgM M m 10 h i).2.1 (855 + 4 * m) 3 j) (855 + 4 * m) 8 a))).2.1 (855 + 4 * m) 2 = i := by
              show (zu2 (zu2 (zbg M.2.1 (855 + 4 * m) 10 h i) (855 + 4 * m) 3 j) (855 + 4 * m) 8 a) (855 + 4 * m) 2 = _
              rw [zu2_i (by omega), zu2_i (by omega), g2]
            have s3 : ((zwI (zbgM M m 10 h i) (zu2 (zu2 (zbgM M m 10 h i).2.1 (855 + 4 * m) 3 j) (855 + 4 * m) 8 a))).2.1 (855 + 4 * m) 3 = j := by
              show (zu2 (zu2 (zbg M.2.1 (855 + 4 * m) 10 h i) (855 + 4 * m) 3 j) (855 + 4 * m) 8 a) (855 + 4 * m) 3 = _
              rw [zu2_i (by omega), zu2_eq]
            have s8 : ((zwI (zbgM M m 10 h i) (zu2 (zu2 (zbgM M m 10 h i).2.1 (855 + 4 * m) 3 j) (855 + 4 * m) 8 a))).2.1 (855 + 4 * m) 8 = a := by
              show (zu2 (zu2 (zbg M.2.1 (855 + 4 * m) 10 h i) (855 + 4 * m) 3 j) (855 + 4 * m) 8 a) (855 + 4 * m) 8 = _
              rw [zu2_eq]
            refine zqAg_go (C2 := (zwI (zbgM M m 10 h i) (zu2 (zu2 (zbgM M m 10 h i).2.1 (855 + 4 * m) 3 j) (855 + 4 * m) 8 a))) (k := 10) (h := h) (p1 := i) (p2 := j) (p3 := a) (p4 := 0) (e := 3) hW hm6 hc (funext fun j => hc.2.1 _ _ (by omega)) rfl (fun B => ?_) (fun v M9 e10 hR9 hm9 Q => c155_g hR h01 hm hm6 k0 k1 k2 k3  e10 hR9 hm9) (fun B w M9 b4 bn e253 Q => ?_) c1
            · obtain ⟨t8, t9, u0, u1, u2, u3⟩ := zrtl_v (f := zrtw B.2.1 0) (i := m) (k := 10) (h := h) (a := i) (b := j) (c := a) (d := 0)
              show zqJe _ (zwI B (zrtl (zrtw B.2.1 0) m 10 h i j a 0)) m
              exact ⟨⟨s1.trans t9.symm, by rw [zwI_I, t9]; omega⟩, Or.inr (Or.inr (Or.inr (Or.inr (Or.inr (Or.inr (Or.inr (Or.inr (Or.inr (Or.inr (Or.inl (⟨⟨s0, t8⟩, ⟨s2.trans u0.symm, by rw [zwI_I, u0]; exact ⟨k1.1, k1.2.1⟩⟩, ⟨s3.trans u1.symm, by rw [zwI_I, u1]; exact ⟨k2.1, k2.2.1⟩⟩, s8.trans u2.symm⟩)))))))))))⟩
            · exact c276_g (show zLay B.2.2.2 by rw [b4]; exact hR) (zqb01 hW bn)  (show 0 ≤ h ∧ h ≤ 2 by omega) (zqrt hW bn k1) (zqrt hW bn k2) k3 e253
          · have m60 : M.2.1 1153 8 = 60 := by
              have q1 := hW.1.2.2.1
              have q2 := hW.1.2.2.2.1.2
              omega
            refine zqAg_no (d := 3) hW (by omega) (fun Q => c155_f hR h01 hm hm6 k0 k1 k2 k3) (.inl 0) (fun B b2 b4 Q => ?_) c1
            have bn : ∀ b j, 1153 ≤ b → B.2.1 b j = M.2.1 b j := fun b j _ => by rw [b2]
            have := c276_g (L := L) (M := B) (Q := Q) (v := 0) (M9 := zwI B (zrtw B.2.1 3)) (show zLay B.2.2.2 by rw [b4]; exact hR) (zqb01 hW bn)  (show 0 ≤ h ∧ h ≤ 2 by omega) (zqrt hW bn k1) (zqrt hW bn k2) k3 (fun Q9 => ?_)
            · exact this
            · have c := c253_f (L := L) (M := zwI B (zrtw B.2.1 0)) (Q := Q9) (k := 10) (h := h) (a := i) (b := j) (c := a) (d := 0) (e := 3) (by
                show zrtw B.2.1 0 1153 8 = 60
                unfold zrtw
                rw [zu2_sj (by omega), b2]
                exact m60)
              have ez : zrtw (zrtw B.2.1 0) 3 = zrtw B.2.1 3 := zu2_u _ _ _ _ _
              rw [zwI_I, zwI_w, ez] at c
              exact c
        · refine zqAg_no (d := 2) hW (by omega) (fun Q => c155_3 hR h01 k0 k1 k2 k3) (.inl 0) (fun B b2 b4 Q => ?_) c0
          have bn : ∀ b j, 1153 ≤ b → B.2.1 b j = M.2.1 b j := fun b j _ => by rw [b2]
          exact c276_2 (show zLay B.2.2.2 by rw [b4]; exact hR) (zqb01 hW bn) (show 0 ≤ h ∧ h ≤ 2 by omega) (zqrt hW bn k1) (zqrt hW bn k2) k3
      · refine zqAg_no (d := 1) hW (by omega) (fun Q => c155_2 hR h01 k0 k1 k2) (.inl 0) (fun B b2 b4 Q => ?_) c2
        have bn : ∀ b j, 1153 ≤ b → B.2.1 b j = M.2.1 b j := fun b j _ => by rw [b2]
        refine c276_1 (show zLay B.2.2.2 by rw [b4]; exact hR) (zqb01 hW bn) (fun hx => ?_)
        exact k2 ((zqth_iff hW b2).mpr (hx.2.2))
    · refine zqAg_no (d := 1) hW (by omega) (fun Q => c155_1 hR h01 k0 k1) (.inl 0) (fun B b2 b4 Q => ?_) c2
      have bn : ∀ b j, 1153 ≤ b → B.2.1 b j = M.2.1 b j := fun b j _ => by rw [b2]
      refine c276_1 (show zLay B.2.2.2 by rw [b4]; exact hR) (zqb01 hW bn) (fun hx => ?_)
      exact k1 ((zqth_iff hW b2).mpr (hx.2.1))
  · refine zqAg_no (d := 1) hW (by omega) (fun Q => c155_0 hR h01  k0) (.inl 0) (fun B b2 b4 Q => ?_) c2
    have bn : ∀ b j, 1153 ≤ b → B.2.1 b j = M.2.1 b j := fun b j _ => by rw [b2]
    refine c276_1 (show zLay B.2.2.2 by rw [b4]; exact hR) (zqb01 hW bn) (fun hx => ?_)
    have hy := hx.1
    omega
theorem zqA_156 (hW : zqW m M) (c2 : cc 2 = 1) (c1 : cc 1 = 2) {h i : Int}  : zqAg L M 156 [.inr (.inr 2), .inl h, .inl i] 277 [.inr (.inr 1153), .inl h, .inl i] cc := by
  have hR := hW.1.1
  have h01 := zqR_01 hW.1.2.1
  have hm := zqmd hW
  by_cases k0 : 0 ≤ h ∧ h < 3
  · by_cases k1 : zth M.2.1 i
    · by_cases hm6 : m < 60
      · have hc : zqCw m (zbgM M m 11 h i) M := by
          refine ⟨fun b9 j9 hb => ?_, fun b9 j9 hb => ?_, rfl⟩
          · show (zbg M.2.1 (855 + 4 * m) 11 h i) b9 j9 = _
            rw [zbg_o (by omega) (by omega)]
          · show zl2 M.2.2.1 (855 + 4 * m) 10 _ b9 j9 = _
            unfold zl2
            rw [if_neg (by omega)]
        obtain ⟨g0, g1, g2, g3, g4, g5, g6, g7, g8, g9⟩ := zbg_v (f := M.2.1) (c := 855 + 4 * m) (w := 11) (h := h) (t := i)
        have s0 : ((zbgM M m 11 h i)).2.1 (855 + 4 * m) 0 = 11 := by
          show (zbg M.2.1 (855 + 4 * m) 11 h i) (855 + 4 * m) 0 = _
          rw [g0]
        have s1 : ((zbgM M m 11 h i)).2.1 (855 + 4 * m) 1 = h := by
          show (zbg M.2.1 (855 + 4 * m) 11 h i) (855 + 4 * m) 1 = _
          rw [g1]
        have s2 : ((zbgM M m 11 h i)).2.1 (855 + 4 * m) 2 = i := by
          show (zbg M.2.1 (855 + 4 * m) 11 h i) (855 + 4 * m) 2 = _
          rw [g2]
        have s3 : ((zbgM M m 11 h i)).2.1 (855 + 4 * m) 3 = -1 := by
          show (zbg M.2.1 (855 + 4 * m) 11 h i) (855 + 4 * m) 3 = _
          rw [g3]
        refine zqAg_go (C2 := (zbgM M m 11 h i)) (k := 11) (h := h) (p1 := i) (p2 := 0) (p3 := 0) (p4 := 0) (e := 2) hW hm6 hc (funext fun j => hc.2.1 _ _ (by omega)) rfl (fun B => ?_) (fun v M9 e10 hR9 hm9 Q => c156_g hR h01 hm hm6 k0 k1  e10 hR9 hm9) (fun B w M9 b4 bn e253 Q => ?_) c1
        · obtain ⟨t8, t9, u0, u1, u2, u3⟩ := zrtl_v (f := zrtw B.2.1 0) (i := m) (k := 11) (h := h) (a := i) (b := 0) (c := 0) (d := 0)
          show zqJe _ (zwI B (zrtl (zrtw B.2.1 0) m 11 h i 0 0 0)) m
          exact ⟨⟨s1.trans t9.symm, by rw [zwI_I, t9]; omega⟩, Or.inr (Or.inr (Or.inr (Or.inr (Or.inr (Or.inr (Or.inr (Or.inr (Or.inr (Or.inr (Or.inr (Or.inl (⟨⟨s0, t8⟩, ⟨s2.trans u0.symm, by rw [zwI_I, u0]; exact ⟨k1.1, k1.2.1⟩⟩, s3⟩))))))))))))⟩
        · exact c277_g (show zLay B.2.2.2 by rw [b4]; exact hR) (zqb01 hW bn)  (show 0 ≤ h ∧ h ≤ 2 by omega) (zqrt hW bn k1) e253
      · have m60 : M.2.1 1153 8 = 60 := by
          have q1 := hW.1.2.2.1
          have q2 := hW.1.2.2.2.1.2
          omega
        refine zqAg_no (d := 2) hW (by omega) (fun Q => c156_f hR h01 hm hm6 k0 k1) (.inl 0) (fun B b2 b4 Q => ?_) c1
        have bn : ∀ b j, 1153 ≤ b → B.2.1 b j = M.2.1 b j := fun b j _ => by rw [b2]
        have := c277_g (L := L) (M := B) (Q := Q) (v := 0) (M9 := zwI B (zrtw B.2.1 2)) (show zLay B.2.2.2 by rw [b4]; exact hR) (zqb01 hW bn)  (show 0 ≤ h ∧ h ≤ 2 by omega) (zqrt hW bn k1) (fun Q9 => ?_)
        · exact this
        · have c := c253_f (L := L) (M := zwI B (zrtw B.2.1 0)) (Q := Q9) (k := 11) (h := h) (a := i) (b := 0) (c := 0) (d := 0) (e := 2) (by
            show zrtw B.2.1 0 1153 8 = 60
            unfold zrtw
            rw [zu2_sj (by omega), b2]
            exact m60)
          have ez : zrtw (zrtw B.2.1 0) 2 = zrtw B.2.1 2 := zu2_u _ _ _ _ _
          rw [zwI_I, zwI_w, ez] at c
          exact c
    · refine zqAg_no (d := 1) hW (by omega) (fun Q => c156_1 hR h01 k0 k1) (.inl 0) (fun B b2 b4 Q => ?_) c2
      have bn : ∀ b j, 1153 ≤ b → B.2.1 b j = M.2.1 b j := fun b j _ => by rw [b2]
      refine c277_1 (show zLay B.2.2.2 by rw [b4]; exact hR) (zqb01 hW bn) (fun hx => ?_)
      exact k1 ((zqth_iff hW b2).mpr (hx.2))
  · refine zqAg_no (d := 1) hW (by omega) (fun Q => c156_0 hR h01  k0) (.inl 0) (fun B b2 b4 Q => ?_) c2
    have bn : ∀ b j, 1153 ≤ b → B.2.1 b j = M.2.1 b j := fun b j _ => by rw [b2]
    refine c277_1 (show zLay B.2.2.2 by rw [b4]; exact hR) (zqb01 hW bn) (fun hx => ?_)
    have hy := hx.1
    omega
theorem zqA_159 (hW : zqW m M) (c2 : cc 2 = 1) (c1 : cc 1 = 2) {h i : Int}  : zqAg L M 159 [.inr (.inr 2), .inl h, .inl i] 280 [.inr (.inr 1153), .inl h, .inl i] cc := by
  have hR := hW.1.1
  have h01 := zqR_01 hW.1.2.1
  have hm := zqmd hW
  by_cases k0 : 0 ≤ h ∧ h < 3
  · by_cases k1 : zth M.2.1 i
    · by_cases hm6 : m < 60
      · have hc : zqCw m (zbgM M m 13 h i) M := by
          refine ⟨fun b9 j9 hb => ?_, fun b9 j9 hb => ?_, rfl⟩
          · show (zbg M.2.1 (855 + 4 * m) 13 h i) b9 j9 = _
            rw [zbg_o (by omega) (by omega)]
          · show zl2 M.2.2.1 (855 + 4 * m) 10 _ b9 j9 = _
            unfold zl2
            rw [if_neg (by omega)]
        obtain ⟨g0, g1, g2, g3, g4, g5, g6, g7, g8, g9⟩ := zbg_v (f := M.2.1) (c := 855 + 4 * m) (w := 13) (h := h) (t := i)
        have s0 : ((zbgM M m 13 h i)).2.1 (855 + 4 * m) 0 = 13 := by
          show (zbg M.2.1 (855 + 4 * m) 13 h i) (855 + 4 * m) 0 = _
          rw [g0]
        have s1 : ((zbgM M m 13 h i)).2.1 (855 + 4 * m) 1 = h := by
          show (zbg M.2.1 (855 + 4 * m) 13 h i) (855 + 4 * m) 1 = _
          rw [g1]
        have s2 : ((zbgM M m 13 h i)).2.1 (855 + 4 * m) 2 = i := by
          show (zbg M.2.1 (855 + 4 * m) 13 h i) (855 + 4 * m) 2 = _
          rw [g2]
        have s3 : ((zbgM M m 13 h i)).2.1 (855 + 4 * m) 3 = -1 := by
          show (zbg M.2.1 (855 + 4 * m) 13 h i) (855 + 4 * m) 3 = _
          rw [g3]
        refine zqAg_go (C2 := (zbgM M m 13 h i)) (k := 13) (h := h) (p1 := i) (p2 := 0) (p3 := 0) (p4 := 0) (e := 2) hW hm6 hc (funext fun j => hc.2.1 _ _ (by omega)) rfl (fun B => ?_) (fun v M9 e10 hR9 hm9 Q => c159_g hR h01 hm hm6 k0 k1  e10 hR9 hm9) (fun B w M9 b4 bn e253 Q => ?_) c1
        · obtain ⟨t8, t9, u0, u1, u2, u3⟩ := zrtl_v (f := zrtw B.2.1 0) (i := m) (k := 13) (h := h) (a := i) (b := 0) (c := 0) (d := 0)
          show zqJe _ (zwI B (zrtl (zrtw B.2.1 0) m 13 h i 0 0 0)) m
          exact ⟨⟨s1.trans t9.symm, by rw [zwI_I, t9]; omega⟩, Or.inr (Or.inr (Or.inr (Or.inr (Or.inr (Or.inr (Or.inr (Or.inr (Or.inr (Or.inr (Or.inr (Or.inr (Or.inr (Or.inl (⟨⟨s0, t8⟩, ⟨s2.trans u0.symm, by rw [zwI_I, u0]; exact ⟨k1.1, k1.2.1⟩⟩, s3⟩))))))))))))))⟩
        · exact c280_g (show zLay B.2.2.2 by rw [b4]; exact hR) (zqb01 hW bn)  (show 0 ≤ h ∧ h ≤ 2 by omega) (zqrt hW bn k1) e253
      · have m60 : M.2.1 1153 8 = 60 := by
          have q1 := hW.1.2.2.1
          have q2 := hW.1.2.2.2.1.2
          omega
        refine zqAg_no (d := 2) hW (by omega) (fun Q => c159_f hR h01 hm hm6 k0 k1) (.inl 0) (fun B b2 b4 Q => ?_) c1
        have bn : ∀ b j, 1153 ≤ b → B.2.1 b j = M.2.1 b j := fun b j _ => by rw [b2]
        have := c280_g (L := L) (M := B) (Q := Q) (v := 0) (M9 := zwI B (zrtw B.2.1 2)) (show zLay B.2.2.2 by rw [b4]; exact hR) (zqb01 hW bn)  (show 0 ≤ h ∧ h ≤ 2 by omega) (zqrt hW bn k1) (fun Q9 => ?_)
        · exact this
        · have c := c253_f (L := L) (M := zwI B (zrtw B.2.1 0)) (Q := Q9) (k := 13) (h := h) (a := i) (b := 0) (c := 0) (d := 0) (e := 2) (by
            show zrtw B.2.1 0 1153 8 = 60
            unfold zrtw
            rw [zu2_sj (by omega), b2]
            exact m60)
          have ez : zrtw (zrtw B.2.1 0) 2 = zrtw B.2.1 2 := zu2_u _ _ _ _ _
          rw [zwI_I, zwI_w, ez] at c
          exact c
    · refine zqAg_no (d := 1) hW (by omega) (fun Q => c159_1 hR h01 k0 k1) (.inl 0) (fun B b2 b4 Q => ?_) c2
      have bn : ∀ b j, 1153 ≤ b → B.2.1 b j = M.2.1 b j := fun b j _ => by rw [b2]
      refine c280_1 (show zLay B.2.2.2 by rw [b4]; exact hR) (zqb01 hW bn) (fun hx => ?_)
      exact k1 ((zqth_iff hW b2).mpr (hx.2))
  · refine zqAg_no (d := 1) hW (by omega) (fun Q => c159_0 hR h01  k0) (.inl 0) (fun B b2 b4 Q => ?_) c2
    have bn : ∀ b j, 1153 ≤ b → B.2.1 b j = M.2.1 b j := fun b j _ => by rw [b2]
    refine c280_1 (show zLay B.2.2.2 by rw [b4]; exact hR) (zqb01 hW bn) (fun hx => ?_)
    have hy := hx.1
    omega
theorem zqA_160 (hW : zqW m M) (c2 : cc 2 = 1) (c1 : cc 1 = 2) {h i : Int}  : zqAg L M 160 [.inr (.inr 2), .inl h, .inl i] 281 [.inr (.inr 1153), .inl h, .inl i] cc := by
  have hR := hW.1.1
  have h01 := zqR_01 hW.1.2.1
  have hm := zqmd hW
  by_cases k0 : 0 ≤ h ∧ h < 3
  · by_cases k1 : zth M.2.1 i
    · by_cases hm6 : m < 60
      · have hc : zqCw m (zbgM M m 14 h i) M := by
          refine ⟨fun b9 j9 hb => ?_, fun b9 j9 hb => ?_, rfl⟩
          · show (zbg M.2.1 (855 + 4 * m) 14 h i) b9 j9 = _
            rw [zbg_o (by omega) (by omega)]
          · show zl2 M.2.2.1 (855 + 4 * m) 10 _ b9 j9 = _
            unfold zl2
            rw [if_neg (by omega)]
        obtain ⟨g0, g1, g2, g3, g4, g5, g6, g7, g8, g9⟩ := zbg_v (f := M.2.1) (c := 855 + 4 * m) (w := 14) (h := h) (t := i)
        have s0 : ((zbgM M m 14 h i)).2.1 (855 + 4 * m) 0 = 14 := by
          show (zbg M.2.1 (855 + 4 * m) 14 h i) (855 + 4 * m) 0 = _
          rw [g0]
        have s1 : ((zbgM M m 14 h i)).2.1 (855 + 4 * m) 1 = h := by
          show (zbg M.2.1 (855 + 4 * m) 14 h i) (855 + 4 * m) 1 = _
          rw [g1]
        have s2 : ((zbgM M m 14 h i)).2.1 (855 + 4 * m) 2 = i := by
          show (zbg M.2.1 (855 + 4 * m) 14 h i) (855 + 4 * m) 2 = _
          rw [g2]
        have s3 : ((zbgM M m 14 h i)).2.1 (855 + 4 * m) 3 = -1 := by
          show (zbg M.2.1 (855 + 4 * m) 14 h i) (855 + 4 * m) 3 = _
          rw [g3]
        refine zqAg_go (C2 := (zbgM M m 14 h i)) (k := 14) (h := h) (p1 := i) (p2 := 0) (p3 := 0) (p4 := 0) (e := 2) hW hm6 hc (funext fun j => hc.2.1 _ _ (by omega)) rfl (fun B => ?_) (fun v M9 e10 hR9 hm9 Q => c160_g hR h01 hm hm6 k0 k1  e10 hR9 hm9) (fun B w M9 b4 bn e253 Q => ?_) c1
        · obtain ⟨t8, t9, u0, u1, u2, u3⟩ := zrtl_v (f := zrtw B.2.1 0) (i := m) (k := 14) (h := h) (a := i) (b := 0) (c := 0) (d := 0)
          show zqJe _ (zwI B (zrtl (zrtw B.2.1 0) m 14 h i 0 0 0)) m
          exact ⟨⟨s1.trans t9.symm, by rw [zwI_I, t9]; omega⟩, Or.inr (Or.inr (Or.inr (Or.inr (Or.inr (Or.inr (Or.inr (Or.inr (Or.inr (Or.inr (Or.inr (Or.inr (Or.inr (Or.inr (Or.inl (⟨⟨s0, t8⟩, ⟨s2.trans u0.symm, by rw [zwI_I, u0]; exact ⟨k1.1, k1.2.1⟩⟩, s3⟩)))))))))))))))⟩
        · exact c281_g (show zLay B.2.2.2 by rw [b4]; exact hR) (zqb01 hW bn)  (show 0 ≤ h ∧ h ≤ 2 by omega) (zqrt hW bn k1) e253
      · have m60 : M.2.1 1153 8 = 60 := by
          have q1 := hW.1.2.2.1
          have q2 := hW.1.2.2.2.1.2
          omega
        refine zqAg_no (d := 2) hW (by omega) (fun Q => c160_f hR h01 hm hm6 k0 k1) (.inl 0) (fun B b2 b4 Q => ?_) c1
        have bn : ∀ b j, 1153 ≤ b → B.2.1 b j = M.2.1 b j := fun b j _ => by rw [b2]
        have := c281_g (L := L) (M := B) (Q := Q) (v := 0) (M9 := zwI B (zrtw B.2.1 2)) (show zLay B.2.2.2 by rw [b4]; exact hR) (zqb01 hW bn)  (show 0 ≤ h ∧ h ≤ 2 by omega) (zqrt hW bn k1) (fun Q9 => ?_)
        · exact this
        · have c := c253_f (L := L) (M := zwI B (zrtw B.2.1 0)) (Q := Q9) (k := 14) (h := h) (a := i) (b := 0) (c := 0) (d := 0) (e := 2) (by
            show zrtw B.2.1 0 1153 8 = 60
            unfold zrtw
            rw [zu2_sj (by omega), b2]
            exact m60)
          have ez : zrtw (zrtw B.2.1 0) 2 = zrtw B.2.1 2 := zu2_u _ _ _ _ _
          rw [zwI_I, zwI_w, ez] at c
          exact c
    · refine zqAg_no (d := 1) hW (by omega) (fun Q => c160_1 hR h01 k0 k1) (.inl 0) (fun B b2 b4 Q => ?_) c2
      have bn : ∀ b j, 1153 ≤ b → B.2.1 b j = M.2.1 b j := fun b j _ => by rw [b2]
      refine c281_1 (show zLay B.2.2.2 by rw [b4]; exact hR) (zqb01 hW bn) (fun hx => ?_)
      exact k1 ((zqth_iff hW b2).mpr (hx.2))
  · refine zqAg_no (d := 1) hW (by omega) (fun Q => c160_0 hR h01  k0) (.inl 0) (fun B b2 b4 Q => ?_) c2
    have bn : ∀ b j, 1153 ≤ b → B.2.1 b j = M.2.1 b j := fun b j _ => by rw [b2]
    refine c281_1 (show zLay B.2.2.2 by rw [b4]; exact hR) (zqb01 hW bn) (fun hx => ?_)
    have hy := hx.1
    omega
theorem zqA_161 (hW : zqW m M) (c2 : cc 2 = 1) (c0 : cc 0 = 2) (c1 : cc 1 = 3) {h t a : Int} (hb0 : t = 0 ∨ t = 1) : zqAg L M 161 [.inr (.inr 2), .inl h, .inl t, .inl a] 282 [.inr (.inr 1153), .inl h, .inl t, .inl a] cc := by
  have hR := hW.1.1
  have h01 := zqR_01 hW.1.2.1
  have hm := zqmd hW
  by_cases k0 : 0 ≤ h ∧ h < 3
  · by_cases k1 : 0 ≤ a ∧ a ≤ 60
    · by_cases hm6 : m < 60
      · have hc : zqCw m (zwI (zbgM M m 15 h (-1)) (zu2 (zu2 (zbgM M m 15 h (-1)).2.1 (855 + 4 * m) 9 t) (855 + 4 * m) 8 a)) M := by
          refine ⟨fun b9 j9 hb => ?_, fun b9 j9 hb => ?_, rfl⟩
          · show (zu2 (zu2 (zbg M.2.1 (855 + 4 * m) 15 h (-1)) (855 + 4 * m) 9 t) (855 + 4 * m) 8 a) b9 j9 = _
            rw [zu2_a (by omega), zu2_a (by omega), zbg_o (by omega) (by omega)]
          · show zl2 M.2.2.1 (855 + 4 * m) 10 _ b9 j9 = _
            unfold zl2
            rw [if_neg (by omega)]
        obtain ⟨g0, g1, g2, g3, g4, g5, g6, g7, g8, g9⟩ := zbg_v (f := M.2.1) (c := 855 + 4 * m) (w := 15) (h := h) (t := -1)
        have s0 : ((zwI (zbgM M m 15 h (-1)) (zu2 (zu2 (zbgM M m 15 h (-1)).2.1 (855 + 4 * m) 9 t) (855 + 4 * m) 8 a))).2.1 (855 + 4 * m) 0 = 15 := by
          show (zu2 (zu2 (zbg M.2.1 (855 + 4 * m) 15 h (-1)) (855 + 4 * m) 9 t) (855 + 4 * m) 8 a) (855 + 4 * m) 0 = _
          rw [zu2_i (by omega), zu2_i (by omega), g0]
        have s1 : ((zwI (zbgM M m 15 h (-1)) (zu2 (zu2 (zbgM M m 15 h (-1)).2.1 (855 + 4 * m) 9 t) (855 + 4 * m) 8 a))).2.1 (855 + 4 * m) 1 = h := by
          show (zu2 (zu2 (zbg M.2.1 (855 + 4 * m) 15 h (-1)) (855 + 4 * m) 9 t) (855 + 4 * m) 8 a) (855 + 4 * m) 1 = _
          rw [zu2_i (by omega), zu2_i (by omega), g1]
        have s2 : ((zwI (zbgM M m 15 h (-1)) (zu2 (zu2 (zbgM M m 15 h (-1)).2.1 (855 + 4 * m) 9 t) (855 + 4 * m) 8 a))).2.1 (855 + 4 * m) 2 = -1 := by
          show (zu2 (zu2 (zbg M.2.1 (855 + 4 * m) 15 h (-1)) (855 + 4 * m) 9 t) (855 + 4 * m) 8 a) (855 + 4 * m) 2 = _
          rw [zu2_i (by omega), zu2_i (by omega), g2]
        have s3 : ((zwI (zbgM M m 15 h (-1)) (zu2 (zu2 (zbgM M m 15 h (-1)).2.1 (855 + 4 * m) 9 t) (855 + 4 * m) 8 a))).2.1 (855 + 4 * m) 3 = -1 := by
          show (zu2 (zu2 (zbg M.2.1 (855 + 4 * m) 15 h (-1)) (855 + 4 * m) 9 t) (855 + 4 * m) 8 a) (855 + 4 * m) 3 = _
          rw [zu2_i (by omega), zu2_i (by omega), g3]
        have s9 : ((zwI (zbgM M m 15 h (-1)) (zu2 (zu2 (zbgM M m 15 h (-1)).2.1 (855 + 4 * m) 9 t) (855 + 4 * m) 8 a))).2.1 (855 + 4 * m) 9 = t := by
          show (zu2 (zu2 (zbg M.2.1 (855 + 4 * m) 15 h (-1)) (855 + 4 * m) 9 t) (855 + 4 * m) 8 a) (855 + 4 * m) 9 = _
          rw [zu2_i (by omega), zu2_eq]
        have s8 : ((zwI (zbgM M m 15 h (-1)) (zu2 (zu2 (zbgM M m 15 h (-1)).2.1 (855 + 4 * m) 9 t) (855 + 4 * m) 8 a))).2.1 (855 + 4 * m) 8 = a := by
          show (zu2 (zu2 (zbg M.2.1 (855 + 4 * m) 15 h (-1)) (855 + 4 * m) 9 t) (855 + 4 * m) 8 a) (855 + 4 * m) 8 = _
          rw [zu2_eq]
        refine zqAg_go (C2 := (zwI (zbgM M m 15 h (-1)) (zu2 (zu2 (zbgM M m 15 h (-1)).2.1 (855 + 4 * m) 9 t) (855 + 4 * m) 8 a))) (k := 15) (h := h) (p1 := t) (p2 := a) (p3 := 0) (p4 := 0) (e := 3) hW hm6 hc (funext fun j => hc.2.1 _ _ (by omega)) rfl (fun B => ?_) (fun v M9 e10 hR9 hm9 Q => c161_g hR h01 hm hm6 k0 k1 hb0 e10 hR9 hm9) (fun B w M9 b4 bn e253 Q => ?_) c1
        · obtain ⟨t8, t9, u0, u1, u2, u3⟩ := zrtl_v (f := zrtw B.2.1 0) (i := m) (k := 15) (h := h) (a := t) (b := a) (c := 0) (d := 0)
          show zqJe _ (zwI B (zrtl (zrtw B.2.1 0) m 15 h t a 0 0)) m
          exact ⟨⟨s1.trans t9.symm, by rw [zwI_I, t9]; omega⟩, Or.inr (Or.inr (Or.inr (Or.inr (Or.inr (Or.inr (Or.inr (Or.inr (Or.inr (Or.inr (Or.inr (Or.inr (Or.inr (Or.inr (Or.inr (Or.inl (⟨⟨s0, t8⟩, s2, s3, ⟨s9.trans u0.symm, by rw [zwI_I, u0]; exact hb0⟩, ⟨s8.trans u1.symm, by rw [zwI_I, u1]; exact k1⟩⟩))))))))))))))))⟩
        · exact c282_g (show zLay B.2.2.2 by rw [b4]; exact hR) (zqb01 hW bn) hb0 (show 0 ≤ h ∧ h ≤ 2 by omega) k1 e253
      · have m60 : M.2.1 1153 8 = 60 := by
          have q1 := hW.1.2.2.1
          have q2 := hW.1.2.2.2.1.2
          omega
        refine zqAg_no (d := 3) hW (by omega) (fun Q => c161_f hR h01 hm hm6 k0 k1) (.inl 0) (fun B b2 b4 Q => ?_) c1
        have bn : ∀ b j, 1153 ≤ b → B.2.1 b j = M.2.1 b j := fun b j _ => by rw [b2]
        have := c282_g (L := L) (M := B) (Q := Q) (v := 0) (M9 := zwI B (zrtw B.2.1 3)) (show zLay B.2.2.2 by rw [b4]; exact hR) (zqb01 hW bn) hb0 (show 0 ≤ h ∧ h ≤ 2 by omega) k1 (fun Q9 => ?_)
        · exact this
        · have c := c253_f (L := L) (M := zwI B (zrtw B.2.1 0)) (Q := Q9) (k := 15) (h := h) (a := t) (b := a) (c := 0) (d := 0) (e := 3) (by
            show zrtw B.2.1 0 1153 8 = 60
            unfold zrtw
            rw [zu2_sj (by omega), b2]
            exact m60)
          have ez : zrtw (zrtw B.2.1 0) 3 = zrtw B.2.1 3 := zu2_u _ _ _ _ _
          rw [zwI_I, zwI_w, ez] at c
          exact c
    · refine zqAg_no (d := 2) hW (by omega) (fun Q => c161_1 hR h01 k0 k1) (.inl 0) (fun B b2 b4 Q => ?_) c0
      have bn : ∀ b j, 1153 ≤ b → B.2.1 b j = M.2.1 b j := fun b j _ => by rw [b2]
      exact c282_2 (show zLay B.2.2.2 by rw [b4]; exact hR) (zqb01 hW bn) (show 0 ≤ h ∧ h ≤ 2 by omega) k1
  · refine zqAg_no (d := 1) hW (by omega) (fun Q => c161_0 hR h01  k0) (.inl 0) (fun B b2 b4 Q => ?_) c2
    have bn : ∀ b j, 1153 ≤ b → B.2.1 b j = M.2.1 b j := fun b j _ => by rw [b2]
    refine c282_1 (show zLay B.2.2.2 by rw [b4]; exact hR) (zqb01 hW bn) (fun hx => ?_)
    have hy := hx
    omega
theorem zqA_162 (hW : zqW m M) (c2 : cc 2 = 1) (c1 : cc 1 = 2) {h i : Int}  : zqAg L M 162 [.inr (.inr 2), .inl h, .inl i] 283 [.inr (.inr 1153), .inl h, .inl i] cc := by
  have hR := hW.1.1
  have h01 := zqR_01 hW.1.2.1
  have hm := zqmd hW
  by_cases k0 : 0 ≤ h ∧ h < 3
  · by_cases k1 : zth M.2.1 i
    · by_cases hm6 : m < 60
      · have hc : zqCw m (zbgM M m 16 h i) M := by
          refine ⟨fun b9 j9 hb => ?_, fun b9 j9 hb => ?_, rfl⟩
          · show (zbg M.2.1 (855 + 4 * m) 16 h i) b9 j9 = _
            rw [zbg_o (by omega) (by omega)]
          · show zl2 M.2.2.1 (855 + 4 * m) 10 _ b9 j9 = _
            unfold zl2
            rw [if_neg (by omega)]
        obtain ⟨g0, g1, g2, g3, g4, g5, g6, g7, g8, g9⟩ := zbg_v (f := M.2.1) (c := 855 + 4 * m) (w := 16) (h := h) (t := i)
        have s0 : ((zbgM M m 16 h i)).2.1 (855 + 4 * m) 0 = 16 := by
          show (zbg M.2.1 (855 + 4 * m) 16 h i) (855 + 4 * m) 0 = _
          rw [g0]
        have s1 : ((zbgM M m 16 h i)).2.1 (855 + 4 * m) 1 = h := by
          show (zbg M.2.1 (855 + 4 * m) 16 h i) (855 + 4 * m) 1 = _
          rw [g1]
        have s2 : ((zbgM M m 16 h i)).2.1 (855 + 4 * m) 2 = i := by
          show (zbg M.2.1 (855 + 4 * m) 16 h i) (855 + 4 * m) 2 = _
          rw [g2]
        have s3 : ((zbgM M m 16 h i)).2.1 (855 + 4 * m) 3 = -1 := by
          show (zbg M.2.1 (855 + 4 * m) 16 h i) (855 + 4 * m) 3 = _
          rw [g3]
        refine zqAg_go (C2 := (zbgM M m 16 h i)) (k := 16) (h := h) (p1 := i) (p2 := 0) (p3 := 0) (p4 := 0) (e := 2) hW hm6 hc (funext fun j => hc.2.1 _ _ (by omega)) rfl (fun B => ?_) (fun v M9 e10 hR9 hm9 Q => c162_g hR h01 hm hm6 k0 k1  e10 hR9 hm9) (fun B w M9 b4 bn e253 Q => ?_) c1
        · obtain ⟨t8, t9, u0, u1, u2, u3⟩ := zrtl_v (f := zrtw B.2.1 0) (i := m) (k := 16) (h := h) (a := i) (b := 0) (c := 0) (d := 0)
          show zqJe _ (zwI B (zrtl (zrtw B.2.1 0) m 16 h i 0 0 0)) m
          exact ⟨⟨s1.trans t9.symm, by rw [zwI_I, t9]; omega⟩, Or.inr (Or.inr (Or.inr (Or.inr (Or.inr (Or.inr (Or.inr (Or.inr (Or.inr (Or.inr (Or.inr (Or.inr (Or.inr (Or.inr (Or.inr (Or.inr (Or.inl (⟨⟨s0, t8⟩, ⟨s2.trans u0.symm, by rw [zwI_I, u0]; exact ⟨k1.1, k1.2.1⟩⟩, s3⟩)))))))))))))))))⟩
        · exact c283_g (show zLay B.2.2.2 by rw [b4]; exact hR) (zqb01 hW bn)  (show 0 ≤ h ∧ h ≤ 2 by omega) (zqrt hW bn k1) e253
      · have m60 : M.2.1 1153 8 = 60 := by
          have q1 := hW.1.2.2.1
          have q2 := hW.1.2.2.2.1.2
          omega
        refine zqAg_no (d := 2) hW (by omega) (fun Q => c162_f hR h01 hm hm6 k0 k1) (.inl 0) (fun B b2 b4 Q => ?_) c1
        have bn : ∀ b j, 1153 ≤ b → B.2.1 b j = M.2.1 b j := fun b j _ => by rw [b2]
        have := c283_g (L := L) (M := B) (Q := Q) (v := 0) (M9 := zwI B (zrtw B.2.1 2)) (show zLay B.2.2.2 by rw [b4]; exact hR) (zqb01 hW bn)  (show 0 ≤ h ∧ h ≤ 2 by omega) (zqrt hW bn k1) (fun Q9 => ?_)
        · exact this
        · have c := c253_f (L := L) (M := zwI B (zrtw B.2.1 0)) (Q := Q9) (k := 16) (h := h) (a := i) (b := 0) (c := 0) (d := 0) (e := 2) (by
            show zrtw B.2.1 0 1153 8 = 60
            unfold zrtw
            rw [zu2_sj (by omega), b2]
            exact m60)
          have ez : zrtw (zrtw B.2.1 0) 2 = zrtw B.2.1 2 := zu2_u _ _ _ _ _
          rw [zwI_I, zwI_w, ez] at c
          exact c
    · refine zqAg_no (d := 1) hW (by omega) (fun Q => c162_1 hR h01 k0 k1) (.inl 0) (fun B b2 b4 Q => ?_) c2
      have bn : ∀ b j, 1153 ≤ b → B.2.1 b j = M.2.1 b j := fun b j _ => by rw [b2]
      refine c283_1 (show zLay B.2.2.2 by rw [b4]; exact hR) (zqb01 hW bn) (fun hx => ?_)
      exact k1 ((zqth_iff hW b2).mpr (hx.2))
  · refine zqAg_no (d := 1) hW (by omega) (fun Q => c162_0 hR h01  k0) (.inl 0) (fun B b2 b4 Q => ?_) c2
    have bn : ∀ b j, 1153 ≤ b → B.2.1 b j = M.2.1 b j := fun b j _ => by rw [b2]
    refine c283_1 (show zLay B.2.2.2 by rw [b4]; exact hR) (zqb01 hW bn) (fun hx => ?_)
    have hy := hx.1
    omega
theorem zqA_163 (hW : zqW m M) (c2 : cc 2 = 1) (c0 : cc 0 = 2) (c1 : cc 1 = 3) {h a i j : Int}  : zqAg L M 163 [.inr (.inr 2), .inl h, .inl a, .inl i, .inl j] 284 [.inr (.inr 1153), .inl h, .inl a, .inl i, .inl j] cc := by
  have hR := hW.1.1
  have h01 := zqR_01 hW.1.2.1
  have hm := zqmd hW
  by_cases k0 : 0 ≤ h ∧ h < 3
  · by_cases k1 : zth M.2.1 i
    · by_cases k2 : zth M.2.1 j
      · by_cases k3 : 0 ≤ a ∧ a ≤ 3
        · by_cases hm6 : m < 60
          · have hc : zqCw m (zwI (zbgM M m 17 h i) (zu2 (zu2 (zbgM M m 17 h i).2.1 (855 + 4 * m) 3 j) (855 + 4 * m) 8 a)) M := by
              refine ⟨fun b9 j9 hb => ?_, fun b9 j9 hb => ?_, rfl⟩
              · show (zu2 (zu2 (zbg M.2.1 (855 + 4 * m) 17 h i) (855 + 4 * m) 3 j) (855 + 4 * m) 8 a) b9 j9 = _
                rw [zu2_a (by omega), zu2_a (by omega), zbg_o (by omega) (by omega)]
              · show zl2 M.2.2.1 (855 + 4 * m) 10 _ b9 j9 = _
                unfold zl2
                rw [if_neg (by omega)]
            obtain ⟨g0, g1, g2, g3, g4, g5, g6, g7, g8, g9⟩ := zbg_v (f := M.2.1) (c := 855 + 4 * m) (w := 17) (h := h) (t := i)
            have s0 : ((zwI (zbgM M m 17 h i) (zu2 (zu2 (zbgM M m 17 h i).2.1 (855 + 4 * m) 3 j) (855 + 4 * m) 8 a))).2.1 (855 + 4 * m) 0 = 17 := by
              show (zu2 (zu2 (zbg M.2.1 (855 + 4 * m) 17 h i) (855 + 4 * m) 3 j) (855 + 4 * m) 8 a) (855 + 4 * m) 0 = _
              rw [zu2_i (by omega), zu2_i (by omega), g0]
            have s1 : ((zwI (zbgM M m 17 h i) (zu2 (zu2 (zbgM M m 17 h i).2.1 (855 + 4 * m) 3 j) (855 + 4 * m) 8 a))).2.1 (855 + 4 * m) 1 = h := by
              show (zu2 (zu2 (zbg M.2.1 (855 + 4 * m) 17 h i) (855 + 4 * m) 3 j) (855 + 4 * m) 8 a) (855 + 4 * m) 1 = _
              rw [zu2_i (by omega), zu2_i (by omega), g1]
            have s2 : ((zwI (zbgM M m 17 h i) (zu2 (zu2 (zbgM M m 17 h i).2.1 (855 + 4 * m) 3 j) (855 + 4 * m) 8 a))).2.1 (855 + 4 * m) 2 = i := by
              show (zu2 (zu2 (zbg M.2.1 (855 + 4 * m) 17 h i) (855 + 4 * m) 3 j) (855 + 4 * m) 8 a) (855 + 4 * m) 2 = _
              rw [zu2_i (by omega), zu2_i (by omega), g2]
            have s3 : ((zwI (zbgM M m 17 h i) (zu2 (zu2 (zbgM M m 17 h i).2.1 (855 + 4 * m) 3 j) (855 + 4 * m) 8 a))).2.1 (855 + 4 * m) 3 = j := by
              show (zu2 (zu2 (zbg M.2.1 (855 + 4 * m) 17 h i) (855 + 4 * m) 3 j) (855 + 4 * m) 8 a) (855 + 4 * m) 3 = _
              rw [zu2_i (by omega), zu2_eq]
            have s8 : ((zwI (zbgM M m 17 h i) (zu2 (zu2 (zbgM M m 17 h i).2.1 (855 + 4 * m) 3 j) (855 + 4 * m) 8 a))).2.1 (855 + 4 * m) 8 = a := by
              show (zu2 (zu2 (zbg M.2.1 (855 + 4 * m) 17 h i) (855 + 4 * m) 3 j) (855 + 4 * m) 8 a) (855 + 4 * m) 8 = _
              rw [zu2_eq]
            refine zqAg_go (C2 := (zwI (zbgM M m 17 h i) (zu2 (zu2 (zbgM M m 17 h i).2.1 (855 + 4 * m) 3 j) (855 + 4 * m) 8 a))) (k := 17) (h := h) (p1 := a) (p2 := i) (p3 := j) (p4 := 0) (e := 3) hW hm6 hc (funext fun j => hc.2.1 _ _ (by omega)) rfl (fun B => ?_) (fun v M9 e10 hR9 hm9 Q => c163_g hR h01 hm hm6 k0 k1 k2 k3  e10 hR9 hm9) (fun B w M9 b4 bn e253 Q => ?_) c1
            · obtain ⟨t8, t9, u0, u1, u2, u3⟩ := zrtl_v (f := zrtw B.2.1 0) (i := m) (k := 17) (h := h) (a := a) (b := i) (c := j) (d := 0)
              show zqJe _ (zwI B (zrtl (zrtw B.2.1 0) m 17 h a i j 0)) m
              exact ⟨⟨s1.trans t9.symm, by rw [zwI_I, t9]; omega⟩, Or.inr (Or.inr (Or.inr (Or.inr (Or.inr (Or.inr (Or.inr (Or.inr (Or.inr (Or.inr (Or.inr (Or.inr (Or.inr (Or.inr (Or.inr (Or.inr (Or.inr ((⟨⟨s0, t8⟩, s1.trans t9.symm, ⟨s2.trans u1.symm, by rw [zwI_I, u1]; exact ⟨k1.1, k1.2.1⟩⟩, ⟨s3.trans u2.symm, by rw [zwI_I, u2]; exact ⟨k2.1, k2.2.1⟩⟩, ⟨s8.trans u0.symm, by rw [zwI_I, u0]; exact k3⟩⟩))))))))))))))))))⟩
            · exact c284_g (show zLay B.2.2.2 by rw [b4]; exact hR) (zqb01 hW bn)  (show 0 ≤ h ∧ h ≤ 2 by omega) (zqrt hW bn k1) (zqrt hW bn k2) k3 e253
          · have m60 : M.2.1 1153 8 = 60 := by
              have q1 := hW.1.2.2.1
              have q2 := hW.1.2.2.2.1.2
              omega
            refine zqAg_no (d := 3) hW (by omega) (fun Q => c163_f hR h01 hm hm6 k0 k1 k2 k3) (.inl 0) (fun B b2 b4 Q => ?_) c1
            have bn : ∀ b j, 1153 ≤ b → B.2.1 b j = M.2.1 b j := fun b j _ => by rw [b2]
            have := c284_g (L := L) (M := B) (Q := Q) (v := 0) (M9 := zwI B (zrtw B.2.1 3)) (show zLay B.2.2.2 by rw [b4]; exact hR) (zqb01 hW bn)  (show 0 ≤ h ∧ h ≤ 2 by omega) (zqrt hW bn k1) (zqrt hW bn k2) k3 (fun Q9 => ?_)
            · exact this
            · have c := c253_f (L := L) (M := zwI B (zrtw B.2.1 0)) (Q := Q9) (k := 17) (h := h) (a := a) (b := i) (c := j) (d := 0) (e := 3) (by
                show zrtw B.2.1 0 1153 8 = 60
                unfold zrtw
                rw [zu2_sj (by omega), b2]
                exact m60)
              have ez : zrtw (zrtw B.2.1 0) 3 = zrtw B.2.1 3 := zu2_u _ _ _ _ _
              rw [zwI_I, zwI_w, ez] at c
              exact c
        · refine zqAg_no (d := 2) hW (by omega) (fun Q => c163_3 hR h01 k0 k1 k2 k3) (.inl 0) (fun B b2 b4 Q => ?_) c0
          have bn : ∀ b j, 1153 ≤ b → B.2.1 b j = M.2.1 b j := fun b j _ => by rw [b2]
          exact c284_2 (show zLay B.2.2.2 by rw [b4]; exact hR) (zqb01 hW bn) (show 0 ≤ h ∧ h ≤ 2 by omega) (zqrt hW bn k1) (zqrt hW bn k2) k3
      · refine zqAg_no (d := 1) hW (by omega) (fun Q => c163_2 hR h01 k0 k1 k2) (.inl 0) (fun B b2 b4 Q => ?_) c2
        have bn : ∀ b j, 1153 ≤ b → B.2.1 b j = M.2.1 b j := fun b j _ => by rw [b2]
        refine c284_1 (show zLay B.2.2.2 by rw [b4]; exact hR) (zqb01 hW bn) (fun hx => ?_)
        exact k2 ((zqth_iff hW b2).mpr (hx.2.2))
    · refine zqAg_no (d := 1) hW (by omega) (fun Q => c163_1 hR h01 k0 k1) (.inl 0) (fun B b2 b4 Q => ?_) c2
      have bn : ∀ b j, 1153 ≤ b → B.2.1 b j = M.2.1 b j := fun b j _ => by rw [b2]
      refine c284_1 (show zLay B.2.2.2 by rw [b4]; exact hR) (zqb01 hW bn) (fun hx => ?_)
      exact k1 ((zqth_iff hW b2).mpr (hx.2.1))
  · refine zqAg_no (d := 1) hW (by omega) (fun Q => c163_0 hR h01  k0) (.inl 0) (fun B b2 b4 Q => ?_) c2
    have bn : ∀ b j, 1153 ≤ b → B.2.1 b j = M.2.1 b j := fun b j _ => by rw [b2]
    refine c284_1 (show zLay B.2.2.2 by rw [b4]; exact hR) (zqb01 hW bn) (fun hx => ?_)
    have hy := hx.1
    omega
end ZSIMPLEQ
