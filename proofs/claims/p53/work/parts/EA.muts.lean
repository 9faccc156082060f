/-! changes: what both note -/
section ZPMUTS
variable {L m : Nat} {C : zM} {s : Nat → zM}
theorem zpbg_v {f : Nat → Nat → Int} {c : Nat} {w h t : Int} : zbg f c w h t c 0 = w ∧ zbg f c w h t c 1 = h ∧ zbg f c w h t c 2 = t ∧ zbg f c w h t c 3 = -1 ∧ zbg f c w h t c 4 = 0 ∧ zbg f c w h t c 5 = 1 ∧ zbg f c w h t c 6 = 0 ∧ zbg f c w h t c 7 = 0 ∧ zbg f c w h t c 8 = 0 ∧ zbg f c w h t c 9 = 0 := by
  simp [zbg, zu2]
/-- noted -/
def zpjt (f : Nat → Nat → Int) (i : Nat) (k h a b c d : Int) : Nat → Nat → Int := zu2 (zu2 (zu2 (zu2 (zu2 (zu2 f 1158 i k) 1159 i h) 1161 (4 * i) a) 1161 (4 * i + 1) b) 1161 (4 * i + 2) c) 1161 (4 * i + 3) d
theorem zpjt_v {f : Nat → Nat → Int} {i : Nat} {k h a b c d : Int} : zpjt f i k h a b c d 1158 i = k ∧ zpjt f i k h a b c d 1159 i = h ∧ zpjt f i k h a b c d 1161 (4 * i) = a ∧ zpjt f i k h a b c d 1161 (4 * i + 1) = b ∧ zpjt f i k h a b c d 1161 (4 * i + 2) = c ∧ zpjt f i k h a b c d 1161 (4 * i + 3) = d := by
  unfold zpjt
  refine ⟨?_, ?_, ?_, ?_, ?_, ?_⟩
  · rw [zu2_a (by omega), zu2_a (by omega), zu2_a (by omega), zu2_a (by omega), zu2_a (by omega), zu2_eq]
  · rw [zu2_a (by omega), zu2_a (by omega), zu2_a (by omega), zu2_a (by omega), zu2_eq]
  · rw [zu2_i (by omega), zu2_i (by omega), zu2_i (by omega), zu2_eq]
  · rw [zu2_i (by omega), zu2_i (by omega), zu2_eq]
  · rw [zu2_i (by omega), zu2_eq]
  · rw [zu2_eq]
theorem zpjt_o {f : Nat → Nat → Int} {i b j : Nat} {k h a c d e : Int} (hb : b < 1158 ∨ 1162 ≤ b) : zpjt f i k h a c d e b j = f b j := by
  unfold zpjt
  rw [zu2_a (by omega), zu2_a (by omega), zu2_a (by omega), zu2_a (by omega), zu2_a (by omega), zu2_a (by omega)]
theorem zpjt_E {f : Nat → Nat → Int} {i : Nat} {k h a c d e : Int} : zpE (zpjt f i k h a c d e) f := ⟨fun b j hb => zpjt_o (by omega), zpjt_o (by omega)⟩
/-- the journal, one longer -/
def zpf (F : Nat → Nat → Int) (m : Nat) : Nat → Nat → Int := zu2 (zu2 F (855 + 4 * m) 11 1) 2 2 ((m : Int) + 1)
theorem zpf_o {F : Nat → Nat → Int} {b j : Nat} (h : (b ≠ 2 ∨ j ≠ 2) ∧ (b ≠ 855 + 4 * m ∨ j ≠ 11)) : zpf F m b j = F b j := by
  unfold zpf
  rw [zu2_sj h.1, zu2_sj h.2]
/-- what comes of a change -/
def zpR (L m : Nat) (C : zM) (s : Nat → zM) (mc : Nat) (ac : List zV) (hh : Int) (C2 : zM) : Prop := (zqCw m C2 C ∧ C2.1 = C.1 ∧ C2.2.1 (855 + 4 * m) 1 = hh) ∧ ∃ (F : Nat → Nat → Int) (v : Int), (∀ Q : zO → zM → Prop, zFR (zK L) 10 0 (zcall 10 [.inr (.inr 3), .inr (.inr (855 + 4 * m)), .inl (m : Int)]) [] C2 Q = Q (.inl (some (.inl v))) (zwI C2 F)) ∧ (∀ Q : zO → zM → Prop, zFR (zK L) mc 0 (zcall mc ac) [] C Q = ((v = -1 → Q (.inr 1) (zthrown (zwI C2 F))) ∧ (¬ v = -1 → Q (.inl (some (.inl v))) (zwI C2 (zpf F m))))) ∧ F 2 2 = (m : Int) ∧ (∀ b j, (b < 3 ∨ 854 ≤ b) → F b j = C2.2.1 b j) ∧ ((v = -1 ∧ ∃ g, zqR m F g) ∨ (0 ≤ v ∧ ∃ s', zpW L (m + 1) (zwI C2 (zpf F m)) s' ∧ (∀ i, i < m → s' i = s i) ∧ zpE (s' m).2.1 (s m).2.1 ∧ zqR (m + 1) F (s' (m + 1)).2.1))
/-- done -/
theorem zp_ok {mc : Nat} {ac : List zV} {hh : Int} {C2 : zM} (hp : zpR L m C s mc ac hh C2) {v0 : Int} {F0 : Nat → Nat → Int} (e0 : ∀ Q : zO → zM → Prop, zFR (zK L) 10 0 (zcall 10 [.inr (.inr 3), .inr (.inr (855 + 4 * m)), .inl (m : Int)]) [] C2 Q = Q (.inl (some (.inl v0))) (zwI C2 F0)) (hv : 0 ≤ v0) : ∃ s', (∀ Q : zO → zM → Prop, zFR (zK L) mc 0 (zcall mc ac) [] C Q = Q (.inl (some (.inl v0))) (zwI C2 (zpf F0 m))) ∧ zpW L (m + 1) (zwI C2 (zpf F0 m)) s' ∧ zpE (s' m).2.1 (s m).2.1 ∧ zqR (m + 1) F0 (s' (m + 1)).2.1 ∧ (zpf F0 m (855 + 4 * m) 11 = 1 ∧ zpf F0 m (855 + 4 * m) 1 = hh) ∧ (∀ b j, (b < 3 ∨ 854 ≤ b) → F0 b j = C2.2.1 b j) := by
  obtain ⟨⟨hc, c1, hw⟩, F, v, e1, e2, F22, k1, r⟩ := hp
  obtain ⟨u1, u2⟩ := zFR_uq e1 e0
  have ev : v0 = v := Sum.inl.inj (Option.some.inj (Sum.inl.inj u1))
  have eF : F0 = F := congrArg (fun X : zM => X.2.1) u2
  subst ev eF
  rcases r with ⟨q, _⟩ | ⟨_, s', w, _, w2, w3⟩
  · omega
  · refine ⟨s', fun Q => (e2 Q).trans (znot (by omega)), w, w2, w3, ⟨?_, ?_⟩, k1⟩
    · unfold zpf
      rw [zu2_sj (by omega), zu2_eq]
    · rw [zpf_o (by omega), k1 _ _ (by omega)]
      exact hw
/-- refused -/
theorem zp_no {mc : Nat} {ac : List zV} {hh : Int} {C2 : zM} (h : zpW L m C s) (hp : zpR L m C s mc ac hh C2) {F0 : Nat → Nat → Int} (e0 : ∀ Q : zO → zM → Prop, zFR (zK L) 10 0 (zcall 10 [.inr (.inr 3), .inr (.inr (855 + 4 * m)), .inl (m : Int)]) [] C2 Q = Q (.inl (some (.inl (-1)))) (zwI C2 F0)) (hk : ∀ b j, (3 ≤ b ∧ b < 854 ∧ b ≠ 5 ∧ b ≠ 8 ∧ b ≠ 9 ∧ b ≠ 10) → F0 b j = C2.2.1 b j) : (∀ Q : zO → zM → Prop, zFR (zK L) mc 0 (zcall mc ac) [] C Q = Q (.inr 1) (zthrown (zwI C2 F0))) ∧ zpW L m (zthrown (zwI C2 F0)) s := by
  obtain ⟨⟨hc, c1, hw⟩, F, v, e1, e2, F22, k1, r⟩ := hp
  obtain ⟨u1, u2⟩ := zFR_uq e1 e0
  have ev : -1 = v := Sum.inl.inj (Option.some.inj (Sum.inl.inj u1))
  have eF : F0 = F := congrArg (fun X : zM => X.2.1) u2
  subst eF
  have h8 : ∀ j, j < 60 → F0 8 j = 0 ∨ F0 8 j = 1 := by
    rcases r with ⟨_, g, r⟩ | ⟨q, _⟩
    · exact zqR_ch r
    · omega
  refine ⟨fun Q => (e2 Q).trans (zyes ev.symm), zpW_c (C' := zthrown (zwI C2 F0)) h hc.2.2 (fun k j hkm => hc.2.1 _ _ (by omega)) (fun b j hb => ?_) h8 ?_⟩
  · show F0 b j = C.2.1 b j
    rcases hb with ⟨rfl, rfl⟩ | hb | hb
    · rw [F22]; exact h.2.1.2.symm
    · exact (hk b j hb).trans (hc.1 b j (by have := h.2.1.1; omega))
    · exact (k1 b j (by omega)).trans (hc.1 b j (by omega))
  · exact zpM_c (f := C.2.1) (fun b j hb => (k1 b j (by omega)).trans (hc.1 b j (by have := h.2.1.1; omega))) h.2.2.2.2
theorem pm_147 (hw : zpW L m C s) (hm6 : m < 60) {h i a b t : Int} (k0 : 0 ≤ h ∧ h < 3) (k1 : zth C.2.1 i) (k2 : (-60 ≤ a ∧ a ≤ 60) ∧ -60 ≤ b ∧ b ≤ 60) (hb0 : t = 0 ∨ t = 1) : zpR L m C s 147 [.inr (.inr 2), .inl h, .inl i, .inl a, .inl b, .inl t] h (zwI (zbgM C m 2 h i) (zu2 (zu2 (zu2 (zbgM C m 2 h i).2.1 (855 + 4 * m) 6 a) (855 + 4 * m) 7 b) (855 + 4 * m) 9 t)) ∧ (zwI (zbgM C m 2 h i) (zu2 (zu2 (zu2 (zbgM C m 2 h i).2.1 (855 + 4 * m) 6 a) (855 + 4 * m) 7 b) (855 + 4 * m) 9 t)).2.1 (855 + 4 * m) 0 = 2 ∧ (zwI (zbgM C m 2 h i) (zu2 (zu2 (zu2 (zbgM C m 2 h i).2.1 (855 + 4 * m) 6 a) (855 + 4 * m) 7 b) (855 + 4 * m) 9 t)).2.1 (855 + 4 * m) 1 = h ∧ (zwI (zbgM C m 2 h i) (zu2 (zu2 (zu2 (zbgM C m 2 h i).2.1 (855 + 4 * m) 6 a) (855 + 4 * m) 7 b) (855 + 4 * m) 9 t)).2.1 (855 + 4 * m) 2 = i ∧ (zwI (zbgM C m 2 h i) (zu2 (zu2 (zu2 (zbgM C m 2 h i).2.1 (855 + 4 * m) 6 a) (855 + 4 * m) 7 b) (855 + 4 * m) 9 t)).2.1 (855 + 4 * m) 3 = -1 ∧ (zwI (zbgM C m 2 h i) (zu2 (zu2 (zu2 (zbgM C m 2 h i).2.1 (855 + 4 * m) 6 a) (855 + 4 * m) 7 b) (855 + 4 * m) 9 t)).2.1 (855 + 4 * m) 6 = a ∧ (zwI (zbgM C m 2 h i) (zu2 (zu2 (zu2 (zbgM C m 2 h i).2.1 (855 + 4 * m) 6 a) (855 + 4 * m) 7 b) (855 + 4 * m) 9 t)).2.1 (855 + 4 * m) 7 = b ∧ (zwI (zbgM C m 2 h i) (zu2 (zu2 (zu2 (zbgM C m 2 h i).2.1 (855 + 4 * m) 6 a) (855 + 4 * m) 7 b) (855 + 4 * m) 9 t)).2.1 (855 + 4 * m) 9 = t := by
  have hR := hw.1
  have h01 := zqR_01 hw.2.2.1
  have hm : zmd C.2.1 m := ⟨hw.2.1.2, hw.2.1.1⟩
  have hc : zqCw m (zwI (zbgM C m 2 h i) (zu2 (zu2 (zu2 (zbgM C m 2 h i).2.1 (855 + 4 * m) 6 a) (855 + 4 * m) 7 b) (855 + 4 * m) 9 t)) C := by
    refine ⟨fun b9 j9 hb => ?_, fun b9 j9 hb => ?_, rfl⟩
    · show (zu2 (zu2 (zu2 (zbg C.2.1 (855 + 4 * m) 2 h i) (855 + 4 * m) 6 a) (855 + 4 * m) 7 b) (855 + 4 * m) 9 t) b9 j9 = _
      rw [zu2_a (by omega), zu2_a (by omega), zu2_a (by omega), zbg_o (by omega) (by omega)]
    · show zl2 C.2.2.1 (855 + 4 * m) 10 _ b9 j9 = _
      unfold zl2
      rw [if_neg (by omega)]
  obtain ⟨g0, g1, g2, g3, g4, g5, g6, g7, g8, g9⟩ := zpbg_v (f := C.2.1) (c := 855 + 4 * m) (w := 2) (h := h) (t := i)
  have s0 : (zwI (zbgM C m 2 h i) (zu2 (zu2 (zu2 (zbgM C m 2 h i).2.1 (855 + 4 * m) 6 a) (855 + 4 * m) 7 b) (855 + 4 * m) 9 t)).2.1 (855 + 4 * m) 0 = 2 := by
    show (zu2 (zu2 (zu2 (zbg C.2.1 (855 + 4 * m) 2 h i) (855 + 4 * m) 6 a) (855 + 4 * m) 7 b) (855 + 4 * m) 9 t) (855 + 4 * m) 0 = _
    rw [zu2_i (by omega), zu2_i (by omega), zu2_i (by omega), g0]
  have s1 : (zwI (zbgM C m 2 h i) (zu2 (zu2 (zu2 (zbgM C m 2 h i).2.1 (855 + 4 * m) 6 a) (855 + 4 * m) 7 b) (855 + 4 * m) 9 t)).2.1 (855 + 4 * m) 1 = h := by
    show (zu2 (zu2 (zu2 (zbg C.2.1 (855 + 4 * m) 2 h i) (855 + 4 * m) 6 a) (855 + 4 * m) 7 b) (855 + 4 * m) 9 t) (855 + 4 * m) 1 = _
    rw [zu2_i (by omega), zu2_i (by omega), zu2_i (by omega), g1]
  have s2 : (zwI (zbgM C m 2 h i) (zu2 (zu2 (zu2 (zbgM C m 2 h i).2.1 (855 + 4 * m) 6 a) (855 + 4 * m) 7 b) (855 + 4 * m) 9 t)).2.1 (855 + 4 * m) 2 = i := by
    show (zu2 (zu2 (zu2 (zbg C.2.1 (855 + 4 * m) 2 h i) (855 + 4 * m) 6 a) (855 + 4 * m) 7 b) (855 + 4 * m) 9 t) (855 + 4 * m) 2 = _
    rw [zu2_i (by omega), zu2_i (by omega), zu2_i (by omega), g2]
  have s3 : (zwI (zbgM C m 2 h i) (zu2 (zu2 (zu2 (zbgM C m 2 h i).2.1 (855 + 4 * m) 6 a) (855 + 4 * m) 7 b) (855 + 4 * m) 9 t)).2.1 (855 + 4 * m) 3 = -1 := by
    show (zu2 (zu2 (zu2 (zbg C.2.1 (855 + 4 * m) 2 h i) (855 + 4 * m) 6 a) (855 + 4 * m) 7 b) (855 + 4 * m) 9 t) (855 + 4 * m) 3 = _
    rw [zu2_i (by omega), zu2_i (by omega), zu2_i (by omega), g3]
  have s6 : (zwI (zbgM C m 2 h i) (zu2 (zu2 (zu2 (zbgM C m 2 h i).2.1 (855 + 4 * m) 6 a) (855 + 4 * m) 7 b) (855 + 4 * m) 9 t)).2.1 (855 + 4 * m) 6 = a := by
    show (zu2 (zu2 (zu2 (zbg C.2.1 (855 + 4 * m) 2 h i) (855 + 4 * m) 6 a) (855 + 4 * m) 7 b) (855 + 4 * m) 9 t) (855 + 4 * m) 6 = _
    rw [zu2_i (by omega), zu2_i (by omega), zu2_eq]
  have s7 : (zwI (zbgM C m 2 h i) (zu2 (zu2 (zu2 (zbgM C m 2 h i).2.1 (855 + 4 * m) 6 a) (855 + 4 * m) 7 b) (855 + 4 * m) 9 t)).2.1 (855 + 4 * m) 7 = b := by
    show (zu2 (zu2 (zu2 (zbg C.2.1 (855 + 4 * m) 2 h i) (855 + 4 * m) 6 a) (855 + 4 * m) 7 b) (855 + 4 * m) 9 t) (855 + 4 * m) 7 = _
    rw [zu2_i (by omega), zu2_eq]
  have s9 : (zwI (zbgM C m 2 h i) (zu2 (zu2 (zu2 (zbgM C m 2 h i).2.1 (855 + 4 * m) 6 a) (855 + 4 * m) 7 b) (855 + 4 * m) 9 t)).2.1 (855 + 4 * m) 9 = t := by
    show (zu2 (zu2 (zu2 (zbg C.2.1 (855 + 4 * m) 2 h i) (855 + 4 * m) 6 a) (855 + 4 * m) 7 b) (855 + 4 * m) 9 t) (855 + 4 * m) 9 = _
    rw [zu2_eq]
  have je : zqJe (zwI (zbgM C m 2 h i) (zu2 (zu2 (zu2 (zbgM C m 2 h i).2.1 (855 + 4 * m) 6 a) (855 + 4 * m) 7 b) (855 + 4 * m) 9 t)) (zwI (s m) (zpjt (s m).2.1 m 2 h i a b t)) m := by
    obtain ⟨t8, t9, u0, u1, u2, u3⟩ := zpjt_v (f := (s m).2.1) (i := m) (k := 2) (h := h) (a := i) (b := a) (c := b) (d := t)
    exact ⟨⟨s1.trans t9.symm, by rw [zwI_I, t9]; omega⟩, Or.inr (Or.inr (Or.inl (⟨⟨⟨s0, t8⟩, ⟨s2.trans u0.symm, by rw [zwI_I, u0]; exact ⟨k1.1, k1.2.1⟩⟩, s3⟩, ⟨s6.trans u1.symm, by rw [zwI_I, u1]; exact k2.1⟩, ⟨s7.trans u2.symm, by rw [zwI_I, u2]; exact k2.2⟩, ⟨s9.trans u3.symm, by rw [zwI_I, u3]; exact hb0⟩⟩)))⟩
  obtain ⟨F, v, e1, F22, kk, r⟩ := zp_make hw hm6 hc (N2 := zwI (s m) (zpjt (s m).2.1 m 2 h i a b t)) rfl zpjt_E je
  exact ⟨⟨⟨hc, rfl, s1⟩, F, v, e1, fun Q => c147_g (v := v) (M9 := zwI (zwI (zbgM C m 2 h i) (zu2 (zu2 (zu2 (zbgM C m 2 h i).2.1 (855 + 4 * m) 6 a) (855 + 4 * m) 7 b) (855 + 4 * m) 9 t)) F) hR h01 hm hm6 k0 k1 k2 hb0 e1 rfl F22, F22, kk, r⟩, s0, s1, s2, s3, s6, s7, s9⟩
theorem pm_152 (hw : zpW L m C s) (hm6 : m < 60) {h i a : Int} (k0 : 0 ≤ h ∧ h < 3) (k1 : zth C.2.1 i) (k2 : 0 ≤ a ∧ a ≤ 3)  : zpR L m C s 152 [.inr (.inr 2), .inl h, .inl i, .inl a] h (zwI (zbgM C m 7 h i) (zu2 (zbgM C m 7 h i).2.1 (855 + 4 * m) 8 a)) ∧ (zwI (zbgM C m 7 h i) (zu2 (zbgM C m 7 h i).2.1 (855 + 4 * m) 8 a)).2.1 (855 + 4 * m) 0 = 7 ∧ (zwI (zbgM C m 7 h i) (zu2 (zbgM C m 7 h i).2.1 (855 + 4 * m) 8 a)).2.1 (855 + 4 * m) 1 = h ∧ (zwI (zbgM C m 7 h i) (zu2 (zbgM C m 7 h i).2.1 (855 + 4 * m) 8 a)).2.1 (855 + 4 * m) 2 = i ∧ (zwI (zbgM C m 7 h i) (zu2 (zbgM C m 7 h i).2.1 (855 + 4 * m) 8 a)).2.1 (855 + 4 * m) 3 = -1 ∧ (zwI (zbgM C m 7 h i) (zu2 (zbgM C m 7 h i).2.1 (855 + 4 * m) 8 a)).2.1 (855 + 4 * m) 8 = a := by
  have hR := hw.1
  have h01 := zqR_01 hw.2.2.1
  have hm : zmd C.2.1 m := ⟨hw.2.1.2, hw.2.1.1⟩
  have hc : zqCw m (zwI (zbgM C m 7 h i) (zu2 (zbgM C m 7 h i).2.1 (855 + 4 * m) 8 a)) C := by
    refine ⟨fun b9 j9 hb => ?_, fun b9 j9 hb => ?_, rfl⟩
    · show (zu2 (zbg C.2.1 (855 + 4 * m) 7 h i) (855 + 4 * m) 8 a) b9 j9 = _
      rw [zu2_a (by omega), zbg_o (by omega) (by omega)]
    · show zl2 C.2.2.1 (855 + 4 * m) 10 _ b9 j9 = _
      unfold zl2
      rw [if_neg (by omega)]
  obtain ⟨g0, g1, g2, g3, g4, g5, g6, g7, g8, g9⟩ := zpbg_v (f := C.2.1) (c := 855 + 4 * m) (w := 7) (h := h) (t := i)
  have s0 : (zwI (zbgM C m 7 h i) (zu2 (zbgM C m 7 h i).2.1 (855 + 4 * m) 8 a)).2.1 (855 + 4 * m) 0 = 7 := by
    show (zu2 (zbg C.2.1 (855 + 4 * m) 7 h i) (855 + 4 * m) 8 a) (855 + 4 * m) 0 = _
    rw [zu2_i (by omega), g0]
  have s1 : (zwI (zbgM C m 7 h i) (zu2 (zbgM C m 7 h i).2.1 (855 + 4 * m) 8 a)).2.1 (855 + 4 * m) 1 = h := by
    show (zu2 (zbg C.2.1 (855 + 4 * m) 7 h i) (855 + 4 * m) 8 a) (855 + 4 * m) 1 = _
    rw [zu2_i (by omega), g1]
  have s2 : (zwI (zbgM C m 7 h i) (zu2 (zbgM C m 7 h i).2.1 (855 + 4 * m) 8 a)).2.1 (855 + 4 * m) 2 = i := by
    show (zu2 (zbg C.2.1 (855 + 4 * m) 7 h i) (855 + 4 * m) 8 a) (855 + 4 * m) 2 = _
    rw [zu2_i (by omega), g2]
  have s3 : (zwI (zbgM C m 7 h i) (zu2 (zbgM C m 7 h i).2.1 (855 + 4 * m) 8 a)).2.1 (855 + 4 * m) 3 = -1 := by
    show (zu2 (zbg C.2.1 (855 + 4 * m) 7 h i) (855 + 4 * m) 8 a) (855 + 4 * m) 3 = _
    rw [zu2_i (by omega), g3]
  have s8 : (zwI (zbgM C m 7 h i) (zu2 (zbgM C m 7 h i).2.1 (855 + 4 * m) 8 a)).2.1 (855 + 4 * m) 8 = a := by
    show (zu2 (zbg C.2.1 (855 + 4 * m) 7 h i) (855 + 4 * m) 8 a) (855 + 4 * m) 8 = _
    rw [zu2_eq]
  have je : zqJe (zwI (zbgM C m 7 h i) (zu2 (zbgM C m 7 h i).2.1 (855 + 4 * m) 8 a)) (zwI (s m) (zpjt (s m).2.1 m 7 h i a 0 0)) m := by
    obtain ⟨t8, t9, u0, u1, u2, u3⟩ := zpjt_v (f := (s m).2.1) (i := m) (k := 7) (h := h) (a := i) (b := a) (c := 0) (d := 0)
    exact ⟨⟨s1.trans t9.symm, by rw [zwI_I, t9]; omega⟩, Or.inr (Or.inr (Or.inr (Or.inr (Or.inr (Or.inr (Or.inr (Or.inl (⟨⟨⟨s0, t8⟩, ⟨s2.trans u0.symm, by rw [zwI_I, u0]; exact ⟨k1.1, k1.2.1⟩⟩, s3⟩, ⟨s8.trans u1.symm, by rw [zwI_I, u1]; exact k2⟩⟩))))))))⟩
  obtain ⟨F, v, e1, F22, kk, r⟩ := zp_make hw hm6 hc (N2 := zwI (s m) (zpjt (s m).2.1 m 7 h i a 0 0)) rfl zpjt_E je
  exact ⟨⟨⟨hc, rfl, s1⟩, F, v, e1, fun Q => c152_g (v := v) (M9 := zwI (zwI (zbgM C m 7 h i) (zu2 (zbgM C m 7 h i).2.1 (855 + 4 * m) 8 a)) F) hR h01 hm hm6 k0 k1 k2  e1 rfl F22, F22, kk, r⟩, s0, s1, s2, s3, s8⟩
theorem pm_153 (hw : zpW L m C s) (hm6 : m < 60) {h i a : Int} (k0 : 0 ≤ h ∧ h < 3) (k1 : zth C.2.1 i) (k2 : 0 ≤ a ∧ a < 4)  : zpR L m C s 153 [.inr (.inr 2), .inl h, .inl i, .inl a] h (zwI (zbgM C m 8 h i) (zu2 (zbgM C m 8 h i).2.1 (855 + 4 * m) 4 a)) ∧ (zwI (zbgM C m 8 h i) (zu2 (zbgM C m 8 h i).2.1 (855 + 4 * m) 4 a)).2.1 (855 + 4 * m) 0 = 8 ∧ (zwI (zbgM C m 8 h i) (zu2 (zbgM C m 8 h i).2.1 (855 + 4 * m) 4 a)).2.1 (855 + 4 * m) 1 = h ∧ (zwI (zbgM C m 8 h i) (zu2 (zbgM C m 8 h i).2.1 (855 + 4 * m) 4 a)).2.1 (855 + 4 * m) 2 = i ∧ (zwI (zbgM C m 8 h i) (zu2 (zbgM C m 8 h i).2.1 (855 + 4 * m) 4 a)).2.1 (855 + 4 * m) 3 = -1 ∧ (zwI (zbgM C m 8 h i) (zu2 (zbgM C m 8 h i).2.1 (855 + 4 * m) 4 a)).2.1 (855 + 4 * m) 4 = a := by
  have hR := hw.1
  have h01 := zqR_01 hw.2.2.1
  have hm : zmd C.2.1 m := ⟨hw.2.1.2, hw.2.1.1⟩
  have hc : zqCw m (zwI (zbgM C m 8 h i) (zu2 (zbgM C m 8 h i).2.1 (855 + 4 * m) 4 a)) C := by
    refine ⟨fun b9 j9 hb => ?_, fun b9 j9 hb => ?_, rfl⟩
    · show (zu2 (zbg C.2.1 (855 + 4 * m) 8 h i) (855 + 4 * m) 4 a) b9 j9 = _
      rw [zu2_a (by omega), zbg_o (by omega) (by omega)]
    · show zl2 C.2.2.1 (855 + 4 * m) 10 _ b9 j9 = _
      unfold zl2
      rw [if_neg (by omega)]
  obtain ⟨g0, g1, g2, g3, g4, g5, g6, g7, g8, g9⟩ := zpbg_v (f := C.2.1) (c := 855 + 4 * m) (w := 8) (h := h) (t := i)
  have s0 : (zwI (zbgM C m 8 h i) (zu2 (zbgM C m 8 h i).2.1 (855 + 4 * m) 4 a)).2.1 (855 + 4 * m) 0 = 8 := by
    show (zu2 (zbg C.2.1 (855 + 4 * m) 8 h i) (855 + 4 * m) 4 a) (855 + 4 * m) 0 = _
    rw [zu2_i (by omega), g0]
  have s1 : (zwI (zbgM C m 8 h i) (zu2 (zbgM C m 8 h i).2.1 (855 + 4 * m) 4 a)).2.1 (855 + 4 * m) 1 = h := by
    show (zu2 (zbg C.2.1 (855 + 4 * m) 8 h i) (855 + 4 * m) 4 a) (855 + 4 * m) 1 = _
    rw [zu2_i (by omega), g1]
  have s2 : (zwI (zbgM C m 8 h i) (zu2 (zbgM C m 8 h i).2.1 (855 + 4 * m) 4 a)).2.1 (855 + 4 * m) 2 = i := by
    show (zu2 (zbg C.2.1 (855 + 4 * m) 8 h i) (855 + 4 * m) 4 a) (855 + 4 * m) 2 = _
    rw [zu2_i (by omega), g2]
  have s3 : (zwI (zbgM C m 8 h i) (zu2 (zbgM C m 8 h i).2.1 (855 + 4 * m) 4 a)).2.1 (855 + 4 * m) 3 = -1 := by
    show (zu2 (zbg C.2.1 (855 + 4 * m) 8 h i) (855 + 4 * m) 4 a) (855 + 4 * m) 3 = _
    rw [zu2_i (by omega), g3]
  have s4 : (zwI (zbgM C m 8 h i) (zu2 (zbgM C m 8 h i).2.1 (855 + 4 * m) 4 a)).2.1 (855 + 4 * m) 4 = a := by
    show (zu2 (zbg C.2.1 (855 + 4 * m) 8 h i) (855 + 4 * m) 4 a) (855 + 4 * m) 4 = _
    rw [zu2_eq]
  have je : zqJe (zwI (zbgM C m 8 h i) (zu2 (zbgM C m 8 h i).2.1 (855 + 4 * m) 4 a)) (zwI (s m) (zpjt (s m).2.1 m 8 h i a 0 0)) m := by
    obtain ⟨t8, t9, u0, u1, u2, u3⟩ := zpjt_v (f := (s m).2.1) (i := m) (k := 8) (h := h) (a := i) (b := a) (c := 0) (d := 0)
    exact ⟨⟨s1.trans t9.symm, by rw [zwI_I, t9]; omega⟩, Or.inr (Or.inr (Or.inr (Or.inr (Or.inr (Or.inr (Or.inr (Or.inr (Or.inl (⟨⟨⟨s0, t8⟩, ⟨s2.trans u0.symm, by rw [zwI_I, u0]; exact ⟨k1.1, k1.2.1⟩⟩, s3⟩, ⟨s4.trans u1.symm, by rw [zwI_I, u1]; omega⟩⟩)))))))))⟩
  obtain ⟨F, v, e1, F22, kk, r⟩ := zp_make hw hm6 hc (N2 := zwI (s m) (zpjt (s m).2.1 m 8 h i a 0 0)) rfl zpjt_E je
  exact ⟨⟨⟨hc, rfl, s1⟩, F, v, e1, fun Q => c153_g (v := v) (M9 := zwI (zwI (zbgM C m 8 h i) (zu2 (zbgM C m 8 h i).2.1 (855 + 4 * m) 4 a)) F) hR h01 hm hm6 k0 k1 k2  e1 rfl F22, F22, kk, r⟩, s0, s1, s2, s3, s4⟩
theorem pm_155 (hw : zpW L m C s) (hm6 : m < 60) {h i j a : Int} (k0 : 0 ≤ h ∧ h < 3) (k1 : zth C.2.1 i) (k2 : zth C.2.1 j) (k3 : 0 ≤ a ∧ a ≤ 2)  : zpR L m C s 155 [.inr (.inr 2), .inl h, .inl i, .inl j, .inl a] h (zwI (zbgM C m 10 h i) (zu2 (zu2 (zbgM C m 10 h i).2.1 (855 + 4 * m) 3 j) (855 + 4 * m) 8 a)) ∧ (zwI (zbgM C m 10 h i) (zu2 (zu2 (zbgM C m 10 h i).2.1 (855 + 4 * m) 3 j) (855 + 4 * m) 8 a)).2.1 (855 + 4 * m) 0 = 10 ∧ (zwI (zbgM C m 10 h i) (zu2 (zu2 (zbgM C m 10 h i).2.1 (855 + 4 * m) 3 j) (855 + 4 * m) 8 a)).2.1 (855 + 4 * m) 1 = h ∧ (zwI (zbgM C m 10 h i) (zu2 (zu2 (zbgM C m 10 h i).2.1 (855 + 4 * m) 3 j) (855 + 4 * m) 8 a)).2.1 (855 + 4 * m) 2 = i ∧ (zwI (zbgM C m 10 h i) (zu2 (zu2 (zbgM C m 10 h i).2.1 (855 + 4 * m) 3 j) (855 + 4 * m) 8 a)).2.1 (855 + 4 * m) 3 = j ∧ (zwI (zbgM C m 10 h i) (zu2 (zu2 (zbgM C m 10 h i).2.1 (855 + 4 * m) 3 j) (855 + 4 * m) 8 a)).2.1 (855 + 4 * m) 8 = a := by
  have hR := hw.1
  have h01 := zqR_01 hw.2.2.1
  have hm : zmd C.2.1 m := ⟨hw.2.1.2, hw.2.1.1⟩
  have hc : zqCw m (zwI (zbgM C m 10 h i) (zu2 (zu2 (zbgM C m 10 h i).2.1 (855 + 4 * m) 3 j) (855 + 4 * m) 8 a)) C := by
    refine ⟨fun b9 j9 hb => ?_, fun b9 j9 hb => ?_, rfl⟩
    · show (zu2 (zu2 (zbg C.2.1 (855 + 4 * m) 10 h i) (855 + 4 * m) 3 j) (855 + 4 * m) 8 a) b9 j9 = _
      rw [zu2_a (by omega), zu2_a (by omega), zbg_o (by omega) (by omega)]
    · show zl2 C.2.2.1 (855 + 4 * m) 10 _ b9 j9 = _
      unfold zl2
      rw [if_neg (by omega)]
  obtain ⟨g0, g1, g2, g3, g4, g5, g6, g7, g8, g9⟩ := zpbg_v (f := C.2.1) (c := 855 + 4 * m) (w := 10) (h := h) (t := i)
  have s0 : (zwI (zbgM C m 10 h i) (zu2 (zu2 (zbgM C m 10 h i).2.1 (855 + 4 * m) 3 j) (855 + 4 * m) 8 a)).2.1 (855 + 4 * m) 0 = 10 := by
    show (zu2 (zu2 (zbg C.2.1 (855 + 4 * m) 10 h i) (855 + 4 * m) 3 j) (855 + 4 * m) 8 a) (855 + 4 * m) 0 = _
    rw [zu2_i (by omega), zu2_i (by omega), g0]
  have s1 : (zwI (zbgM C m 10 h i) (zu2 (zu2 (zbgM C m 10 h i).2.1 (855 + 4 * m) 3 j) (855 + 4 * m) 8 a)).2.1 (855 + 4 * m) 1 = h := by
    show (zu2 (zu2 (zbg C.2.1 (855 + 4 * m) 10 h i) (855 + 4 * m) 3 j) (855 + 4 * m) 8 a) (855 + 4 * m) 1 = _
    rw [zu2_i (by omega), zu2_i (by omega), g1]
  have s2 : (zwI (zbgM C m 10 h i) (zu2 (zu2 (zbgM C m 10 h i).2.1 (855 + 4 * m) 3 j) (855 + 4 * m) 8 a)).2.1 (855 + 4 * m) 2 = i := by
    show (zu2 (zu2 (zbg C.2.1 (855 + 4 * m) 10 h i) (855 + 4 * m) 3 j) (855 + 4 * m) 8 a) (855 + 4 * m) 2 = _
    rw [zu2_i (by omega), zu2_i (by omega), g2]
  have s3 : (zwI (zbgM C m 10 h i) (zu2 (zu2 (zbgM C m 10 h i).2.1 (855 + 4 * m) 3 j) (855 + 4 * m) 8 a)).2.1 (855 + 4 * m) 3 = j := by
    show (zu2 (zu2 (zbg C.2.1 (855 + 4 * m) 10 h i) (855 + 4 * m) 3 j) (855 + 4 * m) 8 a) (855 + 4 * m) 3 = _
    rw [zu2_i (by omega), zu2_eq]
  have s8 : (zwI (zbgM C m 10 h i) (zu2 (zu2 (zbgM C m 10 h i).2.1 (855 + 4 * m) 3 j) (855 + 4 * m) 8 a)).2.1 (855 + 4 * m) 8 = a := by
    show (zu2 (zu2 (zbg C.2.1 (855 + 4 * m) 10 h i) (855 + 4 * m) 3 j) (855 + 4 * m) 8 a) (855 + 4 * m) 8 = _
    rw [zu2_eq]
  have je : zqJe (zwI (zbgM C m 10 h i) (zu2 (zu2 (zbgM C m 10 h i).2.1 (855 + 4 * m) 3 j) (855 + 4 * m) 8 a)) (zwI (s m) (zpjt (s m).2.1 m 10 h i j a 0)) m := by
    obtain ⟨t8, t9, u0, u1, u2, u3⟩ := zpjt_v (f := (s m).2.1) (i := m) (k := 10) (h := h) (a := i) (b := j) (c := a) (d := 0)
    exact ⟨⟨s1.trans t9.symm, by rw [zwI_I, t9]; omega⟩, Or.inr (Or.inr (Or.inr (Or.inr (Or.inr (Or.inr (Or.inr (Or.inr (Or.inr (Or.inr (Or.inl (⟨⟨s0, t8⟩, ⟨s2.trans u0.symm, by rw [zwI_I, u0]; exact ⟨k1.1, k1.2.1⟩⟩, ⟨s3.trans u1.symm, by rw [zwI_I, u1]; exact ⟨k2.1, k2.2.1⟩⟩, s8.trans u2.symm⟩)))))))))))⟩
  obtain ⟨F, v, e1, F22, kk, r⟩ := zp_make hw hm6 hc (N2 := zwI (s m) (zpjt (s m).2.1 m 10 h i j a 0)) rfl zpjt_E je
  exact ⟨⟨⟨hc, rfl, s1⟩, F, v, e1, fun Q => c155_g (v := v) (M9 := zwI (zwI (zbgM C m 10 h i) (zu2 (zu2 (zbgM C m 10 h i).2.1 (855 + 4 * m) 3 j) (855 + 4 * m) 8 a)) F) hR h01 hm hm6 k0 k1 k2 k3  e1 rfl F22, F22, kk, r⟩, s0, s1, s2, s3, s8⟩
theorem pm_161 (hw : zpW L m C s) (hm6 : m < 60) {h t a : Int} (k0 : 0 ≤ h ∧ h < 3) (k1 : 0 ≤ a ∧ a ≤ 60) (hb0 : t = 0 ∨ t = 1) : zpR L m C s 161 [.inr (.inr 2), .inl h, .inl t, .inl a] h (zwI (zbgM C m 15 h (-1)) (zu2 (zu2 (zbgM C m 15 h (-1)).2.1 (855 + 4 * m) 9 t) (855 + 4 * m) 8 a)) ∧ (zwI (zbgM C m 15 h (-1)) (zu2 (zu2 (zbgM C m 15 h (-1)).2.1 (855 + 4 * m) 9 t) (855 + 4 * m) 8 a)).2.1 (855 + 4 * m) 0 = 15 ∧ (zwI (zbgM C m 15 h (-1)) (zu2 (zu2 (zbgM C m 15 h (-1)).2.1 (855 + 4 * m) 9 t) (855 + 4 * m) 8 a)).2.1 (855 + 4 * m) 1 = h ∧ (zwI (zbgM C m 15 h (-1)) (zu2 (zu2 (zbgM C m 15 h (-1)).2.1 (855 + 4 * m) 9 t) (855 + 4 * m) 8 a)).2.1 (855 + 4 * m) 2 = -1 ∧ (zwI (zbgM C m 15 h (-1)) (zu2 (zu2 (zbgM C m 15 h (-1)).2.1 (855 + 4 * m) 9 t) (855 + 4 * m) 8 a)).2.1 (855 + 4 * m) 3 = -1 ∧ (zwI (zbgM C m 15 h (-1)) (zu2 (zu2 (zbgM C m 15 h (-1)).2.1 (855 + 4 * m) 9 t) (855 + 4 * m) 8 a)).2.1 (855 + 4 * m) 9 = t ∧ (zwI (zbgM C m 15 h (-1)) (zu2 (zu2 (zbgM C m 15 h (-1)).2.1 (855 + 4 * m) 9 t) (855 + 4 * m) 8 a)).2.1 (855 + 4 * m) 8 = a := by
  have hR := hw.1
  have h01 := zqR_01 hw.2.2.1
  have hm : zmd C.2.1 m := ⟨hw.2.1.2, hw.2.1.1⟩
  have hc : zqCw m (zwI (zbgM C m 15 h (-1)) (zu2 (zu2 (zbgM C m 15 h (-1)).2.1 (855 + 4 * m) 9 t) (855 + 4 * m) 8 a)) C := by
    refine ⟨fun b9 j9 hb => ?_, fun b9 j9 hb => ?_, rfl⟩
    · show (zu2 (zu2 (zbg C.2.1 (855 + 4 * m) 15 h (-1)) (855 + 4 * m) 9 t) (855 + 4 * m) 8 a) b9 j9 = _
      rw [zu2_a (by omega), zu2_a (by omega), zbg_o (by omega) (by omega)]
    · show zl2 C.2.2.1 (855 + 4 * m) 10 _ b9 j9 = _
      unfold zl2
      rw [if_neg (by omega)]
  obtain ⟨g0, g1, g2, g3, g4, g5, g6, g7, g8, g9⟩ := zpbg_v (f := C.2.1) (c := 855 + 4 * m) (w := 15) (h := h) (t := -1)
  have s0 : (zwI (zbgM C m 15 h (-1)) (zu2 (zu2 (zbgM C m 15 h (-1)).2.1 (855 + 4 * m) 9 t) (855 + 4 * m) 8 a)).2.1 (855 + 4 * m) 0 = 15 := by
    show (zu2 (zu2 (zbg C.2.1 (855 + 4 * m) 15 h (-1)) (855 + 4 * m) 9 t) (855 + 4 * m) 8 a) (855 + 4 * m) 0 = _
    rw [zu2_i (by omega), zu2_i (by omega), g0]
  have s1 : (zwI (zbgM C m 15 h (-1)) (zu2 (zu2 (zbgM C m 15 h (-1)).2.1 (855 + 4 * m) 9 t) (855 + 4 * m) 8 a)).2.1 (855 + 4 * m) 1 = h := by
    show (zu2 (zu2 (zbg C.2.1 (855 + 4 * m) 15 h (-1)) (855 + 4 * m) 9 t) (855 + 4 * m) 8 a) (855 + 4 * m) 1 = _
    rw [zu2_i (by omega), zu2_i (by omega), g1]
  have s2 : (zwI (zbgM C m 15 h (-1)) (zu2 (zu2 (zbgM C m 15 h (-1)).2.1 (855 + 4 * m) 9 t) (855 + 4 * m) 8 a)).2.1 (855 + 4 * m) 2 = -1 := by
    show (zu2 (zu2 (zbg C.2.1 (855 + 4 * m) 15 h (-1)) (855 + 4 * m) 9 t) (855 + 4 * m) 8 a) (855 + 4 * m) 2 = _
    rw [zu2_i (by omega), zu2_i (by omega), g2]
  have s3 : (zwI (zbgM C m 15 h (-1)) (zu2 (zu2 (zbgM C m 15 h (-1)).2.1 (855 + 4 * m) 9 t) (855 + 4 * m) 8 a)).2.1 (855 + 4 * m) 3 = -1 := by
    show (zu2 (zu2 (zbg C.2.1 (855 + 4 * m) 15 h (-1)) (855 + 4 * m) 9 t) (855 + 4 * m) 8 a) (855 + 4 * m) 3 = _
    rw [zu2_i (by omega), zu2_i (by omega), g3]
  have s9 : (zwI (zbgM C m 15 h (-1)) (zu2 (zu2 (zbgM C m 15 h (-1)).2.1 (855 + 4 * m) 9 t) (855 + 4 * m) 8 a)).2.1 (855 + 4 * m) 9 = t := by
    show (zu2 (zu2 (zbg C.2.1 (855 + 4 * m) 15 h (-1)) (855 + 4 * m) 9 t) (855 + 4 * m) 8 a) (855 + 4 * m) 9 = _
    rw [zu2_i (by omega), zu2_eq]
  have s8 : (zwI (zbgM C m 15 h (-1)) (zu2 (zu2 (zbgM C m 15 h (-1)).2.1 (855 + 4 * m) 9 t) (855 + 4 * m) 8 a)).2.1 (855 + 4 * m) 8 = a := by
    show (zu2 (zu2 (zbg C.2.1 (855 + 4 * m) 15 h (-1)) (855 + 4 * m) 9 t) (855 + 4 * m) 8 a) (855 + 4 * m) 8 = _
    rw [zu2_eq]
  have je : zqJe (zwI (zbgM C m 15 h (-1)) (zu2 (zu2 (zbgM C m 15 h (-1)).2.1 (855 + 4 * m) 9 t) (855 + 4 * m) 8 a)) (zwI (s m) (zpjt (s m).2.1 m 15 h t a 0 0)) m := by
    obtain ⟨t8, t9, u0, u1, u2, u3⟩ := zpjt_v (f := (s m).2.1) (i := m) (k := 15) (h := h) (a := t) (b := a) (c := 0) (d := 0)
    exact ⟨⟨s1.trans t9.symm, by rw [zwI_I, t9]; omega⟩, Or.inr (Or.inr (Or.inr (Or.inr (Or.inr (Or.inr (Or.inr (Or.inr (Or.inr (Or.inr (Or.inr (Or.inr (Or.inr (Or.inr (Or.inr (Or.inl (⟨⟨s0, t8⟩, s2, s3, ⟨s9.trans u0.symm, by rw [zwI_I, u0]; exact hb0⟩, ⟨s8.trans u1.symm, by rw [zwI_I, u1]; exact k1⟩⟩))))))))))))))))⟩
  obtain ⟨F, v, e1, F22, kk, r⟩ := zp_make hw hm6 hc (N2 := zwI (s m) (zpjt (s m).2.1 m 15 h t a 0 0)) rfl zpjt_E je
  exact ⟨⟨⟨hc, rfl, s1⟩, F, v, e1, fun Q => c161_g (v := v) (M9 := zwI (zwI (zbgM C m 15 h (-1)) (zu2 (zu2 (zbgM C m 15 h (-1)).2.1 (855 + 4 * m) 9 t) (855 + 4 * m) 8 a)) F) hR h01 hm hm6 k0 k1 hb0 e1 rfl F22, F22, kk, r⟩, s0, s1, s2, s3, s9, s8⟩
theorem pm_162 (hw : zpW L m C s) (hm6 : m < 60) {h i : Int} (k0 : 0 ≤ h ∧ h < 3) (k1 : zth C.2.1 i)  : zpR L m C s 162 [.inr (.inr 2), .inl h, .inl i] h (zbgM C m 16 h i) ∧ (zbgM C m 16 h i).2.1 (855 + 4 * m) 0 = 16 ∧ (zbgM C m 16 h i).2.1 (855 + 4 * m) 1 = h ∧ (zbgM C m 16 h i).2.1 (855 + 4 * m) 2 = i ∧ (zbgM C m 16 h i).2.1 (855 + 4 * m) 3 = -1 := by
  have hR := hw.1
  have h01 := zqR_01 hw.2.2.1
  have hm : zmd C.2.1 m := ⟨hw.2.1.2, hw.2.1.1⟩
  have hc : zqCw m (zbgM C m 16 h i) C := by
    refine ⟨fun b9 j9 hb => ?_, fun b9 j9 hb => ?_, rfl⟩
    · show (zbg C.2.1 (855 + 4 * m) 16 h i) b9 j9 = _
      rw [zbg_o (by omega) (by omega)]
    · show zl2 C.2.2.1 (855 + 4 * m) 10 _ b9 j9 = _
      unfold zl2
      rw [if_neg (by omega)]
  obtain ⟨g0, g1, g2, g3, g4, g5, g6, g7, g8, g9⟩ := zpbg_v (f := C.2.1) (c := 855 + 4 * m) (w := 16) (h := h) (t := i)
  have s0 : (zbgM C m 16 h i).2.1 (855 + 4 * m) 0 = 16 := by
    show (zbg C.2.1 (855 + 4 * m) 16 h i) (855 + 4 * m) 0 = _
    rw [g0]
  have s1 : (zbgM C m 16 h i).2.1 (855 + 4 * m) 1 = h := by
    show (zbg C.2.1 (855 + 4 * m) 16 h i) (855 + 4 * m) 1 = _
    rw [g1]
  have s2 : (zbgM C m 16 h i).2.1 (855 + 4 * m) 2 = i := by
    show (zbg C.2.1 (855 + 4 * m) 16 h i) (855 + 4 * m) 2 = _
    rw [g2]
  have s3 : (zbgM C m 16 h i).2.1 (855 + 4 * m) 3 = -1 := by
    show (zbg C.2.1 (855 + 4 * m) 16 h i) (855 + 4 * m) 3 = _
    rw [g3]
  have je : zqJe (zbgM C m 16 h i) (zwI (s m) (zpjt (s m).2.1 m 16 h i 0 0 0)) m := by
    obtain ⟨t8, t9, u0, u1, u2, u3⟩ := zpjt_v (f := (s m).2.1) (i := m) (k := 16) (h := h) (a := i) (b := 0) (c := 0) (d := 0)
    exact ⟨⟨s1.trans t9.symm, by rw [zwI_I, t9]; omega⟩, Or.inr (Or.inr (Or.inr (Or.inr (Or.inr (Or.inr (Or.inr (Or.inr (Or.inr (Or.inr (Or.inr (Or.inr (Or.inr (Or.inr (Or.inr (Or.inr (Or.inl (⟨⟨s0, t8⟩, ⟨s2.trans u0.symm, by rw [zwI_I, u0]; exact ⟨k1.1, k1.2.1⟩⟩, s3⟩)))))))))))))))))⟩
  obtain ⟨F, v, e1, F22, kk, r⟩ := zp_make hw hm6 hc (N2 := zwI (s m) (zpjt (s m).2.1 m 16 h i 0 0 0)) rfl zpjt_E je
  exact ⟨⟨⟨hc, rfl, s1⟩, F, v, e1, fun Q => c162_g (v := v) (M9 := zwI (zbgM C m 16 h i) F) hR h01 hm hm6 k0 k1  e1 rfl F22, F22, kk, r⟩, s0, s1, s2, s3⟩
theorem pm_163 (hw : zpW L m C s) (hm6 : m < 60) {h a i j : Int} (k0 : 0 ≤ h ∧ h < 3) (k1 : zth C.2.1 i) (k2 : zth C.2.1 j) (k3 : 0 ≤ a ∧ a ≤ 3)  : zpR L m C s 163 [.inr (.inr 2), .inl h, .inl a, .inl i, .inl j] h (zwI (zbgM C m 17 h i) (zu2 (zu2 (zbgM C m 17 h i).2.1 (855 + 4 * m) 3 j) (855 + 4 * m) 8 a)) ∧ (zwI (zbgM C m 17 h i) (zu2 (zu2 (zbgM C m 17 h i).2.1 (855 + 4 * m) 3 j) (855 + 4 * m) 8 a)).2.1 (855 + 4 * m) 0 = 17 ∧ (zwI (zbgM C m 17 h i) (zu2 (zu2 (zbgM C m 17 h i).2.1 (855 + 4 * m) 3 j) (855 + 4 * m) 8 a)).2.1 (855 + 4 * m) 1 = h ∧ (zwI (zbgM C m 17 h i) (zu2 (zu2 (zbgM C m 17 h i).2.1 (855 + 4 * m) 3 j) (855 + 4 * m) 8 a)).2.1 (855 + 4 * m) 2 = i ∧ (zwI (zbgM C m 17 h i) (zu2 (zu2 (zbgM C m 17 h i).2.1 (855 + 4 * m) 3 j) (855 + 4 * m) 8 a)).2.1 (855 + 4 * m) 3 = j ∧ (zwI (zbgM C m 17 h i) (zu2 (zu2 (zbgM C m 17 h i).2.1 (855 + 4 * m) 3 j) (855 + 4 * m) 8 a)).2.1 (855 + 4 * m) 8 = a := by
  have hR := hw.1
  have h01 := zqR_01 hw.2.2.1
  have hm : zmd C.2.1 m := ⟨hw.2.1.2, hw.2.1.1⟩
  have hc : zqCw m (zwI (zbgM C m 17 h i) (zu2 (zu2 (zbgM C m 17 h i).2.1 (855 + 4 * m) 3 j) (855 + 4 * m) 8 a)) C := by
    refine ⟨fun b9 j9 hb => ?_, fun b9 j9 hb => ?_, rfl⟩
    · show (zu2 (zu2 (zbg C.2.1 (855 + 4 * m) 17 h i) (855 + 4 * m) 3 j) (855 + 4 * m) 8 a) b9 j9 = _
      rw [zu2_a (by omega), zu2_a (by omega), zbg_o (by omega) (by omega)]
    · show zl2 C.2.2.1 (855 + 4 * m) 10 _ b9 j9 = _
      unfold zl2
      rw [if_neg (by omega)]
  obtain ⟨g0, g1, g2, g3, g4, g5, g6, g7, g8, g9⟩ := zpbg_v (f := C.2.1) (c := 855 + 4 * m) (w := 17) (h := h) (t := i)
  have s0 : (zwI (zbgM C m 17 h i) (zu2 (zu2 (zbgM C m 17 h i).2.1 (855 + 4 * m) 3 j) (855 + 4 * m) 8 a)).2.1 (855 + 4 * m) 0 = 17 := by
    show (zu2 (zu2 (zbg C.2.1 (855 + 4 * m) 17 h i) (855 + 4 * m) 3 j) (855 + 4 * m) 8 a) (855 + 4 * m) 0 = _
    rw [zu2_i (by omega), zu2_i (by omega), g0]
  have s1 : (zwI (zbgM C m 17 h i) (zu2 (zu2 (zbgM C m 17 h i).2.1 (855 + 4 * m) 3 j) (855 + 4 * m) 8 a)).2.1 (855 + 4 * m) 1 = h := by
    show (zu2 (zu2 (zbg C.2.1 (855 + 4 * m) 17 h i) (855 + 4 * m) 3 j) (855 + 4 * m) 8 a) (855 + 4 * m) 1 = _
    rw [zu2_i (by omega), zu2_i (by omega), g1]
  have s2 : (zwI (zbgM C m 17 h i) (zu2 (zu2 (zbgM C m 17 h i).2.1 (855 + 4 * m) 3 j) (855 + 4 * m) 8 a)).2.1 (855 + 4 * m) 2 = i := by
    show (zu2 (zu2 (zbg C.2.1 (855 + 4 * m) 17 h i) (855 + 4 * m) 3 j) (855 + 4 * m) 8 a) (855 + 4 * m) 2 = _
    rw [zu2_i (by omega), zu2_i (by omega), g2]
  have s3 : (zwI (zbgM C m 17 h i) (zu2 (zu2 (zbgM C m 17 h i).2.1 (855 + 4 * m) 3 j) (855 + 4 * m) 8 a)).2.1 (855 + 4 * m) 3 = j := by
    show (zu2 (zu2 (zbg C.2.1 (855 + 4 * m) 17 h i) (855 + 4 * m) 3 j) (855 + 4 * m) 8 a) (855 + 4 * m) 3 = _
    rw [zu2_i (by omega), zu2_eq]
  have s8 : (zwI (zbgM C m 17 h i) (zu2 (zu2 (zbgM C m 17 h i).2.1 (855 + 4 * m) 3 j) (855 + 4 * m) 8 a)).2.1 (855 + 4 * m) 8 = a := by
    show (zu2 (zu2 (zbg C.2.1 (855 + 4 * m) 17 h i) (855 + 4 * m) 3 j) (855 + 4 * m) 8 a) (855 + 4 * m) 8 = _
    rw [zu2_eq]
  have je : zqJe (zwI (zbgM C m 17 h i) (zu2 (zu2 (zbgM C m 17 h i).2.1 (855 + 4 * m) 3 j) (855 + 4 * m) 8 a)) (zwI (s m) (zpjt (s m).2.1 m 17 h a i j 0)) m := by
    obtain ⟨t8, t9, u0, u1, u2, u3⟩ := zpjt_v (f := (s m).2.1) (i := m) (k := 17) (h := h) (a := a) (b := i) (c := j) (d := 0)
    exact ⟨⟨s1.trans t9.symm, by rw [zwI_I, t9]; omega⟩, Or.inr (Or.inr (Or.inr (Or.inr (Or.inr (Or.inr (Or.inr (Or.inr (Or.inr (Or.inr (Or.inr (Or.inr (Or.inr (Or.inr (Or.inr (Or.inr (Or.inr ((⟨⟨s0, t8⟩, s1.trans t9.symm, ⟨s2.trans u1.symm, by rw [zwI_I, u1]; exact ⟨k1.1, k1.2.1⟩⟩, ⟨s3.trans u2.symm, by rw [zwI_I, u2]; exact ⟨k2.1, k2.2.1⟩⟩, ⟨s8.trans u0.symm, by rw [zwI_I, u0]; exact k3⟩⟩))))))))))))))))))⟩
  obtain ⟨F, v, e1, F22, kk, r⟩ := zp_make hw hm6 hc (N2 := zwI (s m) (zpjt (s m).2.1 m 17 h a i j 0)) rfl zpjt_E je
  exact ⟨⟨⟨hc, rfl, s1⟩, F, v, e1, fun Q => c163_g (v := v) (M9 := zwI (zwI (zbgM C m 17 h i) (zu2 (zu2 (zbgM C m 17 h i).2.1 (855 + 4 * m) 3 j) (855 + 4 * m) 8 a)) F) hR h01 hm hm6 k0 k1 k2 k3  e1 rfl F22, F22, kk, r⟩, s0, s1, s2, s3, s8⟩
end ZPMUTS
