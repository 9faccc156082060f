/-! the law's cases: each call goes alike -/
section ZLAWQ
variable {L m : Nat} {M N B : zM} {Q : zO → zM → Prop} {cc cc' : Nat → Int}
theorem zlcs (x : Int64) : (lg_cmp x x).toInt = 0 := by
  have h : lg_cmp x x = 0 := by
    unfold lg_cmp
    simp
  rw [h]
  rfl
theorem zsL_1 {M : zM} {x : Int64} : (zsL M 1205 0 x).2.2.1 1205 0 = x := by
  show zup M.2.2.1 1205 (zup (M.2.2.1 1205) 0 x) 1205 0 = x
  unfold zup
  rw [if_pos rfl, if_pos rfl]
theorem zsL_2 {M : zM} {x : Int64} {a : Nat} (h : a ≠ 1205) : (zsL M 1205 0 x).2.2.1 a = M.2.2.1 a := if_neg h
/-- what agreement gives: an answer, or one of the throws that are told apart -/
theorem zqAg_u {mc mr : Nat} {ac ar : List zV} (h : zqAg L M mc ac mr ar cc) (h' : zqAg L M mc ac mr ar cc') : ∃ (o : zO) (Mc : zM), (∀ Q : zO → zM → Prop, zFR (zK L) mc 0 (zcall mc ac) [] M Q = Q o Mc) ∧ ((∃ w : zV, o = .inl (some w) ∧ ∀ B : zM, (B = Mc ∨ ∃ x, B = zsL Mc 1205 0 x) → ∃ (Mf : zM) (m' : Nat), (∀ Q : zO → zM → Prop, zFR (zK L) mr 0 (zcall mr ar) [] B Q = Q (.inl (some w)) Mf) ∧ Mf.1 = M.1 ∧ Mf.2.2.1 1205 = B.2.2.1 1205 ∧ zqW m' Mf ∧ Mf.2.1 1153 0 = 0) ∨ ∃ (e : Nat) (w : zV) (Mf : zM) (m' : Nat), e < 3 ∧ cc e = cc' e ∧ o = .inr e ∧ (∀ Q : zO → zM → Prop, zFR (zK L) mr 0 (zcall mr ar) [] Mc Q = Q (.inl (some w)) Mf) ∧ Mf.1 = (zthrown M).1 ∧ zqW m' Mf ∧ Mf.2.1 1153 0 = cc e) := by
  obtain ⟨o, Mc, ec, c1, c2, al⟩ := h
  obtain ⟨o', Mc', ec', c1', c2', al'⟩ := h'
  obtain ⟨u1, u2⟩ := zFR_uq ec ec'
  subst u1 u2
  refine ⟨_, _, ec, ?_⟩
  obtain ⟨w, Mf, m', er, f1, f2, fW, fin⟩ := al Mc' rfl rfl (fun _ _ => rfl) rfl
  obtain ⟨w', Mf', m'', er', f1', f2', fW', fin'⟩ := al' Mc' rfl rfl (fun _ _ => rfl) rfl
  obtain ⟨v1, v2⟩ := zFR_uq er er'
  have v3 : w' = w := Option.some.inj (Sum.inl.inj v1)
  rcases fin with ⟨q1, q2, q3⟩ | ⟨e, q1, q2, q3, q4⟩
  · refine Or.inl ⟨w, q1, fun B hB => ?_⟩
    have hb : B.1 = Mc'.1 ∧ B.2.1 = Mc'.2.1 ∧ (∀ a, a ≠ 1205 → B.2.2.1 a = Mc'.2.2.1 a) ∧ B.2.2.2 = Mc'.2.2.2 := by
      rcases hB with hB | ⟨x, hB⟩
      · subst hB
        exact ⟨rfl, rfl, fun _ _ => rfl, rfl⟩
      · subst hB
        exact ⟨rfl, rfl, fun a ha => zsL_2 ha, rfl⟩
    obtain ⟨w2, Mf2, m2, er2, g1, g2, gW, fin2⟩ := al B hb.1 hb.2.1 hb.2.2.1 hb.2.2.2
    rcases fin2 with ⟨r1, r2, r3⟩ | ⟨e, r1, r2, r3, r4⟩
    · have : w2 = w := by
        rw [q1] at r1
        exact (Option.some.inj (Sum.inl.inj r1)).symm
      subst this
      exact ⟨Mf2, m2, er2, g1.trans (hb.1.trans q3), g2, gW, r2⟩
    · rw [q1] at r2
      cases r2
  · refine Or.inr ⟨e, w, Mf, m', q1, ?_, q2, er, f1.trans q4, fW, q3⟩
    rcases fin' with ⟨r1, r2, r3⟩ | ⟨e', r1, r2, r3, r4⟩
    · rw [q2] at r1
      cases r1
    · rw [q2] at r2
      have ee : e' = e := by
        cases r2
        rfl
      subst ee
      rw [← q3, ← r3, v2]
/-- what the law goes on with -/
def zLaw (L i : Nat) (M : zM) (Q : zO → zM → Prop) : Prop := ∀ (m' : Nat) (M' : zM) (y5 y6 y7 : Option zV), zqW m' M' → M'.2.1 1 = M.2.1 1 → (M'.1 = M.1 ∨ M'.1 = (zthrown M).1) → zFR (zK L) 390 3906 [some (.inr (.inr 1)), some (.inr (.inr 2)), some (.inr (.inr 1153)), some (.inr (.inr 1205)), some (.inl (i : Int)), y5, y6, y7] [] M' Q
end ZLAWQ
