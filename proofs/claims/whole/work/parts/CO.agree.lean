/-! what is to be shown of a call; changes that only note what they are asked for -/
section ZAGREEQ
variable {L m : Nat} {M C N B C2 Mf : zM}
/-- class and reference answer a call alike, and go on alike -/
def zqAg (L : Nat) (M : zM) (mc : Nat) (ac : List zV) (mr : Nat) (ar : List zV) (cc : Nat → Int) : Prop := ∃ (o : zO) (Mc : zM), (∀ Q : zO → zM → Prop, zFR (zK L) mc 0 (zcall mc ac) [] M Q = Q o Mc) ∧ Mc.2.2.2 = M.2.2.2 ∧ Mc.2.2.1 1205 = M.2.2.1 1205 ∧ ∀ B : zM, B.1 = Mc.1 → B.2.1 = Mc.2.1 → (∀ a, a ≠ 1205 → B.2.2.1 a = Mc.2.2.1 a) → B.2.2.2 = Mc.2.2.2 → ∃ (w : zV) (Mf : zM) (m' : Nat), (∀ Q : zO → zM → Prop, zFR (zK L) mr 0 (zcall mr ar) [] B Q = Q (.inl (some w)) Mf) ∧ Mf.1 = B.1 ∧ Mf.2.2.1 1205 = B.2.2.1 1205 ∧ zqW m' Mf ∧ ((o = .inl (some w) ∧ Mf.2.1 1153 0 = 0 ∧ Mc.1 = M.1) ∨ ∃ e, e < 3 ∧ o = .inr e ∧ Mf.2.1 1153 0 = cc e ∧ Mc.1 = (zthrown M).1)
/-- one memory from two -/
theorem zqjoin (h : zqY m C N) (hc : ∀ b j, b < 1095 → Mf.2.1 b j = C.2.1 b j) (hn : ∀ b j, 1153 ≤ b → Mf.2.1 b j = N.2.1 b j) (l1 : ∀ k j, k < 60 → Mf.2.2.1 (855 + 4 * k) j = C.2.2.1 (855 + 4 * k) j) (l2 : ∀ j, Mf.2.2.1 1162 j = N.2.2.1 1162 j) (hr : Mf.2.2.2 = C.2.2.2) : zqW0 m Mf := by
  obtain ⟨a1, a2, a3, a4⟩ := h
  have h60 := a4.1
  refine ⟨by rw [hr]; exact a1, zqR_keep3 (fun b j hb => hc b j (by omega)) (fun j hj => by rw [hc 8 j (by omega)]; exact zqR_ch a3 j hj) (fun b j hb => hn b j (by omega)) (hn _ _ (by omega)) a3, ?_⟩
  exact zqJn_p (C := C) (N := N) (n := m) ⟨(hc 2 2 (by omega)).trans a4.2.1.1, (hn 1153 8 (by omega)).trans a4.2.1.2⟩ h60 (Nat.le_refl _) (fun k hk b j hb => hc b j (by omega)) (fun k hk j => l1 k j (by omega)) (fun k hk => l2 k) (fun k hk => ⟨fun b hb => hn _ _ (by omega), fun j hj => hn _ _ (by omega), fun j hj => ⟨hn _ _ (by omega), hn _ _ (by omega)⟩⟩) a4 (fun k h1 h2 => absurd h1 (by omega))
/-- the same boards, the reference's seen in another memory -/
theorem zqsplit (h : zqW0 m M) (hn : ∀ b j, 1153 ≤ b → B.2.1 b j = M.2.1 b j) (l2 : ∀ j, B.2.2.1 1162 j = M.2.2.1 1162 j) (hr : B.2.2.2 = M.2.2.2) : zqY m M B := by
  obtain ⟨a1, a3, a4⟩ := h
  have h60 := a4.1
  refine ⟨a1, by rw [hr]; exact a1, zqR_keep3 (fun _ _ _ => rfl) (zqR_ch a3) (fun b j hb => hn b j (by omega)) (hn _ _ (by omega)) a3, ?_⟩
  exact zqJn_p (C := M) (N := M) (n := m) ⟨a4.2.1.1, (hn 1153 8 (by omega)).trans a4.2.1.2⟩ h60 (Nat.le_refl _) (fun k hk b j hb => rfl) (fun k hk j => rfl) (fun k hk => l2 k) (fun k hk => ⟨fun b hb => hn _ _ (by omega), fun j hj => hn _ _ (by omega), fun j hj => ⟨hn _ _ (by omega), hn _ _ (by omega)⟩⟩) a4 (fun k h1 h2 => absurd h1 (by omega))
/-- only the reference's throw is noted -/
theorem zqW_tw (h : zqW m M) (h1 : B.2.1 = M.2.1) (h2 : ∀ a, a ≠ 1205 → B.2.2.1 a = M.2.2.1 a) (h3 : B.2.2.2 = M.2.2.2) (e : Int) : zqW m (zwI B (zrtw B.2.1 e)) := by
  have hz : ∀ b j, (b ≠ 1153 ∨ j ≠ 0) → (zwI B (zrtw B.2.1 e)).2.1 b j = M.2.1 b j := fun b j hb => by
    show zrtw B.2.1 e b j = _
    unfold zrtw
    rw [zu2_sj hb, h1]
  have s := zqsplit (B := M) h.1 (fun _ _ _ => rfl) (fun _ => rfl) rfl
  obtain ⟨a1, a2, a3, a4⟩ := s
  refine ⟨⟨by show zLay B.2.2.2; rw [h3]; exact a1, zqR_keep3 (fun b j hb => hz b j (by omega)) (fun j hj => by rw [hz 8 j (by omega)]; exact zqR_ch a3 j hj) (fun b j hb => hz b j (by omega)) (hz _ _ (by omega)) a3, ?_⟩, zqX_c (fun b j hb => hz b j (by unfold zqXs at hb; omega)) h.2⟩
  have h60 := a4.1
  exact zqJn_p (C := M) (N := M) (n := m) ⟨(hz 2 2 (by omega)).trans a4.2.1.1, (hz 1153 8 (by omega)).trans a4.2.1.2⟩ h60 (Nat.le_refl _) (fun k hk b j hb => hz b j (by omega)) (fun k hk j => by show B.2.2.1 _ _ = _; rw [h2 _ (by omega)]) (fun k hk => by show B.2.2.1 _ _ = _; rw [h2 _ (by omega)]) (fun k hk => ⟨fun b hb => hz _ _ (by omega), fun j hj => hz _ _ (by omega), fun j hj => ⟨hz _ _ (by omega), hz _ _ (by omega)⟩⟩) a4 (fun k h1 h2 => absurd h1 (by omega))
theorem zqth_iff (h : zqW m M) (h1 : B.2.1 = M.2.1) {i : Int} : zth M.2.1 i ↔ zrt B.2.1 i := by
  unfold zth zrt
  rw [h1]
  constructor
  · rintro ⟨a, b, c⟩
    exact ⟨a, b, by rw [← zqR_t h.1.2.1 (show i.toNat < 60 by omega)]; exact c⟩
  · rintro ⟨a, b, c⟩
    exact ⟨a, b, by rw [zqR_t h.1.2.1 (show i.toNat < 60 by omega)]; exact c⟩
/-- both refuse -/
theorem zqAg_no {mc mr : Nat} {ac ar : List zV} {cc : Nat → Int} {e : Nat} {d : Int} (hW : zqW m M) (he : e < 3) (ec : ∀ Q : zO → zM → Prop, zFR (zK L) mc 0 (zcall mc ac) [] M Q = Q (.inr e) (zthrown M)) (w : zV) (er : ∀ B : zM, B.2.1 = M.2.1 → B.2.2.2 = M.2.2.2 → ∀ Q : zO → zM → Prop, zFR (zK L) mr 0 (zcall mr ar) [] B Q = Q (.inl (some w)) (zwI B (zrtw B.2.1 d))) (hd : cc e = d) : zqAg L M mc ac mr ar cc := by
  refine ⟨.inr e, zthrown M, ec, rfl, rfl, fun B b1 b2 b3 b4 => ⟨w, zwI B (zrtw B.2.1 d), m, er B b2 b4, rfl, rfl, zqW_tw hW b2 b3 b4 d, Or.inr ⟨e, he, rfl, ?_, rfl⟩⟩⟩
  show zrtw B.2.1 d 1153 0 = _
  unfold zrtw
  rw [zu2_eq, hd]
/-- both do it, or neither -/
theorem zqAg_go {mc mr : Nat} {ac ar : List zV} {cc : Nat → Int} {k h p1 p2 p3 p4 e : Int} (hW : zqW m M) (hm6 : m < 60) (hc : zqCw m C2 M) (hl : C2.2.2.1 1205 = M.2.2.1 1205) (c1 : C2.1 = M.1) (hJ : ∀ B : zM, zqJe C2 (zwI B (zrtl (zrtw B.2.1 0) m k h p1 p2 p3 p4)) m) (eC : ∀ (v : Int) (M9 : zM), (∀ Q : zO → zM → Prop, zFR (zK L) 10 0 (zcall 10 [.inr (.inr 3), .inr (.inr (855 + 4 * m)), .inl (m : Int)]) [] C2 Q = Q (.inl (some (.inl v))) M9) → M9.2.2.2 = M.2.2.2 → M9.2.1 2 2 = (m : Int) → ∀ Q : zO → zM → Prop, zFR (zK L) mc 0 (zcall mc ac) [] M Q = ((v = -1 → Q (.inr 1) (zthrown M9)) ∧ (¬ v = -1 → Q (.inl (some (.inl v))) (zwI M9 (zu2 (zu2 M9.2.1 (855 + 4 * m) 11 1) 2 2 ((m : Int) + 1)))))) (eR : ∀ (B : zM) (w : Int) (M9 : zM), B.2.2.2 = M.2.2.2 → (∀ b j, 1153 ≤ b → B.2.1 b j = M.2.1 b j) → (∀ Q : zO → zM → Prop, zFR (zK L) 253 0 (zcall 253 [.inr (.inr 1153), .inl k, .inl h, .inl p1, .inl p2, .inl p3, .inl p4, .inl e]) [] (zwI B (zrtw B.2.1 0)) Q = Q (.inl (some (.inl w))) M9) → ∀ Q : zO → zM → Prop, zFR (zK L) mr 0 (zcall mr ar) [] B Q = Q (.inl (some (.inl w))) M9) (hcc : cc 1 = e) : zqAg L M mc ac mr ar cc := by
  have told : ∀ B : zM, zqTold m (zwI B (zrtl (zrtw B.2.1 0) m k h p1 p2 p3 p4)) B := fun B => by
    refine ⟨fun b j q1 q2 q3 q4 q5 q6 => ?_, fun _ _ _ => rfl, rfl⟩
    show zrtl (zrtw B.2.1 0) m k h p1 p2 p3 p4 b j = _
    unfold zrtl zrtw
    rw [zu2_sj (by omega), zu2_sj (by omega), zu2_sj (by omega), zu2_sj (by omega), zu2_sj (by omega), zu2_sj (by omega), zu2_sj (by omega)]
  obtain ⟨F, v, e1, F22, f1, r⟩ := zqPmk (L := L) (C := M) (N0 := M) (zqsplit hW.1 (fun _ _ _ => rfl) (fun _ => rfl) rfl) hm6 hc (told M) (hJ M)
  have ec := eC v (zwI C2 F) e1 hc.2.2 F22
  have FM : ∀ b j, 1095 ≤ b → F b j = M.2.1 b j := fun b j hb => (f1 b j (by omega)).trans (hc.1 b j (by omega))
  have tl : ∀ (B : zM) b j, (b < 1153 ∨ 1154 ≤ b ∧ b < 1158 ∨ (b = 1153 ∧ j ≠ 0)) → (zwI B (zrtl (zrtw B.2.1 0) m k h p1 p2 p3 p4)).2.1 b j = B.2.1 b j := fun B b j hb => by
    show zrtl (zrtw B.2.1 0) m k h p1 p2 p3 p4 b j = _
    unfold zrtl zrtw
    rw [zu2_sj (by omega), zu2_sj (by omega), zu2_sj (by omega), zu2_sj (by omega), zu2_sj (by omega), zu2_sj (by omega), zu2_sj (by omega)]
  by_cases hv : v = -1
  · refine ⟨.inr 1, zthrown (zwI C2 F), fun Q => (ec Q).trans (zyes hv), hc.2.2, hl, fun B b1 b2 b3 b4 => ?_⟩
    have b2' : B.2.1 = F := b2
    have b4' : B.2.2.2 = M.2.2.2 := b4.trans hc.2.2
    have bn : ∀ b j, 1153 ≤ b → B.2.1 b j = M.2.1 b j := fun b j hb => by rw [b2']; exact FM b j (by omega)
    have bl : ∀ j, B.2.2.1 1162 j = M.2.2.1 1162 j := fun j => by
      rw [b3 1162 (by omega)]
      exact hc.2.1 _ _ (by omega)
    obtain ⟨G, g1, g2, r⟩ := r B _ (zqsplit hW.1 bn bl b4') (told B) (hJ B)
    rcases r with ⟨_, e2, r⟩ | ⟨v0, _⟩
    · have b8 : (zwI B (zrtw B.2.1 0)).2.1 1153 8 = (m : Int) := by
        show zrtw B.2.1 0 1153 8 = _
        unfold zrtw
        rw [zu2_sj (by omega), bn _ _ (by omega)]
        exact hW.1.2.2.2.1.2
      refine ⟨.inl 0, zwI B (zrtw G e), m, fun Q => eR B 0 _ b4' bn (fun Q => c253_0 (M := zwI B (zrtw B.2.1 0)) (M9 := zwI B G) (show zLay B.2.2.2 by rw [b4']; exact hW.1.1) b8 hm6 e2) Q, rfl, rfl, ⟨zqjoin (r e) (fun b j hb => ?_) (fun _ _ _ => rfl) (fun k j hk => ?_) (fun j => rfl) (b4'.trans hc.2.2.symm), ?_⟩, Or.inr ⟨1, by omega, rfl, ?_, ?_⟩⟩
      · show zrtw G e b j = F b j
        unfold zrtw
        rw [zu2_sj (by omega), g1 b j (by omega), tl B b j (by omega), b2']
      · show B.2.2.1 (855 + 4 * k) j = C2.2.2.1 (855 + 4 * k) j
        rw [b3 _ (by omega)]
        rfl
      · refine zqX_c (fun b j hb => ?_) hW.2
        unfold zqXs at hb
        show zrtw G e b j = _
        unfold zrtw
        rw [zu2_sj (by omega)]
        by_cases q : b = 1153
        · subst q
          rw [g2 j (by omega) (by omega) (by omega), tl B 1153 j (by omega), bn _ _ (by omega)]
        · rw [g1 b j (by omega), tl B b j (by omega), b2']
          exact FM b j (by omega)
      · show zrtw G e 1153 0 = _
        unfold zrtw
        rw [zu2_eq, hcc]
      · show (zthrown (zwI C2 F)).1 = _
        unfold zthrown
        rw [zwI_1, c1]
    · omega
  · refine ⟨.inl (some (.inl v)), _, fun Q => (ec Q).trans (znot hv), hc.2.2, hl, fun B b1 b2 b3 b4 => ?_⟩
    have b2' : B.2.1 = zu2 (zu2 F (855 + 4 * m) 11 1) 2 2 ((m : Int) + 1) := b2
    have b4' : B.2.2.2 = M.2.2.2 := b4.trans hc.2.2
    have bF : ∀ b j, 1095 ≤ b → B.2.1 b j = M.2.1 b j := fun b j hb => by
      rw [b2', zu2_sj (by omega), zu2_sj (by omega)]
      exact FM b j hb
    have bn : ∀ b j, 1153 ≤ b → B.2.1 b j = M.2.1 b j := fun b j hb => bF b j (by omega)
    have bl : ∀ j, B.2.2.1 1162 j = M.2.2.1 1162 j := fun j => by
      rw [b3 1162 (by omega)]
      exact hc.2.1 _ _ (by omega)
    obtain ⟨G, g1, g2, r⟩ := r B _ (zqsplit hW.1 bn bl b4') (told B) (hJ B)
    rcases r with ⟨v1, _⟩ | ⟨v0, e2, ga, r⟩
    · exact absurd v1 hv
    · have b8 : (zwI B (zrtw B.2.1 0)).2.1 1153 8 = (m : Int) := by
        show zrtw B.2.1 0 1153 8 = _
        unfold zrtw
        rw [zu2_sj (by omega), bn _ _ (by omega)]
        exact hW.1.2.2.2.1.2
      have lB : zLay B.2.2.2 := by rw [b4']; exact hW.1.1
      have g8 : G 1153 8 = (m : Int) := (g2 8 (by omega) (by omega) (by omega)).trans ((tl B 1153 8 (by omega)).trans ((bn _ _ (by omega)).trans hW.1.2.2.2.1.2))
      refine ⟨.inl v, zwI B (zrmk G m), m + 1, fun Q => ?_, rfl, rfl, ⟨zqjoin r (fun b j hb => ?_) (fun _ _ _ => rfl) (fun k j hk => ?_) (fun j => rfl) (b4'.trans hc.2.2.symm), ?_⟩, Or.inl ⟨rfl, ?_, c1⟩⟩
      · have := eR B (G 1153 36) (zwI B (zrmk G m)) b4' bn (fun Q => c253_1 (M := zwI B (zrtw B.2.1 0)) (M9 := zwI B G) lB b8 hm6 e2 lB g8) Q
        rw [ga] at this
        exact this
      · show zrmk G m b j = zu2 (zu2 F (855 + 4 * m) 11 1) 2 2 ((m : Int) + 1) b j
        unfold zrmk zrtw
        rw [zu2_sj (by omega), zu2_sj (by omega), zu2_sj (by omega), g1 b j (by omega), tl B b j (by omega), b2']
      · show B.2.2.1 (855 + 4 * k) j = C2.2.2.1 (855 + 4 * k) j
        rw [b3 _ (by omega)]
        rfl
      · refine zqX_c (fun b j hb => ?_) hW.2
        unfold zqXs at hb
        show zrmk G m b j = _
        unfold zrmk zrtw
        rw [zu2_sj (by omega), zu2_sj (by omega), zu2_sj (by omega)]
        by_cases q : b = 1153
        · subst q
          rw [g2 j (by omega) (by omega) (by omega), tl B 1153 j (by omega), bn _ _ (by omega)]
        · rw [g1 b j (by omega), tl B b j (by omega)]
          exact bF b j (by omega)
      · show zrmk G m 1153 0 = 0
        unfold zrmk zrtw
        rw [zu2_sj (by omega), zu2_sj (by omega), zu2_eq]
end ZAGREEQ
