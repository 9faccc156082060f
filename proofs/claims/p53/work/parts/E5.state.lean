/-! the class's board, and the boards that its changes make, one by one -/
section ZPSTATE
variable {L m : Nat} {C C' : zM} {s : Nat → zM}
/-- told alike -/
def zpE (g' g : Nat → Nat → Int) : Prop := (∀ b j, (1166 ≤ b ∧ b < 1184 ∧ b ≠ 1179) → g' b j = g b j) ∧ g' 1153 33 = g 1153 33
theorem zpE_i (g : Nat → Nat → Int) : zpE g g := ⟨fun _ _ _ => rfl, rfl⟩
theorem zpE_t {a b c : Nat → Nat → Int} (h1 : zpE a b) (h2 : zpE b c) : zpE a c := ⟨fun x j hx => (h1.1 x j hx).trans (h2.1 x j hx), h1.2.trans h2.2⟩
theorem zpE_R {n : Nat} {f g g' : Nat → Nat → Int} (he : zpE g' g) (h : zqR n f g) : zqR n f g' := zqR_keep3 (fun _ _ _ => rfl) (zqR_ch h) he.1 he.2 h
/-- change i, as it makes one board of another -/
def zpD (L : Nat) (C : zM) (s : Nat → zM) (i : Nat) : Prop := (C.2.1 (855 + 4 * i) 11 = 0 ∧ zpE (s (i + 1)).2.1 (s i).2.1) ∨ (C.2.1 (855 + 4 * i) 11 = 1 ∧ ∃ (b : Int) (g' : Nat → Nat → Int), (∀ Q : zO → zM → Prop, zFR (zK L) 192 0 (zcall 192 [.inr (.inr 1153), .inl (i : Int)]) [] (s i) Q = Q (.inl (some (.inl b))) (zwI (s i) g')) ∧ zpE (s (i + 1)).2.1 g')
def zpS (L : Nat) (C : zM) (s : Nat → zM) (m : Nat) : Prop := (∀ f, zqJ f → zqR 0 (zcla f) (s 0).2.1) ∧ (∀ i, i ≤ m → zLayN (s i).2.2.2) ∧ ∀ i, i < m → zqJe C (s i) i ∧ zpD L C s i
/-- what lies in the class's tables between calls -/
def zpM (f : Nat → Nat → Int) : Prop := (∀ j, f 1114 j = 0) ∧ f 1138 10 = 0 ∧ f 1138 9 = 0
theorem zpM_c {f f' : Nat → Nat → Int} (h : ∀ b j, (b = 1114 ∨ b = 1138) → f' b j = f b j) (hm : zpM f) : zpM f' := ⟨fun j => (h _ _ (by omega)).trans (hm.1 j), (h _ _ (by omega)).trans hm.2.1, (h _ _ (by omega)).trans hm.2.2⟩
/-- the state between calls: so many changes; s: the boards that they made -/
def zpW (L m : Nat) (C : zM) (s : Nat → zM) : Prop := zLay C.2.2.2 ∧ (m ≤ 60 ∧ C.2.1 2 2 = (m : Int)) ∧ zqR m C.2.1 (s m).2.1 ∧ zpS L C s m ∧ zpM C.2.1
/-- the journal seen in another memory -/
theorem zpJ_c {k : Nat} {N : zM} (hM : ∀ b j, (855 + 4 * k ≤ b ∧ b < 859 + 4 * k ∧ (b = 855 + 4 * k → j ≠ 11)) → C'.2.1 b j = C.2.1 b j) (hL : ∀ j, C'.2.2.1 (855 + 4 * k) j = C.2.2.1 (855 + 4 * k) j) (h : zqJe C N k) : zqJe C' N k :=
  zqJe_p (C := C) (N := N) hM hL rfl (fun _ _ => rfl) (fun _ _ => rfl) (fun _ _ => ⟨rfl, rfl⟩) h
theorem zpS_c (hM : ∀ b j, (855 ≤ b ∧ b < 855 + 4 * m) → C'.2.1 b j = C.2.1 b j) (hL : ∀ k j, k < m → C'.2.2.1 (855 + 4 * k) j = C.2.2.1 (855 + 4 * k) j) (h : zpS L C s m) : zpS L C' s m := by
  obtain ⟨h0, h1, h2⟩ := h
  refine ⟨h0, h1, fun i hi => ?_⟩
  obtain ⟨je, d⟩ := h2 i hi
  refine ⟨zpJ_c (fun b j hb => hM b j (by omega)) (fun j => hL _ _ hi) je, ?_⟩
  unfold zpD at *
  rw [hM (855 + 4 * i) 11 (by omega)]
  exact d
theorem zpcla_o {f : Nat → Nat → Int} {b j : Nat} (hb : b < 3 ∨ 854 ≤ b) : zcla f b j = f b j := by
  unfold zcla zfil zclr
  rw [zu2_sj (by omega), if_neg (by omega), if_neg (by omega), if_neg (by omega)]
/-- the board made anew -/
theorem zp_anew (hR : zLay C.2.2.2) (h60 : m ≤ 60) (h22 : C.2.1 2 2 = (m : Int)) (hj : zqJ C.2.1) (hS : zpS L C s m) : ∃ F : Nat → Nat → Int, (∀ Q : zO → zM → Prop, zFR (zK L) 166 0 (zcall 166 [.inr (.inr 2)]) [] C Q = Q (.inl none) (zwI C F)) ∧ zqR m F (s m).2.1 ∧ zqkc F C.2.1 := by
  obtain ⟨S0, SN, SS⟩ := hS
  obtain ⟨t, t0, t1, t2⟩ := zqseq (α := (Nat → Nat → Int) × Int) (P := fun i x => zqR i x.1 (s i).2.1 ∧ zqkc x.1 C.2.1) (S := fun i x y => (C.2.1 (855 + 4 * i) 11 = 0 → y.1 = x.1) ∧ (C.2.1 (855 + 4 * i) 11 ≠ 0 → ∀ Q : zO → zM → Prop, zFR (zK L) 10 0 (zcall 10 [.inr (.inr 3), .inr (.inr (855 + 4 * i)), .inl (i : Int)]) [] (zwI C x.1) Q = Q (.inl (some (.inl y.2))) (zwI C y.1))) (a := (zcla C.2.1, 0)) m ⟨S0 _ hj, fun b j hb => zpcla_o hb⟩ (fun i hi x hx => by
    obtain ⟨x1, x2⟩ := hx
    obtain ⟨je, st⟩ := SS i hi
    rcases st with ⟨c, he⟩ | ⟨c, b, g', e2, he⟩
    · exact ⟨x, ⟨fun _ => rfl, fun h => absurd c h⟩, zpE_R he (zqR_n (by omega) x1), x2⟩
    · obtain ⟨f', g'', v, b', e1, e3, k1, k2, k3, r⟩ := zqS_all (L := L) (M := zwI C x.1) (N := s i) hR (SN i (by omega)) (show i < 60 by omega) x1 (zpJ_c (C := C) (fun b j hb => x2 b j (by omega)) (fun _ => rfl) je)
      obtain ⟨u1, u2⟩ := zFR_uq e2 e3
      have eg : g'' = g' := congrArg (fun X : zM => X.2.1) u2
      subst eg
      refine ⟨(f', v), ⟨fun h => absurd h (by omega), fun _ => e1⟩, ?_, fun b j hb => (k1 b j hb).trans (x2 b j hb)⟩
      rcases r with ⟨_, _, r⟩ | ⟨_, _, _, r⟩
      · exact zpE_R he (zqR_n (by omega) r)
      · exact zpE_R he r)
  have k11 : ∀ i, i < m → (t i).1 (855 + 4 * i) 11 = C.2.1 (855 + 4 * i) 11 := fun i hi => (t1 i (by omega)).2 _ _ (by omega)
  refine ⟨(t m).1, fun Q => c166 (st := fun i => (t i).1) (v := fun i => (t (i + 1)).2) hR h60 (congrArg Prod.fst t0) (fun i hi => ((t1 i hi).2 2 2 (by omega)).trans h22) (fun i hi h => (t2 i hi).1 (by rw [← k11 i hi]; exact h)) (fun i hi h => (t2 i hi).2 (by rw [← k11 i hi]; exact h)), (t1 m (Nat.le_refl _)).1, (t1 m (Nat.le_refl _)).2⟩
/-- what a question leaves -/
theorem zpW_c (h : zpW L m C s) (hr : C'.2.2.2 = C.2.2.2) (hl : ∀ k j, k < m → C'.2.2.1 (855 + 4 * k) j = C.2.2.1 (855 + 4 * k) j) (hk : ∀ b j, ((b = 2 ∧ j = 2) ∨ (3 ≤ b ∧ b < 854 ∧ b ≠ 5 ∧ b ≠ 8 ∧ b ≠ 9 ∧ b ≠ 10) ∨ (855 ≤ b ∧ b < 855 + 4 * m)) → C'.2.1 b j = C.2.1 b j) (h8 : ∀ j, j < 60 → C'.2.1 8 j = 0 ∨ C'.2.1 8 j = 1) (hm : zpM C'.2.1) : zpW L m C' s := by
  obtain ⟨a1, ⟨a2, a3⟩, a4, a5, _⟩ := h
  exact ⟨by rw [hr]; exact a1, ⟨a2, (hk 2 2 (by omega)).trans a3⟩, zqR_keep3 (fun b j hb => hk b j (by omega)) h8 (fun _ _ _ => rfl) rfl a4, zpS_c (fun b j hb => hk b j (by omega)) hl a5, hm⟩
theorem zpW_a (h : zpW L m C s) {f' : Nat → Nat → Int} (hk : ∀ b j, (b ≠ 5 ∧ b ≠ 8 ∧ b ≠ 9 ∧ b ≠ 10 ∧ (b < 1098 ∨ 1114 ≤ b) ∧ b ≠ 1152) → f' b j = C.2.1 b j) (h8 : ∀ j, j < 60 → f' 8 j = 0 ∨ f' 8 j = 1) : zpW L m (zwI C f') s :=
  zpW_c h rfl (fun _ _ _ => rfl) (fun b j hb => hk b j (by have := h.2.1.1; omega)) h8 (zpM_c (fun b j hb => hk b j (by omega)) h.2.2.2.2)
theorem zpW_t (h : zpW L m C s) : zpW L m (zthrown C) s := h
theorem zpW_ch (h : zpW L m C s) : ∀ j, j < 60 → C.2.1 8 j = 0 ∨ C.2.1 8 j = 1 := zqR_ch h.2.2.1
/-- the chain, one longer -/
def zpx (s : Nat → zM) (m : Nat) (N2 N3 : zM) (i : Nat) : zM := if i < m then s i else if i = m then N2 else N3
theorem zpx_0 {N2 N3 : zM} {i : Nat} (h : i < m) : zpx s m N2 N3 i = s i := if_pos h
theorem zpx_1 {N2 N3 : zM} : zpx s m N2 N3 m = N2 := by unfold zpx; rw [if_neg (by omega), if_pos rfl]
theorem zpx_2 {N2 N3 : zM} : zpx s m N2 N3 (m + 1) = N3 := by unfold zpx; rw [if_neg (by omega), if_neg (by omega)]
/-- a change made -/
theorem zp_make (h : zpW L m C s) (hm6 : m < 60) {C2 : zM} (hc : zqCw m C2 C) {N2 : zM} (nr : N2.2.2.2 = (s m).2.2.2) (ne : zpE N2.2.1 (s m).2.1) (jr : zqJe C2 N2 m) : ∃ (F : Nat → Nat → Int) (v : Int), (∀ Q : zO → zM → Prop, zFR (zK L) 10 0 (zcall 10 [.inr (.inr 3), .inr (.inr (855 + 4 * m)), .inl (m : Int)]) [] C2 Q = Q (.inl (some (.inl v))) (zwI C2 F)) ∧ F 2 2 = (m : Int) ∧ (∀ b j, (b < 3 ∨ 854 ≤ b) → F b j = C2.2.1 b j) ∧ ((v = -1 ∧ ∃ g, zqR m F g) ∨ (0 ≤ v ∧ ∃ s', zpW L (m + 1) (zwI C2 (zu2 (zu2 F (855 + 4 * m) 11 1) 2 2 ((m : Int) + 1))) s' ∧ (∀ i, i < m → s' i = s i) ∧ zpE (s' m).2.1 (s m).2.1 ∧ zqR (m + 1) F (s' (m + 1)).2.1)) := by
  obtain ⟨hc1, hc2, hc3⟩ := hc
  obtain ⟨a1, ⟨a2, a3⟩, a4, ⟨b1, b2, b3⟩, a6⟩ := h
  have lc : zLay C2.2.2.2 := by rw [hc3]; exact a1
  have rel : zqR m C2.2.1 N2.2.1 := zpE_R ne (zqR_keep3 (fun b j hb => hc1 b j (by omega)) (fun j hj => by rw [hc1 8 j (by omega)]; exact zqR_ch a4 j hj) (fun _ _ _ => rfl) rfl a4)
  have ln : zLayN N2.2.2.2 := by rw [nr]; exact b2 m (Nat.le_refl _)
  obtain ⟨F, G, v, b, e1, e2, k1, k2, k3, r⟩ := zqS_all (L := L) (M := C2) (N := N2) lc ln hm6 rel jr
  have F22 : F 2 2 = (m : Int) := (k1 2 2 (by omega)).trans ((hc1 2 2 (by omega)).trans a3)
  refine ⟨F, v, e1, F22, k1, ?_⟩
  rcases r with ⟨_, v1, r⟩ | ⟨_, v0, _, r⟩
  · exact Or.inl ⟨v1, G, r⟩
  · refine Or.inr ⟨v0, zpx s m N2 (zwI N2 G), ⟨lc, ⟨by omega, ?_⟩, ?_, ⟨?_, fun i hi => ?_, fun i hi => ?_⟩, ?_⟩, fun i hi => zpx_0 hi, by rw [zpx_1]; exact ne, by rw [zpx_2]; exact r⟩
    · show zu2 (zu2 F (855 + 4 * m) 11 1) 2 2 ((m : Int) + 1) 2 2 = _
      rw [zu2_eq, Int.natCast_succ]
    · rw [zpx_2]
      refine zqR_keep3 (fun b j hb => ?_) (fun j hj => ?_) (fun _ _ _ => rfl) rfl r
      · show zu2 (zu2 F (855 + 4 * m) 11 1) 2 2 ((m : Int) + 1) b j = F b j
        rw [zu2_sj (by omega), zu2_sj (by omega)]
      · show zu2 (zu2 F (855 + 4 * m) 11 1) 2 2 ((m : Int) + 1) 8 j = 0 ∨ zu2 (zu2 F (855 + 4 * m) 11 1) 2 2 ((m : Int) + 1) 8 j = 1
        rw [zu2_sj (by omega), zu2_sj (by omega)]
        exact zqR_ch r j hj
    · intro f hf
      by_cases c : 0 < m
      · rw [zpx_0 c]; exact b1 f hf
      · have m0 : m = 0 := by omega
        subst m0
        rw [zpx_1]
        exact zpE_R ne (b1 f hf)
    · by_cases c : i < m
      · rw [zpx_0 c]; exact b2 i (by omega)
      · by_cases c2 : i = m
        · subst c2; rw [zpx_1]; exact ln
        · have : i = m + 1 := by omega
          subst this
          rw [zpx_2]; exact ln
    · have FO : ∀ b j, (855 ≤ b ∧ b < 1095) → (b ≠ 855 + 4 * m ∨ j ≠ 11) → zu2 (zu2 F (855 + 4 * m) 11 1) 2 2 ((m : Int) + 1) b j = C2.2.1 b j := fun b j hb hb2 => by
        rw [zu2_sj (by omega), zu2_sj hb2]
        exact k1 b j (by omega)
      by_cases c : i < m
      · obtain ⟨je, d⟩ := b3 i c
        refine ⟨?_, ?_⟩
        · rw [zpx_0 c]
          exact zpJ_c (C := C) (fun b j hb => (FO b j (by omega) (by omega)).trans (hc1 b j (by omega))) (fun j => hc2 _ _ (by omega)) je
        · have e11 : (zwI C2 (zu2 (zu2 F (855 + 4 * m) 11 1) 2 2 ((m : Int) + 1))).2.1 (855 + 4 * i) 11 = C.2.1 (855 + 4 * i) 11 := (FO _ _ (by omega) (by omega)).trans (hc1 _ _ (by omega))
          have en : zpE (zpx s m N2 (zwI N2 G) (i + 1)).2.1 (s (i + 1)).2.1 := by
            by_cases c3 : i + 1 < m
            · rw [zpx_0 c3]; exact zpE_i _
            · have e : i + 1 = m := by omega
              rw [e, zpx_1]; exact ne
          unfold zpD
          rw [e11, zpx_0 c]
          rcases d with ⟨d1, d2⟩ | ⟨d1, b, g', d2, d3⟩
          · exact Or.inl ⟨d1, zpE_t en d2⟩
          · exact Or.inr ⟨d1, b, g', d2, zpE_t en d3⟩
      · have em : i = m := by omega
        subst em
        refine ⟨?_, Or.inr ⟨?_, b, G, ?_, ?_⟩⟩
        · rw [zpx_1]
          exact zpJ_c (C := C2) (fun b j hb => FO b j (by omega) (by omega)) (fun _ => rfl) jr
        · show zu2 (zu2 F (855 + 4 * i) 11 1) 2 2 ((i : Int) + 1) (855 + 4 * i) 11 = 1
          rw [zu2_sj (by omega), zu2_eq]
        · rw [zpx_1]; exact e2
        · rw [zpx_2]; exact zpE_i _
    · refine zpM_c (fun b j hb => ?_) a6
      show zu2 (zu2 F (855 + 4 * m) 11 1) 2 2 ((m : Int) + 1) b j = C.2.1 b j
      rw [zu2_sj (by omega), zu2_sj (by omega)]
      exact (k1 b j (by omega)).trans (hc1 b j (by omega))
/-- the last change taken back -/
theorem zp_undo (h : zpW L (m + 1) C s) (s11 : C.2.1 (855 + 4 * m) 11 = 1) {hh : Int} (k0 : 0 ≤ hh ∧ hh < 3) (s1 : C.2.1 (855 + 4 * m) 1 = hh) : ∃ (F : Nat → Nat → Int) (s' : Nat → zM), (∀ Q : zO → zM → Prop, zFR (zK L) 164 0 (zcall 164 [.inr (.inr 2), .inl hh]) [] C Q = Q (.inl (some (.inl (m : Int)))) (zwI C F)) ∧ zpW L (m + 1) (zwI C F) s' ∧ s' (m + 1) = s m := by
  obtain ⟨a1, ⟨a2, a3⟩, a4, ⟨b1, b2, b3⟩, a6⟩ := h
  have CB : ∀ b j, (b ≠ 855 + 4 * m ∨ j ≠ 11) → (zwI C (zu2 C.2.1 (855 + 4 * m) 11 0)).2.1 b j = C.2.1 b j := fun b j h1 => zu2_sj h1
  have hj : zqJ (zwI C (zu2 C.2.1 (855 + 4 * m) 11 0)).2.1 := by
    refine zqJ_c (fun i hi => ⟨CB _ _ (by omega), CB _ _ (by omega), CB _ _ (by omega), CB _ _ (by omega), CB _ _ (by omega)⟩) (fun j hj => ?_) a4.2.2.2.2.2.2.2.2
    rw [CB 8 j (by omega)]
    exact zqR_ch a4 j hj
  have hS : zpS L (zwI C (zu2 C.2.1 (855 + 4 * m) 11 0)) (fun i => if i ≤ m then s i else s m) (m + 1) := by
    refine ⟨by dsimp only; rw [if_pos (Nat.zero_le m)]; exact b1, fun i hi => ?_, fun i hi => ?_⟩
    · dsimp only
      split
      · exact b2 i (by omega)
      · exact b2 m (by omega)
    · obtain ⟨je, d⟩ := b3 i hi
      refine ⟨?_, ?_⟩
      · dsimp only
        rw [if_pos (show i ≤ m by omega)]
        exact zpJ_c (C := C) (fun b j hb => CB b j (by omega)) (fun _ => rfl) je
      · unfold zpD
        dsimp only
        by_cases c : i = m
        · subst c
          rw [if_pos (Nat.le_refl i), if_neg (show ¬ i + 1 ≤ i by omega)]
          exact Or.inl ⟨zu2_eq _ _ _ _, zpE_i _⟩
        · rw [if_pos (show i ≤ m by omega), if_pos (show i + 1 ≤ m by omega), CB _ _ (by omega)]
          exact d
  obtain ⟨F, e1, r, kc⟩ := zp_anew (L := L) (C := zwI C (zu2 C.2.1 (855 + 4 * m) 11 0)) a1 a2 ((CB 2 2 (by omega)).trans a3) hj hS
  have kl : zlat C.2.1 hh (m + 1) = (m : Int) := by
    unfold zlat
    rw [if_pos ⟨by omega, s1⟩]
  refine ⟨F, fun i => if i ≤ m then s i else s m, fun Q => c164_g a1 ⟨a3, a2⟩ k0 kl (by omega) e1, ⟨a1, ⟨a2, (kc 2 2 (by omega)).trans ((CB 2 2 (by omega)).trans a3)⟩, r, ?_, ?_⟩, if_neg (show ¬ m + 1 ≤ m by omega)⟩
  · exact zpS_c (C := zwI C (zu2 C.2.1 (855 + 4 * m) 11 0)) (fun b j hb => kc b j (by omega)) (fun _ _ _ => rfl) hS
  · exact zpM_c (fun b j hb => (kc b j (by omega)).trans (CB b j (by omega))) a6
end ZPSTATE
