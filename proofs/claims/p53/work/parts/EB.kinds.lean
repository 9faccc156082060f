/-! changes that the law makes: what comes of each -/
section ZPKINDS
variable {L m : Nat} {C C2 : zM} {s : Nat → zM}
/-- layers stay seen, shapes stay there -/
def zpK (f f' : Nat → Nat → Int) : Prop := (∀ l, l < 4 → f' 6 l = f 6 l) ∧ ∀ i, i < 60 → f (14 + 14 * i) 0 = 1 → f' (14 + 14 * i) 0 = 1
theorem zpK_i (f : Nat → Nat → Int) : zpK f f := ⟨fun _ _ => rfl, fun _ _ h => h⟩
theorem zpK_t {a b c : Nat → Nat → Int} (h1 : zpK a b) (h2 : zpK b c) : zpK a c := ⟨fun l hl => (h2.1 l hl).trans (h1.1 l hl), fun i hi h => h2.2 i hi (h1.2 i hi h)⟩
theorem zpK_e {f f' : Nat → Nat → Int} (h : ∀ b j, (b = 6 ∨ (14 ≤ b ∧ b < 854 ∧ j = 0)) → f' b j = f b j) : zpK f f' := ⟨fun l _ => h 6 l (by omega), fun i hi t => (h _ 0 (by omega)).trans t⟩
theorem zpc2_R (hw : zpW L m C s) (hc : zqCw m C2 C) : zqR m C2.2.1 (s m).2.1 := by
  have h60 := hw.2.1.1
  refine zqR_keep3 (fun b j hb => hc.1 b j (by omega)) (fun j hj => by rw [hc.1 8 j (by omega)]; exact zqR_ch hw.2.2.1 j hj) (fun _ _ _ => rfl) rfl hw.2.2.1
theorem zpc2_L (hw : zpW L m C s) (hc : zqCw m C2 C) : zLay C2.2.2.2 := by rw [hc.2.2]; exact hw.1
theorem zpc2_K (hw : zpW L m C s) (hc : zqCw m C2 C) {F : Nat → Nat → Int} (h : zpK C2.2.1 F) : zpK C.2.1 (zpf F m) := by
  have h60 := hw.2.1.1
  refine zpK_t (b := C2.2.1) (zpK_e (fun b j hb => hc.1 b j (by omega))) (zpK_t h (zpK_e (fun b j hb => zpf_o (by omega))))
theorem zpth_i {f g : Nat → Nat → Int} {n i : Nat} (r : zqR n f g) (hi : i < 60) (t : g 1166 i = 1) : zth f (i : Int) := ⟨by omega, by omega, by rw [Int.toNat_natCast, zqR_t r hi]; exact t⟩
/-- done: so many changes more by one, and what the board keeps -/
def zpA (L m : Nat) (C : zM) (s : Nat → zM) (mc : Nat) (ac : List zV) (P : Int → zM → (Nat → zM) → Prop) : Prop := ∃ (v : Int) (C' : zM) (s' : Nat → zM), 0 ≤ v ∧ (∀ Q : zO → zM → Prop, zFR (zK L) mc 0 (zcall mc ac) [] C Q = Q (.inl (some (.inl v))) C') ∧ zpW L (m + 1) C' s' ∧ zpE (s' m).2.1 (s m).2.1 ∧ C'.1 = C.1 ∧ zpK C.2.1 C'.2.1 ∧ P v C' s'
/-- into a layer -/
theorem pk_153 (hw : zpW L m C s) (hm6 : m < 60) {i : Nat} (hi : i < 60) (t : (s m).2.1 1166 i = 1) {h a : Int} (k0 : 0 ≤ h ∧ h < 3) (k2 : 0 ≤ a ∧ a < 4) : zpA L m C s 153 [.inr (.inr 2), .inl h, .inl (i : Int), .inl a] (fun _ _ _ => True) := by
  have th := zpth_i hw.2.2.1 hi t
  obtain ⟨hp, s0, s1, s2, s3, s4⟩ := pm_153 (a := a) hw hm6 k0 th k2
  have hc := hp.1.1
  have c1 := hp.1.2.1
  generalize (zwI (zbgM C m 8 h (i : Int)) (zu2 (zbgM C m 8 h (i : Int)).2.1 (855 + 4 * m) 4 a)) = C2 at *
  have r2 := zpc2_R hw hc
  have l2 := zpc2_L hw hc
  have t2 : C2.2.1 (14 + 14 * i) 0 = 1 := (zqR_t r2 hi).trans t
  have hg : zgua C2.2.1 m := ⟨Or.inr ⟨by omega, by omega, by rw [s2, Int.toNat_natCast]; exact t2⟩, Or.inl s3⟩
  have e0 := fun Q => c10_8 (L := L) (M := C2) (Q := Q) (c := m) (num := m) l2 (zqR_01 r2) hm6 hm6 hg s0 hi s2 (fun Q9 => c12 (L := L) (M := C2) (Q := Q9) l2 (zqR_bk r2) hi)
  obtain ⟨b1, b2, b3, b4, _⟩ := r2.2.1 i hi t
  obtain ⟨s', e1, w, w2, w3, _, _⟩ := zp_ok hp e0 (by rw [b1]; exact b4.1)
  refine ⟨_, _, s', by rw [b1]; exact b4.1, e1, w, w2, c1, zpc2_K hw hc (zpK_e (fun b j hb => ?_)), trivial⟩
  rw [zu2_sj (by omega), zu2_sj (by omega), zu2_sj (by omega)]
/-- up or down in a layer -/
theorem pk_152 (hw : zpW L m C s) (hm6 : m < 60) {i : Nat} (hi : i < 60) (t : (s m).2.1 1166 i = 1) {h a : Int} (k0 : 0 ≤ h ∧ h < 3) (k2 : 0 ≤ a ∧ a ≤ 3) : zpA L m C s 152 [.inr (.inr 2), .inl h, .inl (i : Int), .inl a] (fun _ _ _ => True) := by
  have th := zpth_i hw.2.2.1 hi t
  obtain ⟨hp, s0, s1, s2, s3, s8⟩ := pm_152 (a := a) hw hm6 k0 th k2
  have hc := hp.1.1
  have c1 := hp.1.2.1
  generalize (zwI (zbgM C m 7 h (i : Int)) (zu2 (zbgM C m 7 h (i : Int)).2.1 (855 + 4 * m) 8 a)) = C2 at *
  have r2 := zpc2_R hw hc
  have l2 := zpc2_L hw hc
  have t2 : C2.2.1 (14 + 14 * i) 0 = 1 := (zqR_t r2 hi).trans t
  have hg : zgua C2.2.1 m := ⟨Or.inr ⟨by omega, by omega, by rw [s2, Int.toNat_natCast]; exact t2⟩, Or.inl s3⟩
  obtain ⟨p, hpp, ep⟩ := zqpl i (g := (s m).2.1) ⟨hi, t⟩
  have bk2 := zqR_bk (zqQ_raise r2 hm6 ⟨hi, t⟩ hpp ep k2)
  have e0 := fun Q => c10_7 (L := L) (M := C2) (Q := Q) (c := m) (num := m) l2 (zqR_01 r2) hm6 hm6 hg s0 hi s2 (fun Q9 => by
    rw [s8]
    exact c25 (L := L) (M := C2) (Q := Q9) (w := a) l2 (zqR_bk r2) hi t2 k2 bk2)
  obtain ⟨s', e1, w, w2, w3, _, _⟩ := zp_ok hp e0 (by omega)
  refine ⟨_, _, s', by omega, e1, w, w2, c1, zpc2_K hw hc (zpK_e (fun b j hb => ?_)), trivial⟩
  exact zrai_o (by omega)
/-- a tie -/
theorem pk_155 (hw : zpW L m C s) (hm6 : m < 60) {i k : Nat} (hi : i < 60) (t : (s m).2.1 1166 i = 1) (hk : k < 60) (tk : (s m).2.1 1166 k = 1) {h a : Int} (k0 : 0 ≤ h ∧ h < 3) (k2 : 0 ≤ a ∧ a ≤ 2) (hr : zrng (zld C.2.1) (i : Int) 60 1 (k : Int) = 0) : zpA L m C s 155 [.inr (.inr 2), .inl h, .inl (i : Int), .inl (k : Int), .inl a] (fun _ _ s' => (s' (m + 1)).2.1 1172 i = (k : Int) ∧ (s' (m + 1)).2.1 1166 i = 1) := by
  have th := zpth_i hw.2.2.1 hi t
  have tj := zpth_i hw.2.2.1 hk tk
  obtain ⟨hp, s0, s1, s2, s3, s8⟩ := pm_155 (a := a) hw hm6 k0 th tj k2
  have hc := hp.1.1
  have c1 := hp.1.2.1
  generalize (zwI (zbgM C m 10 h (i : Int)) (zu2 (zu2 (zbgM C m 10 h (i : Int)).2.1 (855 + 4 * m) 3 (k : Int)) (855 + 4 * m) 8 a)) = C2 at *
  have r2 := zpc2_R hw hc
  have l2 := zpc2_L hw hc
  have t2 : C2.2.1 (14 + 14 * i) 0 = 1 := (zqR_t r2 hi).trans t
  have t3 : C2.2.1 (14 + 14 * k) 0 = 1 := (zqR_t r2 hk).trans tk
  have hg : zgua C2.2.1 m := ⟨Or.inr ⟨by omega, by omega, by rw [s2, Int.toNat_natCast]; exact t2⟩, Or.inr ⟨by omega, by omega, by rw [s3, Int.toNat_natCast]; exact t3⟩⟩
  have el : zrng (zld C2.2.1) (i : Int) 60 1 (k : Int) = 0 := by
    rw [← hr, zqrng (P := fun i => i < 60 ∧ (s m).2.1 1166 i = 1) (zqR_lv r2) _ 60 1 _ (Or.inr ⟨by omega, by rw [Int.toNat_natCast]; exact ⟨hk, tk⟩⟩), zqrng (P := fun i => i < 60 ∧ (s m).2.1 1166 i = 1) (zqR_lv hw.2.2.1) _ 60 1 _ (Or.inr ⟨by omega, by rw [Int.toNat_natCast]; exact ⟨hk, tk⟩⟩)]
  have e0 := fun Q => c10_10 (L := L) (M := C2) (Q := Q) (c := m) (num := m) l2 (zqR_01 r2) hm6 hm6 hg s0 hi s2 s3 (fun Q9 => by
    rw [s8]
    exact (c33 (L := L) (M := C2) (Q := Q9) (k := a) l2 (zqR_ld r2) hi hk).trans (znot (by omega)))
  obtain ⟨s', e1, w, w2, w3, _, _⟩ := zp_ok hp e0 (by omega)
  have a1 : ztie C2.2.1 i (k : Int) a (14 + 14 * i) 6 = (k : Int) := by
    unfold ztie
    rw [zu2_sj (by omega), zu2_eq]
  have a0 : ztie C2.2.1 i (k : Int) a (14 + 14 * i) 0 = 1 := by
    unfold ztie
    rw [zu2_sj (by omega), zu2_sj (by omega)]
    exact t2
  have g1 : (s' (m + 1)).2.1 1166 i = 1 := by rw [← zqR_t w3 hi]; exact a0
  refine ⟨_, _, s', by omega, e1, w, w2, c1, zpc2_K hw hc (zpK_e (fun b j hb => ?_)), ?_, g1⟩
  · unfold ztie
    rw [zu2_sj (by omega), zu2_sj (by omega)]
  · rw [← (w3.2.2.2.1.1 i hi g1).1]
    exact a1
/-- a guide -/
theorem pk_161 (hw : zpW L m C s) (hm6 : m < 60) {h t a : Int} (k0 : 0 ≤ h ∧ h < 3) (k1 : 0 ≤ a ∧ a ≤ 60) (hb : t = 0 ∨ t = 1) (hn : zgnew C.2.1 t a) : zpA L m C s 161 [.inr (.inr 2), .inl h, .inl t, .inl a] (fun v C' _ => v = C.2.1 11 0 + 1 ∧ C'.2.1 11 0 = C.2.1 11 0 + 1 ∧ C'.2.1 12 (C.2.1 11 0).toNat = t) := by
  obtain ⟨hp, s0, s1, s2, s3, s9, s8⟩ := pm_161 (a := a) hw hm6 k0 k1 hb
  have hc := hp.1.1
  have c1 := hp.1.2.1
  have h60 := hw.2.1.1
  generalize (zwI (zbgM C m 15 h (-1)) (zu2 (zu2 (zbgM C m 15 h (-1)).2.1 (855 + 4 * m) 9 t) (855 + 4 * m) 8 a)) = C2 at *
  have r2 := zpc2_R hw hc
  have l2 := zpc2_L hw hc
  have hg : zgua C2.2.1 m := ⟨Or.inl s2, Or.inl s3⟩
  have e11 : ∀ b j, b < 14 → 2 < b → C2.2.1 b j = C.2.1 b j := fun b j h1 h2 => hc.1 b j (by omega)
  have hn2 : zgnew C2.2.1 t a := by
    unfold zgnew at *
    rw [e11 11 0 (by omega) (by omega)]
    refine ⟨hn.1, fun i hi => ?_⟩
    rw [e11 12 i (by omega) (by omega), e11 13 i (by omega) (by omega)]
    exact hn.2 i hi
  have gd := zqR_gd r2
  have e0 := fun Q => c10_15 (L := L) (M := C2) (Q := Q) (c := m) (num := m) l2 (zqR_01 r2) hm6 hm6 hg s0 (fun Q9 => by
    rw [s9, s8]
    exact (c58 (L := L) (M := C2) (Q := Q9) (v := t) (p := a) l2 gd hb).trans (zyes hn2))
  obtain ⟨s', e1, w, w2, w3, _, _⟩ := zp_ok hp e0 (by have := gd.1; omega)
  have e110 := e11 11 0 (by omega) (by omega)
  refine ⟨_, _, s', by have := gd.1; omega, e1, w, w2, c1, zpc2_K hw hc (zpK_e (fun b j hb => ?_)), by rw [e110], ?_, ?_⟩
  · unfold zgput
    rw [zu2_sj (by omega), zu2_sj (by omega), zu2_sj (by omega)]
  · show zpf (zgput C2.2.1 t a) m 11 0 = _
    rw [zpf_o (by omega)]
    unfold zgput
    rw [zu2_eq, e110]
  · show zpf (zgput C2.2.1 t a) m 12 (C.2.1 11 0).toNat = t
    rw [zpf_o (by omega), ← e110]
    unfold zgput
    rw [zu2_sj (by omega), zu2_sj (by omega), zu2_eq]
end ZPKINDS
