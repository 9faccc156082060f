/-! the class: measure -/
section ZMEASURE2
variable {L : Nat} {M : zM} {s t : Nat} {Q : zO → zM → Prop}
theorem c105 {c1 c2 : Nat} {f : Nat → Nat → Int} (hR : zLay M.2.2.2) (hs : zShA s) (ht : zShA t) (ws : zSw f s) (wt : zSw f t) (hc1 : f s 10 = (c1 : Int)) (hc2 : f t 10 = (c2 : Int)) (p1 : zSP (zN f s) (zX f s) (zY f s) c1) (p2 : zSP (zN f t) (zX f t) (zY f t) c2) (hz : ∀ y, f 1114 y = 0) : zFR (zK L) 105 0 (zcall 105 [.inr (.inr 1105), .inr (.inr s), .inr (.inr t)]) [] (zwI M f) (fun r M2 => ∃ f', r = .inl none ∧ M2 = zwI M f' ∧ (∀ w : Nat, w < 4 → f' 1106 w = (zTot (zE2 f s t c1 c2) (zgl (w : Int) (f s 9) (f t 9) c1) 3601).2) ∧ (∀ y, f' 1114 y = 0) ∧ zsw f f') := by
  have hF := hR.1
  unfold zLayF at hF
  obtain ⟨k1, k2⟩ := zK_sh (L := L) hs
  obtain ⟨l1, l2⟩ := zK_sh (L := L) ht
  have ssw := zShA_sw hs
  have tsw := zShA_sw ht
  have hc14 : c1 ≤ 4 := by have := ws.1; omega
  have hc24 : c2 ≤ 4 := by have := wt.1; omega
  have hE2 : zE2 f s t c1 c2 = zeS (zN f s) (zX f s) (zY f s) 0 c1 ++ zeS (zN f t) (zX f t) (zY f t) c1 c2 := rfl
  obtain ⟨hA, hbit, hlen⟩ := zEA_2 (n := zN f s) (X := zX f s) (Y := zY f s) (n' := zN f t) (X' := zX f t) (Y' := zY f t) hc14 hc24 p1 p2
  rw [← hE2] at hA hbit hlen
  have z1 := zeS_n (n := zN f s) (X := zX f s) (Y := zY f s) (fb := 0) c1 (fun p hp => (p1 p hp).1.2.1)
  -- loading
  have hl0 : zELd (zu2 (zu2 (zu2 f 1105 1 0) 1105 10 3600) 1105 11 0) [] := by
    refine ⟨⟨?_, fun e he => absurd he (Nat.not_lt_zero e)⟩, fun y => ?_, ?_, ?_, fun e he => absurd he (Nat.not_lt_zero e)⟩
    · rw [zu2_i (by omega), zu2_i (by omega), zu2_eq]; rfl
    · rw [zu2_a (by omega), zu2_a (by omega), zu2_a (by omega), hz y]
      exact ⟨Or.inl rfl, fun h => absurd h (by omega), fun ⟨e, he, _⟩ => absurd he (Nat.not_lt_zero e)⟩
    · rw [zu2_i (by omega), zu2_eq]; omega
    · rw [zu2_eq]; omega
  have sw0 : zsw f (zu2 (zu2 (zu2 f 1105 1 0) 1105 10 3600) 1105 11 0) := fun a ha => by
    funext j
    rw [zu2_a (by omega), zu2_a (by omega), zu2_a (by omega)]
  generalize hf0 : zu2 (zu2 (zu2 f 1105 1 0) 1105 10 3600) 1105 11 0 = f0 at *
  have vN : ∀ g, zsw f g → ∀ q, zShA q → (zN g q = zN f q ∨ True) := fun g _ q _ => Or.inr trivial
  have view : ∀ g : Nat → Nat → Int, zsw f g → ∀ q : Nat, zShA q → (∀ c : Nat, c ≤ 4 → ∀ fb, zeS (zN g q) (zX g q) (zY g q) fb c = zeS (zN f q) (zX f q) (zY f q) fb c) := by
    intro g hg q hq c hc fb
    have : ∀ k, k ≤ 4 → zeS (zN g q) (zX g q) (zY g q) fb k = zeS (zN f q) (zX f q) (zY f q) fb k := by
      intro k
      induction k with
      | zero => intro _; rfl
      | succ k ih =>
        intro hk
        have pa : zPoA (q + 2 + 3 * k) := zPoA_sh hq (by omega)
        have psw := zPoA_sw pa
        have e0 : zN g q k = zN f q k := by unfold zN; rw [hg _ (by omega)]
        have e1 : zX g q k = zX f q k := by unfold zX; rw [hg _ (by omega)]
        have e2 : zY g q k = zY f q k := by unfold zY; rw [hg _ (by omega)]
        show zeS (zN g q) (zX g q) (zY g q) fb k ++ zeP (zN g q k) (zX g q k) (zY g q k) (2 ^ (fb + k)) (zN g q k).toNat = zeS (zN f q) (zX f q) (zY f q) fb k ++ zeP (zN f q k) (zX f q k) (zY f q k) (2 ^ (fb + k)) (zN f q k).toNat
        rw [ih (by omega), e0, e1, e2]
    exact this c hc
  have wview : ∀ g : Nat → Nat → Int, zsw f g → ∀ q : Nat, zShA q → zSw f q → zSw g q := by
    intro g hg q hq hw
    have qsw := zShA_sw hq
    obtain ⟨w1, w2, w3⟩ := hw
    unfold zSw
    rw [hg q (by omega)]
    refine ⟨w1, w2, fun p hp => ?_⟩
    have pa : zPoA (q + 2 + 3 * p) := zPoA_sh hq (by omega)
    have psw := zPoA_sw pa
    unfold zN zX zY
    rw [hg _ (by omega), hg _ (by omega), hg _ (by omega)]
    exact w3 p hp
  obtain ⟨r1, M1, ⟨f1, hr1, hM1, ld1, sw1⟩, e106a⟩ := zFRx (c106 (L := L) (M := M) (s := s) (fb := 0) (f := f0) (l := []) hs hR (wview f0 sw0 s hs ws) (by omega) (by show 0 + 32 ≤ 64; omega) hl0)
  subst hr1 hM1
  rw [show (((0 : Nat) : Int)) = 0 from rfl] at e106a
  have es0 : f0 s 10 = (c1 : Int) := by rw [sw0 s (by omega)]; exact hc1
  rw [es0, Int.toNat_natCast, view f0 sw0 s hs c1 hc14, List.nil_append] at ld1
  have sw1' : zsw f f1 := fun a ha => (sw1 a ha).trans (sw0 a ha)
  obtain ⟨r2, M2, ⟨f2, hr2, hM2, ld2, sw2⟩, e106b⟩ := zFRx (c106 (L := L) (M := M) (s := t) (fb := c1) (f := f1) ht hR (wview f1 sw1' t ht wt) hc14 (by omega) ld1)
  subst hr2 hM2
  have et1 : f1 t 10 = (c2 : Int) := by rw [sw1' t (by omega)]; exact hc2
  rw [et1, Int.toNat_natCast, view f1 sw1' t ht c2 hc24, ← hE2] at ld2
  have sw2' : zsw f f2 := fun a ha => (sw2 a ha).trans (sw1' a ha)
  generalize zE2 f s t c1 c2 = l at *
  obtain ⟨ce2, ck2, cl2⟩ := ld2
  obtain ⟨r3, M3, ⟨f3, hr3, hM3, ck3, sw3⟩, e108⟩ := zFRx (c108 (L := L) (M := M) (f := f2) (l := l) hR hlen hA ce2 ck2)
  subst hr3 hM3
  have e385 := fun Q => c385 (L := L) (M := zwI M f3) (Q := Q) (a := 1106) (n := 4) (v := 0) zk_1106 (by omega) (by omega)
  rw [zwI_I, zwI_w] at e385
  have hlow : ∀ j : Nat, zCut l (j : Int) → f2 1105 10 ≤ (j : Int) ∧ (j : Int) ≤ f2 1105 11 := fun j hj => zCut_b hj cl2.2.2 hA
  have clb := cl2.1
  have chb := cl2.2.1
  obtain ⟨lo, hlo⟩ : ∃ lo : Nat, f2 1105 10 = (lo : Int) := ⟨(f2 1105 10).toNat, by omega⟩
  obtain ⟨hi, hhi⟩ : ∃ hi : Nat, f2 1105 11 = (hi : Int) := ⟨(f2 1105 11).toNat, by omega⟩
  rw [hlo, hhi] at hlow
  generalize hQ : (fun r M2 => ∃ f', r = (Sum.inl none : zO) ∧ M2 = zwI M f' ∧ (∀ w : Nat, w < 4 → f' 1106 w = (zTot l (zgl (w : Int) (f s 9) (f t 9) c1) 3601).2) ∧ (∀ y, f' 1114 y = 0) ∧ zsw f f') = Q9
  -- what holds at y
  have loop : ∀ d y : Nat, 3601 - y = d → y ≤ 3601 → ∀ (f' : Nat → Nat → Int) (k : List Nat), zsw f f' → zCE f' l → f' 1105 11 = (hi : Int) → (∀ j : Nat, j < y → f' 1114 j = 0) → (∀ j : Nat, y ≤ j → (f' 1114 j = 0 ∨ f' 1114 j = 1) ∧ (f' 1114 j = 1 ↔ zCut l (j : Int))) → (∀ w : Nat, w < 4 → f' 1106 w = (zTot l (zgl (w : Int) (f s 9) (f t 9) c1) y).2) → f' 1105 9 = (k.length : Int) → zAL (f' 1113) k → ((zTot l (zgl 0 (f s 9) (f t 9) c1) y).1 = -1 → k = []) → (0 ≤ (zTot l (zgl 0 (f s 9) (f t 9) c1) y).1 → k.Perm ((List.range l.length).filter (fun e => decide (60 * (zegd l e).1 < (zTot l (zgl 0 (f s 9) (f t 9) c1) y).1 ∧ (zTot l (zgl 0 (f s 9) (f t 9) c1) y).1 ≤ 60 * (zegd l e).2.1)))) → zFR (zK L) 105 61 [some (.inr (.inr 1105)), some (.inr (.inr s)), some (.inr (.inr t)), some (.inl (zTot l (zgl 0 (f s 9) (f t 9) c1) y).1), some (.inl (y : Int))] [] (zwI M f') Q9 := by
    have exit : ∀ y : Nat, y ≤ 3601 → (hi < y ∨ y = 3601) → ∀ (f' : Nat → Nat → Int) y3, zsw f f' → f' 1105 11 = (hi : Int) → (∀ j : Nat, j < y → f' 1114 j = 0) → (∀ j : Nat, y ≤ j → (f' 1114 j = 0 ∨ f' 1114 j = 1) ∧ (f' 1114 j = 1 ↔ zCut l (j : Int))) → (∀ w : Nat, w < 4 → f' 1106 w = (zTot l (zgl (w : Int) (f s 9) (f t 9) c1) y).2) → zFR (zK L) 105 61 [some (.inr (.inr 1105)), some (.inr (.inr s)), some (.inr (.inr t)), y3, some (.inl (y : Int))] [] (zwI M f') Q9 := by
      intro y hy hx f' y3 h1 h3 h4 h5 h6
      have nocut : ∀ j : Nat, y ≤ j → ¬ zCut l (j : Int) := fun j hj hc => by
        have := hlow j hc
        omega
      have fin : Q9 (.inl none) (zwI M f') := by
        subst hQ
        refine ⟨f', rfl, rfl, fun w hw => ?_, fun j => ?_, h1⟩
        · rw [h6 w hw, zTot_e 3601 hy (fun j a1 _ => nocut j a1)]
        · by_cases hj : j < y
          · exact h4 j hj
          · rcases (h5 j (by omega)).1 with h | h
            · exact h
            · exact absurd ((h5 j (by omega)).2.mp h) (nocut j (by omega))
      refine zW_sound 60 [129] ?_
      simp only [ZR105, zk_1105, zk_1114, hF, zwI_I, zwI_2, h3, zW_succ, zE_iload, zE_aload, zE_lload, zE_iinc, zE_istore, zE_astore, zE_lstore, zE_iconst, zE_ldc2, zE_iadd, zE_isub, zE_imul, zE_idiv, zE_irem, zE_ineg, zE_iand, zE_ior, zE_ixor, zE_ishl, zE_ishr, zE_land, zE_lor, zE_lxor, zE_lshl, zE_lshr, zE_i2l, zE_lcmp, zE_dup_i, zE_dup_a, zE_dup2_ia, zE_pop_i, zE_pop_a, zE_pop2, zE_goto, zE_if_eq, zE_icmp_eq, zE_if_ne, zE_icmp_ne, zE_if_lt, zE_icmp_lt, zE_if_ge, zE_icmp_ge, zE_if_gt, zE_icmp_gt, zE_if_le, zE_icmp_le, zE_iaload, zE_baload, zE_laload, zE_aaload, zE_iastore, zE_bastore, zE_lastore, zE_aastore, zE_alen, zE_getf0, zE_getf1, zE_getf2, zE_getf3, zE_putf0, zE_putf1, zE_putf2, zE_putf3, zE_new, zE_newa, zE_newq, zE_ireturn, zE_lreturn, zE_areturn, zE_return, zE_athrow, zE_st0, zE_vi0, zE_st1, zE_vi1, zE_st2, zE_vi2, zE_st3, zE_vi3, zE_st4, zE_vi4, zE_st5, zE_vi5, zE_st6, zE_vi6, zE_st7, zE_vi7, zE_st8, zE_vi8, zSt_0, zSL_0, zSt_1n, zSt_1i, zSt_1a, zSt_1l, zSt_2n, zSt_2i, zSt_2a, zSt_2l, zSt_3n, zSt_3i, zSt_3a, zSt_3l, zSt_4n, zSt_4i, zSt_4a, zSt_4l, zSt_5n, zSt_5i, zSt_5a, zSt_5l, zSt_6n, zSt_6i, zSt_6a, zSt_6l, zSt_7n, zSt_7i, zSt_7a, zSt_7l, zSt_8n, zSt_8i, zSt_8a, zSt_8l, zSt_9n, zSt_9i, zSt_9a, zSt_9l, zSt_10n, zSt_10i, zSt_10a, zSt_10l, zSt_11n, zSt_11i, zSt_11a, zSt_11l, zSt_12n, zSt_12i, zSt_12a, zSt_12l, zSt_13n, zSt_13i, zSt_13a, zSt_13l, zSL_1n, zSL_1i, zSL_1a, zSL_1l, zSL_2n, zSL_2i, zSL_2a, zSL_2l, zSL_3n, zSL_3i, zSL_3a, zSL_3l, zSL_4n, zSL_4i, zSL_4a, zSL_4l, zSL_5n, zSL_5i, zSL_5a, zSL_5l, zSL_6n, zSL_6i, zSL_6a, zSL_6l, zSL_7n, zSL_7i, zSL_7a, zSL_7l, zSL_8n, zSL_8i, zSL_8a, zSL_8l, zSL_9n, zSL_9i, zSL_9a, zSL_9l, zSL_10n, zSL_10i, zSL_10a, zSL_10l, zSL_11n, zSL_11i, zSL_11a, zSL_11l, zSL_12n, zSL_12i, zSL_12a, zSL_12l, zLI_0, zLL_0, zLA_0, zLI_1, zLL_1, zLA_1, zLI_2, zLL_2, zLA_2, zLI_3, zLL_3, zLA_3, zLI_4, zLL_4, zLA_4, zLI_5, zLL_5, zLA_5, zLI_6, zLL_6, zLA_6, zLI_7, zLL_7, zLA_7, zLI_8, zLL_8, zLA_8, zLI_9, zLL_9, zLA_9, zLI_10, zLL_10, zLA_10, zLI_11, zLL_11, zLA_11, zLI_12, zLL_12, zLA_12, zLI_13, zLL_13, zLA_13, zst_0, zst_1n, zst_1i, zst_1a, zst_2n, zst_2i, zst_2a, zst_3n, zst_3i, zst_3a, zst_4n, zst_4i, zst_4a, zst_5n, zst_5i, zst_5a, zst_6n, zst_6i, zst_6a, zst_7n, zst_7i, zst_7a, zst_8n, zst_8i, zst_8a, zst_9n, zst_9i, zst_9a, zst_10n, zst_10i, zst_10a, zst_11n, zst_11i, zst_11a, zst_12n, zst_12i, zst_12a, zst_13n, zst_13i, zst_13a, zst_14n, zst_14i, zst_14a, zst_15n, zst_15i, zst_15a, zR1_n, zR1_v, zsum_n, zsum_i, zsum_l, zsum_a, zlen_n, zlen_i, zlen_l, zlen_a, List.not_mem_nil, List.mem_cons, or_false, false_or, or_self, ↓reduceIte, if_false, if_true, Nat.reduceEqDiff, Nat.reduceAdd, Nat.reduceLeDiff, true_and, and_true, reduceCtorEq, ne_eq, Int.toNat_natCast, not_true_eq_false, not_false_eq_true, true_implies, false_implies, implies_true, Int.reduceToNat, Int.toNat_zero, Int.reduceLT, Int.reduceLE, Int.reduceEq, Int.reduceAdd, Int.reduceMul, Int.reduceNeg]
      have f9 : zFR (zK L) 105 129 [some (.inr (.inr 1105)), some (.inr (.inr s)), some (.inr (.inr t)), y3, some (.inl (y : Int))] [] (zwI M f') Q9 := by
        refine zW_sound 60 [] ?_
        simp only [ZR105, zW_succ, zE_iload, zE_aload, zE_lload, zE_iinc, zE_istore, zE_astore, zE_lstore, zE_iconst, zE_ldc2, zE_iadd, zE_isub, zE_imul, zE_idiv, zE_irem, zE_ineg, zE_iand, zE_ior, zE_ixor, zE_ishl, zE_ishr, zE_land, zE_lor, zE_lxor, zE_lshl, zE_lshr, zE_i2l, zE_lcmp, zE_dup_i, zE_dup_a, zE_dup2_ia, zE_pop_i, zE_pop_a, zE_pop2, zE_goto, zE_if_eq, zE_icmp_eq, zE_if_ne, zE_icmp_ne, zE_if_lt, zE_icmp_lt, zE_if_ge, zE_icmp_ge, zE_if_gt, zE_icmp_gt, zE_if_le, zE_icmp_le, zE_iaload, zE_baload, zE_laload, zE_aaload, zE_iastore, zE_bastore, zE_lastore, zE_aastore, zE_alen, zE_getf0, zE_getf1, zE_getf2, zE_getf3, zE_putf0, zE_putf1, zE_putf2, zE_putf3, zE_new, zE_newa, zE_newq, zE_ireturn, zE_lreturn, zE_areturn, zE_return, zE_athrow, zE_st0, zE_vi0, zE_st1, zE_vi1, zE_st2, zE_vi2, zE_st3, zE_vi3, zE_st4, zE_vi4, zE_st5, zE_vi5, zE_st6, zE_vi6, zE_st7, zE_vi7, zE_st8, zE_vi8, zSt_0, zSL_0, zSt_1n, zSt_1i, zSt_1a, zSt_1l, zSt_2n, zSt_2i, zSt_2a, zSt_2l, zSt_3n, zSt_3i, zSt_3a, zSt_3l, zSt_4n, zSt_4i, zSt_4a, zSt_4l, zSt_5n, zSt_5i, zSt_5a, zSt_5l, zSt_6n, zSt_6i, zSt_6a, zSt_6l, zSt_7n, zSt_7i, zSt_7a, zSt_7l, zSt_8n, zSt_8i, zSt_8a, zSt_8l, zSt_9n, zSt_9i, zSt_9a, zSt_9l, zSt_10n, zSt_10i, zSt_10a, zSt_10l, zSt_11n, zSt_11i, zSt_11a, zSt_11l, zSt_12n, zSt_12i, zSt_12a, zSt_12l, zSt_13n, zSt_13i, zSt_13a, zSt_13l, zSL_1n, zSL_1i, zSL_1a, zSL_1l, zSL_2n, zSL_2i, zSL_2a, zSL_2l, zSL_3n, zSL_3i, zSL_3a, zSL_3l, zSL_4n, zSL_4i, zSL_4a, zSL_4l, zSL_5n, zSL_5i, zSL_5a, zSL_5l, zSL_6n, zSL_6i, zSL_6a, zSL_6l, zSL_7n, zSL_7i, zSL_7a, zSL_7l, zSL_8n, zSL_8i, zSL_8a, zSL_8l, zSL_9n, zSL_9i, zSL_9a, zSL_9l, zSL_10n, zSL_10i, zSL_10a, zSL_10l, zSL_11n, zSL_11i, zSL_11a, zSL_11l, zSL_12n, zSL_12i, zSL_12a, zSL_12l, zLI_0, zLL_0, zLA_0, zLI_1, zLL_1, zLA_1, zLI_2, zLL_2, zLA_2, zLI_3, zLL_3, zLA_3, zLI_4, zLL_4, zLA_4, zLI_5, zLL_5, zLA_5, zLI_6, zLL_6, zLA_6, zLI_7, zLL_7, zLA_7, zLI_8, zLL_8, zLA_8, zLI_9, zLL_9, zLA_9, zLI_10, zLL_10, zLA_10, zLI_11, zLL_11, zLA_11, zLI_12, zLL_12, zLA_12, zLI_13, zLL_13, zLA_13, zst_0, zst_1n, zst_1i, zst_1a, zst_2n, zst_2i, zst_2a, zst_3n, zst_3i, zst_3a, zst_4n, zst_4i, zst_4a, zst_5n, zst_5i, zst_5a, zst_6n, zst_6i, zst_6a, zst_7n, zst_7i, zst_7a, zst_8n, zst_8i, zst_8a, zst_9n, zst_9i, zst_9a, zst_10n, zst_10i, zst_10a, zst_11n, zst_11i, zst_11a, zst_12n, zst_12i, zst_12a, zst_13n, zst_13i, zst_13a, zst_14n, zst_14i, zst_14a, zst_15n, zst_15i, zst_15a, zR1_n, zR1_v, zsum_n, zsum_i, zsum_l, zsum_a, zlen_n, zlen_i, zlen_l, zlen_a, List.not_mem_nil, List.mem_cons, or_false, false_or, or_self, ↓reduceIte, if_false, if_true, Nat.reduceEqDiff, Nat.reduceAdd, Nat.reduceLeDiff, true_and, and_true, reduceCtorEq, ne_eq, Int.toNat_natCast, not_true_eq_false, not_false_eq_true, true_implies, false_implies, implies_true, Int.reduceToNat, Int.toNat_zero, Int.reduceLT, Int.reduceLE, Int.reduceEq, Int.reduceAdd, Int.reduceMul, Int.reduceNeg]
        exact fin
      (repeat' (first | with_reducible refine And.intro ?_ ?_ | with_reducible intro _)) <;> first | exact f9 | omega
    intro d
    induction d with
    | zero =>
      intro y hd hy f' k h1 h2 h3 h4 h5 h6 h7 h8 h9 h10
      exact exit y hy (Or.inr (by omega)) f' _ h1 h3 h4 h5 h6
    | succ d ih =>
      intro y hd hy f' k h1 h2 h3 h4 h5 h6 h7 h8 h9 h10
      by_cases hyh : hi < y
      · exact exit y hy (Or.inl hyh) f' _ h1 h3 h4 h5 h6
      · have h5y := h5 y (Nat.le_refl y)
        have e3601 : (((3601 : Nat) : Int)) = 3601 := rfl
        by_cases hc : zCut l (y : Int)
        · have h51 := h5y.2.mpr hc
          -- the new state behind the cut
          have next : ∀ (g : Nat → Nat → Int) (k' : List Nat), zsw f g → zCE g l → g 1105 11 = (hi : Int) → (∀ j : Nat, j < y → g 1114 j = 0) → g 1114 y = 0 → (∀ j : Nat, y + 1 ≤ j → (g 1114 j = 0 ∨ g 1114 j = 1) ∧ (g 1114 j = 1 ↔ zCut l (j : Int))) → (∀ w : Nat, w < 4 → g 1106 w = (zTot l (zgl (w : Int) (f s 9) (f t 9) c1) (y + 1)).2) → g 1105 9 = (k'.length : Int) → zAL (g 1113) k' → k'.Perm ((List.range l.length).filter (fun e => decide (60 * (zegd l e).1 < (y : Int) ∧ (y : Int) ≤ 60 * (zegd l e).2.1))) → ∀ y3, zFR (zK L) 105 120 [some (.inr (.inr 1105)), some (.inr (.inr s)), some (.inr (.inr t)), y3, some (.inl (y : Int))] [] (zwI M g) Q9 := by
            intro g k' a1 a2 a3 a4 a4' a5 a6 a7 a8 a9 y3
            have e1 : (zTot l (zgl 0 (f s 9) (f t 9) c1) (y + 1)).1 = (y : Int) := by rw [zTot_s, if_pos (zcub_i.mpr hc)]
            have o9 := ih (y + 1) (by omega) (by omega) g k' a1 a2 a3 (fun j hj => by
              by_cases e : j = y
              · rw [e]; exact a4'
              · exact a4 j (by omega)) a5 a6 a7 a8 (fun h => by rw [e1] at h; omega) (fun _ => by rw [e1]; exact a9)
            rw [e1, show ((y + 1 : Nat) : Int) = (y : Int) + 1 by omega] at o9
            refine zW_sound 60 [61] ?_
            simp only [ZR105, zW_succ, zE_iload, zE_aload, zE_lload, zE_iinc, zE_istore, zE_astore, zE_lstore, zE_iconst, zE_ldc2, zE_iadd, zE_isub, zE_imul, zE_idiv, zE_irem, zE_ineg, zE_iand, zE_ior, zE_ixor, zE_ishl, zE_ishr, zE_land, zE_lor, zE_lxor, zE_lshl, zE_lshr, zE_i2l, zE_lcmp, zE_dup_i, zE_dup_a, zE_dup2_ia, zE_pop_i, zE_pop_a, zE_pop2, zE_goto, zE_if_eq, zE_icmp_eq, zE_if_ne, zE_icmp_ne, zE_if_lt, zE_icmp_lt, zE_if_ge, zE_icmp_ge, zE_if_gt, zE_icmp_gt, zE_if_le, zE_icmp_le, zE_iaload, zE_baload, zE_laload, zE_aaload, zE_iastore, zE_bastore, zE_lastore, zE_aastore, zE_alen, zE_getf0, zE_getf1, zE_getf2, zE_getf3, zE_putf0, zE_putf1, zE_putf2, zE_putf3, zE_new, zE_newa, zE_newq, zE_ireturn, zE_lreturn, zE_areturn, zE_return, zE_athrow, zE_st0, zE_vi0, zE_st1, zE_vi1, zE_st2, zE_vi2, zE_st3, zE_vi3, zE_st4, zE_vi4, zE_st5, zE_vi5, zE_st6, zE_vi6, zE_st7, zE_vi7, zE_st8, zE_vi8, zSt_0, zSL_0, zSt_1n, zSt_1i, zSt_1a, zSt_1l, zSt_2n, zSt_2i, zSt_2a, zSt_2l, zSt_3n, zSt_3i, zSt_3a, zSt_3l, zSt_4n, zSt_4i, zSt_4a, zSt_4l, zSt_5n, zSt_5i, zSt_5a, zSt_5l, zSt_6n, zSt_6i, zSt_6a, zSt_6l, zSt_7n, zSt_7i, zSt_7a, zSt_7l, zSt_8n, zSt_8i, zSt_8a, zSt_8l, zSt_9n, zSt_9i, zSt_9a, zSt_9l, zSt_10n, zSt_10i, zSt_10a, zSt_10l, zSt_11n, zSt_11i, zSt_11a, zSt_11l, zSt_12n, zSt_12i, zSt_12a, zSt_12l, zSt_13n, zSt_13i, zSt_13a, zSt_13l, zSL_1n, zSL_1i, zSL_1a, zSL_1l, zSL_2n, zSL_2i, zSL_2a, zSL_2l, zSL_3n, zSL_3i, zSL_3a, zSL_3l, zSL_4n, zSL_4i, zSL_4a, zSL_4l, zSL_5n, zSL_5i, zSL_5a, zSL_5l, zSL_6n, zSL_6i, zSL_6a, zSL_6l, zSL_7n, zSL_7i, zSL_7a, zSL_7l, zSL_8n, zSL_8i, zSL_8a, zSL_8l, zSL_9n, zSL_9i, zSL_9a, zSL_9l, zSL_10n, zSL_10i, zSL_10a, zSL_10l, zSL_11n, zSL_11i, zSL_11a, zSL_11l, zSL_12n, zSL_12i, zSL_12a, zSL_12l, zLI_0, zLL_0, zLA_0, zLI_1, zLL_1, zLA_1, zLI_2, zLL_2, zLA_2, zLI_3, zLL_3, zLA_3, zLI_4, zLL_4, zLA_4, zLI_5, zLL_5, zLA_5, zLI_6, zLL_6, zLA_6, zLI_7, zLL_7, zLA_7, zLI_8, zLL_8, zLA_8, zLI_9, zLL_9, zLA_9, zLI_10, zLL_10, zLA_10, zLI_11, zLL_11, zLA_11, zLI_12, zLL_12, zLA_12, zLI_13, zLL_13, zLA_13, zst_0, zst_1n, zst_1i, zst_1a, zst_2n, zst_2i, zst_2a, zst_3n, zst_3i, zst_3a, zst_4n, zst_4i, zst_4a, zst_5n, zst_5i, zst_5a, zst_6n, zst_6i, zst_6a, zst_7n, zst_7i, zst_7a, zst_8n, zst_8i, zst_8a, zst_9n, zst_9i, zst_9a, zst_10n, zst_10i, zst_10a, zst_11n, zst_11i, zst_11a, zst_12n, zst_12i, zst_12a, zst_13n, zst_13i, zst_13a, zst_14n, zst_14i, zst_14a, zst_15n, zst_15i, zst_15a, zR1_n, zR1_v, zsum_n, zsum_i, zsum_l, zsum_a, zlen_n, zlen_i, zlen_l, zlen_a, List.not_mem_nil, List.mem_cons, or_false, false_or, or_self, ↓reduceIte, if_false, if_true, Nat.reduceEqDiff, Nat.reduceAdd, Nat.reduceLeDiff, true_and, and_true, reduceCtorEq, ne_eq, Int.toNat_natCast, not_true_eq_false, not_false_eq_true, true_implies, false_implies, implies_true, Int.reduceToNat, Int.toNat_zero, Int.reduceLT, Int.reduceLE, Int.reduceEq, Int.reduceAdd, Int.reduceMul, Int.reduceNeg]
            first | exact o9 | exact ⟨by unfold zr32; omega, o9⟩ | (repeat' (first | with_reducible refine And.intro ?_ ?_ | with_reducible intro _)) <;> try first | with_reducible rfl | with_reducible assumption | omega | (unfold zr32; omega) | contradiction | (exact absurd (by omega) (by assumption)) | rfl | (simp only [Sum.inl.injEq, Option.some.injEq]; omega)
          have fr : ∀ a, a ≠ 1114 → zu2 f' 1114 y 0 a = f' a := fun a ha => funext (fun j => zu2_a ha _ _ _ _)
          have sw' : zsw f (zu2 f' 1114 y 0) := fun a ha => (fr a (by omega)).trans (h1 a ha)
          have ce' : zCE (zu2 f' 1114 y 0) l := by
            unfold zCE
            rw [fr 1105 (by omega), fr 1107 (by omega), fr 1108 (by omega), fr 1109 (by omega), fr 1110 (by omega), fr 1111 (by omega)]
            exact h2
          have z0 : ∀ j : Nat, j < y → zu2 f' 1114 y 0 1114 j = 0 := fun j hj => by rw [zu2_i (by omega)]; exact h4 j hj
          have z1 : zu2 f' 1114 y 0 1114 y = 0 := zu2_eq _ _ _ _
          have z2 : ∀ j : Nat, y + 1 ≤ j → (zu2 f' 1114 y 0 1114 j = 0 ∨ zu2 f' 1114 y 0 1114 j = 1) ∧ (zu2 f' 1114 y 0 1114 j = 1 ↔ zCut l (j : Int)) := fun j hj => by rw [zu2_i (by omega)]; exact h5 j (by omega)
          rcases zTot_c l (zgl 0 (f s 9) (f t 9) c1) y with ⟨b1, b2, b3⟩ | ⟨u, b1, b2, b3, b4⟩
          · -- the first cut
            have hk := h9 b1
            subst hk
            have o9 := next (zu2 f' 1114 y 0) [] sw' ce' (by rw [fr 1105 (by omega)]; exact h3) z0 z1 z2 (fun w hw => by
              rw [fr 1106 (by omega), h6 w hw, zTot_s, if_pos (zcub_i.mpr hc)]
              have e1 := zTot_1 l (zgl (w : Int) (f s 9) (f t 9) c1) (zgl 0 (f s 9) (f t 9) c1) y
              rw [b1] at e1
              dsimp only
              rw [if_pos (by omega)]) (by rw [fr 1105 (by omega)]; exact h7) (by rw [fr 1113 (by omega)]; exact h8) (by
              have : (List.range l.length).filter (fun e => decide (60 * (zegd l e).1 < (y : Int) ∧ (y : Int) ≤ 60 * (zegd l e).2.1)) = [] := by
                refine List.filter_eq_nil_iff.mpr (fun x hx => ?_)
                have hx := List.mem_range.mp hx
                have hw := (hA x hx).1
                intro h
                have h := of_decide_eq_true h
                exact b3 (60 * (zegd l x).1).toNat (by omega) (Or.inl ⟨x, hx, Or.inl (by omega)⟩)
              rw [this]) (some (.inl (-1)))
            rw [b1]
            refine zW_sound 60 [120, 129] ?_
            simp only [ZR105, zk_1105, zk_1114, hF, zwI_I, zwI_2, zsI_wI, h3, h51, zW_succ, zE_iload, zE_aload, zE_lload, zE_iinc, zE_istore, zE_astore, zE_lstore, zE_iconst, zE_ldc2, zE_iadd, zE_isub, zE_imul, zE_idiv, zE_irem, zE_ineg, zE_iand, zE_ior, zE_ixor, zE_ishl, zE_ishr, zE_land, zE_lor, zE_lxor, zE_lshl, zE_lshr, zE_i2l, zE_lcmp, zE_dup_i, zE_dup_a, zE_dup2_ia, zE_pop_i, zE_pop_a, zE_pop2, zE_goto, zE_if_eq, zE_icmp_eq, zE_if_ne, zE_icmp_ne, zE_if_lt, zE_icmp_lt, zE_if_ge, zE_icmp_ge, zE_if_gt, zE_icmp_gt, zE_if_le, zE_icmp_le, zE_iaload, zE_baload, zE_laload, zE_aaload, zE_iastore, zE_bastore, zE_lastore, zE_aastore, zE_alen, zE_getf0, zE_getf1, zE_getf2, zE_getf3, zE_putf0, zE_putf1, zE_putf2, zE_putf3, zE_new, zE_newa, zE_newq, zE_ireturn, zE_lreturn, zE_areturn, zE_return, zE_athrow, zE_st0, zE_vi0, zE_st1, zE_vi1, zE_st2, zE_vi2, zE_st3, zE_vi3, zE_st4, zE_vi4, zE_st5, zE_vi5, zE_st6, zE_vi6, zE_st7, zE_vi7, zE_st8, zE_vi8, zSt_0, zSL_0, zSt_1n, zSt_1i, zSt_1a, zSt_1l, zSt_2n, zSt_2i, zSt_2a, zSt_2l, zSt_3n, zSt_3i, zSt_3a, zSt_3l, zSt_4n, zSt_4i, zSt_4a, zSt_4l, zSt_5n, zSt_5i, zSt_5a, zSt_5l, zSt_6n, zSt_6i, zSt_6a, zSt_6l, zSt_7n, zSt_7i, zSt_7a, zSt_7l, zSt_8n, zSt_8i, zSt_8a, zSt_8l, zSt_9n, zSt_9i, zSt_9a, zSt_9l, zSt_10n, zSt_10i, zSt_10a, zSt_10l, zSt_11n, zSt_11i, zSt_11a, zSt_11l, zSt_12n, zSt_12i, zSt_12a, zSt_12l, zSt_13n, zSt_13i, zSt_13a, zSt_13l, zSL_1n, zSL_1i, zSL_1a, zSL_1l, zSL_2n, zSL_2i, zSL_2a, zSL_2l, zSL_3n, zSL_3i, zSL_3a, zSL_3l, zSL_4n, zSL_4i, zSL_4a, zSL_4l, zSL_5n, zSL_5i, zSL_5a, zSL_5l, zSL_6n, zSL_6i, zSL_6a, zSL_6l, zSL_7n, zSL_7i, zSL_7a, zSL_7l, zSL_8n, zSL_8i, zSL_8a, zSL_8l, zSL_9n, zSL_9i, zSL_9a, zSL_9l, zSL_10n, zSL_10i, zSL_10a, zSL_10l, zSL_11n, zSL_11i, zSL_11a, zSL_11l, zSL_12n, zSL_12i, zSL_12a, zSL_12l, zLI_0, zLL_0, zLA_0, zLI_1, zLL_1, zLA_1, zLI_2, zLL_2, zLA_2, zLI_3, zLL_3, zLA_3, zLI_4, zLL_4, zLA_4, zLI_5, zLL_5, zLA_5, zLI_6, zLL_6, zLA_6, zLI_7, zLL_7, zLA_7, zLI_8, zLL_8, zLA_8, zLI_9, zLL_9, zLA_9, zLI_10, zLL_10, zLA_10, zLI_11, zLL_11, zLA_11, zLI_12, zLL_12, zLA_12, zLI_13, zLL_13, zLA_13, zst_0, zst_1n, zst_1i, zst_1a, zst_2n, zst_2i, zst_2a, zst_3n, zst_3i, zst_3a, zst_4n, zst_4i, zst_4a, zst_5n, zst_5i, zst_5a, zst_6n, zst_6i, zst_6a, zst_7n, zst_7i, zst_7a, zst_8n, zst_8i, zst_8a, zst_9n, zst_9i, zst_9a, zst_10n, zst_10i, zst_10a, zst_11n, zst_11i, zst_11a, zst_12n, zst_12i, zst_12a, zst_13n, zst_13i, zst_13a, zst_14n, zst_14i, zst_14a, zst_15n, zst_15i, zst_15a, zR1_n, zR1_v, zsum_n, zsum_i, zsum_l, zsum_a, zlen_n, zlen_i, zlen_l, zlen_a, List.not_mem_nil, List.mem_cons, or_false, false_or, or_self, ↓reduceIte, if_false, if_true, Nat.reduceEqDiff, Nat.reduceAdd, Nat.reduceLeDiff, true_and, and_true, reduceCtorEq, ne_eq, Int.toNat_natCast, not_true_eq_false, not_false_eq_true, true_implies, false_implies, implies_true, Int.reduceToNat, Int.toNat_zero, Int.reduceLT, Int.reduceLE, Int.reduceEq, Int.reduceAdd, Int.reduceMul, Int.reduceNeg]
            (repeat' (first | with_reducible refine And.intro ?_ ?_ | with_reducible intro _)) <;> try first | with_reducible rfl | with_reducible assumption | omega | (unfold zr32; omega) | contradiction | (exact absurd (by omega) (by assumption)) | rfl | (simp only [Sum.inl.injEq, Option.some.injEq]; omega)
          · -- a strip
            have hperm := h10 (by rw [b1]; omega)
            rw [b1] at hperm
            obtain ⟨r4, M4, ⟨f4, k', hr4, hM4, c9, al4, pm4, so4, md4, fr4, fj4⟩, e109⟩ := zFRx (c109 (L := L) (M := M) (f := zu2 f' 1114 y 0) (l := l) (k0 := k) (u := (u : Int)) (v := (y : Int)) hR hlen hA ce' (by rw [fr 1105 (by omega)]; exact h7) (by rw [fr 1113 (by omega)]; exact h8) hperm (by omega) (by omega))
            subst hr4 hM4
            obtain ⟨act1, act2⟩ := zact_f (l := l) (u := (u : Int)) (v := (y : Int)) (by omega) b3 (fun j a1 a2 => b4 j (by omega) (by omega)) hA
            have hpA : k'.Perm (zAct l (u : Int) (y : Int)) := by rw [← act1]; exact pm4
            have sw4 : zsw f f4 := fun a ha => (fr4 a (by omega) (by omega) (by omega)).trans (sw' a ha)
            have hmem : ∀ e, e ∈ k' → e < l.length ∧ 60 * (zegd l e).1 ≤ (u : Int) ∧ (y : Int) ≤ 60 * (zegd l e).2.1 := fun e he => by
              have h2 := List.mem_filter.mp (hpA.mem_iff.mp he)
              exact ⟨List.mem_range.mp h2.1, of_decide_eq_true h2.2⟩
            have hk6 : k'.length ≤ 64 := by
              have h2 := List.length_filter_le (fun e => decide (60 * (zegd l e).1 ≤ (u : Int) ∧ (y : Int) ≤ 60 * (zegd l e).2.1)) (List.range l.length)
              rw [List.length_range] at h2
              have h3 := hpA.length_eq
              unfold zAct at h3
              omega
            have hsum : ∀ w : Nat, w < 4 → f4 1106 w = (zTot l (zgl (w : Int) (f s 9) (f t 9) c1) y).2 := fun w hw => by
              rw [fr4 1106 (by omega) (by omega) (by omega), fr 1106 (by omega)]
              exact h6 w hw
            have hu1 : ∀ w : Nat, (zTot l (zgl (w : Int) (f s 9) (f t 9) c1) y).1 = (u : Int) := fun w => by rw [zTot_1 l (zgl (w : Int) (f s 9) (f t 9) c1) (zgl 0 (f s 9) (f t 9) c1) y]; exact b1
            have hSb : ∀ w : Nat, w < 4 → 0 ≤ f4 1106 w ∧ f4 1106 w ≤ 100000000 := fun w hw => by
              have h2 := zTot_b hA (zgl (w : Int) (f s 9) (f t 9) c1) y
              rw [hu1 w, if_neg (by omega)] at h2
              rw [hsum w hw]
              omega
            have es9 : f4 s 9 = f s 9 := by rw [sw4 s (by omega)]
            have et9 : f4 t 9 = f t 9 := by rw [sw4 t (by omega)]
            obtain ⟨r5, M5, ⟨f5, hr5, hM5, sm5, fr5⟩, e110⟩ := zFRx (c110 (L := L) (M := M) (s := s) (t := t) (f := f4) (k := k') (h := y - u) (m := zmd2 l (u : Int) (y : Int)) (b := zebi l) (c1 := c1) (c2 := c2) hR hs ht (wview f4 sw4 s hs ws) (wview f4 sw4 t ht wt) (by rw [sw4 s (by omega)]; exact hc1) (by rw [sw4 t (by omega)]; exact hc2) c9 hk6 al4 (fun e he => by
              obtain ⟨q1, q2, q3⟩ := hmem e he
              have q4 := zmd2_a (hA e q1) q2 q3 (by omega)
              refine ⟨by omega, md4 e he, q4.1, q4.2, ?_, hbit e q1⟩
              rw [fr4 1111 (by omega) (by omega) (by omega), fr 1111 (by omega)]
              exact (h2.2 e q1).2.2.2.2) so4 (by omega) hSb)
            subst hr5 hM5
            rw [es9, et9] at sm5
            have o9 := next f5 k' (fun a ha => (fr5 a (by omega)).trans (sw4 a ha)) (by
              have ce4 : zCE f4 l := by
                unfold zCE
                rw [fj4 1 (by omega), fr4 1107 (by omega) (by omega) (by omega), fr4 1108 (by omega) (by omega) (by omega), fr4 1109 (by omega) (by omega) (by omega), fr4 1110 (by omega) (by omega) (by omega), fr4 1111 (by omega) (by omega) (by omega)]
                exact ce'
              unfold zCE
              rw [fr5 1105 (by omega), fr5 1107 (by omega), fr5 1108 (by omega), fr5 1109 (by omega), fr5 1110 (by omega), fr5 1111 (by omega)]
              exact ce4) (by rw [fr5 1105 (by omega), fj4 11 (by omega), fr 1105 (by omega)]; exact h3) (fun j hj => by rw [fr5 1114 (by omega), fr4 1114 (by omega) (by omega) (by omega)]; exact z0 j hj) (by rw [fr5 1114 (by omega), fr4 1114 (by omega) (by omega) (by omega)]; exact z1) (fun j hj => by rw [fr5 1114 (by omega), fr4 1114 (by omega) (by omega) (by omega)]; exact z2 j hj) (fun w hw => by
              rw [sm5 w hw, hsum w hw, zSV_of so4 hpA, zTot_s, if_pos (zcub_i.mpr hc)]
              dsimp only
              rw [hu1 w, if_neg (by omega), Int.mul_comm, show ((y - u : Nat) : Int) = (y : Int) - (u : Int) by omega]) (by rw [fr5 1105 (by omega)]; exact c9) (by rw [fr5 1113 (by omega)]; exact al4) (by rw [← act2]; exact pm4) (some (.inl (u : Int)))
            have eyu : (y : Int) - (u : Int) = ((y - u : Nat) : Int) := by omega
            rw [b1]
            refine zW_sound 60 [120, 129] ?_
            simp only [ZR105, zk_1105, zk_1114, hF, zwI_I, zwI_2, zsI_wI, h3, h51, eyu, ZF109.1, ZF109.2.1, ZF109.2.2.1, e109, ZF110.1, ZF110.2.1, ZF110.2.2.1, e110, zW_succ, zE_iload, zE_aload, zE_lload, zE_iinc, zE_istore, zE_astore, zE_lstore, zE_iconst, zE_ldc2, zE_iadd, zE_isub, zE_imul, zE_idiv, zE_irem, zE_ineg, zE_iand, zE_ior, zE_ixor, zE_ishl, zE_ishr, zE_land, zE_lor, zE_lxor, zE_lshl, zE_lshr, zE_i2l, zE_lcmp, zE_dup_i, zE_dup_a, zE_dup2_ia, zE_pop_i, zE_pop_a, zE_pop2, zE_goto, zE_if_eq, zE_icmp_eq, zE_if_ne, zE_icmp_ne, zE_if_lt, zE_icmp_lt, zE_if_ge, zE_icmp_ge, zE_if_gt, zE_icmp_gt, zE_if_le, zE_icmp_le, zE_iaload, zE_baload, zE_laload, zE_aaload, zE_iastore, zE_bastore, zE_lastore, zE_aastore, zE_alen, zE_getf0, zE_getf1, zE_getf2, zE_getf3, zE_putf0, zE_putf1, zE_putf2, zE_putf3, zE_new, zE_newa, zE_newq, zE_ireturn, zE_lreturn, zE_areturn, zE_return, zE_athrow, zE_st0, zE_vi0, zE_st1, zE_vi1, zE_st2, zE_vi2, zE_st3, zE_vi3, zE_st4, zE_vi4, zE_st5, zE_vi5, zE_st6, zE_vi6, zE_st7, zE_vi7, zE_st8, zE_vi8, zSt_0, zSL_0, zSt_1n, zSt_1i, zSt_1a, zSt_1l, zSt_2n, zSt_2i, zSt_2a, zSt_2l, zSt_3n, zSt_3i, zSt_3a, zSt_3l, zSt_4n, zSt_4i, zSt_4a, zSt_4l, zSt_5n, zSt_5i, zSt_5a, zSt_5l, zSt_6n, zSt_6i, zSt_6a, zSt_6l, zSt_7n, zSt_7i, zSt_7a, zSt_7l, zSt_8n, zSt_8i, zSt_8a, zSt_8l, zSt_9n, zSt_9i, zSt_9a, zSt_9l, zSt_10n, zSt_10i, zSt_10a, zSt_10l, zSt_11n, zSt_11i, zSt_11a, zSt_11l, zSt_12n, zSt_12i, zSt_12a, zSt_12l, zSt_13n, zSt_13i, zSt_13a, zSt_13l, zSL_1n, zSL_1i, zSL_1a, zSL_1l, zSL_2n, zSL_2i, zSL_2a, zSL_2l, zSL_3n, zSL_3i, zSL_3a, zSL_3l, zSL_4n, zSL_4i, zSL_4a, zSL_4l, zSL_5n, zSL_5i, zSL_5a, zSL_5l, zSL_6n, zSL_6i, zSL_6a, zSL_6l, zSL_7n, zSL_7i, zSL_7a, zSL_7l, zSL_8n, zSL_8i, zSL_8a, zSL_8l, zSL_9n, zSL_9i, zSL_9a, zSL_9l, zSL_10n, zSL_10i, zSL_10a, zSL_10l, zSL_11n, zSL_11i, zSL_11a, zSL_11l, zSL_12n, zSL_12i, zSL_12a, zSL_12l, zLI_0, zLL_0, zLA_0, zLI_1, zLL_1, zLA_1, zLI_2, zLL_2, zLA_2, zLI_3, zLL_3, zLA_3, zLI_4, zLL_4, zLA_4, zLI_5, zLL_5, zLA_5, zLI_6, zLL_6, zLA_6, zLI_7, zLL_7, zLA_7, zLI_8, zLL_8, zLA_8, zLI_9, zLL_9, zLA_9, zLI_10, zLL_10, zLA_10, zLI_11, zLL_11, zLA_11, zLI_12, zLL_12, zLA_12, zLI_13, zLL_13, zLA_13, zst_0, zst_1n, zst_1i, zst_1a, zst_2n, zst_2i, zst_2a, zst_3n, zst_3i, zst_3a, zst_4n, zst_4i, zst_4a, zst_5n, zst_5i, zst_5a, zst_6n, zst_6i, zst_6a, zst_7n, zst_7i, zst_7a, zst_8n, zst_8i, zst_8a, zst_9n, zst_9i, zst_9a, zst_10n, zst_10i, zst_10a, zst_11n, zst_11i, zst_11a, zst_12n, zst_12i, zst_12a, zst_13n, zst_13i, zst_13a, zst_14n, zst_14i, zst_14a, zst_15n, zst_15i, zst_15a, zR1_n, zR1_v, zsum_n, zsum_i, zsum_l, zsum_a, zlen_n, zlen_i, zlen_l, zlen_a, List.not_mem_nil, List.mem_cons, or_false, false_or, or_self, ↓reduceIte, if_false, if_true, Nat.reduceEqDiff, Nat.reduceAdd, Nat.reduceLeDiff, true_and, and_true, reduceCtorEq, ne_eq, Int.toNat_natCast, not_true_eq_false, not_false_eq_true, true_implies, false_implies, implies_true, Int.reduceToNat, Int.toNat_zero, Int.reduceLT, Int.reduceLE, Int.reduceEq, Int.reduceAdd, Int.reduceMul, Int.reduceNeg]
            (repeat' (first | with_reducible refine And.intro ?_ ?_ | with_reducible intro _)) <;> try first | with_reducible rfl | with_reducible assumption | omega | (unfold zr32; omega) | contradiction | (exact absurd (by omega) (by assumption)) | rfl | (simp only [Sum.inl.injEq, Option.some.injEq]; omega)
        · have h50 : f' 1114 y = 0 := by
            rcases h5y.1 with h | h
            · exact h
            · exact absurd (h5y.2.mp h) hc
          have eS : ∀ g, zTot l g (y + 1) = zTot l g y := fun g => by rw [zTot_s, if_neg (fun h => hc (zcub_i.mp h))]
          have o9 := ih (y + 1) (by omega) (by omega) f' k h1 h2 h3 (fun j hj => by
            by_cases e : j = y
            · rw [e]; exact h50
            · exact h4 j (by omega)) (fun j hj => h5 j (by omega)) (fun w hw => by rw [eS]; exact h6 w hw) h7 h8 (fun h => h9 (by rw [eS] at h; exact h)) (fun h => by rw [eS] at h ⊢; exact h10 h)
          rw [eS, show ((y + 1 : Nat) : Int) = (y : Int) + 1 by omega] at o9
          refine zW_sound 60 [61, 129] ?_
          simp only [ZR105, zk_1105, zk_1114, hF, zwI_I, zwI_2, zsI_wI, h3, h50, zW_succ, zE_iload, zE_aload, zE_lload, zE_iinc, zE_istore, zE_astore, zE_lstore, zE_iconst, zE_ldc2, zE_iadd, zE_isub, zE_imul, zE_idiv, zE_irem, zE_ineg, zE_iand, zE_ior, zE_ixor, zE_ishl, zE_ishr, zE_land, zE_lor, zE_lxor, zE_lshl, zE_lshr, zE_i2l, zE_lcmp, zE_dup_i, zE_dup_a, zE_dup2_ia, zE_pop_i, zE_pop_a, zE_pop2, zE_goto, zE_if_eq, zE_icmp_eq, zE_if_ne, zE_icmp_ne, zE_if_lt, zE_icmp_lt, zE_if_ge, zE_icmp_ge, zE_if_gt, zE_icmp_gt, zE_if_le, zE_icmp_le, zE_iaload, zE_baload, zE_laload, zE_aaload, zE_iastore, zE_bastore, zE_lastore, zE_aastore, zE_alen, zE_getf0, zE_getf1, zE_getf2, zE_getf3, zE_putf0, zE_putf1, zE_putf2, zE_putf3, zE_new, zE_newa, zE_newq, zE_ireturn, zE_lreturn, zE_areturn, zE_return, zE_athrow, zE_st0, zE_vi0, zE_st1, zE_vi1, zE_st2, zE_vi2, zE_st3, zE_vi3, zE_st4, zE_vi4, zE_st5, zE_vi5, zE_st6, zE_vi6, zE_st7, zE_vi7, zE_st8, zE_vi8, zSt_0, zSL_0, zSt_1n, zSt_1i, zSt_1a, zSt_1l, zSt_2n, zSt_2i, zSt_2a, zSt_2l, zSt_3n, zSt_3i, zSt_3a, zSt_3l, zSt_4n, zSt_4i, zSt_4a, zSt_4l, zSt_5n, zSt_5i, zSt_5a, zSt_5l, zSt_6n, zSt_6i, zSt_6a, zSt_6l, zSt_7n, zSt_7i, zSt_7a, zSt_7l, zSt_8n, zSt_8i, zSt_8a, zSt_8l, zSt_9n, zSt_9i, zSt_9a, zSt_9l, zSt_10n, zSt_10i, zSt_10a, zSt_10l, zSt_11n, zSt_11i, zSt_11a, zSt_11l, zSt_12n, zSt_12i, zSt_12a, zSt_12l, zSt_13n, zSt_13i, zSt_13a, zSt_13l, zSL_1n, zSL_1i, zSL_1a, zSL_1l, zSL_2n, zSL_2i, zSL_2a, zSL_2l, zSL_3n, zSL_3i, zSL_3a, zSL_3l, zSL_4n, zSL_4i, zSL_4a, zSL_4l, zSL_5n, zSL_5i, zSL_5a, zSL_5l, zSL_6n, zSL_6i, zSL_6a, zSL_6l, zSL_7n, zSL_7i, zSL_7a, zSL_7l, zSL_8n, zSL_8i, zSL_8a, zSL_8l, zSL_9n, zSL_9i, zSL_9a, zSL_9l, zSL_10n, zSL_10i, zSL_10a, zSL_10l, zSL_11n, zSL_11i, zSL_11a, zSL_11l, zSL_12n, zSL_12i, zSL_12a, zSL_12l, zLI_0, zLL_0, zLA_0, zLI_1, zLL_1, zLA_1, zLI_2, zLL_2, zLA_2, zLI_3, zLL_3, zLA_3, zLI_4, zLL_4, zLA_4, zLI_5, zLL_5, zLA_5, zLI_6, zLL_6, zLA_6, zLI_7, zLL_7, zLA_7, zLI_8, zLL_8, zLA_8, zLI_9, zLL_9, zLA_9, zLI_10, zLL_10, zLA_10, zLI_11, zLL_11, zLA_11, zLI_12, zLL_12, zLA_12, zLI_13, zLL_13, zLA_13, zst_0, zst_1n, zst_1i, zst_1a, zst_2n, zst_2i, zst_2a, zst_3n, zst_3i, zst_3a, zst_4n, zst_4i, zst_4a, zst_5n, zst_5i, zst_5a, zst_6n, zst_6i, zst_6a, zst_7n, zst_7i, zst_7a, zst_8n, zst_8i, zst_8a, zst_9n, zst_9i, zst_9a, zst_10n, zst_10i, zst_10a, zst_11n, zst_11i, zst_11a, zst_12n, zst_12i, zst_12a, zst_13n, zst_13i, zst_13a, zst_14n, zst_14i, zst_14a, zst_15n, zst_15i, zst_15a, zR1_n, zR1_v, zsum_n, zsum_i, zsum_l, zsum_a, zlen_n, zlen_i, zlen_l, zlen_a, List.not_mem_nil, List.mem_cons, or_false, false_or, or_self, ↓reduceIte, if_false, if_true, Nat.reduceEqDiff, Nat.reduceAdd, Nat.reduceLeDiff, true_and, and_true, reduceCtorEq, ne_eq, Int.toNat_natCast, not_true_eq_false, not_false_eq_true, true_implies, false_implies, implies_true, Int.reduceToNat, Int.toNat_zero, Int.reduceLT, Int.reduceLE, Int.reduceEq, Int.reduceAdd, Int.reduceMul, Int.reduceNeg]
          (repeat' (first | with_reducible refine And.intro ?_ ?_ | with_reducible intro _)) <;> try first | with_reducible rfl | with_reducible assumption | omega | (unfold zr32; omega) | contradiction | (exact absurd (by omega) (by assumption)) | rfl | (simp only [Sum.inl.injEq, Option.some.injEq]; omega)
  have nolow : ∀ j : Nat, j < lo → ¬ zCut l (j : Int) := fun j hj hc => by
    have := hlow j hc
    omega
  have eT : ∀ g, zTot l g lo = (-1, 0) := fun g => (zTot_e (g := g) lo (Nat.zero_le _) (fun j _ h => nolow j h)).trans rfl
  have fz : ∀ a, a ≠ 1106 → zfil f3 1106 4 0 a = f3 a := fun a ha => by
    funext j
    unfold zfil
    rw [if_neg (fun h => ha h.1)]
  have f39 : ∀ a, a ≠ 1105 → a ≠ 1106 → zu2 (zfil f3 1106 4 0) 1105 9 0 a = f3 a := fun a ha hb => (funext (fun j => zu2_a ha _ _ _ _)).trans (fz a hb)
  have o9 := loop (3601 - lo) lo rfl (by omega) (zu2 (zfil f3 1106 4 0) 1105 9 0) [] (fun a ha => (f39 a (by omega) (by omega)).trans ((sw3 a (by omega)).trans (sw2' a ha))) (by
    unfold zCE
    rw [zu2_i (by omega), fz 1105 (by omega), sw3 1105 (by omega), f39 1107 (by omega) (by omega), sw3 1107 (by omega), f39 1108 (by omega) (by omega), sw3 1108 (by omega), f39 1109 (by omega) (by omega), sw3 1109 (by omega), f39 1110 (by omega) (by omega), sw3 1110 (by omega), f39 1111 (by omega) (by omega), sw3 1111 (by omega)]
    exact ce2) (by rw [zu2_i (by omega), fz 1105 (by omega), sw3 1105 (by omega)]; exact hhi) (fun j hj => by
    rw [f39 1114 (by omega) (by omega)]
    rcases (ck3 j).1 with h | h
    · exact h
    · exact absurd ((ck3 j).2.mp h) (nolow j hj)) (fun j _ => by rw [f39 1114 (by omega) (by omega)]; exact ck3 j) (fun w hw => by
    rw [eT, zu2_a (by omega)]
    unfold zfil
    rw [if_pos ⟨rfl, hw⟩]) (zu2_eq _ _ _ _) (fun i x hx => by cases hx) (fun _ => rfl) (fun h => by rw [eT] at h; exact absurd h (by omega))
  rw [eT] at o9
  have e10 : f3 1105 10 = (lo : Int) := by rw [sw3 1105 (by omega)]; exact hlo
  have e10' : zfil f3 1106 4 0 1105 10 = (lo : Int) := by rw [fz 1105 (by omega)]; exact e10
  have emax : max (lo : Int) 0 = (lo : Int) := by omega
  have eM : zu2 (zu2 (zu2 f 1105 1 0) 1105 10 3600) 1105 11 0 = f0 := hf0
  have es1 : f1 s 10 = (c1 : Int) := by rw [sw1' s (by omega)]; exact hc1
  refine zW_sound 60 [61] ?_
  simp only [ZF105, ZR105, zk_1105, zk_1106, k1, hF, zwI_I, zwI_2, zwI_w, zsI_wI, eM, ZF106.1, ZF106.2.1, ZF106.2.2.1, e106a, es1, e106b, ZF108.1, ZF108.2.1, ZF108.2.2.1, e108, ZF385.1, ZF385.2.1, ZF385.2.2.1, e385, ZF388.1, ZF388.2.1, ZF388.2.2.1, c388, zu2_if, e10', emax, false_and, and_false, zW_succ, zE_iload, zE_aload, zE_lload, zE_iinc, zE_istore, zE_astore, zE_lstore, zE_iconst, zE_ldc2, zE_iadd, zE_isub, zE_imul, zE_idiv, zE_irem, zE_ineg, zE_iand, zE_ior, zE_ixor, zE_ishl, zE_ishr, zE_land, zE_lor, zE_lxor, zE_lshl, zE_lshr, zE_i2l, zE_lcmp, zE_dup_i, zE_dup_a, zE_dup2_ia, zE_pop_i, zE_pop_a, zE_pop2, zE_goto, zE_if_eq, zE_icmp_eq, zE_if_ne, zE_icmp_ne, zE_if_lt, zE_icmp_lt, zE_if_ge, zE_icmp_ge, zE_if_gt, zE_icmp_gt, zE_if_le, zE_icmp_le, zE_iaload, zE_baload, zE_laload, zE_aaload, zE_iastore, zE_bastore, zE_lastore, zE_aastore, zE_alen, zE_getf0, zE_getf1, zE_getf2, zE_getf3, zE_putf0, zE_putf1, zE_putf2, zE_putf3, zE_new, zE_newa, zE_newq, zE_ireturn, zE_lreturn, zE_areturn, zE_return, zE_athrow, zE_st0, zE_vi0, zE_st1, zE_vi1, zE_st2, zE_vi2, zE_st3, zE_vi3, zE_st4, zE_vi4, zE_st5, zE_vi5, zE_st6, zE_vi6, zE_st7, zE_vi7, zE_st8, zE_vi8, zSt_0, zSL_0, zSt_1n, zSt_1i, zSt_1a, zSt_1l, zSt_2n, zSt_2i, zSt_2a, zSt_2l, zSt_3n, zSt_3i, zSt_3a, zSt_3l, zSt_4n, zSt_4i, zSt_4a, zSt_4l, zSt_5n, zSt_5i, zSt_5a, zSt_5l, zSt_6n, zSt_6i, zSt_6a, zSt_6l, zSt_7n, zSt_7i, zSt_7a, zSt_7l, zSt_8n, zSt_8i, zSt_8a, zSt_8l, zSt_9n, zSt_9i, zSt_9a, zSt_9l, zSt_10n, zSt_10i, zSt_10a, zSt_10l, zSt_11n, zSt_11i, zSt_11a, zSt_11l, zSt_12n, zSt_12i, zSt_12a, zSt_12l, zSt_13n, zSt_13i, zSt_13a, zSt_13l, zSL_1n, zSL_1i, zSL_1a, zSL_1l, zSL_2n, zSL_2i, zSL_2a, zSL_2l, zSL_3n, zSL_3i, zSL_3a, zSL_3l, zSL_4n, zSL_4i, zSL_4a, zSL_4l, zSL_5n, zSL_5i, zSL_5a, zSL_5l, zSL_6n, zSL_6i, zSL_6a, zSL_6l, zSL_7n, zSL_7i, zSL_7a, zSL_7l, zSL_8n, zSL_8i, zSL_8a, zSL_8l, zSL_9n, zSL_9i, zSL_9a, zSL_9l, zSL_10n, zSL_10i, zSL_10a, zSL_10l, zSL_11n, zSL_11i, zSL_11a, zSL_11l, zSL_12n, zSL_12i, zSL_12a, zSL_12l, zLI_0, zLL_0, zLA_0, zLI_1, zLL_1, zLA_1, zLI_2, zLL_2, zLA_2, zLI_3, zLL_3, zLA_3, zLI_4, zLL_4, zLA_4, zLI_5, zLL_5, zLA_5, zLI_6, zLL_6, zLA_6, zLI_7, zLL_7, zLA_7, zLI_8, zLL_8, zLA_8, zLI_9, zLL_9, zLA_9, zLI_10, zLL_10, zLA_10, zLI_11, zLL_11, zLA_11, zLI_12, zLL_12, zLA_12, zLI_13, zLL_13, zLA_13, zst_0, zst_1n, zst_1i, zst_1a, zst_2n, zst_2i, zst_2a, zst_3n, zst_3i, zst_3a, zst_4n, zst_4i, zst_4a, zst_5n, zst_5i, zst_5a, zst_6n, zst_6i, zst_6a, zst_7n, zst_7i, zst_7a, zst_8n, zst_8i, zst_8a, zst_9n, zst_9i, zst_9a, zst_10n, zst_10i, zst_10a, zst_11n, zst_11i, zst_11a, zst_12n, zst_12i, zst_12a, zst_13n, zst_13i, zst_13a, zst_14n, zst_14i, zst_14a, zst_15n, zst_15i, zst_15a, zR1_n, zR1_v, zsum_n, zsum_i, zsum_l, zsum_a, zlen_n, zlen_i, zlen_l, zlen_a, List.not_mem_nil, List.mem_cons, or_false, false_or, or_self, ↓reduceIte, if_false, if_true, Nat.reduceEqDiff, Nat.reduceAdd, Nat.reduceLeDiff, true_and, and_true, reduceCtorEq, ne_eq, Int.toNat_natCast, not_true_eq_false, not_false_eq_true, true_implies, false_implies, implies_true, Int.reduceToNat, Int.toNat_zero, Int.reduceLT, Int.reduceLE, Int.reduceEq, Int.reduceAdd, Int.reduceMul, Int.reduceNeg]
  (repeat' (first | with_reducible refine And.intro ?_ ?_ | with_reducible intro _)) <;> try first | with_reducible rfl | with_reducible assumption | omega | (unfold zr32; omega) | contradiction | (exact absurd (by omega) (by assumption)) | rfl | (simp only [Sum.inl.injEq, Option.some.injEq]; omega)
end ZMEASURE2
