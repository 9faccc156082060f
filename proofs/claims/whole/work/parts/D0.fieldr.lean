/-! a field: only what lies on the paper need be known -/
section ZFIELDR
variable {L : Nat} {M : zM} {s : Nat} {Q : zO → zM → Prop}
theorem c73r {x y c : Int} {K : Nat} (hR : zLay M.2.2.2) (hx : 0 ≤ x ∧ x < 60) (hy : 0 ≤ y ∧ y < 60) (hm : ∀ j, j < 3721 → M.2.1 1118 j ≠ -1) (ec : c = M.2.1 1118 (y * 61 + x).toNat) (hK : K ≤ 3721) (h1 : ∀ k : Nat, k < K → (k : Int) < ztn (zfd0 M.2.1 x y) c k 1117 6) (h2 : ztn (zfd0 M.2.1 x y) c K 1117 6 ≤ (K : Int)) : zFR (zK L) 73 0 (zcall 73 [.inr (.inr 1117), .inl x, .inl y]) [] M Q = Q (.inl (some (.inl (ztn (zfd0 M.2.1 x y) c K 1117 6)))) (zwI M (ztn (zfd0 M.2.1 x y) c K)) := by
  have hF := hR.1
  unfold zLayF at hF
  have hc : c ≠ -1 := by rw [ec]; exact hm _ (by omega)
  have w0 : zWt (zu2 M.2.1 1117 6 0) := by
    refine ⟨?_, fun k hk => ?_⟩
    · unfold zTk
      rw [zu2_eq]
      have : zcnt (ztaken (zu2 M.2.1 1117 6 0)) 3721 = 0 := by
        have e : ∀ n, n ≤ 3721 → zcnt (ztaken (zu2 M.2.1 1117 6 0)) n = 0 := by
          intro n
          induction n with
          | zero => exact fun _ => rfl
          | succ n ih =>
            intro hn
            rw [zcnt_s, ih (by omega)]
            unfold ztaken
            rw [zu2_a (by omega), decide_eq_false (hm n (by omega)), if_neg (by decide)]
        exact e 3721 (Nat.le_refl _)
      rw [this]; rfl
    · rw [zu2_eq] at hk
      omega
  have e74 : ∀ (f : Nat → Nat → Int) (x y : Int) (Q : zO → zM → Prop), zWt f → (-1 ≤ x ∧ x ≤ 100) → (-1 ≤ y ∧ y ≤ 100) → zFR (zK L) 74 0 (zcall 74 [.inr (.inr 1117), .inl x, .inl y, .inl c]) [] (zwI M f) Q = Q (.inl none) (zwI M (ztk f x y c)) := fun f x y Q hf hx hy => c74 (M := zwI M f) hR hf.1 hc hx hy
  have ef : ztk (zu2 M.2.1 1117 6 0) x y c = zfd0 M.2.1 x y := by unfold zfd0; rw [ec]
  have wf : zWt (zfd0 M.2.1 x y) := by rw [← ef]; exact ztk_w hc w0
  have a0 := fun Q => e74 (zu2 M.2.1 1117 6 0) x y Q w0 (by omega) (by omega)
  rw [ef] at a0
  refine zFR_det ?_ Q
  generalize zfd0 M.2.1 x y = f at *
  generalize hQ : (fun r M2 => r = (Sum.inl (some (Sum.inl (ztn f c K 1117 6))) : zO) ∧ M2 = zwI M (ztn f c K)) = Q9
  have loop : ∀ k : Nat, k ≤ K → ∀ y5 y6, zFR (zK L) 73 27 [some (.inr (.inr 1117)), some (.inl x), some (.inl y), some (.inl c), some (.inl (k : Int)), y5, y6] [] (zwI M (ztn f c k)) Q9 := by
    refine zloop ?_ ?_
    · intro y5 y6
      refine zW_sound 60 [36] ?_
      simp only [ZR73, zk_1117, zwI_I, zW_succ, zE_iload, zE_aload, zE_lload, zE_iinc, zE_istore, zE_astore, zE_lstore, zE_iconst, zE_ldc2, zE_iadd, zE_isub, zE_imul, zE_idiv, zE_irem, zE_ineg, zE_iand, zE_ior, zE_ixor, zE_ishl, zE_ishr, zE_land, zE_lor, zE_lxor, zE_lshl, zE_lshr, zE_i2l, zE_lcmp, zE_dup_i, zE_dup_a, zE_dup2_ia, zE_pop_i, zE_pop_a, zE_pop2, zE_goto, zE_if_eq, zE_icmp_eq, zE_if_ne, zE_icmp_ne, zE_if_lt, zE_icmp_lt, zE_if_ge, zE_icmp_ge, zE_if_gt, zE_icmp_gt, zE_if_le, zE_icmp_le, zE_iaload, zE_baload, zE_laload, zE_aaload, zE_iastore, zE_bastore, zE_lastore, zE_aastore, zE_alen, zE_getf0, zE_getf1, zE_getf2, zE_getf3, zE_putf0, zE_putf1, zE_putf2, zE_putf3, zE_new, zE_newa, zE_newq, zE_ireturn, zE_lreturn, zE_areturn, zE_return, zE_athrow, zE_st0, zE_vi0, zE_st1, zE_vi1, zE_st2, zE_vi2, zE_st3, zE_vi3, zE_st4, zE_vi4, zE_st5, zE_vi5, zE_st6, zE_vi6, zE_st7, zE_vi7, zE_st8, zE_vi8, zSt_0, zSL_0, zSt_1n, zSt_1i, zSt_1a, zSt_1l, zSt_2n, zSt_2i, zSt_2a, zSt_2l, zSt_3n, zSt_3i, zSt_3a, zSt_3l, zSt_4n, zSt_4i, zSt_4a, zSt_4l, zSt_5n, zSt_5i, zSt_5a, zSt_5l, zSt_6n, zSt_6i, zSt_6a, zSt_6l, zSt_7n, zSt_7i, zSt_7a, zSt_7l, zSt_8n, zSt_8i, zSt_8a, zSt_8l, zSt_9n, zSt_9i, zSt_9a, zSt_9l, zSt_10n, zSt_10i, zSt_10a, zSt_10l, zSt_11n, zSt_11i, zSt_11a, zSt_11l, zSt_12n, zSt_12i, zSt_12a, zSt_12l, zSt_13n, zSt_13i, zSt_13a, zSt_13l, zSL_1n, zSL_1i, zSL_1a, zSL_1l, zSL_2n, zSL_2i, zSL_2a, zSL_2l, zSL_3n, zSL_3i, zSL_3a, zSL_3l, zSL_4n, zSL_4i, zSL_4a, zSL_4l, zSL_5n, zSL_5i, zSL_5a, zSL_5l, zSL_6n, zSL_6i, zSL_6a, zSL_6l, zSL_7n, zSL_7i, zSL_7a, zSL_7l, zSL_8n, zSL_8i, zSL_8a, zSL_8l, zSL_9n, zSL_9i, zSL_9a, zSL_9l, zSL_10n, zSL_10i, zSL_10a, zSL_10l, zSL_11n, zSL_11i, zSL_11a, zSL_11l, zSL_12n, zSL_12i, zSL_12a, zSL_12l, zLI_0, zLL_0, zLA_0, zLI_1, zLL_1, zLA_1, zLI_2, zLL_2, zLA_2, zLI_3, zLL_3, zLA_3, zLI_4, zLL_4, zLA_4, zLI_5, zLL_5, zLA_5, zLI_6, zLL_6, zLA_6, zLI_7, zLL_7, zLA_7, zLI_8, zLL_8, zLA_8, zLI_9, zLL_9, zLA_9, zLI_10, zLL_10, zLA_10, zLI_11, zLL_11, zLA_11, zLI_12, zLL_12, zLA_12, zLI_13, zLL_13, zLA_13, zst_0, zst_1n, zst_1i, zst_1a, zst_2n, zst_2i, zst_2a, zst_3n, zst_3i, zst_3a, zst_4n, zst_4i, zst_4a, zst_5n, zst_5i, zst_5a, zst_6n, zst_6i, zst_6a, zst_7n, zst_7i, zst_7a, zst_8n, zst_8i, zst_8a, zst_9n, zst_9i, zst_9a, zst_10n, zst_10i, zst_10a, zst_11n, zst_11i, zst_11a, zst_12n, zst_12i, zst_12a, zst_13n, zst_13i, zst_13a, zst_14n, zst_14i, zst_14a, zst_15n, zst_15i, zst_15a, zR1_n, zR1_v, zsum_n, zsum_i, zsum_l, zsum_a, zlen_n, zlen_i, zlen_l, zlen_a, List.not_mem_nil, List.mem_cons, or_false, false_or, or_self, ↓reduceIte, if_false, if_true, Nat.reduceEqDiff, Nat.reduceAdd, Nat.reduceLeDiff, true_and, and_true, reduceCtorEq, ne_eq, Int.toNat_natCast, not_true_eq_false, not_false_eq_true, true_implies, false_implies, implies_true, Int.reduceToNat, Int.toNat_zero, Int.reduceLT, Int.reduceLE, Int.reduceEq, Int.reduceAdd, Int.reduceMul, Int.reduceNeg]
      subst hQ
      exact ⟨fun _ => ⟨rfl, rfl⟩, fun h => absurd h2 h⟩
    · intro k hk ih y5 y6
      have hlt := h1 k hk
      have wk := ztn_w hc wf k
      have hs := ztn_s f c k
      generalize ztn f c k = g at *
      generalize ztn f c (k + 1) = g' at *
      have hw0 : 0 ≤ g 1117 6 := by
        have : g 1117 6 = (zcnt (ztaken g) 3721 : Int) := wk.1
        omega
      have hq := wk.2 k hlt
      have em : (g 1119 k).tmod 61 = g 1119 k % 61 := Int.tmod_eq_emod_of_nonneg hq.1
      have ed : (g 1119 k).tdiv 61 = g 1119 k / 61 := Int.tdiv_eq_ediv_of_nonneg hq.1
      have q1 := ztk_w (x := g 1119 k % 61 - 1) (y := g 1119 k / 61) hc wk
      have q2 := ztk_w (x := g 1119 k % 61 + 1) (y := g 1119 k / 61) hc q1
      have q3 := ztk_w (x := g 1119 k % 61) (y := g 1119 k / 61 - 1) hc q2
      have d1 := fun Q => e74 g (g 1119 k % 61 - 1) (g 1119 k / 61) Q wk (by omega) (by omega)
      have d2 := fun Q => e74 _ (g 1119 k % 61 + 1) (g 1119 k / 61) Q q1 (by omega) (by omega)
      have d3 := fun Q => e74 _ (g 1119 k % 61) (g 1119 k / 61 - 1) Q q2 (by omega) (by omega)
      have d4 := fun Q => e74 _ (g 1119 k % 61) (g 1119 k / 61 + 1) Q q3 (by omega) (by omega)
      have fin : ∀ y5 y6, zFR (zK L) 73 27 [some (.inr (.inr 1117)), some (.inl x), some (.inl y), some (.inl c), some (.inl ((k : Int) + 1)), y5, y6] [] (zwI M (ztk (ztk (ztk (ztk g (g 1119 k % 61 - 1) (g 1119 k / 61) c) (g 1119 k % 61 + 1) (g 1119 k / 61) c) (g 1119 k % 61) (g 1119 k / 61 - 1) c) (g 1119 k % 61) (g 1119 k / 61 + 1) c)) Q9 := by
        intro y5 y6
        have h := ih y5 y6
        rw [hs] at h
        exact h
      have bX : 0 ≤ g 1119 k % 61 ∧ g 1119 k % 61 < 60 := by omega
      have bY : 0 ≤ g 1119 k / 61 ∧ g 1119 k / 61 < 60 := by omega
      generalize g 1119 k % 61 = X at *
      generalize g 1119 k / 61 = Y at *
      refine zW_sound 60 [27, 118] ?_
      simp only [ZR73, zk_1117, zk_1119, hF, em, ed, zwI_I, zwI_2, ZF74.1, ZF74.2.1, ZF74.2.2.1, d1, d2, d3, d4, zW_succ, zE_iload, zE_aload, zE_lload, zE_iinc, zE_istore, zE_astore, zE_lstore, zE_iconst, zE_ldc2, zE_iadd, zE_isub, zE_imul, zE_idiv, zE_irem, zE_ineg, zE_iand, zE_ior, zE_ixor, zE_ishl, zE_ishr, zE_land, zE_lor, zE_lxor, zE_lshl, zE_lshr, zE_i2l, zE_lcmp, zE_dup_i, zE_dup_a, zE_dup2_ia, zE_pop_i, zE_pop_a, zE_pop2, zE_goto, zE_if_eq, zE_icmp_eq, zE_if_ne, zE_icmp_ne, zE_if_lt, zE_icmp_lt, zE_if_ge, zE_icmp_ge, zE_if_gt, zE_icmp_gt, zE_if_le, zE_icmp_le, zE_iaload, zE_baload, zE_laload, zE_aaload, zE_iastore, zE_bastore, zE_lastore, zE_aastore, zE_alen, zE_getf0, zE_getf1, zE_getf2, zE_getf3, zE_putf0, zE_putf1, zE_putf2, zE_putf3, zE_new, zE_newa, zE_newq, zE_ireturn, zE_lreturn, zE_areturn, zE_return, zE_athrow, zE_st0, zE_vi0, zE_st1, zE_vi1, zE_st2, zE_vi2, zE_st3, zE_vi3, zE_st4, zE_vi4, zE_st5, zE_vi5, zE_st6, zE_vi6, zE_st7, zE_vi7, zE_st8, zE_vi8, zSt_0, zSL_0, zSt_1n, zSt_1i, zSt_1a, zSt_1l, zSt_2n, zSt_2i, zSt_2a, zSt_2l, zSt_3n, zSt_3i, zSt_3a, zSt_3l, zSt_4n, zSt_4i, zSt_4a, zSt_4l, zSt_5n, zSt_5i, zSt_5a, zSt_5l, zSt_6n, zSt_6i, zSt_6a, zSt_6l, zSt_7n, zSt_7i, zSt_7a, zSt_7l, zSt_8n, zSt_8i, zSt_8a, zSt_8l, zSt_9n, zSt_9i, zSt_9a, zSt_9l, zSt_10n, zSt_10i, zSt_10a, zSt_10l, zSt_11n, zSt_11i, zSt_11a, zSt_11l, zSt_12n, zSt_12i, zSt_12a, zSt_12l, zSt_13n, zSt_13i, zSt_13a, zSt_13l, zSL_1n, zSL_1i, zSL_1a, zSL_1l, zSL_2n, zSL_2i, zSL_2a, zSL_2l, zSL_3n, zSL_3i, zSL_3a, zSL_3l, zSL_4n, zSL_4i, zSL_4a, zSL_4l, zSL_5n, zSL_5i, zSL_5a, zSL_5l, zSL_6n, zSL_6i, zSL_6a, zSL_6l, zSL_7n, zSL_7i, zSL_7a, zSL_7l, zSL_8n, zSL_8i, zSL_8a, zSL_8l, zSL_9n, zSL_9i, zSL_9a, zSL_9l, zSL_10n, zSL_10i, zSL_10a, zSL_10l, zSL_11n, zSL_11i, zSL_11a, zSL_11l, zSL_12n, zSL_12i, zSL_12a, zSL_12l, zLI_0, zLL_0, zLA_0, zLI_1, zLL_1, zLA_1, zLI_2, zLL_2, zLA_2, zLI_3, zLL_3, zLA_3, zLI_4, zLL_4, zLA_4, zLI_5, zLL_5, zLA_5, zLI_6, zLL_6, zLA_6, zLI_7, zLL_7, zLA_7, zLI_8, zLL_8, zLA_8, zLI_9, zLL_9, zLA_9, zLI_10, zLL_10, zLA_10, zLI_11, zLL_11, zLA_11, zLI_12, zLL_12, zLA_12, zLI_13, zLL_13, zLA_13, zst_0, zst_1n, zst_1i, zst_1a, zst_2n, zst_2i, zst_2a, zst_3n, zst_3i, zst_3a, zst_4n, zst_4i, zst_4a, zst_5n, zst_5i, zst_5a, zst_6n, zst_6i, zst_6a, zst_7n, zst_7i, zst_7a, zst_8n, zst_8i, zst_8a, zst_9n, zst_9i, zst_9a, zst_10n, zst_10i, zst_10a, zst_11n, zst_11i, zst_11a, zst_12n, zst_12i, zst_12a, zst_13n, zst_13i, zst_13a, zst_14n, zst_14i, zst_14a, zst_15n, zst_15i, zst_15a, zR1_n, zR1_v, zsum_n, zsum_i, zsum_l, zsum_a, zlen_n, zlen_i, zlen_l, zlen_a, List.not_mem_nil, List.mem_cons, or_false, false_or, or_self, ↓reduceIte, if_false, if_true, Nat.reduceEqDiff, Nat.reduceAdd, Nat.reduceLeDiff, true_and, and_true, reduceCtorEq, ne_eq, Int.toNat_natCast, not_true_eq_false, not_false_eq_true, true_implies, false_implies, implies_true, Int.reduceToNat, Int.toNat_zero, Int.reduceLT, Int.reduceLE, Int.reduceEq, Int.reduceAdd, Int.reduceMul, Int.reduceNeg]
      exact ⟨fun h => absurd h (by omega), fun _ => ⟨fun h => absurd h (by omega), fun _ => ⟨by omega, by omega, by unfold zr32; omega, by unfold zr32; omega, by unfold zr32; omega, by unfold zr32; omega, by unfold zr32; omega, fin _ _⟩⟩⟩
  have wh : (zu2 M.2.1 1117 6 0) 1118 = M.2.1 1118 := funext (fun j => zu2_a (by omega) _ _ _ _)
  refine zW_sound 60 [27] ?_
  simp only [ZF73, ZR73, zk_1117, zk_1118, hF, zsI_w, zwI_I, zwI_2, ZF74.1, ZF74.2.1, ZF74.2.2.1, ← ec, a0, zW_succ, zE_iload, zE_aload, zE_lload, zE_iinc, zE_istore, zE_astore, zE_lstore, zE_iconst, zE_ldc2, zE_iadd, zE_isub, zE_imul, zE_idiv, zE_irem, zE_ineg, zE_iand, zE_ior, zE_ixor, zE_ishl, zE_ishr, zE_land, zE_lor, zE_lxor, zE_lshl, zE_lshr, zE_i2l, zE_lcmp, zE_dup_i, zE_dup_a, zE_dup2_ia, zE_pop_i, zE_pop_a, zE_pop2, zE_goto, zE_if_eq, zE_icmp_eq, zE_if_ne, zE_icmp_ne, zE_if_lt, zE_icmp_lt, zE_if_ge, zE_icmp_ge, zE_if_gt, zE_icmp_gt, zE_if_le, zE_icmp_le, zE_iaload, zE_baload, zE_laload, zE_aaload, zE_iastore, zE_bastore, zE_lastore, zE_aastore, zE_alen, zE_getf0, zE_getf1, zE_getf2, zE_getf3, zE_putf0, zE_putf1, zE_putf2, zE_putf3, zE_new, zE_newa, zE_newq, zE_ireturn, zE_lreturn, zE_areturn, zE_return, zE_athrow, zE_st0, zE_vi0, zE_st1, zE_vi1, zE_st2, zE_vi2, zE_st3, zE_vi3, zE_st4, zE_vi4, zE_st5, zE_vi5, zE_st6, zE_vi6, zE_st7, zE_vi7, zE_st8, zE_vi8, zSt_0, zSL_0, zSt_1n, zSt_1i, zSt_1a, zSt_1l, zSt_2n, zSt_2i, zSt_2a, zSt_2l, zSt_3n, zSt_3i, zSt_3a, zSt_3l, zSt_4n, zSt_4i, zSt_4a, zSt_4l, zSt_5n, zSt_5i, zSt_5a, zSt_5l, zSt_6n, zSt_6i, zSt_6a, zSt_6l, zSt_7n, zSt_7i, zSt_7a, zSt_7l, zSt_8n, zSt_8i, zSt_8a, zSt_8l, zSt_9n, zSt_9i, zSt_9a, zSt_9l, zSt_10n, zSt_10i, zSt_10a, zSt_10l, zSt_11n, zSt_11i, zSt_11a, zSt_11l, zSt_12n, zSt_12i, zSt_12a, zSt_12l, zSt_13n, zSt_13i, zSt_13a, zSt_13l, zSL_1n, zSL_1i, zSL_1a, zSL_1l, zSL_2n, zSL_2i, zSL_2a, zSL_2l, zSL_3n, zSL_3i, zSL_3a, zSL_3l, zSL_4n, zSL_4i, zSL_4a, zSL_4l, zSL_5n, zSL_5i, zSL_5a, zSL_5l, zSL_6n, zSL_6i, zSL_6a, zSL_6l, zSL_7n, zSL_7i, zSL_7a, zSL_7l, zSL_8n, zSL_8i, zSL_8a, zSL_8l, zSL_9n, zSL_9i, zSL_9a, zSL_9l, zSL_10n, zSL_10i, zSL_10a, zSL_10l, zSL_11n, zSL_11i, zSL_11a, zSL_11l, zSL_12n, zSL_12i, zSL_12a, zSL_12l, zLI_0, zLL_0, zLA_0, zLI_1, zLL_1, zLA_1, zLI_2, zLL_2, zLA_2, zLI_3, zLL_3, zLA_3, zLI_4, zLL_4, zLA_4, zLI_5, zLL_5, zLA_5, zLI_6, zLL_6, zLA_6, zLI_7, zLL_7, zLA_7, zLI_8, zLL_8, zLA_8, zLI_9, zLL_9, zLA_9, zLI_10, zLL_10, zLA_10, zLI_11, zLL_11, zLA_11, zLI_12, zLL_12, zLA_12, zLI_13, zLL_13, zLA_13, zst_0, zst_1n, zst_1i, zst_1a, zst_2n, zst_2i, zst_2a, zst_3n, zst_3i, zst_3a, zst_4n, zst_4i, zst_4a, zst_5n, zst_5i, zst_5a, zst_6n, zst_6i, zst_6a, zst_7n, zst_7i, zst_7a, zst_8n, zst_8i, zst_8a, zst_9n, zst_9i, zst_9a, zst_10n, zst_10i, zst_10a, zst_11n, zst_11i, zst_11a, zst_12n, zst_12i, zst_12a, zst_13n, zst_13i, zst_13a, zst_14n, zst_14i, zst_14a, zst_15n, zst_15i, zst_15a, zR1_n, zR1_v, zsum_n, zsum_i, zsum_l, zsum_a, zlen_n, zlen_i, zlen_l, zlen_a, List.not_mem_nil, List.mem_cons, or_false, false_or, or_self, ↓reduceIte, if_false, if_true, Nat.reduceEqDiff, Nat.reduceAdd, Nat.reduceLeDiff, true_and, and_true, reduceCtorEq, ne_eq, Int.toNat_natCast, not_true_eq_false, not_false_eq_true, true_implies, false_implies, implies_true, Int.reduceToNat, Int.toNat_zero, Int.reduceLT, Int.reduceLE, Int.reduceEq, Int.reduceAdd, Int.reduceMul, Int.reduceNeg]
  exact ⟨by unfold zr32; omega, by unfold zr32; omega, by omega, loop 0 (Nat.zero_le _) _ _⟩
end ZFIELDR
