section SG_58_spread
/-! the chosen by their lefts; spread -/
section ZSPREAD
variable {L : Nat} {M : zM} {s : Nat} {Q : zO → zM → Prop}
def zlfl (f : Nat → Nat → Int) (i j : Nat) : Bool := decide (f (14 + 14 * i) 11 < f (14 + 14 * j) 11)
theorem c39 (hR : zLay M.2.2.2) : zFR (zK L) 39 0 (zcall 39 [.inr (.inr 3)]) [] M Q = Q (.inl (some (.inl (zcnt (zsnc M.2.1) 60 : Int)))) (zwI M (zua M.2.1 5 (zord (zlfl M.2.1) (zsnc M.2.1) (M.2.1 5) 60))) := by
  refine zFR_det ?_ Q
  have hF := hR.1
  unfold zLayF at hF
  generalize hQ : (fun r M2 => r = (Sum.inl (some (Sum.inl (zcnt (zsnc M.2.1) 60 : Int))) : zO) ∧ M2 = zwI M (zua M.2.1 5 (zord (zlfl M.2.1) (zsnc M.2.1) (M.2.1 5) 60))) = Q9
  have oth : ∀ (i j : Nat) (o : Nat → Int), zua M.2.1 5 o (14 + 14 * i) j = M.2.1 (14 + 14 * i) j := fun i j o => zua_o (by omega) o j
  have outer : ∀ i, i ≤ 60 → ∀ y3, zFR (zK L) 39 4 [some (.inr (.inr 3)), some (.inl (zcnt (zsnc M.2.1) i : Int)), some (.inl (i : Int)), y3] [] (zwI M (zua M.2.1 5 (zord (zlfl M.2.1) (zsnc M.2.1) (M.2.1 5) i))) Q9 := by
    refine zloop ?_ ?_
    · intro y3
      refine zW_sound 60 [10] ?_
      simp only [ZR39, zW_succ, zE_iload, zE_aload, zE_lload, zE_iinc, zE_istore, zE_astore, zE_lstore, zE_iconst, zE_ldc2, zE_iadd, zE_isub, zE_imul, zE_idiv, zE_irem, zE_ineg, zE_iand, zE_ior, zE_ixor, zE_ishl, zE_ishr, zE_land, zE_lor, zE_lxor, zE_lshl, zE_lshr, zE_i2l, zE_lcmp, zE_dup_i, zE_dup_a, zE_dup2_ia, zE_pop_i, zE_pop_a, zE_pop2, zE_goto, zE_if_eq, zE_icmp_eq, zE_if_ne, zE_icmp_ne, zE_if_lt, zE_icmp_lt, zE_if_ge, zE_icmp_ge, zE_if_gt, zE_icmp_gt, zE_if_le, zE_icmp_le, zE_iaload, zE_baload, zE_laload, zE_aaload, zE_iastore, zE_bastore, zE_lastore, zE_aastore, zE_alen, zE_getf0, zE_getf1, zE_getf2, zE_getf3, zE_putf0, zE_putf1, zE_putf2, zE_putf3, zE_new, zE_newa, zE_newq, zE_ireturn, zE_lreturn, zE_areturn, zE_return, zE_athrow, zE_st0, zE_vi0, zE_st1, zE_vi1, zE_st2, zE_vi2, zE_st3, zE_vi3, zE_st4, zE_vi4, zE_st5, zE_vi5, zE_st6, zE_vi6, zE_st7, zE_vi7, zE_st8, zE_vi8, zSt_0, zSL_0, zSt_1n, zSt_1i, zSt_1a, zSt_1l, zSt_2n, zSt_2i, zSt_2a, zSt_2l, zSt_3n, zSt_3i, zSt_3a, zSt_3l, zSt_4n, zSt_4i, zSt_4a, zSt_4l, zSt_5n, zSt_5i, zSt_5a, zSt_5l, zSt_6n, zSt_6i, zSt_6a, zSt_6l, zSt_7n, zSt_7i, zSt_7a, zSt_7l, zSt_8n, zSt_8i, zSt_8a, zSt_8l, zSt_9n, zSt_9i, zSt_9a, zSt_9l, zSt_10n, zSt_10i, zSt_10a, zSt_10l, zSt_11n, zSt_11i, zSt_11a, zSt_11l, zSt_12n, zSt_12i, zSt_12a, zSt_12l, zSt_13n, zSt_13i, zSt_13a, zSt_13l, zSL_1n, zSL_1i, zSL_1a, zSL_1l, zSL_2n, zSL_2i, zSL_2a, zSL_2l, zSL_3n, zSL_3i, zSL_3a, zSL_3l, zSL_4n, zSL_4i, zSL_4a, zSL_4l, zSL_5n, zSL_5i, zSL_5a, zSL_5l, zSL_6n, zSL_6i, zSL_6a, zSL_6l, zSL_7n, zSL_7i, zSL_7a, zSL_7l, zSL_8n, zSL_8i, zSL_8a, zSL_8l, zSL_9n, zSL_9i, zSL_9a, zSL_9l, zSL_10n, zSL_10i, zSL_10a, zSL_10l, zSL_11n, zSL_11i, zSL_11a, zSL_11l, zSL_12n, zSL_12i, zSL_12a, zSL_12l, zLI_0, zLL_0, zLA_0, zLI_1, zLL_1, zLA_1, zLI_2, zLL_2, zLA_2, zLI_3, zLL_3, zLA_3, zLI_4, zLL_4, zLA_4, zLI_5, zLL_5, zLA_5, zLI_6, zLL_6, zLA_6, zLI_7, zLL_7, zLA_7, zLI_8, zLL_8, zLA_8, zLI_9, zLL_9, zLA_9, zLI_10, zLL_10, zLA_10, zLI_11, zLL_11, zLA_11, zLI_12, zLL_12, zLA_12, zLI_13, zLL_13, zLA_13, zst_0, zst_1n, zst_1i, zst_1a, zst_2n, zst_2i, zst_2a, zst_3n, zst_3i, zst_3a, zst_4n, zst_4i, zst_4a, zst_5n, zst_5i, zst_5a, zst_6n, zst_6i, zst_6a, zst_7n, zst_7i, zst_7a, zst_8n, zst_8i, zst_8a, zst_9n, zst_9i, zst_9a, zst_10n, zst_10i, zst_10a, zst_11n, zst_11i, zst_11a, zst_12n, zst_12i, zst_12a, zst_13n, zst_13i, zst_13a, zst_14n, zst_14i, zst_14a, zst_15n, zst_15i, zst_15a, zR1_n, zR1_v, zsum_n, zsum_i, zsum_l, zsum_a, zlen_n, zlen_i, zlen_l, zlen_a, List.not_mem_nil, List.mem_cons, or_false, false_or, or_self, ↓reduceIte, if_false, if_true, Nat.reduceEqDiff, Nat.reduceAdd, Nat.reduceLeDiff, true_and, and_true, reduceCtorEq, ne_eq, Int.toNat_natCast, not_true_eq_false, not_false_eq_true, true_implies, false_implies, implies_true, Int.reduceToNat, Int.toNat_zero, Int.reduceLT, Int.reduceLE, Int.reduceEq, Int.reduceAdd, Int.reduceMul, Int.reduceNeg]
      subst hQ
      exact ⟨fun _ => ⟨rfl, rfl⟩, fun h => absurd (by omega) h⟩
    · intro i hi ih y3
      have hcn := zcnt_le (zsnc M.2.1) i
      obtain ⟨k1, k2⟩ := zK_sh (L := L) (zShA_i hi)
      have ih2 : zsnc M.2.1 i = true → ∀ y, zFR (zK L) 39 83 [some (.inr (.inr 3)), some (.inl ((zcnt (zsnc M.2.1) i : Int) + 1)), some (.inl (i : Int)), y] [] (zwI M (zua M.2.1 5 (zinsf (zlfl M.2.1) i (zcnt (zsnc M.2.1) i) (zord (zlfl M.2.1) (zsnc M.2.1) (M.2.1 5) i)))) Q9 := by
        intro ht y
        have h := ih y
        unfold zcnt zord at h
        rw [if_pos ht, if_pos ht] at h
        refine zW_sound 60 [4] ?_
        simp only [ZR39, zW_succ, zE_iload, zE_aload, zE_lload, zE_iinc, zE_istore, zE_astore, zE_lstore, zE_iconst, zE_ldc2, zE_iadd, zE_isub, zE_imul, zE_idiv, zE_irem, zE_ineg, zE_iand, zE_ior, zE_ixor, zE_ishl, zE_ishr, zE_land, zE_lor, zE_lxor, zE_lshl, zE_lshr, zE_i2l, zE_lcmp, zE_dup_i, zE_dup_a, zE_dup2_ia, zE_pop_i, zE_pop_a, zE_pop2, zE_goto, zE_if_eq, zE_icmp_eq, zE_if_ne, zE_icmp_ne, zE_if_lt, zE_icmp_lt, zE_if_ge, zE_icmp_ge, zE_if_gt, zE_icmp_gt, zE_if_le, zE_icmp_le, zE_iaload, zE_baload, zE_laload, zE_aaload, zE_iastore, zE_bastore, zE_lastore, zE_aastore, zE_alen, zE_getf0, zE_getf1, zE_getf2, zE_getf3, zE_putf0, zE_putf1, zE_putf2, zE_putf3, zE_new, zE_newa, zE_newq, zE_ireturn, zE_lreturn, zE_areturn, zE_return, zE_athrow, zE_st0, zE_vi0, zE_st1, zE_vi1, zE_st2, zE_vi2, zE_st3, zE_vi3, zE_st4, zE_vi4, zE_st5, zE_vi5, zE_st6, zE_vi6, zE_st7, zE_vi7, zE_st8, zE_vi8, zSt_0, zSL_0, zSt_1n, zSt_1i, zSt_1a, zSt_1l, zSt_2n, zSt_2i, zSt_2a, zSt_2l, zSt_3n, zSt_3i, zSt_3a, zSt_3l, zSt_4n, zSt_4i, zSt_4a, zSt_4l, zSt_5n, zSt_5i, zSt_5a, zSt_5l, zSt_6n, zSt_6i, zSt_6a, zSt_6l, zSt_7n, zSt_7i, zSt_7a, zSt_7l, zSt_8n, zSt_8i, zSt_8a, zSt_8l, zSt_9n, zSt_9i, zSt_9a, zSt_9l, zSt_10n, zSt_10i, zSt_10a, zSt_10l, zSt_11n, zSt_11i, zSt_11a, zSt_11l, zSt_12n, zSt_12i, zSt_12a, zSt_12l, zSt_13n, zSt_13i, zSt_13a, zSt_13l, zSL_1n, zSL_1i, zSL_1a, zSL_1l, zSL_2n, zSL_2i, zSL_2a, zSL_2l, zSL_3n, zSL_3i, zSL_3a, zSL_3l, zSL_4n, zSL_4i, zSL_4a, zSL_4l, zSL_5n, zSL_5i, zSL_5a, zSL_5l, zSL_6n, zSL_6i, zSL_6a, zSL_6l, zSL_7n, zSL_7i, zSL_7a, zSL_7l, zSL_8n, zSL_8i, zSL_8a, zSL_8l, zSL_9n, zSL_9i, zSL_9a, zSL_9l, zSL_10n, zSL_10i, zSL_10a, zSL_10l, zSL_11n, zSL_11i, zSL_11a, zSL_11l, zSL_12n, zSL_12i, zSL_12a, zSL_12l, zLI_0, zLL_0, zLA_0, zLI_1, zLL_1, zLA_1, zLI_2, zLL_2, zLA_2, zLI_3, zLL_3, zLA_3, zLI_4, zLL_4, zLA_4, zLI_5, zLL_5, zLA_5, zLI_6, zLL_6, zLA_6, zLI_7, zLL_7, zLA_7, zLI_8, zLL_8, zLA_8, zLI_9, zLL_9, zLA_9, zLI_10, zLL_10, zLA_10, zLI_11, zLL_11, zLA_11, zLI_12, zLL_12, zLA_12, zLI_13, zLL_13, zLA_13, zst_0, zst_1n, zst_1i, zst_1a, zst_2n, zst_2i, zst_2a, zst_3n, zst_3i, zst_3a, zst_4n, zst_4i, zst_4a, zst_5n, zst_5i, zst_5a, zst_6n, zst_6i, zst_6a, zst_7n, zst_7i, zst_7a, zst_8n, zst_8i, zst_8a, zst_9n, zst_9i, zst_9a, zst_10n, zst_10i, zst_10a, zst_11n, zst_11i, zst_11a, zst_12n, zst_12i, zst_12a, zst_13n, zst_13i, zst_13a, zst_14n, zst_14i, zst_14a, zst_15n, zst_15i, zst_15a, zR1_n, zR1_v, zsum_n, zsum_i, zsum_l, zsum_a, zlen_n, zlen_i, zlen_l, zlen_a, List.not_mem_nil, List.mem_cons, or_false, false_or, or_self, ↓reduceIte, if_false, if_true, Nat.reduceEqDiff, Nat.reduceAdd, Nat.reduceLeDiff, true_and, and_true, reduceCtorEq, ne_eq, Int.toNat_natCast, not_true_eq_false, not_false_eq_true, true_implies, false_implies, implies_true, Int.reduceToNat, Int.toNat_zero, Int.reduceLT, Int.reduceLE, Int.reduceEq, Int.reduceAdd, Int.reduceMul, Int.reduceNeg]
        exact ⟨by unfold zr32; omega, h⟩
      have inner : zsnc M.2.1 i = true → ∀ (k : Nat) (o : Nat → Int), k < 60 → (∀ j, j < k → ∃ v : Nat, v < 60 ∧ zsnc M.2.1 v = true ∧ o j = (v : Int)) → (∀ y, zFR (zK L) 39 83 [some (.inr (.inr 3)), some (.inl ((zcnt (zsnc M.2.1) i : Int) + 1)), some (.inl (i : Int)), y] [] (zwI M (zua M.2.1 5 (zinsf (zlfl M.2.1) i k o))) Q9) → zFR (zK L) 39 21 [some (.inr (.inr 3)), some (.inl (zcnt (zsnc M.2.1) i : Int)), some (.inl (i : Int)), some (.inl (k : Int))] [] (zwI M (zua M.2.1 5 o)) Q9 := by
        intro ht k
        induction k with
        | zero =>
          intro o hk2 hv h
          refine zW_sound 60 [25, 83] ?_
          simp only [ZR39, zk_3, zk_5, hF, zwI_I, zwI_2, zsI_wI, zwI_w, zua_s, zW_succ, zE_iload, zE_aload, zE_lload, zE_iinc, zE_istore, zE_astore, zE_lstore, zE_iconst, zE_ldc2, zE_iadd, zE_isub, zE_imul, zE_idiv, zE_irem, zE_ineg, zE_iand, zE_ior, zE_ixor, zE_ishl, zE_ishr, zE_land, zE_lor, zE_lxor, zE_lshl, zE_lshr, zE_i2l, zE_lcmp, zE_dup_i, zE_dup_a, zE_dup2_ia, zE_pop_i, zE_pop_a, zE_pop2, zE_goto, zE_if_eq, zE_icmp_eq, zE_if_ne, zE_icmp_ne, zE_if_lt, zE_icmp_lt, zE_if_ge, zE_icmp_ge, zE_if_gt, zE_icmp_gt, zE_if_le, zE_icmp_le, zE_iaload, zE_baload, zE_laload, zE_aaload, zE_iastore, zE_bastore, zE_lastore, zE_aastore, zE_alen, zE_getf0, zE_getf1, zE_getf2, zE_getf3, zE_putf0, zE_putf1, zE_putf2, zE_putf3, zE_new, zE_newa, zE_newq, zE_ireturn, zE_lreturn, zE_areturn, zE_return, zE_athrow, zE_st0, zE_vi0, zE_st1, zE_vi1, zE_st2, zE_vi2, zE_st3, zE_vi3, zE_st4, zE_vi4, zE_st5, zE_vi5, zE_st6, zE_vi6, zE_st7, zE_vi7, zE_st8, zE_vi8, zSt_0, zSL_0, zSt_1n, zSt_1i, zSt_1a, zSt_1l, zSt_2n, zSt_2i, zSt_2a, zSt_2l, zSt_3n, zSt_3i, zSt_3a, zSt_3l, zSt_4n, zSt_4i, zSt_4a, zSt_4l, zSt_5n, zSt_5i, zSt_5a, zSt_5l, zSt_6n, zSt_6i, zSt_6a, zSt_6l, zSt_7n, zSt_7i, zSt_7a, zSt_7l, zSt_8n, zSt_8i, zSt_8a, zSt_8l, zSt_9n, zSt_9i, zSt_9a, zSt_9l, zSt_10n, zSt_10i, zSt_10a, zSt_10l, zSt_11n, zSt_11i, zSt_11a, zSt_11l, zSt_12n, zSt_12i, zSt_12a, zSt_12l, zSt_13n, zSt_13i, zSt_13a, zSt_13l, zSL_1n, zSL_1i, zSL_1a, zSL_1l, zSL_2n, zSL_2i, zSL_2a, zSL_2l, zSL_3n, zSL_3i, zSL_3a, zSL_3l, zSL_4n, zSL_4i, zSL_4a, zSL_4l, zSL_5n, zSL_5i, zSL_5a, zSL_5l, zSL_6n, zSL_6i, zSL_6a, zSL_6l, zSL_7n, zSL_7i, zSL_7a, zSL_7l, zSL_8n, zSL_8i, zSL_8a, zSL_8l, zSL_9n, zSL_9i, zSL_9a, zSL_9l, zSL_10n, zSL_10i, zSL_10a, zSL_10l, zSL_11n, zSL_11i, zSL_11a, zSL_11l, zSL_12n, zSL_12i, zSL_12a, zSL_12l, zLI_0, zLL_0, zLA_0, zLI_1, zLL_1, zLA_1, zLI_2, zLL_2, zLA_2, zLI_3, zLL_3, zLA_3, zLI_4, zLL_4, zLA_4, zLI_5, zLL_5, zLA_5, zLI_6, zLL_6, zLA_6, zLI_7, zLL_7, zLA_7, zLI_8, zLL_8, zLA_8, zLI_9, zLL_9, zLA_9, zLI_10, zLL_10, zLA_10, zLI_11, zLL_11, zLA_11, zLI_12, zLL_12, zLA_12, zLI_13, zLL_13, zLA_13, zst_0, zst_1n, zst_1i, zst_1a, zst_2n, zst_2i, zst_2a, zst_3n, zst_3i, zst_3a, zst_4n, zst_4i, zst_4a, zst_5n, zst_5i, zst_5a, zst_6n, zst_6i, zst_6a, zst_7n, zst_7i, zst_7a, zst_8n, zst_8i, zst_8a, zst_9n, zst_9i, zst_9a, zst_10n, zst_10i, zst_10a, zst_11n, zst_11i, zst_11a, zst_12n, zst_12i, zst_12a, zst_13n, zst_13i, zst_13a, zst_14n, zst_14i, zst_14a, zst_15n, zst_15i, zst_15a, zR1_n, zR1_v, zsum_n, zsum_i, zsum_l, zsum_a, zlen_n, zlen_i, zlen_l, zlen_a, List.not_mem_nil, List.mem_cons, or_false, false_or, or_self, ↓reduceIte, if_false, if_true, Nat.reduceEqDiff, Nat.reduceAdd, Nat.reduceLeDiff, true_and, and_true, reduceCtorEq, ne_eq, Int.toNat_natCast, not_true_eq_false, not_false_eq_true, true_implies, false_implies, implies_true, Int.reduceToNat, Int.toNat_zero, Int.reduceLT, Int.reduceLE, Int.reduceEq, Int.reduceAdd, Int.reduceMul, Int.reduceNeg]
          exact ⟨fun _ => ⟨by omega, by unfold zr32; omega, h _⟩, fun h2 => absurd (by omega) h2⟩
        | succ k ihk =>
          intro o hk2 hv h
          obtain ⟨v, hv1, hv2, hv3⟩ := hv k (by omega)
          obtain ⟨l1, l2⟩ := zK_sh (L := L) (zShA_i hv1)
          unfold zinsf at h
          have e : ((k + 1 : Nat) : Int) - 1 = (k : Int) := by omega
          refine zW_sound 60 [21, 83] ?_
          simp only [ZR39, zk_3, zk_4, zk_5, oth, k1, l1, hF, (hR.2.2.2 i hi).1, (hR.2.2.2 v hv1).1, zwI_I, zwI_2, zsI_wI, zwI_w, zua_s, zua_a, e, hv3, zW_succ, zE_iload, zE_aload, zE_lload, zE_iinc, zE_istore, zE_astore, zE_lstore, zE_iconst, zE_ldc2, zE_iadd, zE_isub, zE_imul, zE_idiv, zE_irem, zE_ineg, zE_iand, zE_ior, zE_ixor, zE_ishl, zE_ishr, zE_land, zE_lor, zE_lxor, zE_lshl, zE_lshr, zE_i2l, zE_lcmp, zE_dup_i, zE_dup_a, zE_dup2_ia, zE_pop_i, zE_pop_a, zE_pop2, zE_goto, zE_if_eq, zE_icmp_eq, zE_if_ne, zE_icmp_ne, zE_if_lt, zE_icmp_lt, zE_if_ge, zE_icmp_ge, zE_if_gt, zE_icmp_gt, zE_if_le, zE_icmp_le, zE_iaload, zE_baload, zE_laload, zE_aaload, zE_iastore, zE_bastore, zE_lastore, zE_aastore, zE_alen, zE_getf0, zE_getf1, zE_getf2, zE_getf3, zE_putf0, zE_putf1, zE_putf2, zE_putf3, zE_new, zE_newa, zE_newq, zE_ireturn, zE_lreturn, zE_areturn, zE_return, zE_athrow, zE_st0, zE_vi0, zE_st1, zE_vi1, zE_st2, zE_vi2, zE_st3, zE_vi3, zE_st4, zE_vi4, zE_st5, zE_vi5, zE_st6, zE_vi6, zE_st7, zE_vi7, zE_st8, zE_vi8, zSt_0, zSL_0, zSt_1n, zSt_1i, zSt_1a, zSt_1l, zSt_2n, zSt_2i, zSt_2a, zSt_2l, zSt_3n, zSt_3i, zSt_3a, zSt_3l, zSt_4n, zSt_4i, zSt_4a, zSt_4l, zSt_5n, zSt_5i, zSt_5a, zSt_5l, zSt_6n, zSt_6i, zSt_6a, zSt_6l, zSt_7n, zSt_7i, zSt_7a, zSt_7l, zSt_8n, zSt_8i, zSt_8a, zSt_8l, zSt_9n, zSt_9i, zSt_9a, zSt_9l, zSt_10n, zSt_10i, zSt_10a, zSt_10l, zSt_11n, zSt_11i, zSt_11a, zSt_11l, zSt_12n, zSt_12i, zSt_12a, zSt_12l, zSt_13n, zSt_13i, zSt_13a, zSt_13l, zSL_1n, zSL_1i, zSL_1a, zSL_1l, zSL_2n, zSL_2i, zSL_2a, zSL_2l, zSL_3n, zSL_3i, zSL_3a, zSL_3l, zSL_4n, zSL_4i, zSL_4a, zSL_4l, zSL_5n, zSL_5i, zSL_5a, zSL_5l, zSL_6n, zSL_6i, zSL_6a, zSL_6l, zSL_7n, zSL_7i, zSL_7a, zSL_7l, zSL_8n, zSL_8i, zSL_8a, zSL_8l, zSL_9n, zSL_9i, zSL_9a, zSL_9l, zSL_10n, zSL_10i, zSL_10a, zSL_10l, zSL_11n, zSL_11i, zSL_11a, zSL_11l, zSL_12n, zSL_12i, zSL_12a, zSL_12l, zLI_0, zLL_0, zLA_0, zLI_1, zLL_1, zLA_1, zLI_2, zLL_2, zLA_2, zLI_3, zLL_3, zLA_3, zLI_4, zLL_4, zLA_4, zLI_5, zLL_5, zLA_5, zLI_6, zLL_6, zLA_6, zLI_7, zLL_7, zLA_7, zLI_8, zLL_8, zLA_8, zLI_9, zLL_9, zLA_9, zLI_10, zLL_10, zLA_10, zLI_11, zLL_11, zLA_11, zLI_12, zLL_12, zLA_12, zLI_13, zLL_13, zLA_13, zst_0, zst_1n, zst_1i, zst_1a, zst_2n, zst_2i, zst_2a, zst_3n, zst_3i, zst_3a, zst_4n, zst_4i, zst_4a, zst_5n, zst_5i, zst_5a, zst_6n, zst_6i, zst_6a, zst_7n, zst_7i, zst_7a, zst_8n, zst_8i, zst_8a, zst_9n, zst_9i, zst_9a, zst_10n, zst_10i, zst_10a, zst_11n, zst_11i, zst_11a, zst_12n, zst_12i, zst_12a, zst_13n, zst_13i, zst_13a, zst_14n, zst_14i, zst_14a, zst_15n, zst_15i, zst_15a, zR1_n, zR1_v, zsum_n, zsum_i, zsum_l, zsum_a, zlen_n, zlen_i, zlen_l, zlen_a, List.not_mem_nil, List.mem_cons, or_false, false_or, or_self, ↓reduceIte, if_false, if_true, Nat.reduceEqDiff, Nat.reduceAdd, Nat.reduceLeDiff, true_and, and_true, reduceCtorEq, ne_eq, Int.toNat_natCast, not_true_eq_false, not_false_eq_true, true_implies, false_implies, implies_true, Int.reduceToNat, Int.toNat_zero, Int.reduceLT, Int.reduceLE, Int.reduceEq, Int.reduceAdd, Int.reduceMul, Int.reduceNeg]
          have yes : M.2.1 (14 + 14 * i) 11 < M.2.1 (14 + 14 * v) 11 → zFR (zK L) 39 21 [some (.inr (.inr 3)), some (.inl (zcnt (zsnc M.2.1) i : Int)), some (.inl (i : Int)), some (.inl (k : Int))] [] (zwI M (zua M.2.1 5 (zup o (k + 1) (v : Int)))) Q9 := by
            intro hc
            have hc2 : zlfl M.2.1 i (o k).toNat = true := by rw [hv3, Int.toNat_natCast]; exact decide_eq_true hc
            rw [if_pos hc2, hv3] at h
            refine ihk _ (by omega) (fun j hj => ?_) h
            rw [zup_ne (by omega)]
            exact hv j (by omega)
          have no : ¬ M.2.1 (14 + 14 * i) 11 < M.2.1 (14 + 14 * v) 11 → ∀ y, zFR (zK L) 39 83 [some (.inr (.inr 3)), some (.inl ((zcnt (zsnc M.2.1) i : Int) + 1)), some (.inl (i : Int)), y] [] (zwI M (zua M.2.1 5 (zup o (k + 1) (i : Int)))) Q9 := by
            intro hc y
            have hc2 : ¬ zlfl M.2.1 i (o k).toNat = true := by rw [hv3, Int.toNat_natCast]; exact fun h2 => hc (of_decide_eq_true h2)
            rw [if_neg hc2] at h
            exact h y
          refine ⟨fun h2 => absurd h2 (by omega), fun _ => ⟨by omega, by unfold zr32; omega, by omega, by omega, fun hc => ⟨by omega, by unfold zr32; omega, no (by omega) _⟩, fun hc => ⟨by unfold zr32; omega, by omega, by omega, by unfold zr32; omega, ?_⟩⟩⟩
          rw [show ((k + 1 : Nat) : Int) + -1 = (k : Int) by omega]
          exact yes (by omega)
      refine zW_sound 60 [21, 83] ?_
      simp only [ZR39, zk_8, zk_3, hF, zwI_I, zwI_2, zua_o (show (8 : Nat) ≠ 5 by omega), zW_succ, zE_iload, zE_aload, zE_lload, zE_iinc, zE_istore, zE_astore, zE_lstore, zE_iconst, zE_ldc2, zE_iadd, zE_isub, zE_imul, zE_idiv, zE_irem, zE_ineg, zE_iand, zE_ior, zE_ixor, zE_ishl, zE_ishr, zE_land, zE_lor, zE_lxor, zE_lshl, zE_lshr, zE_i2l, zE_lcmp, zE_dup_i, zE_dup_a, zE_dup2_ia, zE_pop_i, zE_pop_a, zE_pop2, zE_goto, zE_if_eq, zE_icmp_eq, zE_if_ne, zE_icmp_ne, zE_if_lt, zE_icmp_lt, zE_if_ge, zE_icmp_ge, zE_if_gt, zE_icmp_gt, zE_if_le, zE_icmp_le, zE_iaload, zE_baload, zE_laload, zE_aaload, zE_iastore, zE_bastore, zE_lastore, zE_aastore, zE_alen, zE_getf0, zE_getf1, zE_getf2, zE_getf3, zE_putf0, zE_putf1, zE_putf2, zE_putf3, zE_new, zE_newa, zE_newq, zE_ireturn, zE_lreturn, zE_areturn, zE_return, zE_athrow, zE_st0, zE_vi0, zE_st1, zE_vi1, zE_st2, zE_vi2, zE_st3, zE_vi3, zE_st4, zE_vi4, zE_st5, zE_vi5, zE_st6, zE_vi6, zE_st7, zE_vi7, zE_st8, zE_vi8, zSt_0, zSL_0, zSt_1n, zSt_1i, zSt_1a, zSt_1l, zSt_2n, zSt_2i, zSt_2a, zSt_2l, zSt_3n, zSt_3i, zSt_3a, zSt_3l, zSt_4n, zSt_4i, zSt_4a, zSt_4l, zSt_5n, zSt_5i, zSt_5a, zSt_5l, zSt_6n, zSt_6i, zSt_6a, zSt_6l, zSt_7n, zSt_7i, zSt_7a, zSt_7l, zSt_8n, zSt_8i, zSt_8a, zSt_8l, zSt_9n, zSt_9i, zSt_9a, zSt_9l, zSt_10n, zSt_10i, zSt_10a, zSt_10l, zSt_11n, zSt_11i, zSt_11a, zSt_11l, zSt_12n, zSt_12i, zSt_12a, zSt_12l, zSt_13n, zSt_13i, zSt_13a, zSt_13l, zSL_1n, zSL_1i, zSL_1a, zSL_1l, zSL_2n, zSL_2i, zSL_2a, zSL_2l, zSL_3n, zSL_3i, zSL_3a, zSL_3l, zSL_4n, zSL_4i, zSL_4a, zSL_4l, zSL_5n, zSL_5i, zSL_5a, zSL_5l, zSL_6n, zSL_6i, zSL_6a, zSL_6l, zSL_7n, zSL_7i, zSL_7a, zSL_7l, zSL_8n, zSL_8i, zSL_8a, zSL_8l, zSL_9n, zSL_9i, zSL_9a, zSL_9l, zSL_10n, zSL_10i, zSL_10a, zSL_10l, zSL_11n, zSL_11i, zSL_11a, zSL_11l, zSL_12n, zSL_12i, zSL_12a, zSL_12l, zLI_0, zLL_0, zLA_0, zLI_1, zLL_1, zLA_1, zLI_2, zLL_2, zLA_2, zLI_3, zLL_3, zLA_3, zLI_4, zLL_4, zLA_4, zLI_5, zLL_5, zLA_5, zLI_6, zLL_6, zLA_6, zLI_7, zLL_7, zLA_7, zLI_8, zLL_8, zLA_8, zLI_9, zLL_9, zLA_9, zLI_10, zLL_10, zLA_10, zLI_11, zLL_11, zLA_11, zLI_12, zLL_12, zLA_12, zLI_13, zLL_13, zLA_13, zst_0, zst_1n, zst_1i, zst_1a, zst_2n, zst_2i, zst_2a, zst_3n, zst_3i, zst_3a, zst_4n, zst_4i, zst_4a, zst_5n, zst_5i, zst_5a, zst_6n, zst_6i, zst_6a, zst_7n, zst_7i, zst_7a, zst_8n, zst_8i, zst_8a, zst_9n, zst_9i, zst_9a, zst_10n, zst_10i, zst_10a, zst_11n, zst_11i, zst_11a, zst_12n, zst_12i, zst_12a, zst_13n, zst_13i, zst_13a, zst_14n, zst_14i, zst_14a, zst_15n, zst_15i, zst_15a, zR1_n, zR1_v, zsum_n, zsum_i, zsum_l, zsum_a, zlen_n, zlen_i, zlen_l, zlen_a, List.not_mem_nil, List.mem_cons, or_false, false_or, or_self, ↓reduceIte, if_false, if_true, Nat.reduceEqDiff, Nat.reduceAdd, Nat.reduceLeDiff, true_and, and_true, reduceCtorEq, ne_eq, Int.toNat_natCast, not_true_eq_false, not_false_eq_true, true_implies, false_implies, implies_true, Int.reduceToNat, Int.toNat_zero, Int.reduceLT, Int.reduceLE, Int.reduceEq, Int.reduceAdd, Int.reduceMul, Int.reduceNeg]
      refine ⟨fun h => absurd h (by omega), fun _ => ⟨by omega, fun h0 => ?_, fun h0 => ?_⟩⟩
      · have hn : ¬ zsnc M.2.1 i = true := fun h2 => (of_decide_eq_true h2) h0
        have h := ih y3
        unfold zcnt zord at h
        rw [if_neg hn, if_neg hn] at h
        refine zW_sound 60 [4] ?_
        simp only [ZR39, zW_succ, zE_iload, zE_aload, zE_lload, zE_iinc, zE_istore, zE_astore, zE_lstore, zE_iconst, zE_ldc2, zE_iadd, zE_isub, zE_imul, zE_idiv, zE_irem, zE_ineg, zE_iand, zE_ior, zE_ixor, zE_ishl, zE_ishr, zE_land, zE_lor, zE_lxor, zE_lshl, zE_lshr, zE_i2l, zE_lcmp, zE_dup_i, zE_dup_a, zE_dup2_ia, zE_pop_i, zE_pop_a, zE_pop2, zE_goto, zE_if_eq, zE_icmp_eq, zE_if_ne, zE_icmp_ne, zE_if_lt, zE_icmp_lt, zE_if_ge, zE_icmp_ge, zE_if_gt, zE_icmp_gt, zE_if_le, zE_icmp_le, zE_iaload, zE_baload, zE_laload, zE_aaload, zE_iastore, zE_bastore, zE_lastore, zE_aastore, zE_alen, zE_getf0, zE_getf1, zE_getf2, zE_getf3, zE_putf0, zE_putf1, zE_putf2, zE_putf3, zE_new, zE_newa, zE_newq, zE_ireturn, zE_lreturn, zE_areturn, zE_return, zE_athrow, zE_st0, zE_vi0, zE_st1, zE_vi1, zE_st2, zE_vi2, zE_st3, zE_vi3, zE_st4, zE_vi4, zE_st5, zE_vi5, zE_st6, zE_vi6, zE_st7, zE_vi7, zE_st8, zE_vi8, zSt_0, zSL_0, zSt_1n, zSt_1i, zSt_1a, zSt_1l, zSt_2n, zSt_2i, zSt_2a, zSt_2l, zSt_3n, zSt_3i, zSt_3a, zSt_3l, zSt_4n, zSt_4i, zSt_4a, zSt_4l, zSt_5n, zSt_5i, zSt_5a, zSt_5l, zSt_6n, zSt_6i, zSt_6a, zSt_6l, zSt_7n, zSt_7i, zSt_7a, zSt_7l, zSt_8n, zSt_8i, zSt_8a, zSt_8l, zSt_9n, zSt_9i, zSt_9a, zSt_9l, zSt_10n, zSt_10i, zSt_10a, zSt_10l, zSt_11n, zSt_11i, zSt_11a, zSt_11l, zSt_12n, zSt_12i, zSt_12a, zSt_12l, zSt_13n, zSt_13i, zSt_13a, zSt_13l, zSL_1n, zSL_1i, zSL_1a, zSL_1l, zSL_2n, zSL_2i, zSL_2a, zSL_2l, zSL_3n, zSL_3i, zSL_3a, zSL_3l, zSL_4n, zSL_4i, zSL_4a, zSL_4l, zSL_5n, zSL_5i, zSL_5a, zSL_5l, zSL_6n, zSL_6i, zSL_6a, zSL_6l, zSL_7n, zSL_7i, zSL_7a, zSL_7l, zSL_8n, zSL_8i, zSL_8a, zSL_8l, zSL_9n, zSL_9i, zSL_9a, zSL_9l, zSL_10n, zSL_10i, zSL_10a, zSL_10l, zSL_11n, zSL_11i, zSL_11a, zSL_11l, zSL_12n, zSL_12i, zSL_12a, zSL_12l, zLI_0, zLL_0, zLA_0, zLI_1, zLL_1, zLA_1, zLI_2, zLL_2, zLA_2, zLI_3, zLL_3, zLA_3, zLI_4, zLL_4, zLA_4, zLI_5, zLL_5, zLA_5, zLI_6, zLL_6, zLA_6, zLI_7, zLL_7, zLA_7, zLI_8, zLL_8, zLA_8, zLI_9, zLL_9, zLA_9, zLI_10, zLL_10, zLA_10, zLI_11, zLL_11, zLA_11, zLI_12, zLL_12, zLA_12, zLI_13, zLL_13, zLA_13, zst_0, zst_1n, zst_1i, zst_1a, zst_2n, zst_2i, zst_2a, zst_3n, zst_3i, zst_3a, zst_4n, zst_4i, zst_4a, zst_5n, zst_5i, zst_5a, zst_6n, zst_6i, zst_6a, zst_7n, zst_7i, zst_7a, zst_8n, zst_8i, zst_8a, zst_9n, zst_9i, zst_9a, zst_10n, zst_10i, zst_10a, zst_11n, zst_11i, zst_11a, zst_12n, zst_12i, zst_12a, zst_13n, zst_13i, zst_13a, zst_14n, zst_14i, zst_14a, zst_15n, zst_15i, zst_15a, zR1_n, zR1_v, zsum_n, zsum_i, zsum_l, zsum_a, zlen_n, zlen_i, zlen_l, zlen_a, List.not_mem_nil, List.mem_cons, or_false, false_or, or_self, ↓reduceIte, if_false, if_true, Nat.reduceEqDiff, Nat.reduceAdd, Nat.reduceLeDiff, true_and, and_true, reduceCtorEq, ne_eq, Int.toNat_natCast, not_true_eq_false, not_false_eq_true, true_implies, false_implies, implies_true, Int.reduceToNat, Int.toNat_zero, Int.reduceLT, Int.reduceLE, Int.reduceEq, Int.reduceAdd, Int.reduceMul, Int.reduceNeg]
        exact ⟨by unfold zr32; omega, h⟩
      · have ht : zsnc M.2.1 i = true := decide_eq_true h0
        refine inner ht (zcnt (zsnc M.2.1) i) _ (by omega) ?_ (ih2 ht)
        intro j hj
        obtain ⟨v, h3, h4, h5⟩ := zord_v (zlfl M.2.1) (zsnc M.2.1) (M.2.1 5) i j hj
        exact ⟨v, by omega, h4, h5⟩
  have o9 := outer 0 (Nat.zero_le _)
  refine zW_sound 60 [4] ?_
  simp only [ZF39, ZR39, zW_succ, zE_iload, zE_aload, zE_lload, zE_iinc, zE_istore, zE_astore, zE_lstore, zE_iconst, zE_ldc2, zE_iadd, zE_isub, zE_imul, zE_idiv, zE_irem, zE_ineg, zE_iand, zE_ior, zE_ixor, zE_ishl, zE_ishr, zE_land, zE_lor, zE_lxor, zE_lshl, zE_lshr, zE_i2l, zE_lcmp, zE_dup_i, zE_dup_a, zE_dup2_ia, zE_pop_i, zE_pop_a, zE_pop2, zE_goto, zE_if_eq, zE_icmp_eq, zE_if_ne, zE_icmp_ne, zE_if_lt, zE_icmp_lt, zE_if_ge, zE_icmp_ge, zE_if_gt, zE_icmp_gt, zE_if_le, zE_icmp_le, zE_iaload, zE_baload, zE_laload, zE_aaload, zE_iastore, zE_bastore, zE_lastore, zE_aastore, zE_alen, zE_getf0, zE_getf1, zE_getf2, zE_getf3, zE_putf0, zE_putf1, zE_putf2, zE_putf3, zE_new, zE_newa, zE_newq, zE_ireturn, zE_lreturn, zE_areturn, zE_return, zE_athrow, zE_st0, zE_vi0, zE_st1, zE_vi1, zE_st2, zE_vi2, zE_st3, zE_vi3, zE_st4, zE_vi4, zE_st5, zE_vi5, zE_st6, zE_vi6, zE_st7, zE_vi7, zE_st8, zE_vi8, zSt_0, zSL_0, zSt_1n, zSt_1i, zSt_1a, zSt_1l, zSt_2n, zSt_2i, zSt_2a, zSt_2l, zSt_3n, zSt_3i, zSt_3a, zSt_3l, zSt_4n, zSt_4i, zSt_4a, zSt_4l, zSt_5n, zSt_5i, zSt_5a, zSt_5l, zSt_6n, zSt_6i, zSt_6a, zSt_6l, zSt_7n, zSt_7i, zSt_7a, zSt_7l, zSt_8n, zSt_8i, zSt_8a, zSt_8l, zSt_9n, zSt_9i, zSt_9a, zSt_9l, zSt_10n, zSt_10i, zSt_10a, zSt_10l, zSt_11n, zSt_11i, zSt_11a, zSt_11l, zSt_12n, zSt_12i, zSt_12a, zSt_12l, zSt_13n, zSt_13i, zSt_13a, zSt_13l, zSL_1n, zSL_1i, zSL_1a, zSL_1l, zSL_2n, zSL_2i, zSL_2a, zSL_2l, zSL_3n, zSL_3i, zSL_3a, zSL_3l, zSL_4n, zSL_4i, zSL_4a, zSL_4l, zSL_5n, zSL_5i, zSL_5a, zSL_5l, zSL_6n, zSL_6i, zSL_6a, zSL_6l, zSL_7n, zSL_7i, zSL_7a, zSL_7l, zSL_8n, zSL_8i, zSL_8a, zSL_8l, zSL_9n, zSL_9i, zSL_9a, zSL_9l, zSL_10n, zSL_10i, zSL_10a, zSL_10l, zSL_11n, zSL_11i, zSL_11a, zSL_11l, zSL_12n, zSL_12i, zSL_12a, zSL_12l, zLI_0, zLL_0, zLA_0, zLI_1, zLL_1, zLA_1, zLI_2, zLL_2, zLA_2, zLI_3, zLL_3, zLA_3, zLI_4, zLL_4, zLA_4, zLI_5, zLL_5, zLA_5, zLI_6, zLL_6, zLA_6, zLI_7, zLL_7, zLA_7, zLI_8, zLL_8, zLA_8, zLI_9, zLL_9, zLA_9, zLI_10, zLL_10, zLA_10, zLI_11, zLL_11, zLA_11, zLI_12, zLL_12, zLA_12, zLI_13, zLL_13, zLA_13, zst_0, zst_1n, zst_1i, zst_1a, zst_2n, zst_2i, zst_2a, zst_3n, zst_3i, zst_3a, zst_4n, zst_4i, zst_4a, zst_5n, zst_5i, zst_5a, zst_6n, zst_6i, zst_6a, zst_7n, zst_7i, zst_7a, zst_8n, zst_8i, zst_8a, zst_9n, zst_9i, zst_9a, zst_10n, zst_10i, zst_10a, zst_11n, zst_11i, zst_11a, zst_12n, zst_12i, zst_12a, zst_13n, zst_13i, zst_13a, zst_14n, zst_14i, zst_14a, zst_15n, zst_15i, zst_15a, zR1_n, zR1_v, zsum_n, zsum_i, zsum_l, zsum_a, zlen_n, zlen_i, zlen_l, zlen_a, List.not_mem_nil, List.mem_cons, or_false, false_or, or_self, ↓reduceIte, if_false, if_true, Nat.reduceEqDiff, Nat.reduceAdd, Nat.reduceLeDiff, true_and, and_true, reduceCtorEq, ne_eq, Int.toNat_natCast, not_true_eq_false, not_false_eq_true, true_implies, false_implies, implies_true, Int.reduceToNat, Int.toNat_zero, Int.reduceLT, Int.reduceLE, Int.reduceEq, Int.reduceAdd, Int.reduceMul, Int.reduceNeg]
  have h := o9 none
  unfold zord at h
  rw [zua_0] at h
  exact h
theorem zinsf_inj (lt : Nat → Nat → Bool) (x : Nat) : ∀ (k : Nat) (o : Nat → Int), (∀ i j, i < k → j < k → o i = o j → i = j) → (∀ i, i < k → o i ≠ (x : Int)) → ∀ i j, i < k + 1 → j < k + 1 → zinsf lt x k o i = zinsf lt x k o j → i = j
  | 0, _, _, _, i, j, hi, hj, _ => by omega
  | k + 1, o, h1, h2, i, j, hi, hj, he => by
    unfold zinsf at he
    by_cases hl : lt x (o k).toNat = true
    · rw [if_pos hl] at he
      have e1 : ∀ p, p < k → zup o (k + 1) (o k) p = o p := fun p hp => zup_ne (by omega)
      have top : zinsf lt x k (zup o (k + 1) (o k)) (k + 1) = o k := by rw [zinsf_hi lt x k _ _ (by omega), zup_eq]
      have low : ∀ p, p < k + 1 → zinsf lt x k (zup o (k + 1) (o k)) p ≠ o k := by
        intro p hp
        have := zinsf_v lt x (P := fun v => v ≠ o k) (fun h => h2 k (by omega) h.symm) k (zup o (k + 1) (o k)) (fun q hq => by
          rw [e1 q hq]
          intro h
          have := h1 q k (by omega) (by omega) h
          omega) p hp
        exact this
      by_cases hik : i = k + 1
      · by_cases hjk : j = k + 1
        · omega
        · subst hik
          rw [top] at he
          exact absurd he.symm (low j (by omega))
      · by_cases hjk : j = k + 1
        · subst hjk
          rw [top] at he
          exact absurd he (low i (by omega))
        · exact zinsf_inj lt x k _ (fun p q hp hq h => by
            rw [e1 p hp, e1 q hq] at h
            exact h1 p q (by omega) (by omega) h) (fun p hp => by rw [e1 p hp]; exact h2 p (by omega)) i j (by omega) (by omega) he
    · rw [if_neg hl] at he
      by_cases hik : i = k + 1
      · by_cases hjk : j = k + 1
        · omega
        · subst hik
          rw [zup_eq, zup_ne hjk] at he
          exact absurd he.symm (h2 j (by omega))
      · by_cases hjk : j = k + 1
        · subst hjk
          rw [zup_eq, zup_ne hik] at he
          exact absurd he (h2 i (by omega))
        · rw [zup_ne hik, zup_ne hjk] at he
          exact h1 i j (by omega) (by omega) he
theorem zord_inj (lt : Nat → Nat → Bool) (th : Nat → Bool) (o : Nat → Int) : ∀ (n i j : Nat), i < zcnt th n → j < zcnt th n → zord lt th o n i = zord lt th o n j → i = j
  | 0, i, j, h, _, _ => absurd h (Nat.not_lt_zero i)
  | n + 1, i, j, h1, h2, h => by
    rw [zcnt_s] at h1 h2
    unfold zord at h
    by_cases ht : th n = true
    · rw [if_pos ht] at h1 h2 h
      refine zinsf_inj lt n (zcnt th n) (zord lt th o n) (fun p q hp hq hh => zord_inj lt th o n p q hp hq hh) (fun p hp hh => ?_) i j h1 h2 h
      obtain ⟨k, h3, h4, h5⟩ := zord_v lt th o n p hp
      omega
    · rw [if_neg ht] at h1 h2 h
      exact zord_inj lt th o n i j h1 h2 h
/-- widths, gaps and ways of those between the first and the last -/
def zspw (f : Nat → Nat → Int) (o : Nat → Int) : Nat → Int
  | 0 => 0
  | i + 1 => zspw f o i + (f (14 + 14 * (o (i + 1)).toNat) 13 - f (14 + 14 * (o (i + 1)).toNat) 11)
theorem zspw_s (f : Nat → Nat → Int) (o : Nat → Int) (i : Nat) : zspw f o (i + 1) = zspw f o i + (f (14 + 14 * (o (i + 1)).toNat) 13 - f (14 + 14 * (o (i + 1)).toNat) 11) := rfl
def zspe (f : Nat → Nat → Int) (o : Nat → Int) (q r : Int) (i : Nat) : Int := f (14 + 14 * (o 0).toNat) 13 + (i : Int) * q + min (i : Int) r + zspw f o i
def zspd (f : Nat → Nat → Int) (o : Nat → Int) (q r : Int) (i : Nat) : Int := zspe f o q r i + q + (if (i : Int) + 1 ≤ r then 1 else 0) - f (14 + 14 * (o (i + 1)).toNat) 11
def zspm (f : Nat → Nat → Int) (o : Nat → Int) (q r : Int) : Nat → Nat → Nat → Int
  | 0 => f
  | i + 1 => if zspd f o q r i = 0 then zspm f o q r i else zshf (zspm f o q r i) (14 + 14 * (o (i + 1)).toNat) (zspd f o q r i) 0
theorem zspm_s (f : Nat → Nat → Int) (o : Nat → Int) (q r : Int) (i : Nat) : zspm f o q r (i + 1) = if zspd f o q r i = 0 then zspm f o q r i else zshf (zspm f o q r i) (14 + 14 * (o (i + 1)).toNat) (zspd f o q r i) 0 := rfl
def zspn (f : Nat → Nat → Int) (o : Nat → Int) (q r : Int) (n : Nat) : Nat := zcnt (fun i => decide (zspd f o q r i ≠ 0)) n
theorem zspn_s (f : Nat → Nat → Int) (o : Nat → Int) (q r : Int) (n : Nat) : zspn f o q r (n + 1) = if zspd f o q r n = 0 then zspn f o q r n else zspn f o q r n + 1 := by
  unfold zspn
  rw [zcnt_s]
  by_cases h : zspd f o q r n = 0
  · rw [if_pos h, if_neg (fun h2 => (of_decide_eq_true h2) h)]
  · rw [if_neg h, if_pos (decide_eq_true h)]
theorem zspe_s (f : Nat → Nat → Int) (o : Nat → Int) (q r : Int) (i : Nat) : zspe f o q r (i + 1) = zspd f o q r i + f (14 + 14 * (o (i + 1)).toNat) 13 := by
  unfold zspd zspe
  rw [zspw_s]
  have e : ((i + 1 : Nat) : Int) * q = (i : Int) * q + q := by rw [Int.natCast_succ, Int.add_mul, Int.one_mul]
  rw [e]
  split <;> omega
theorem zspm_o (f : Nat → Nat → Int) (o : Nat → Int) (q r : Int) {b j : Nat} : ∀ i, (∀ k, k < i → b < 14 + 14 * (o (k + 1)).toNat ∨ 28 + 14 * (o (k + 1)).toNat ≤ b) → zspm f o q r i b j = f b j
  | 0, _ => rfl
  | i + 1, h => by
    have ih := zspm_o f o q r (b := b) (j := j) i (fun k hk => h k (by omega))
    rw [zspm_s]
    split
    · exact ih
    · rw [zshf_o (by have := h i (by omega); omega)]; exact ih
/-- what is spread: so many, the row told by o -/
def zsok (f : Nat → Nat → Int) (o : Nat → Int) (n : Nat) : Prop := (∀ j, j < n → ∃ v : Nat, v < 60 ∧ o j = (v : Int)) ∧ (∀ i j, i < n → j < n → o i = o j → i = j) ∧ ∀ j, j < n → zSw f (14 + 14 * (o j).toNat) ∧ zFm f (14 + 14 * (o j).toNat) ∧ f (14 + 14 * (o j).toNat) 11 ≤ f (14 + 14 * (o j).toNat) 13
def zsfr (f : Nat → Nat → Int) (o : Nat → Int) (n : Nat) : Int := f (14 + 14 * (o (n - 1)).toNat) 11 - f (14 + 14 * (o 0).toNat) 13 - zspw f o (n - 2)
theorem zspw_m {f : Nat → Nat → Int} {o : Nat → Int} {n : Nat} (h : zsok f o n) : ∀ i k : Nat, i + k + 1 < n → zspw f o i ≤ zspw f o (i + k)
  | i, 0, _ => Int.le_refl _
  | i, k + 1, hk => by
    have ih := zspw_m h i k (by omega)
    have h2 := (h.2.2 (i + k + 1) (by omega)).2.2
    rw [← Nat.add_assoc, zspw_s]
    omega
theorem zspw_0 {f : Nat → Nat → Int} {o : Nat → Int} {n i : Nat} (h : zsok f o n) (hi : i + 1 < n) : 0 ≤ zspw f o i := by
  have := zspw_m h 0 i (by omega)
  rw [Nat.zero_add] at this
  exact this
theorem zspe_b {f : Nat → Nat → Int} {o : Nat → Int} {n i : Nat} (h : zsok f o n) (hn : 3 ≤ n) (hi : i + 1 < n) (hf : 0 ≤ zsfr f o n) : 0 ≤ zspe f o (zsfr f o n / ((n : Int) - 1)) (zsfr f o n % ((n : Int) - 1)) i ∧ zspe f o (zsfr f o n / ((n : Int) - 1)) (zsfr f o n % ((n : Int) - 1)) i ≤ 60 := by
  have w0 := zspw_0 h hi
  have w1 := zspw_m h i (n - 2 - i) (by omega)
  rw [show i + (n - 2 - i) = n - 2 by omega] at w1
  obtain ⟨f1, f2, f3, f4⟩ := (h.2.2 0 (by omega)).2.1
  obtain ⟨l1, l2, l3, l4⟩ := (h.2.2 (n - 1) (by omega)).2.1
  have hfr : zsfr f o n = f (14 + 14 * (o (n - 1)).toNat) 11 - f (14 + 14 * (o 0).toNat) 13 - zspw f o (n - 2) := rfl
  generalize zsfr f o n = F at *
  have hq := Int.ediv_nonneg hf (show 0 ≤ (n : Int) - 1 by omega)
  have hr := Int.emod_nonneg F (show (n : Int) - 1 ≠ 0 by omega)
  have hd := Int.mul_ediv_add_emod F ((n : Int) - 1)
  have hm : (i : Int) * (F / ((n : Int) - 1)) ≤ ((n : Int) - 1) * (F / ((n : Int) - 1)) := Int.mul_le_mul_of_nonneg_right (by omega) hq
  have hm0 : 0 ≤ (i : Int) * (F / ((n : Int) - 1)) := Int.mul_nonneg (by omega) hq
  unfold zspe
  generalize F / ((n : Int) - 1) = q at *
  generalize F % ((n : Int) - 1) = r at *
  generalize (i : Int) * q = iq at *
  generalize ((n : Int) - 1) * q = nq at *
  omega
theorem c40 {n : Nat} (hR : zLay M.2.2.2) (hn : 3 ≤ n ∧ n ≤ 60) (h : zsok M.2.1 (M.2.1 5) n) (hf : 0 ≤ zsfr M.2.1 (M.2.1 5) n) : zFR (zK L) 40 0 (zcall 40 [.inr (.inr 3), .inl (n : Int), .inl (zsfr M.2.1 (M.2.1 5) n)]) [] M Q = Q (.inl (some (.inl (zspn M.2.1 (M.2.1 5) (zsfr M.2.1 (M.2.1 5) n / ((n : Int) - 1)) (zsfr M.2.1 (M.2.1 5) n % ((n : Int) - 1)) (n - 2) : Int)))) (zwI M (zspm M.2.1 (M.2.1 5) (zsfr M.2.1 (M.2.1 5) n / ((n : Int) - 1)) (zsfr M.2.1 (M.2.1 5) n % ((n : Int) - 1)) (n - 2))) := by
  have hF := hR.1
  unfold zLayF at hF
  have B : ∀ i : Nat, i + 1 < n → _ := fun i hi => zspe_b h hn.1 hi hf
  obtain ⟨h1, h2, h3⟩ := h
  have hfr60 : zsfr M.2.1 (M.2.1 5) n ≤ 60 := by
    have w0 := zspw_0 (i := n - 2) ⟨h1, h2, h3⟩ (by omega)
    obtain ⟨f1, f2, f3, f4⟩ := (h3 0 (by omega)).2.1
    obtain ⟨l1, l2, l3, l4⟩ := (h3 (n - 1) (by omega)).2.1
    unfold zsfr
    omega
  generalize zsfr M.2.1 (M.2.1 5) n = F at *
  have eq1 : F.tdiv ((n : Int) - 1) = F / ((n : Int) - 1) := Int.tdiv_eq_ediv_of_nonneg hf
  have eq2 : F.tmod ((n : Int) - 1) = F % ((n : Int) - 1) := Int.tmod_eq_emod_of_nonneg hf
  have hq := Int.ediv_nonneg hf (show 0 ≤ (n : Int) - 1 by omega)
  have hq2 : F / ((n : Int) - 1) ≤ F := Int.ediv_le_self _ hf
  have hr := Int.emod_nonneg F (show (n : Int) - 1 ≠ 0 by omega)
  generalize F / ((n : Int) - 1) = q at *
  generalize F % ((n : Int) - 1) = r at *
  refine zFR_det ?_ Q
  generalize hQ : (fun rr M2 => rr = (Sum.inl (some (Sum.inl (zspn M.2.1 (M.2.1 5) q r (n - 2) : Int))) : zO) ∧ M2 = zwI M (zspm M.2.1 (M.2.1 5) q r (n - 2))) = Q9
  have loop : ∀ i, i ≤ n - 2 → ∀ y z, zFR (zK L) 40 32 [some (.inr (.inr 3)), some (.inl (n : Int)), some (.inl F), some (.inl ((n : Int) - 1)), some (.inl (zspn M.2.1 (M.2.1 5) q r i : Int)), some (.inl (zspe M.2.1 (M.2.1 5) q r i)), some (.inl ((i : Int) + 1)), y, z] [] (zwI M (zspm M.2.1 (M.2.1 5) q r i)) Q9 := by
    refine zloop ?_ ?_
    · intro y z
      refine zW_sound 60 [38] ?_
      simp only [ZR40, zW_succ, zE_iload, zE_aload, zE_lload, zE_iinc, zE_istore, zE_astore, zE_lstore, zE_iconst, zE_ldc2, zE_iadd, zE_isub, zE_imul, zE_idiv, zE_irem, zE_ineg, zE_iand, zE_ior, zE_ixor, zE_ishl, zE_ishr, zE_land, zE_lor, zE_lxor, zE_lshl, zE_lshr, zE_i2l, zE_lcmp, zE_dup_i, zE_dup_a, zE_dup2_ia, zE_pop_i, zE_pop_a, zE_pop2, zE_goto, zE_if_eq, zE_icmp_eq, zE_if_ne, zE_icmp_ne, zE_if_lt, zE_icmp_lt, zE_if_ge, zE_icmp_ge, zE_if_gt, zE_icmp_gt, zE_if_le, zE_icmp_le, zE_iaload, zE_baload, zE_laload, zE_aaload, zE_iastore, zE_bastore, zE_lastore, zE_aastore, zE_alen, zE_getf0, zE_getf1, zE_getf2, zE_getf3, zE_putf0, zE_putf1, zE_putf2, zE_putf3, zE_new, zE_newa, zE_newq, zE_ireturn, zE_lreturn, zE_areturn, zE_return, zE_athrow, zE_st0, zE_vi0, zE_st1, zE_vi1, zE_st2, zE_vi2, zE_st3, zE_vi3, zE_st4, zE_vi4, zE_st5, zE_vi5, zE_st6, zE_vi6, zE_st7, zE_vi7, zE_st8, zE_vi8, zSt_0, zSL_0, zSt_1n, zSt_1i, zSt_1a, zSt_1l, zSt_2n, zSt_2i, zSt_2a, zSt_2l, zSt_3n, zSt_3i, zSt_3a, zSt_3l, zSt_4n, zSt_4i, zSt_4a, zSt_4l, zSt_5n, zSt_5i, zSt_5a, zSt_5l, zSt_6n, zSt_6i, zSt_6a, zSt_6l, zSt_7n, zSt_7i, zSt_7a, zSt_7l, zSt_8n, zSt_8i, zSt_8a, zSt_8l, zSt_9n, zSt_9i, zSt_9a, zSt_9l, zSt_10n, zSt_10i, zSt_10a, zSt_10l, zSt_11n, zSt_11i, zSt_11a, zSt_11l, zSt_12n, zSt_12i, zSt_12a, zSt_12l, zSt_13n, zSt_13i, zSt_13a, zSt_13l, zSL_1n, zSL_1i, zSL_1a, zSL_1l, zSL_2n, zSL_2i, zSL_2a, zSL_2l, zSL_3n, zSL_3i, zSL_3a, zSL_3l, zSL_4n, zSL_4i, zSL_4a, zSL_4l, zSL_5n, zSL_5i, zSL_5a, zSL_5l, zSL_6n, zSL_6i, zSL_6a, zSL_6l, zSL_7n, zSL_7i, zSL_7a, zSL_7l, zSL_8n, zSL_8i, zSL_8a, zSL_8l, zSL_9n, zSL_9i, zSL_9a, zSL_9l, zSL_10n, zSL_10i, zSL_10a, zSL_10l, zSL_11n, zSL_11i, zSL_11a, zSL_11l, zSL_12n, zSL_12i, zSL_12a, zSL_12l, zLI_0, zLL_0, zLA_0, zLI_1, zLL_1, zLA_1, zLI_2, zLL_2, zLA_2, zLI_3, zLL_3, zLA_3, zLI_4, zLL_4, zLA_4, zLI_5, zLL_5, zLA_5, zLI_6, zLL_6, zLA_6, zLI_7, zLL_7, zLA_7, zLI_8, zLL_8, zLA_8, zLI_9, zLL_9, zLA_9, zLI_10, zLL_10, zLA_10, zLI_11, zLL_11, zLA_11, zLI_12, zLL_12, zLA_12, zLI_13, zLL_13, zLA_13, zst_0, zst_1n, zst_1i, zst_1a, zst_2n, zst_2i, zst_2a, zst_3n, zst_3i, zst_3a, zst_4n, zst_4i, zst_4a, zst_5n, zst_5i, zst_5a, zst_6n, zst_6i, zst_6a, zst_7n, zst_7i, zst_7a, zst_8n, zst_8i, zst_8a, zst_9n, zst_9i, zst_9a, zst_10n, zst_10i, zst_10a, zst_11n, zst_11i, zst_11a, zst_12n, zst_12i, zst_12a, zst_13n, zst_13i, zst_13a, zst_14n, zst_14i, zst_14a, zst_15n, zst_15i, zst_15a, zR1_n, zR1_v, zsum_n, zsum_i, zsum_l, zsum_a, zlen_n, zlen_i, zlen_l, zlen_a, List.not_mem_nil, List.mem_cons, or_false, false_or, or_self, ↓reduceIte, if_false, if_true, Nat.reduceEqDiff, Nat.reduceAdd, Nat.reduceLeDiff, true_and, and_true, reduceCtorEq, ne_eq, Int.toNat_natCast, not_true_eq_false, not_false_eq_true, true_implies, false_implies, implies_true, Int.reduceToNat, Int.toNat_zero, Int.reduceLT, Int.reduceLE, Int.reduceEq, Int.reduceAdd, Int.reduceMul, Int.reduceNeg]
      subst hQ
      exact ⟨fun _ => ⟨rfl, rfl⟩, fun h => absurd (by omega) h⟩
    · intro i hi ih y z
      obtain ⟨v, hv, ov⟩ := h1 (i + 1) (by omega)
      obtain ⟨k1, k2⟩ := zK_sh (L := L) (zShA_i hv)
      have b1 := B i (by omega)
      have b2 := B (i + 1) (by omega)
      have es := zspe_s M.2.1 (M.2.1 5) q r i
      have hms := zspm_s M.2.1 (M.2.1 5) q r i
      have hns := zspn_s M.2.1 (M.2.1 5) q r i
      have hd : zspd M.2.1 (M.2.1 5) q r i = zspe M.2.1 (M.2.1 5) q r i + q + (if (i : Int) + 1 ≤ r then 1 else 0) - M.2.1 (14 + 14 * v) 11 := by
        unfold zspd
        rw [ov, Int.toNat_natCast]
      obtain ⟨w1, w2, w3⟩ := h3 (i + 1) (by omega)
      rw [ov, Int.toNat_natCast] at w1 w2 w3 es hms
      have o5 : ∀ j, zspm M.2.1 (M.2.1 5) q r i 5 j = M.2.1 5 j := fun j => zspm_o _ _ _ _ i (fun k hk => Or.inl (by omega))
      have ob : ∀ b j, 14 + 14 * v ≤ b → b < 28 + 14 * v → zspm M.2.1 (M.2.1 5) q r i b j = M.2.1 b j := by
        intro b j hb1 hb2
        refine zspm_o _ _ _ _ i (fun k hk => ?_)
        obtain ⟨u, hu, ou⟩ := h1 (k + 1) (by omega)
        have : u ≠ v := by
          intro e
          have := h2 (k + 1) (i + 1) (by omega) (by omega) (by rw [ou, ov, e])
          omega
        rw [ou, Int.toNat_natCast]
        omega
      have oc : zcnt (fun i => decide (zspd M.2.1 (M.2.1 5) q r i ≠ 0)) i ≤ i := zcnt_le _ i
      have on : zspn M.2.1 (M.2.1 5) q r i ≤ i := oc
      have sw : zSw (zspm M.2.1 (M.2.1 5) q r i) (14 + 14 * v) := by
        obtain ⟨a1, a2, a3⟩ := w1
        refine ⟨by rw [ob _ _ (by omega) (by omega)]; exact a1, by rw [ob _ _ (by omega) (by omega)]; exact a2, fun p hp => ?_⟩
        rw [ob _ _ (by omega) (by omega)] at hp
        have e1 : zN (zspm M.2.1 (M.2.1 5) q r i) (14 + 14 * v) p = zN M.2.1 (14 + 14 * v) p := ob _ _ (by omega) (by omega)
        have e2 : zX (zspm M.2.1 (M.2.1 5) q r i) (14 + 14 * v) p = zX M.2.1 (14 + 14 * v) p := funext (fun j => ob _ _ (by omega) (by omega))
        have e3 : zY (zspm M.2.1 (M.2.1 5) q r i) (14 + 14 * v) p = zY M.2.1 (14 + 14 * v) p := funext (fun j => ob _ _ (by omega) (by omega))
        rw [e1, e2, e3]
        exact a3 p hp
      have fm : zFm (zspm M.2.1 (M.2.1 5) q r i) (14 + 14 * v) := by
        unfold zFm at w2 ⊢
        rw [ob _ 11 (by omega) (by omega), ob _ 12 (by omega) (by omega), ob _ 13 (by omega) (by omega), ob _ 14 (by omega) (by omega)]
        exact w2
      have o11 := ob (14 + 14 * v) 11 (by omega) (by omega)
      have o13 := ob (14 + 14 * v) 13 (by omega) (by omega)
      obtain ⟨f1, f2, f3, f4⟩ := w2
      generalize zspm M.2.1 (M.2.1 5) q r i = m at *
      generalize zspe M.2.1 (M.2.1 5) q r i = E at *
      generalize zspe M.2.1 (M.2.1 5) q r (i + 1) = E' at *
      generalize zspn M.2.1 (M.2.1 5) q r i = c at *
      generalize zspd M.2.1 (M.2.1 5) q r i = d at *
      have next : ∀ (c' : Nat) m' y, c' = zspn M.2.1 (M.2.1 5) q r (i + 1) → m' = zspm M.2.1 (M.2.1 5) q r (i + 1) → m' (14 + 14 * v) 13 = E' → zFR (zK L) 40 96 [some (.inr (.inr 3)), some (.inl (n : Int)), some (.inl F), some (.inl ((n : Int) - 1)), some (.inl (c' : Int)), y, some (.inl ((i : Int) + 1)), some (.inr (.inr (14 + 14 * v))), some (.inl d)] [] (zwI M m') Q9 := by
        intro c' m' y hc hm he
        refine zW_sound 60 [32] ?_
        simp only [ZR40, k1, he, zwI_I, zW_succ, zE_iload, zE_aload, zE_lload, zE_iinc, zE_istore, zE_astore, zE_lstore, zE_iconst, zE_ldc2, zE_iadd, zE_isub, zE_imul, zE_idiv, zE_irem, zE_ineg, zE_iand, zE_ior, zE_ixor, zE_ishl, zE_ishr, zE_land, zE_lor, zE_lxor, zE_lshl, zE_lshr, zE_i2l, zE_lcmp, zE_dup_i, zE_dup_a, zE_dup2_ia, zE_pop_i, zE_pop_a, zE_pop2, zE_goto, zE_if_eq, zE_icmp_eq, zE_if_ne, zE_icmp_ne, zE_if_lt, zE_icmp_lt, zE_if_ge, zE_icmp_ge, zE_if_gt, zE_icmp_gt, zE_if_le, zE_icmp_le, zE_iaload, zE_baload, zE_laload, zE_aaload, zE_iastore, zE_bastore, zE_lastore, zE_aastore, zE_alen, zE_getf0, zE_getf1, zE_getf2, zE_getf3, zE_putf0, zE_putf1, zE_putf2, zE_putf3, zE_new, zE_newa, zE_newq, zE_ireturn, zE_lreturn, zE_areturn, zE_return, zE_athrow, zE_st0, zE_vi0, zE_st1, zE_vi1, zE_st2, zE_vi2, zE_st3, zE_vi3, zE_st4, zE_vi4, zE_st5, zE_vi5, zE_st6, zE_vi6, zE_st7, zE_vi7, zE_st8, zE_vi8, zSt_0, zSL_0, zSt_1n, zSt_1i, zSt_1a, zSt_1l, zSt_2n, zSt_2i, zSt_2a, zSt_2l, zSt_3n, zSt_3i, zSt_3a, zSt_3l, zSt_4n, zSt_4i, zSt_4a, zSt_4l, zSt_5n, zSt_5i, zSt_5a, zSt_5l, zSt_6n, zSt_6i, zSt_6a, zSt_6l, zSt_7n, zSt_7i, zSt_7a, zSt_7l, zSt_8n, zSt_8i, zSt_8a, zSt_8l, zSt_9n, zSt_9i, zSt_9a, zSt_9l, zSt_10n, zSt_10i, zSt_10a, zSt_10l, zSt_11n, zSt_11i, zSt_11a, zSt_11l, zSt_12n, zSt_12i, zSt_12a, zSt_12l, zSt_13n, zSt_13i, zSt_13a, zSt_13l, zSL_1n, zSL_1i, zSL_1a, zSL_1l, zSL_2n, zSL_2i, zSL_2a, zSL_2l, zSL_3n, zSL_3i, zSL_3a, zSL_3l, zSL_4n, zSL_4i, zSL_4a, zSL_4l, zSL_5n, zSL_5i, zSL_5a, zSL_5l, zSL_6n, zSL_6i, zSL_6a, zSL_6l, zSL_7n, zSL_7i, zSL_7a, zSL_7l, zSL_8n, zSL_8i, zSL_8a, zSL_8l, zSL_9n, zSL_9i, zSL_9a, zSL_9l, zSL_10n, zSL_10i, zSL_10a, zSL_10l, zSL_11n, zSL_11i, zSL_11a, zSL_11l, zSL_12n, zSL_12i, zSL_12a, zSL_12l, zLI_0, zLL_0, zLA_0, zLI_1, zLL_1, zLA_1, zLI_2, zLL_2, zLA_2, zLI_3, zLL_3, zLA_3, zLI_4, zLL_4, zLA_4, zLI_5, zLL_5, zLA_5, zLI_6, zLL_6, zLA_6, zLI_7, zLL_7, zLA_7, zLI_8, zLL_8, zLA_8, zLI_9, zLL_9, zLA_9, zLI_10, zLL_10, zLA_10, zLI_11, zLL_11, zLA_11, zLI_12, zLL_12, zLA_12, zLI_13, zLL_13, zLA_13, zst_0, zst_1n, zst_1i, zst_1a, zst_2n, zst_2i, zst_2a, zst_3n, zst_3i, zst_3a, zst_4n, zst_4i, zst_4a, zst_5n, zst_5i, zst_5a, zst_6n, zst_6i, zst_6a, zst_7n, zst_7i, zst_7a, zst_8n, zst_8i, zst_8a, zst_9n, zst_9i, zst_9a, zst_10n, zst_10i, zst_10a, zst_11n, zst_11i, zst_11a, zst_12n, zst_12i, zst_12a, zst_13n, zst_13i, zst_13a, zst_14n, zst_14i, zst_14a, zst_15n, zst_15i, zst_15a, zR1_n, zR1_v, zsum_n, zsum_i, zsum_l, zsum_a, zlen_n, zlen_i, zlen_l, zlen_a, List.not_mem_nil, List.mem_cons, or_false, false_or, or_self, ↓reduceIte, if_false, if_true, Nat.reduceEqDiff, Nat.reduceAdd, Nat.reduceLeDiff, true_and, and_true, reduceCtorEq, ne_eq, Int.toNat_natCast, not_true_eq_false, not_false_eq_true, true_implies, false_implies, implies_true, Int.reduceToNat, Int.toNat_zero, Int.reduceLT, Int.reduceLE, Int.reduceEq, Int.reduceAdd, Int.reduceMul, Int.reduceNeg]
        refine ⟨by unfold zr32; omega, ?_⟩
        rw [hc, hm]
        exact ih _ _
      have part : zFR (zK L) 40 80 [some (.inr (.inr 3)), some (.inl (n : Int)), some (.inl F), some (.inl ((n : Int) - 1)), some (.inl (c : Int)), some (.inl E), some (.inl ((i : Int) + 1)), some (.inr (.inr (14 + 14 * v))), some (.inl d)] [] (zwI M m) Q9 := by
        have e97 := fun Q => c97s (L := L) (M := zwI M m) (Q := Q) (dx := d) (dy := 0) (zShA_i hv) hR sw fm (by rw [hd]; split <;> omega) (by omega)
        refine zW_sound 60 [96] ?_
        simp only [ZR40, k1, zwI_I, ZF97.1, ZF97.2.1, ZF97.2.2.1, e97, zwI_w, zW_succ, zE_iload, zE_aload, zE_lload, zE_iinc, zE_istore, zE_astore, zE_lstore, zE_iconst, zE_ldc2, zE_iadd, zE_isub, zE_imul, zE_idiv, zE_irem, zE_ineg, zE_iand, zE_ior, zE_ixor, zE_ishl, zE_ishr, zE_land, zE_lor, zE_lxor, zE_lshl, zE_lshr, zE_i2l, zE_lcmp, zE_dup_i, zE_dup_a, zE_dup2_ia, zE_pop_i, zE_pop_a, zE_pop2, zE_goto, zE_if_eq, zE_icmp_eq, zE_if_ne, zE_icmp_ne, zE_if_lt, zE_icmp_lt, zE_if_ge, zE_icmp_ge, zE_if_gt, zE_icmp_gt, zE_if_le, zE_icmp_le, zE_iaload, zE_baload, zE_laload, zE_aaload, zE_iastore, zE_bastore, zE_lastore, zE_aastore, zE_alen, zE_getf0, zE_getf1, zE_getf2, zE_getf3, zE_putf0, zE_putf1, zE_putf2, zE_putf3, zE_new, zE_newa, zE_newq, zE_ireturn, zE_lreturn, zE_areturn, zE_return, zE_athrow, zE_st0, zE_vi0, zE_st1, zE_vi1, zE_st2, zE_vi2, zE_st3, zE_vi3, zE_st4, zE_vi4, zE_st5, zE_vi5, zE_st6, zE_vi6, zE_st7, zE_vi7, zE_st8, zE_vi8, zSt_0, zSL_0, zSt_1n, zSt_1i, zSt_1a, zSt_1l, zSt_2n, zSt_2i, zSt_2a, zSt_2l, zSt_3n, zSt_3i, zSt_3a, zSt_3l, zSt_4n, zSt_4i, zSt_4a, zSt_4l, zSt_5n, zSt_5i, zSt_5a, zSt_5l, zSt_6n, zSt_6i, zSt_6a, zSt_6l, zSt_7n, zSt_7i, zSt_7a, zSt_7l, zSt_8n, zSt_8i, zSt_8a, zSt_8l, zSt_9n, zSt_9i, zSt_9a, zSt_9l, zSt_10n, zSt_10i, zSt_10a, zSt_10l, zSt_11n, zSt_11i, zSt_11a, zSt_11l, zSt_12n, zSt_12i, zSt_12a, zSt_12l, zSt_13n, zSt_13i, zSt_13a, zSt_13l, zSL_1n, zSL_1i, zSL_1a, zSL_1l, zSL_2n, zSL_2i, zSL_2a, zSL_2l, zSL_3n, zSL_3i, zSL_3a, zSL_3l, zSL_4n, zSL_4i, zSL_4a, zSL_4l, zSL_5n, zSL_5i, zSL_5a, zSL_5l, zSL_6n, zSL_6i, zSL_6a, zSL_6l, zSL_7n, zSL_7i, zSL_7a, zSL_7l, zSL_8n, zSL_8i, zSL_8a, zSL_8l, zSL_9n, zSL_9i, zSL_9a, zSL_9l, zSL_10n, zSL_10i, zSL_10a, zSL_10l, zSL_11n, zSL_11i, zSL_11a, zSL_11l, zSL_12n, zSL_12i, zSL_12a, zSL_12l, zLI_0, zLL_0, zLA_0, zLI_1, zLL_1, zLA_1, zLI_2, zLL_2, zLA_2, zLI_3, zLL_3, zLA_3, zLI_4, zLL_4, zLA_4, zLI_5, zLL_5, zLA_5, zLI_6, zLL_6, zLA_6, zLI_7, zLL_7, zLA_7, zLI_8, zLL_8, zLA_8, zLI_9, zLL_9, zLA_9, zLI_10, zLL_10, zLA_10, zLI_11, zLL_11, zLA_11, zLI_12, zLL_12, zLA_12, zLI_13, zLL_13, zLA_13, zst_0, zst_1n, zst_1i, zst_1a, zst_2n, zst_2i, zst_2a, zst_3n, zst_3i, zst_3a, zst_4n, zst_4i, zst_4a, zst_5n, zst_5i, zst_5a, zst_6n, zst_6i, zst_6a, zst_7n, zst_7i, zst_7a, zst_8n, zst_8i, zst_8a, zst_9n, zst_9i, zst_9a, zst_10n, zst_10i, zst_10a, zst_11n, zst_11i, zst_11a, zst_12n, zst_12i, zst_12a, zst_13n, zst_13i, zst_13a, zst_14n, zst_14i, zst_14a, zst_15n, zst_15i, zst_15a, zR1_n, zR1_v, zsum_n, zsum_i, zsum_l, zsum_a, zlen_n, zlen_i, zlen_l, zlen_a, List.not_mem_nil, List.mem_cons, or_false, false_or, or_self, ↓reduceIte, if_false, if_true, Nat.reduceEqDiff, Nat.reduceAdd, Nat.reduceLeDiff, true_and, and_true, reduceCtorEq, ne_eq, Int.toNat_natCast, not_true_eq_false, not_false_eq_true, true_implies, false_implies, implies_true, Int.reduceToNat, Int.toNat_zero, Int.reduceLT, Int.reduceLE, Int.reduceEq, Int.reduceAdd, Int.reduceMul, Int.reduceNeg]
        refine ⟨fun h0 => ?_, fun h0 => ⟨by unfold zr32; omega, ?_⟩⟩
        · rw [if_pos h0] at hns hms
          exact next c m _ hns.symm hms.symm (by rw [o13]; omega)
        · rw [if_neg h0] at hns hms
          refine next (c + 1) _ _ hns.symm hms.symm ?_
          unfold zshf zfr
          rw [if_neg (by omega), if_neg (by omega), if_pos ⟨rfl, rfl⟩, o13]
          omega
      refine zW_sound 60 [80] ?_
      have eT : ((i : Int) + 1).toNat = i + 1 := by omega
      simp only [ZR40, zk_3, zk_4, zk_5, k1, hF, (hR.2.2.2 v hv).1, o5, o11, eT, ov, eq1, eq2, zwI_I, zwI_2, zW_succ, zE_iload, zE_aload, zE_lload, zE_iinc, zE_istore, zE_astore, zE_lstore, zE_iconst, zE_ldc2, zE_iadd, zE_isub, zE_imul, zE_idiv, zE_irem, zE_ineg, zE_iand, zE_ior, zE_ixor, zE_ishl, zE_ishr, zE_land, zE_lor, zE_lxor, zE_lshl, zE_lshr, zE_i2l, zE_lcmp, zE_dup_i, zE_dup_a, zE_dup2_ia, zE_pop_i, zE_pop_a, zE_pop2, zE_goto, zE_if_eq, zE_icmp_eq, zE_if_ne, zE_icmp_ne, zE_if_lt, zE_icmp_lt, zE_if_ge, zE_icmp_ge, zE_if_gt, zE_icmp_gt, zE_if_le, zE_icmp_le, zE_iaload, zE_baload, zE_laload, zE_aaload, zE_iastore, zE_bastore, zE_lastore, zE_aastore, zE_alen, zE_getf0, zE_getf1, zE_getf2, zE_getf3, zE_putf0, zE_putf1, zE_putf2, zE_putf3, zE_new, zE_newa, zE_newq, zE_ireturn, zE_lreturn, zE_areturn, zE_return, zE_athrow, zE_st0, zE_vi0, zE_st1, zE_vi1, zE_st2, zE_vi2, zE_st3, zE_vi3, zE_st4, zE_vi4, zE_st5, zE_vi5, zE_st6, zE_vi6, zE_st7, zE_vi7, zE_st8, zE_vi8, zSt_0, zSL_0, zSt_1n, zSt_1i, zSt_1a, zSt_1l, zSt_2n, zSt_2i, zSt_2a, zSt_2l, zSt_3n, zSt_3i, zSt_3a, zSt_3l, zSt_4n, zSt_4i, zSt_4a, zSt_4l, zSt_5n, zSt_5i, zSt_5a, zSt_5l, zSt_6n, zSt_6i, zSt_6a, zSt_6l, zSt_7n, zSt_7i, zSt_7a, zSt_7l, zSt_8n, zSt_8i, zSt_8a, zSt_8l, zSt_9n, zSt_9i, zSt_9a, zSt_9l, zSt_10n, zSt_10i, zSt_10a, zSt_10l, zSt_11n, zSt_11i, zSt_11a, zSt_11l, zSt_12n, zSt_12i, zSt_12a, zSt_12l, zSt_13n, zSt_13i, zSt_13a, zSt_13l, zSL_1n, zSL_1i, zSL_1a, zSL_1l, zSL_2n, zSL_2i, zSL_2a, zSL_2l, zSL_3n, zSL_3i, zSL_3a, zSL_3l, zSL_4n, zSL_4i, zSL_4a, zSL_4l, zSL_5n, zSL_5i, zSL_5a, zSL_5l, zSL_6n, zSL_6i, zSL_6a, zSL_6l, zSL_7n, zSL_7i, zSL_7a, zSL_7l, zSL_8n, zSL_8i, zSL_8a, zSL_8l, zSL_9n, zSL_9i, zSL_9a, zSL_9l, zSL_10n, zSL_10i, zSL_10a, zSL_10l, zSL_11n, zSL_11i, zSL_11a, zSL_11l, zSL_12n, zSL_12i, zSL_12a, zSL_12l, zLI_0, zLL_0, zLA_0, zLI_1, zLL_1, zLA_1, zLI_2, zLL_2, zLA_2, zLI_3, zLL_3, zLA_3, zLI_4, zLL_4, zLA_4, zLI_5, zLL_5, zLA_5, zLI_6, zLL_6, zLA_6, zLI_7, zLL_7, zLA_7, zLI_8, zLL_8, zLA_8, zLI_9, zLL_9, zLA_9, zLI_10, zLL_10, zLA_10, zLI_11, zLL_11, zLA_11, zLI_12, zLL_12, zLA_12, zLI_13, zLL_13, zLA_13, zst_0, zst_1n, zst_1i, zst_1a, zst_2n, zst_2i, zst_2a, zst_3n, zst_3i, zst_3a, zst_4n, zst_4i, zst_4a, zst_5n, zst_5i, zst_5a, zst_6n, zst_6i, zst_6a, zst_7n, zst_7i, zst_7a, zst_8n, zst_8i, zst_8a, zst_9n, zst_9i, zst_9a, zst_10n, zst_10i, zst_10a, zst_11n, zst_11i, zst_11a, zst_12n, zst_12i, zst_12a, zst_13n, zst_13i, zst_13a, zst_14n, zst_14i, zst_14a, zst_15n, zst_15i, zst_15a, zR1_n, zR1_v, zsum_n, zsum_i, zsum_l, zsum_a, zlen_n, zlen_i, zlen_l, zlen_a, List.not_mem_nil, List.mem_cons, or_false, false_or, or_self, ↓reduceIte, if_false, if_true, Nat.reduceEqDiff, Nat.reduceAdd, Nat.reduceLeDiff, true_and, and_true, reduceCtorEq, ne_eq, Int.toNat_natCast, not_true_eq_false, not_false_eq_true, true_implies, false_implies, implies_true, Int.reduceToNat, Int.toNat_zero, Int.reduceLT, Int.reduceLE, Int.reduceEq, Int.reduceAdd, Int.reduceMul, Int.reduceNeg]
      refine ⟨fun h => absurd h (by omega), fun _ => ⟨by omega, by omega, by omega, by unfold zr32; omega, by omega, fun h => ⟨by unfold zr32; omega, by unfold zr32; omega, ?_⟩, fun h => ⟨by unfold zr32; omega, by unfold zr32; omega, ?_⟩⟩⟩
      · rw [show E + q + 0 - M.2.1 (14 + 14 * v) 11 = d by rw [hd, if_neg (by omega)]]
        exact part
      · rw [show E + q + 1 - M.2.1 (14 + 14 * v) 11 = d by rw [hd, if_pos (by omega)]]
        exact part
  refine zW_sound 60 [32] ?_
  obtain ⟨v, hv, ov⟩ := h1 0 (by omega)
  obtain ⟨k1, k2⟩ := zK_sh (L := L) (zShA_i hv)
  simp only [ZF40, ZR40, zk_3, zk_4, zk_5, k1, hF, (hR.2.2.2 v hv).1, ov, zW_succ, zE_iload, zE_aload, zE_lload, zE_iinc, zE_istore, zE_astore, zE_lstore, zE_iconst, zE_ldc2, zE_iadd, zE_isub, zE_imul, zE_idiv, zE_irem, zE_ineg, zE_iand, zE_ior, zE_ixor, zE_ishl, zE_ishr, zE_land, zE_lor, zE_lxor, zE_lshl, zE_lshr, zE_i2l, zE_lcmp, zE_dup_i, zE_dup_a, zE_dup2_ia, zE_pop_i, zE_pop_a, zE_pop2, zE_goto, zE_if_eq, zE_icmp_eq, zE_if_ne, zE_icmp_ne, zE_if_lt, zE_icmp_lt, zE_if_ge, zE_icmp_ge, zE_if_gt, zE_icmp_gt, zE_if_le, zE_icmp_le, zE_iaload, zE_baload, zE_laload, zE_aaload, zE_iastore, zE_bastore, zE_lastore, zE_aastore, zE_alen, zE_getf0, zE_getf1, zE_getf2, zE_getf3, zE_putf0, zE_putf1, zE_putf2, zE_putf3, zE_new, zE_newa, zE_newq, zE_ireturn, zE_lreturn, zE_areturn, zE_return, zE_athrow, zE_st0, zE_vi0, zE_st1, zE_vi1, zE_st2, zE_vi2, zE_st3, zE_vi3, zE_st4, zE_vi4, zE_st5, zE_vi5, zE_st6, zE_vi6, zE_st7, zE_vi7, zE_st8, zE_vi8, zSt_0, zSL_0, zSt_1n, zSt_1i, zSt_1a, zSt_1l, zSt_2n, zSt_2i, zSt_2a, zSt_2l, zSt_3n, zSt_3i, zSt_3a, zSt_3l, zSt_4n, zSt_4i, zSt_4a, zSt_4l, zSt_5n, zSt_5i, zSt_5a, zSt_5l, zSt_6n, zSt_6i, zSt_6a, zSt_6l, zSt_7n, zSt_7i, zSt_7a, zSt_7l, zSt_8n, zSt_8i, zSt_8a, zSt_8l, zSt_9n, zSt_9i, zSt_9a, zSt_9l, zSt_10n, zSt_10i, zSt_10a, zSt_10l, zSt_11n, zSt_11i, zSt_11a, zSt_11l, zSt_12n, zSt_12i, zSt_12a, zSt_12l, zSt_13n, zSt_13i, zSt_13a, zSt_13l, zSL_1n, zSL_1i, zSL_1a, zSL_1l, zSL_2n, zSL_2i, zSL_2a, zSL_2l, zSL_3n, zSL_3i, zSL_3a, zSL_3l, zSL_4n, zSL_4i, zSL_4a, zSL_4l, zSL_5n, zSL_5i, zSL_5a, zSL_5l, zSL_6n, zSL_6i, zSL_6a, zSL_6l, zSL_7n, zSL_7i, zSL_7a, zSL_7l, zSL_8n, zSL_8i, zSL_8a, zSL_8l, zSL_9n, zSL_9i, zSL_9a, zSL_9l, zSL_10n, zSL_10i, zSL_10a, zSL_10l, zSL_11n, zSL_11i, zSL_11a, zSL_11l, zSL_12n, zSL_12i, zSL_12a, zSL_12l, zLI_0, zLL_0, zLA_0, zLI_1, zLL_1, zLA_1, zLI_2, zLL_2, zLA_2, zLI_3, zLL_3, zLA_3, zLI_4, zLL_4, zLA_4, zLI_5, zLL_5, zLA_5, zLI_6, zLL_6, zLA_6, zLI_7, zLL_7, zLA_7, zLI_8, zLL_8, zLA_8, zLI_9, zLL_9, zLA_9, zLI_10, zLL_10, zLA_10, zLI_11, zLL_11, zLA_11, zLI_12, zLL_12, zLA_12, zLI_13, zLL_13, zLA_13, zst_0, zst_1n, zst_1i, zst_1a, zst_2n, zst_2i, zst_2a, zst_3n, zst_3i, zst_3a, zst_4n, zst_4i, zst_4a, zst_5n, zst_5i, zst_5a, zst_6n, zst_6i, zst_6a, zst_7n, zst_7i, zst_7a, zst_8n, zst_8i, zst_8a, zst_9n, zst_9i, zst_9a, zst_10n, zst_10i, zst_10a, zst_11n, zst_11i, zst_11a, zst_12n, zst_12i, zst_12a, zst_13n, zst_13i, zst_13a, zst_14n, zst_14i, zst_14a, zst_15n, zst_15i, zst_15a, zR1_n, zR1_v, zsum_n, zsum_i, zsum_l, zsum_a, zlen_n, zlen_i, zlen_l, zlen_a, List.not_mem_nil, List.mem_cons, or_false, false_or, or_self, ↓reduceIte, if_false, if_true, Nat.reduceEqDiff, Nat.reduceAdd, Nat.reduceLeDiff, true_and, and_true, reduceCtorEq, ne_eq, Int.toNat_natCast, not_true_eq_false, not_false_eq_true, true_implies, false_implies, implies_true, Int.reduceToNat, Int.toNat_zero, Int.reduceLT, Int.reduceLE, Int.reduceEq, Int.reduceAdd, Int.reduceMul, Int.reduceNeg]
  have o9 := loop 0 (Nat.zero_le _) none none
  have e0 : zspe M.2.1 (M.2.1 5) q r 0 = M.2.1 (14 + 14 * v) 13 := by
    unfold zspe zspw
    rw [ov, Int.toNat_natCast]
    have : ((0 : Nat) : Int) * q = 0 := Int.zero_mul q
    omega
  rw [e0] at o9
  exact ⟨by unfold zr32; omega, fun _ => ⟨by omega, by omega, o9⟩, fun h => absurd (by omega) h⟩
theorem zcnt_cong (p q : Nat → Bool) : ∀ k, (∀ i, i < k → p i = q i) → zcnt p k = zcnt q k
  | 0, _ => rfl
  | k + 1, h => by
    have ih := zcnt_cong p q k (fun i hi => h i (by omega))
    rw [zcnt_s, zcnt_s, ih, h k (by omega)]
def zspo (f : Nat → Nat → Int) : Nat → Int := zord (zlfl f) (zsnc f) (f 5) 60
theorem c38 {g : Nat → Nat → Int} {n : Nat} (hR : zLay M.2.2.2) (hg : zGr M.2.1) (ht : ∀ i, i < 60 → M.2.1 (14 + 14 * i) 0 = 0 ∨ M.2.1 (14 + 14 * i) 0 = 1) (hs : s < 60) (eg : g = zchs M.2.1 s 0) (en : n = zcnt (zsnc g) 60) (h : ∀ j, j < 60 → zsnc g j = true → zSw g (14 + 14 * j) ∧ zFm g (14 + 14 * j) ∧ g (14 + 14 * j) 11 ≤ g (14 + 14 * j) 13) : zFR (zK L) 38 0 (zcall 38 [.inr (.inr 3), .inl (s : Int)]) [] M Q = (((3 ≤ n ∧ 0 ≤ zsfr g (zspo g) n) → Q (.inl (some (.inl (zspn g (zspo g) (zsfr g (zspo g) n / ((n : Int) - 1)) (zsfr g (zspo g) n % ((n : Int) - 1)) (n - 2) : Int)))) (zwI M (zspm (zua g 5 (zspo g)) (zspo g) (zsfr g (zspo g) n / ((n : Int) - 1)) (zsfr g (zspo g) n % ((n : Int) - 1)) (n - 2)))) ∧ (¬ (3 ≤ n ∧ 0 ≤ zsfr g (zspo g) n) → Q (.inl (some (.inl (-1)))) (zwI M (zua g 5 (zspo g))))) := by
  have hF := hR.1
  unfold zLayF at hF
  have ezc : zchr M.2.1 s (if zotm M.2.1 s = -1 then 0 else 60) = zchs M.2.1 s 0 := by
    unfold zchs
    simp only [ne_eq, not_true_eq_false, false_or]
  have e18 := fun Q => c18 (L := L) (M := M) (Q := Q) hR hg ht hs
  rw [ezc, ← eg] at e18
  have e39 := fun Q => c39 (L := L) (M := zwI M g) (Q := Q) hR
  simp only [zwI_I, zwI_w, ← en] at e39
  have hn60 : n ≤ 60 := by rw [en]; exact zcnt_le _ _
  have ov : ∀ j, j < n → ∃ v : Nat, v < 60 ∧ zsnc g v = true ∧ zspo g j = (v : Int) := by
    intro j hj
    exact zord_v _ _ _ 60 j (by rw [← en]; exact hj)
  have oi : ∀ i j, i < n → j < n → zspo g i = zspo g j → i = j := by
    intro i j hi hj
    exact zord_inj _ _ _ 60 i j (by rw [← en]; exact hi) (by rw [← en]; exact hj)
  have eo : zord (zlfl g) (zsnc g) (g 5) 60 = zspo g := rfl
  rw [eo] at e39
  generalize zspo g = o at *
  have o14 : ∀ (b j : Nat), 14 ≤ b → zua g 5 o b j = g b j := fun b j hb => zua_o (by omega) o j
  have ow : ∀ i, i < n → zspw (zua g 5 o) o i = zspw g o i := by
    intro i hi
    induction i with
    | zero => rfl
    | succ i ih =>
      obtain ⟨v, hv, hv2, hv3⟩ := ov (i + 1) hi
      rw [zspw_s, zspw_s, ih (by omega), hv3, Int.toNat_natCast, o14 _ _ (by omega), o14 _ _ (by omega)]
  have ofr : 3 ≤ n → zsfr (zua g 5 o) o n = zsfr g o n := by
    intro h3
    unfold zsfr
    rw [ow (n - 2) (by omega), o14 _ _ (by omega), o14 _ _ (by omega)]
  have o5 : zua g 5 o 5 = o := funext (fun j => zua_a)
  have hok : zsok (zua g 5 o) o n := by
    refine ⟨fun j hj => ?_, oi, fun j hj => ?_⟩
    · obtain ⟨v, hv, hv2, hv3⟩ := ov j hj
      exact ⟨v, hv, hv3⟩
    · obtain ⟨v, hv, hv2, hv3⟩ := ov j hj
      obtain ⟨h1, h2, h3⟩ := h v hv hv2
      rw [hv3, Int.toNat_natCast]
      refine ⟨zSw_f (fun b j hb => o14 b j (by omega)) h1, zFm_f (fun b j hb => o14 b j (by omega)) h2, ?_⟩
      rw [o14 _ _ (by omega), o14 _ _ (by omega)]
      exact h3
  have hok0 : zsok g o n := by
    refine ⟨fun j hj => ?_, oi, fun j hj => ?_⟩
    · obtain ⟨v, hv, hv2, hv3⟩ := ov j hj
      exact ⟨v, hv, hv3⟩
    · obtain ⟨v, hv, hv2, hv3⟩ := ov j hj
      rw [hv3, Int.toNat_natCast]
      exact h v hv hv2
  have B : 3 ≤ n → ∀ i : Nat, i + 1 < n → (-60 ≤ g (14 + 14 * (o (n - 1)).toNat) 11 - g (14 + 14 * (o 0).toNat) 13 ∧ g (14 + 14 * (o (n - 1)).toNat) 11 - g (14 + 14 * (o 0).toNat) 13 ≤ 60) ∧ zspw g o i ≤ 60 * (i : Int) ∧ 0 ≤ zspw g o i := by
    intro h3 i hi
    obtain ⟨f1, f2, f3, f4⟩ := (hok0.2.2 0 (by omega)).2.1
    obtain ⟨l1, l2, l3, l4⟩ := (hok0.2.2 (n - 1) (by omega)).2.1
    have up : ∀ i : Nat, i + 1 < n → zspw g o i ≤ 60 * (i : Int) := by
      intro i
      induction i with
      | zero => intro _; exact Int.le_refl _
      | succ i ih =>
        intro hi
        obtain ⟨m1, m2, m3, m4⟩ := (hok0.2.2 (i + 1) (by omega)).2.1
        have := ih (by omega)
        rw [zspw_s]
        omega
    exact ⟨by omega, up i hi, zspw_0 hok0 hi⟩
  have loop : 3 ≤ n → ∀ Q9 : zO → zM → Prop, (∀ y, zFR (zK L) 38 100 [some (.inr (.inr 3)), some (.inl (s : Int)), some (.inl (n : Int)), some (.inl (zsfr g o n)), y] [] (zwI M (zua g 5 o)) Q9) → zFR (zK L) 38 0 (zcall 38 [.inr (.inr 3), .inl (s : Int)]) [] M Q9 := by
    intro h3 Q9 hend
    have lp : ∀ i : Nat, i ≤ n - 2 → zFR (zK L) 38 52 [some (.inr (.inr 3)), some (.inl (s : Int)), some (.inl (n : Int)), some (.inl (g (14 + 14 * (o (n - 1)).toNat) 11 - g (14 + 14 * (o 0).toNat) 13 - zspw g o i)), some (.inl ((i : Int) + 1))] [] (zwI M (zua g 5 o)) Q9 := by
      refine zloop ?_ ?_
      · refine zW_sound 60 [60, 100] ?_
        simp only [ZR38, zW_succ, zE_iload, zE_aload, zE_lload, zE_iinc, zE_istore, zE_astore, zE_lstore, zE_iconst, zE_ldc2, zE_iadd, zE_isub, zE_imul, zE_idiv, zE_irem, zE_ineg, zE_iand, zE_ior, zE_ixor, zE_ishl, zE_ishr, zE_land, zE_lor, zE_lxor, zE_lshl, zE_lshr, zE_i2l, zE_lcmp, zE_dup_i, zE_dup_a, zE_dup2_ia, zE_pop_i, zE_pop_a, zE_pop2, zE_goto, zE_if_eq, zE_icmp_eq, zE_if_ne, zE_icmp_ne, zE_if_lt, zE_icmp_lt, zE_if_ge, zE_icmp_ge, zE_if_gt, zE_icmp_gt, zE_if_le, zE_icmp_le, zE_iaload, zE_baload, zE_laload, zE_aaload, zE_iastore, zE_bastore, zE_lastore, zE_aastore, zE_alen, zE_getf0, zE_getf1, zE_getf2, zE_getf3, zE_putf0, zE_putf1, zE_putf2, zE_putf3, zE_new, zE_newa, zE_newq, zE_ireturn, zE_lreturn, zE_areturn, zE_return, zE_athrow, zE_st0, zE_vi0, zE_st1, zE_vi1, zE_st2, zE_vi2, zE_st3, zE_vi3, zE_st4, zE_vi4, zE_st5, zE_vi5, zE_st6, zE_vi6, zE_st7, zE_vi7, zE_st8, zE_vi8, zSt_0, zSL_0, zSt_1n, zSt_1i, zSt_1a, zSt_1l, zSt_2n, zSt_2i, zSt_2a, zSt_2l, zSt_3n, zSt_3i, zSt_3a, zSt_3l, zSt_4n, zSt_4i, zSt_4a, zSt_4l, zSt_5n, zSt_5i, zSt_5a, zSt_5l, zSt_6n, zSt_6i, zSt_6a, zSt_6l, zSt_7n, zSt_7i, zSt_7a, zSt_7l, zSt_8n, zSt_8i, zSt_8a, zSt_8l, zSt_9n, zSt_9i, zSt_9a, zSt_9l, zSt_10n, zSt_10i, zSt_10a, zSt_10l, zSt_11n, zSt_11i, zSt_11a, zSt_11l, zSt_12n, zSt_12i, zSt_12a, zSt_12l, zSt_13n, zSt_13i, zSt_13a, zSt_13l, zSL_1n, zSL_1i, zSL_1a, zSL_1l, zSL_2n, zSL_2i, zSL_2a, zSL_2l, zSL_3n, zSL_3i, zSL_3a, zSL_3l, zSL_4n, zSL_4i, zSL_4a, zSL_4l, zSL_5n, zSL_5i, zSL_5a, zSL_5l, zSL_6n, zSL_6i, zSL_6a, zSL_6l, zSL_7n, zSL_7i, zSL_7a, zSL_7l, zSL_8n, zSL_8i, zSL_8a, zSL_8l, zSL_9n, zSL_9i, zSL_9a, zSL_9l, zSL_10n, zSL_10i, zSL_10a, zSL_10l, zSL_11n, zSL_11i, zSL_11a, zSL_11l, zSL_12n, zSL_12i, zSL_12a, zSL_12l, zLI_0, zLL_0, zLA_0, zLI_1, zLL_1, zLA_1, zLI_2, zLL_2, zLA_2, zLI_3, zLL_3, zLA_3, zLI_4, zLL_4, zLA_4, zLI_5, zLL_5, zLA_5, zLI_6, zLL_6, zLA_6, zLI_7, zLL_7, zLA_7, zLI_8, zLL_8, zLA_8, zLI_9, zLL_9, zLA_9, zLI_10, zLL_10, zLA_10, zLI_11, zLL_11, zLA_11, zLI_12, zLL_12, zLA_12, zLI_13, zLL_13, zLA_13, zst_0, zst_1n, zst_1i, zst_1a, zst_2n, zst_2i, zst_2a, zst_3n, zst_3i, zst_3a, zst_4n, zst_4i, zst_4a, zst_5n, zst_5i, zst_5a, zst_6n, zst_6i, zst_6a, zst_7n, zst_7i, zst_7a, zst_8n, zst_8i, zst_8a, zst_9n, zst_9i, zst_9a, zst_10n, zst_10i, zst_10a, zst_11n, zst_11i, zst_11a, zst_12n, zst_12i, zst_12a, zst_13n, zst_13i, zst_13a, zst_14n, zst_14i, zst_14a, zst_15n, zst_15i, zst_15a, zR1_n, zR1_v, zsum_n, zsum_i, zsum_l, zsum_a, zlen_n, zlen_i, zlen_l, zlen_a, List.not_mem_nil, List.mem_cons, or_false, false_or, or_self, ↓reduceIte, if_false, if_true, Nat.reduceEqDiff, Nat.reduceAdd, Nat.reduceLeDiff, true_and, and_true, reduceCtorEq, ne_eq, Int.toNat_natCast, not_true_eq_false, not_false_eq_true, true_implies, false_implies, implies_true, Int.reduceToNat, Int.toNat_zero, Int.reduceLT, Int.reduceLE, Int.reduceEq, Int.reduceAdd, Int.reduceMul, Int.reduceNeg]
        exact ⟨by unfold zr32; omega, fun _ => hend _, fun h => absurd (by omega) h⟩
      · intro i hi ih
        obtain ⟨v, hv, hv2, hv3⟩ := ov (i + 1) (by omega)
        obtain ⟨k1, k2⟩ := zK_sh (L := L) (zShA_i hv)
        have eT : ((i : Int) + 1).toNat = i + 1 := by omega
        obtain ⟨h1, ⟨f1, f2, f3, f4⟩, h5⟩ := h v hv hv2
        have b1 := B h3 i (by omega)
        have b2 := B h3 (i + 1) (by omega)
        have hw := zspw_s g o i
        rw [hv3, Int.toNat_natCast] at hw
        generalize g (14 + 14 * (o (n - 1)).toNat) 11 - g (14 + 14 * (o 0).toNat) 13 = X at *
        generalize zspw g o i = W at *
        generalize zspw g o (i + 1) = W' at *
        refine zW_sound 60 [52, 100] ?_
        simp only [ZR38, zk_3, zk_4, zk_5, k1, hF, (hR.2.2.2 v hv).1, zwI_I, zwI_2, zua_a, eT, hv3, o14 _ _ (show 14 ≤ 14 + 14 * v by omega), zW_succ, zE_iload, zE_aload, zE_lload, zE_iinc, zE_istore, zE_astore, zE_lstore, zE_iconst, zE_ldc2, zE_iadd, zE_isub, zE_imul, zE_idiv, zE_irem, zE_ineg, zE_iand, zE_ior, zE_ixor, zE_ishl, zE_ishr, zE_land, zE_lor, zE_lxor, zE_lshl, zE_lshr, zE_i2l, zE_lcmp, zE_dup_i, zE_dup_a, zE_dup2_ia, zE_pop_i, zE_pop_a, zE_pop2, zE_goto, zE_if_eq, zE_icmp_eq, zE_if_ne, zE_icmp_ne, zE_if_lt, zE_icmp_lt, zE_if_ge, zE_icmp_ge, zE_if_gt, zE_icmp_gt, zE_if_le, zE_icmp_le, zE_iaload, zE_baload, zE_laload, zE_aaload, zE_iastore, zE_bastore, zE_lastore, zE_aastore, zE_alen, zE_getf0, zE_getf1, zE_getf2, zE_getf3, zE_putf0, zE_putf1, zE_putf2, zE_putf3, zE_new, zE_newa, zE_newq, zE_ireturn, zE_lreturn, zE_areturn, zE_return, zE_athrow, zE_st0, zE_vi0, zE_st1, zE_vi1, zE_st2, zE_vi2, zE_st3, zE_vi3, zE_st4, zE_vi4, zE_st5, zE_vi5, zE_st6, zE_vi6, zE_st7, zE_vi7, zE_st8, zE_vi8, zSt_0, zSL_0, zSt_1n, zSt_1i, zSt_1a, zSt_1l, zSt_2n, zSt_2i, zSt_2a, zSt_2l, zSt_3n, zSt_3i, zSt_3a, zSt_3l, zSt_4n, zSt_4i, zSt_4a, zSt_4l, zSt_5n, zSt_5i, zSt_5a, zSt_5l, zSt_6n, zSt_6i, zSt_6a, zSt_6l, zSt_7n, zSt_7i, zSt_7a, zSt_7l, zSt_8n, zSt_8i, zSt_8a, zSt_8l, zSt_9n, zSt_9i, zSt_9a, zSt_9l, zSt_10n, zSt_10i, zSt_10a, zSt_10l, zSt_11n, zSt_11i, zSt_11a, zSt_11l, zSt_12n, zSt_12i, zSt_12a, zSt_12l, zSt_13n, zSt_13i, zSt_13a, zSt_13l, zSL_1n, zSL_1i, zSL_1a, zSL_1l, zSL_2n, zSL_2i, zSL_2a, zSL_2l, zSL_3n, zSL_3i, zSL_3a, zSL_3l, zSL_4n, zSL_4i, zSL_4a, zSL_4l, zSL_5n, zSL_5i, zSL_5a, zSL_5l, zSL_6n, zSL_6i, zSL_6a, zSL_6l, zSL_7n, zSL_7i, zSL_7a, zSL_7l, zSL_8n, zSL_8i, zSL_8a, zSL_8l, zSL_9n, zSL_9i, zSL_9a, zSL_9l, zSL_10n, zSL_10i, zSL_10a, zSL_10l, zSL_11n, zSL_11i, zSL_11a, zSL_11l, zSL_12n, zSL_12i, zSL_12a, zSL_12l, zLI_0, zLL_0, zLA_0, zLI_1, zLL_1, zLA_1, zLI_2, zLL_2, zLA_2, zLI_3, zLL_3, zLA_3, zLI_4, zLL_4, zLA_4, zLI_5, zLL_5, zLA_5, zLI_6, zLL_6, zLA_6, zLI_7, zLL_7, zLA_7, zLI_8, zLL_8, zLA_8, zLI_9, zLL_9, zLA_9, zLI_10, zLL_10, zLA_10, zLI_11, zLL_11, zLA_11, zLI_12, zLL_12, zLA_12, zLI_13, zLL_13, zLA_13, zst_0, zst_1n, zst_1i, zst_1a, zst_2n, zst_2i, zst_2a, zst_3n, zst_3i, zst_3a, zst_4n, zst_4i, zst_4a, zst_5n, zst_5i, zst_5a, zst_6n, zst_6i, zst_6a, zst_7n, zst_7i, zst_7a, zst_8n, zst_8i, zst_8a, zst_9n, zst_9i, zst_9a, zst_10n, zst_10i, zst_10a, zst_11n, zst_11i, zst_11a, zst_12n, zst_12i, zst_12a, zst_13n, zst_13i, zst_13a, zst_14n, zst_14i, zst_14a, zst_15n, zst_15i, zst_15a, zR1_n, zR1_v, zsum_n, zsum_i, zsum_l, zsum_a, zlen_n, zlen_i, zlen_l, zlen_a, List.not_mem_nil, List.mem_cons, or_false, false_or, or_self, ↓reduceIte, if_false, if_true, Nat.reduceEqDiff, Nat.reduceAdd, Nat.reduceLeDiff, true_and, and_true, reduceCtorEq, ne_eq, Int.toNat_natCast, not_true_eq_false, not_false_eq_true, true_implies, false_implies, implies_true, Int.reduceToNat, Int.toNat_zero, Int.reduceLT, Int.reduceLE, Int.reduceEq, Int.reduceAdd, Int.reduceMul, Int.reduceNeg]
        rw [show X - W' = X - W - (g (14 + 14 * v) 13 - g (14 + 14 * v) 11) by omega] at ih
        exact ⟨by unfold zr32; omega, fun h => absurd h (by omega), fun _ => ⟨by omega, by omega, by omega, by omega, by unfold zr32; omega, by unfold zr32; omega, by unfold zr32; omega, ih⟩⟩
    obtain ⟨u, hu, hu2, hu3⟩ := ov (n - 1) (by omega)
    obtain ⟨v, hv, hv2, hv3⟩ := ov 0 (by omega)
    obtain ⟨k1, k2⟩ := zK_sh (L := L) (zShA_i hv)
    obtain ⟨l1, l2⟩ := zK_sh (L := L) (zShA_i hu)
    have eT : ((n : Int) - 1).toNat = n - 1 := by omega
    have o9 := lp 0 (Nat.zero_le _)
    have b0 := B h3 0 (by omega)
    rw [show zspw g o 0 = 0 from rfl, hu3, hv3, Int.toNat_natCast, Int.toNat_natCast] at o9 b0
    rw [Int.sub_zero] at o9
    refine zW_sound 60 [52] ?_
    simp only [ZF38, ZR38, ZF18.1, ZF18.2.1, ZF18.2.2.1, ZF39.1, ZF39.2.1, ZF39.2.2.1, e18, e39, zk_3, zk_4, zk_5, k1, l1, hF, (hR.2.2.2 v hv).1, (hR.2.2.2 u hu).1, zwI_I, zwI_2, zua_a, eT, hu3, hv3, o14 _ _ (show 14 ≤ 14 + 14 * v by omega), o14 _ _ (show 14 ≤ 14 + 14 * u by omega), zW_succ, zE_iload, zE_aload, zE_lload, zE_iinc, zE_istore, zE_astore, zE_lstore, zE_iconst, zE_ldc2, zE_iadd, zE_isub, zE_imul, zE_idiv, zE_irem, zE_ineg, zE_iand, zE_ior, zE_ixor, zE_ishl, zE_ishr, zE_land, zE_lor, zE_lxor, zE_lshl, zE_lshr, zE_i2l, zE_lcmp, zE_dup_i, zE_dup_a, zE_dup2_ia, zE_pop_i, zE_pop_a, zE_pop2, zE_goto, zE_if_eq, zE_icmp_eq, zE_if_ne, zE_icmp_ne, zE_if_lt, zE_icmp_lt, zE_if_ge, zE_icmp_ge, zE_if_gt, zE_icmp_gt, zE_if_le, zE_icmp_le, zE_iaload, zE_baload, zE_laload, zE_aaload, zE_iastore, zE_bastore, zE_lastore, zE_aastore, zE_alen, zE_getf0, zE_getf1, zE_getf2, zE_getf3, zE_putf0, zE_putf1, zE_putf2, zE_putf3, zE_new, zE_newa, zE_newq, zE_ireturn, zE_lreturn, zE_areturn, zE_return, zE_athrow, zE_st0, zE_vi0, zE_st1, zE_vi1, zE_st2, zE_vi2, zE_st3, zE_vi3, zE_st4, zE_vi4, zE_st5, zE_vi5, zE_st6, zE_vi6, zE_st7, zE_vi7, zE_st8, zE_vi8, zSt_0, zSL_0, zSt_1n, zSt_1i, zSt_1a, zSt_1l, zSt_2n, zSt_2i, zSt_2a, zSt_2l, zSt_3n, zSt_3i, zSt_3a, zSt_3l, zSt_4n, zSt_4i, zSt_4a, zSt_4l, zSt_5n, zSt_5i, zSt_5a, zSt_5l, zSt_6n, zSt_6i, zSt_6a, zSt_6l, zSt_7n, zSt_7i, zSt_7a, zSt_7l, zSt_8n, zSt_8i, zSt_8a, zSt_8l, zSt_9n, zSt_9i, zSt_9a, zSt_9l, zSt_10n, zSt_10i, zSt_10a, zSt_10l, zSt_11n, zSt_11i, zSt_11a, zSt_11l, zSt_12n, zSt_12i, zSt_12a, zSt_12l, zSt_13n, zSt_13i, zSt_13a, zSt_13l, zSL_1n, zSL_1i, zSL_1a, zSL_1l, zSL_2n, zSL_2i, zSL_2a, zSL_2l, zSL_3n, zSL_3i, zSL_3a, zSL_3l, zSL_4n, zSL_4i, zSL_4a, zSL_4l, zSL_5n, zSL_5i, zSL_5a, zSL_5l, zSL_6n, zSL_6i, zSL_6a, zSL_6l, zSL_7n, zSL_7i, zSL_7a, zSL_7l, zSL_8n, zSL_8i, zSL_8a, zSL_8l, zSL_9n, zSL_9i, zSL_9a, zSL_9l, zSL_10n, zSL_10i, zSL_10a, zSL_10l, zSL_11n, zSL_11i, zSL_11a, zSL_11l, zSL_12n, zSL_12i, zSL_12a, zSL_12l, zLI_0, zLL_0, zLA_0, zLI_1, zLL_1, zLA_1, zLI_2, zLL_2, zLA_2, zLI_3, zLL_3, zLA_3, zLI_4, zLL_4, zLA_4, zLI_5, zLL_5, zLA_5, zLI_6, zLL_6, zLA_6, zLI_7, zLL_7, zLA_7, zLI_8, zLL_8, zLA_8, zLI_9, zLL_9, zLA_9, zLI_10, zLL_10, zLA_10, zLI_11, zLL_11, zLA_11, zLI_12, zLL_12, zLA_12, zLI_13, zLL_13, zLA_13, zst_0, zst_1n, zst_1i, zst_1a, zst_2n, zst_2i, zst_2a, zst_3n, zst_3i, zst_3a, zst_4n, zst_4i, zst_4a, zst_5n, zst_5i, zst_5a, zst_6n, zst_6i, zst_6a, zst_7n, zst_7i, zst_7a, zst_8n, zst_8i, zst_8a, zst_9n, zst_9i, zst_9a, zst_10n, zst_10i, zst_10a, zst_11n, zst_11i, zst_11a, zst_12n, zst_12i, zst_12a, zst_13n, zst_13i, zst_13a, zst_14n, zst_14i, zst_14a, zst_15n, zst_15i, zst_15a, zR1_n, zR1_v, zsum_n, zsum_i, zsum_l, zsum_a, zlen_n, zlen_i, zlen_l, zlen_a, List.not_mem_nil, List.mem_cons, or_false, false_or, or_self, ↓reduceIte, if_false, if_true, Nat.reduceEqDiff, Nat.reduceAdd, Nat.reduceLeDiff, true_and, and_true, reduceCtorEq, ne_eq, Int.toNat_natCast, not_true_eq_false, not_false_eq_true, true_implies, false_implies, implies_true, Int.reduceToNat, Int.toNat_zero, Int.reduceLT, Int.reduceLE, Int.reduceEq, Int.reduceAdd, Int.reduceMul, Int.reduceNeg]
    exact ⟨fun _ => ⟨by unfold zr32; omega, by omega, by omega, by omega, by omega, by unfold zr32; omega, o9⟩, fun h => absurd (by omega) h⟩
  by_cases h3 : 3 ≤ n
  · by_cases h0 : 0 ≤ zsfr g o n
    · have e40 := fun Q => c40 (L := L) (M := zwI M (zua g 5 o)) (Q := Q) (n := n) hR ⟨h3, hn60⟩ (by rw [zwI_I, o5]; exact hok) (by rw [zwI_I, o5, ofr h3]; exact h0)
      simp only [zwI_I, zwI_w, o5, ofr h3] at e40
      have ez : zspn (zua g 5 o) o (zsfr g o n / ((n : Int) - 1)) (zsfr g o n % ((n : Int) - 1)) (n - 2) = zspn g o (zsfr g o n / ((n : Int) - 1)) (zsfr g o n % ((n : Int) - 1)) (n - 2) := by
        refine zcnt_cong _ _ (n - 2) (fun i hi => ?_)
        obtain ⟨v, hv, hv2, hv3⟩ := ov (i + 1) (by omega)
        unfold zspd zspe
        rw [ow i (by omega), o14 _ _ (by omega), o14 _ _ (by omega)]
      rw [ez] at e40
      rw [zFR_det (r0 := .inl (some (.inl (zspn g o (zsfr g o n / ((n : Int) - 1)) (zsfr g o n % ((n : Int) - 1)) (n - 2) : Int)))) (M0 := zwI M (zspm (zua g 5 o) o (zsfr g o n / ((n : Int) - 1)) (zsfr g o n % ((n : Int) - 1)) (n - 2))) (loop h3 _ (fun y => zW_sound 60 [] ?_)) Q]
      · exact propext ⟨fun h => ⟨fun _ => h, fun h2 => absurd ⟨h3, h0⟩ h2⟩, fun h => h.1 ⟨h3, h0⟩⟩
      · simp only [ZR38, ZF40.1, ZF40.2.1, ZF40.2.2.1, e40, zk_3, zW_succ, zE_iload, zE_aload, zE_lload, zE_iinc, zE_istore, zE_astore, zE_lstore, zE_iconst, zE_ldc2, zE_iadd, zE_isub, zE_imul, zE_idiv, zE_irem, zE_ineg, zE_iand, zE_ior, zE_ixor, zE_ishl, zE_ishr, zE_land, zE_lor, zE_lxor, zE_lshl, zE_lshr, zE_i2l, zE_lcmp, zE_dup_i, zE_dup_a, zE_dup2_ia, zE_pop_i, zE_pop_a, zE_pop2, zE_goto, zE_if_eq, zE_icmp_eq, zE_if_ne, zE_icmp_ne, zE_if_lt, zE_icmp_lt, zE_if_ge, zE_icmp_ge, zE_if_gt, zE_icmp_gt, zE_if_le, zE_icmp_le, zE_iaload, zE_baload, zE_laload, zE_aaload, zE_iastore, zE_bastore, zE_lastore, zE_aastore, zE_alen, zE_getf0, zE_getf1, zE_getf2, zE_getf3, zE_putf0, zE_putf1, zE_putf2, zE_putf3, zE_new, zE_newa, zE_newq, zE_ireturn, zE_lreturn, zE_areturn, zE_return, zE_athrow, zE_st0, zE_vi0, zE_st1, zE_vi1, zE_st2, zE_vi2, zE_st3, zE_vi3, zE_st4, zE_vi4, zE_st5, zE_vi5, zE_st6, zE_vi6, zE_st7, zE_vi7, zE_st8, zE_vi8, zSt_0, zSL_0, zSt_1n, zSt_1i, zSt_1a, zSt_1l, zSt_2n, zSt_2i, zSt_2a, zSt_2l, zSt_3n, zSt_3i, zSt_3a, zSt_3l, zSt_4n, zSt_4i, zSt_4a, zSt_4l, zSt_5n, zSt_5i, zSt_5a, zSt_5l, zSt_6n, zSt_6i, zSt_6a, zSt_6l, zSt_7n, zSt_7i, zSt_7a, zSt_7l, zSt_8n, zSt_8i, zSt_8a, zSt_8l, zSt_9n, zSt_9i, zSt_9a, zSt_9l, zSt_10n, zSt_10i, zSt_10a, zSt_10l, zSt_11n, zSt_11i, zSt_11a, zSt_11l, zSt_12n, zSt_12i, zSt_12a, zSt_12l, zSt_13n, zSt_13i, zSt_13a, zSt_13l, zSL_1n, zSL_1i, zSL_1a, zSL_1l, zSL_2n, zSL_2i, zSL_2a, zSL_2l, zSL_3n, zSL_3i, zSL_3a, zSL_3l, zSL_4n, zSL_4i, zSL_4a, zSL_4l, zSL_5n, zSL_5i, zSL_5a, zSL_5l, zSL_6n, zSL_6i, zSL_6a, zSL_6l, zSL_7n, zSL_7i, zSL_7a, zSL_7l, zSL_8n, zSL_8i, zSL_8a, zSL_8l, zSL_9n, zSL_9i, zSL_9a, zSL_9l, zSL_10n, zSL_10i, zSL_10a, zSL_10l, zSL_11n, zSL_11i, zSL_11a, zSL_11l, zSL_12n, zSL_12i, zSL_12a, zSL_12l, zLI_0, zLL_0, zLA_0, zLI_1, zLL_1, zLA_1, zLI_2, zLL_2, zLA_2, zLI_3, zLL_3, zLA_3, zLI_4, zLL_4, zLA_4, zLI_5, zLL_5, zLA_5, zLI_6, zLL_6, zLA_6, zLI_7, zLL_7, zLA_7, zLI_8, zLL_8, zLA_8, zLI_9, zLL_9, zLA_9, zLI_10, zLL_10, zLA_10, zLI_11, zLL_11, zLA_11, zLI_12, zLL_12, zLA_12, zLI_13, zLL_13, zLA_13, zst_0, zst_1n, zst_1i, zst_1a, zst_2n, zst_2i, zst_2a, zst_3n, zst_3i, zst_3a, zst_4n, zst_4i, zst_4a, zst_5n, zst_5i, zst_5a, zst_6n, zst_6i, zst_6a, zst_7n, zst_7i, zst_7a, zst_8n, zst_8i, zst_8a, zst_9n, zst_9i, zst_9a, zst_10n, zst_10i, zst_10a, zst_11n, zst_11i, zst_11a, zst_12n, zst_12i, zst_12a, zst_13n, zst_13i, zst_13a, zst_14n, zst_14i, zst_14a, zst_15n, zst_15i, zst_15a, zR1_n, zR1_v, zsum_n, zsum_i, zsum_l, zsum_a, zlen_n, zlen_i, zlen_l, zlen_a, List.not_mem_nil, List.mem_cons, or_false, false_or, or_self, ↓reduceIte, if_false, if_true, Nat.reduceEqDiff, Nat.reduceAdd, Nat.reduceLeDiff, true_and, and_true, reduceCtorEq, ne_eq, Int.toNat_natCast, not_true_eq_false, not_false_eq_true, true_implies, false_implies, implies_true, Int.reduceToNat, Int.toNat_zero, Int.reduceLT, Int.reduceLE, Int.reduceEq, Int.reduceAdd, Int.reduceMul, Int.reduceNeg]
        exact fun h => absurd h0 h
    · rw [zFR_det (r0 := .inl (some (.inl (-1)))) (M0 := zwI M (zua g 5 o)) (loop h3 _ (fun y => zW_sound 60 [108] ?_)) Q]
      · exact propext ⟨fun h => ⟨fun h2 => absurd h2.2 h0, fun _ => h⟩, fun h => h.2 (fun h2 => h0 h2.2)⟩
      · simp only [ZR38, zW_succ, zE_iload, zE_aload, zE_lload, zE_iinc, zE_istore, zE_astore, zE_lstore, zE_iconst, zE_ldc2, zE_iadd, zE_isub, zE_imul, zE_idiv, zE_irem, zE_ineg, zE_iand, zE_ior, zE_ixor, zE_ishl, zE_ishr, zE_land, zE_lor, zE_lxor, zE_lshl, zE_lshr, zE_i2l, zE_lcmp, zE_dup_i, zE_dup_a, zE_dup2_ia, zE_pop_i, zE_pop_a, zE_pop2, zE_goto, zE_if_eq, zE_icmp_eq, zE_if_ne, zE_icmp_ne, zE_if_lt, zE_icmp_lt, zE_if_ge, zE_icmp_ge, zE_if_gt, zE_icmp_gt, zE_if_le, zE_icmp_le, zE_iaload, zE_baload, zE_laload, zE_aaload, zE_iastore, zE_bastore, zE_lastore, zE_aastore, zE_alen, zE_getf0, zE_getf1, zE_getf2, zE_getf3, zE_putf0, zE_putf1, zE_putf2, zE_putf3, zE_new, zE_newa, zE_newq, zE_ireturn, zE_lreturn, zE_areturn, zE_return, zE_athrow, zE_st0, zE_vi0, zE_st1, zE_vi1, zE_st2, zE_vi2, zE_st3, zE_vi3, zE_st4, zE_vi4, zE_st5, zE_vi5, zE_st6, zE_vi6, zE_st7, zE_vi7, zE_st8, zE_vi8, zSt_0, zSL_0, zSt_1n, zSt_1i, zSt_1a, zSt_1l, zSt_2n, zSt_2i, zSt_2a, zSt_2l, zSt_3n, zSt_3i, zSt_3a, zSt_3l, zSt_4n, zSt_4i, zSt_4a, zSt_4l, zSt_5n, zSt_5i, zSt_5a, zSt_5l, zSt_6n, zSt_6i, zSt_6a, zSt_6l, zSt_7n, zSt_7i, zSt_7a, zSt_7l, zSt_8n, zSt_8i, zSt_8a, zSt_8l, zSt_9n, zSt_9i, zSt_9a, zSt_9l, zSt_10n, zSt_10i, zSt_10a, zSt_10l, zSt_11n, zSt_11i, zSt_11a, zSt_11l, zSt_12n, zSt_12i, zSt_12a, zSt_12l, zSt_13n, zSt_13i, zSt_13a, zSt_13l, zSL_1n, zSL_1i, zSL_1a, zSL_1l, zSL_2n, zSL_2i, zSL_2a, zSL_2l, zSL_3n, zSL_3i, zSL_3a, zSL_3l, zSL_4n, zSL_4i, zSL_4a, zSL_4l, zSL_5n, zSL_5i, zSL_5a, zSL_5l, zSL_6n, zSL_6i, zSL_6a, zSL_6l, zSL_7n, zSL_7i, zSL_7a, zSL_7l, zSL_8n, zSL_8i, zSL_8a, zSL_8l, zSL_9n, zSL_9i, zSL_9a, zSL_9l, zSL_10n, zSL_10i, zSL_10a, zSL_10l, zSL_11n, zSL_11i, zSL_11a, zSL_11l, zSL_12n, zSL_12i, zSL_12a, zSL_12l, zLI_0, zLL_0, zLA_0, zLI_1, zLL_1, zLA_1, zLI_2, zLL_2, zLA_2, zLI_3, zLL_3, zLA_3, zLI_4, zLL_4, zLA_4, zLI_5, zLL_5, zLA_5, zLI_6, zLL_6, zLA_6, zLI_7, zLL_7, zLA_7, zLI_8, zLL_8, zLA_8, zLI_9, zLL_9, zLA_9, zLI_10, zLL_10, zLA_10, zLI_11, zLL_11, zLA_11, zLI_12, zLL_12, zLA_12, zLI_13, zLL_13, zLA_13, zst_0, zst_1n, zst_1i, zst_1a, zst_2n, zst_2i, zst_2a, zst_3n, zst_3i, zst_3a, zst_4n, zst_4i, zst_4a, zst_5n, zst_5i, zst_5a, zst_6n, zst_6i, zst_6a, zst_7n, zst_7i, zst_7a, zst_8n, zst_8i, zst_8a, zst_9n, zst_9i, zst_9a, zst_10n, zst_10i, zst_10a, zst_11n, zst_11i, zst_11a, zst_12n, zst_12i, zst_12a, zst_13n, zst_13i, zst_13a, zst_14n, zst_14i, zst_14a, zst_15n, zst_15i, zst_15a, zR1_n, zR1_v, zsum_n, zsum_i, zsum_l, zsum_a, zlen_n, zlen_i, zlen_l, zlen_a, List.not_mem_nil, List.mem_cons, or_false, false_or, or_self, ↓reduceIte, if_false, if_true, Nat.reduceEqDiff, Nat.reduceAdd, Nat.reduceLeDiff, true_and, and_true, reduceCtorEq, ne_eq, Int.toNat_natCast, not_true_eq_false, not_false_eq_true, true_implies, false_implies, implies_true, Int.reduceToNat, Int.toNat_zero, Int.reduceLT, Int.reduceLE, Int.reduceEq, Int.reduceAdd, Int.reduceMul, Int.reduceNeg]
        exact fun h => absurd h h0
  · rw [zFR_det (r0 := .inl (some (.inl (-1)))) (M0 := zwI M (zua g 5 o)) (zW_sound 60 [17] ?_) Q]
    · exact propext ⟨fun h => ⟨fun h2 => absurd h2.1 h3, fun _ => h⟩, fun h => h.2 (fun h2 => h3 h2.1)⟩
    · simp only [ZF38, ZR38, ZF18.1, ZF18.2.1, ZF18.2.2.1, ZF39.1, ZF39.2.1, ZF39.2.2.1, e18, e39, zk_3, zwI_I, zW_succ, zE_iload, zE_aload, zE_lload, zE_iinc, zE_istore, zE_astore, zE_lstore, zE_iconst, zE_ldc2, zE_iadd, zE_isub, zE_imul, zE_idiv, zE_irem, zE_ineg, zE_iand, zE_ior, zE_ixor, zE_ishl, zE_ishr, zE_land, zE_lor, zE_lxor, zE_lshl, zE_lshr, zE_i2l, zE_lcmp, zE_dup_i, zE_dup_a, zE_dup2_ia, zE_pop_i, zE_pop_a, zE_pop2, zE_goto, zE_if_eq, zE_icmp_eq, zE_if_ne, zE_icmp_ne, zE_if_lt, zE_icmp_lt, zE_if_ge, zE_icmp_ge, zE_if_gt, zE_icmp_gt, zE_if_le, zE_icmp_le, zE_iaload, zE_baload, zE_laload, zE_aaload, zE_iastore, zE_bastore, zE_lastore, zE_aastore, zE_alen, zE_getf0, zE_getf1, zE_getf2, zE_getf3, zE_putf0, zE_putf1, zE_putf2, zE_putf3, zE_new, zE_newa, zE_newq, zE_ireturn, zE_lreturn, zE_areturn, zE_return, zE_athrow, zE_st0, zE_vi0, zE_st1, zE_vi1, zE_st2, zE_vi2, zE_st3, zE_vi3, zE_st4, zE_vi4, zE_st5, zE_vi5, zE_st6, zE_vi6, zE_st7, zE_vi7, zE_st8, zE_vi8, zSt_0, zSL_0, zSt_1n, zSt_1i, zSt_1a, zSt_1l, zSt_2n, zSt_2i, zSt_2a, zSt_2l, zSt_3n, zSt_3i, zSt_3a, zSt_3l, zSt_4n, zSt_4i, zSt_4a, zSt_4l, zSt_5n, zSt_5i, zSt_5a, zSt_5l, zSt_6n, zSt_6i, zSt_6a, zSt_6l, zSt_7n, zSt_7i, zSt_7a, zSt_7l, zSt_8n, zSt_8i, zSt_8a, zSt_8l, zSt_9n, zSt_9i, zSt_9a, zSt_9l, zSt_10n, zSt_10i, zSt_10a, zSt_10l, zSt_11n, zSt_11i, zSt_11a, zSt_11l, zSt_12n, zSt_12i, zSt_12a, zSt_12l, zSt_13n, zSt_13i, zSt_13a, zSt_13l, zSL_1n, zSL_1i, zSL_1a, zSL_1l, zSL_2n, zSL_2i, zSL_2a, zSL_2l, zSL_3n, zSL_3i, zSL_3a, zSL_3l, zSL_4n, zSL_4i, zSL_4a, zSL_4l, zSL_5n, zSL_5i, zSL_5a, zSL_5l, zSL_6n, zSL_6i, zSL_6a, zSL_6l, zSL_7n, zSL_7i, zSL_7a, zSL_7l, zSL_8n, zSL_8i, zSL_8a, zSL_8l, zSL_9n, zSL_9i, zSL_9a, zSL_9l, zSL_10n, zSL_10i, zSL_10a, zSL_10l, zSL_11n, zSL_11i, zSL_11a, zSL_11l, zSL_12n, zSL_12i, zSL_12a, zSL_12l, zLI_0, zLL_0, zLA_0, zLI_1, zLL_1, zLA_1, zLI_2, zLL_2, zLA_2, zLI_3, zLL_3, zLA_3, zLI_4, zLL_4, zLA_4, zLI_5, zLL_5, zLA_5, zLI_6, zLL_6, zLA_6, zLI_7, zLL_7, zLA_7, zLI_8, zLL_8, zLA_8, zLI_9, zLL_9, zLA_9, zLI_10, zLL_10, zLA_10, zLI_11, zLL_11, zLA_11, zLI_12, zLL_12, zLA_12, zLI_13, zLL_13, zLA_13, zst_0, zst_1n, zst_1i, zst_1a, zst_2n, zst_2i, zst_2a, zst_3n, zst_3i, zst_3a, zst_4n, zst_4i, zst_4a, zst_5n, zst_5i, zst_5a, zst_6n, zst_6i, zst_6a, zst_7n, zst_7i, zst_7a, zst_8n, zst_8i, zst_8a, zst_9n, zst_9i, zst_9a, zst_10n, zst_10i, zst_10a, zst_11n, zst_11i, zst_11a, zst_12n, zst_12i, zst_12a, zst_13n, zst_13i, zst_13a, zst_14n, zst_14i, zst_14a, zst_15n, zst_15i, zst_15a, zR1_n, zR1_v, zsum_n, zsum_i, zsum_l, zsum_a, zlen_n, zlen_i, zlen_l, zlen_a, List.not_mem_nil, List.mem_cons, or_false, false_or, or_self, ↓reduceIte, if_false, if_true, Nat.reduceEqDiff, Nat.reduceAdd, Nat.reduceLeDiff, true_and, and_true, reduceCtorEq, ne_eq, Int.toNat_natCast, not_true_eq_false, not_false_eq_true, true_implies, false_implies, implies_true, Int.reduceToNat, Int.toNat_zero, Int.reduceLT, Int.reduceLE, Int.reduceEq, Int.reduceAdd, Int.reduceMul, Int.reduceNeg]
      exact fun h => absurd (by omega) h3
end ZSPREAD
end SG_58_spread
