section SG_90_rrow
/-! the reference: the row by lefts; turned or not -/
section ZRROW
variable {L : Nat} {M : zM} {s : Nat} {Q : zO → zM → Prop}
theorem zrsd_cg {f g : Nat → Nat → Int} (h4 : g 1174 = f 1174) (h6 : g 1176 = f 1176) (h7 : g 1177 = f 1177) (h8 : g 1178 = f 1178) (s w : Nat) : zrsd g s w = zrsd f s w := by
  have e1 : zrN g s = zrN f s := by
    funext p
    unfold zrN
    rw [h6]
  have e2 : zrX g s = zrX f s := by
    funext p k
    unfold zrX
    rw [h7]
  have e3 : zrY g s = zrY f s := by
    funext p k
    unfold zrY
    rw [h8]
  unfold zrsd
  rw [e1, e2, e3, h4]
def zrwl (f : Nat → Nat → Int) (i j : Nat) : Bool := decide (zrsd f i 0 < zrsd f j 0)
def zrwo (f : Nat → Nat → Int) (x : Int64) : Nat → Int := zord (zrwl f) (zbt x) (f 1188) 60
theorem zrua_w {f : Nat → Nat → Int} {o : Nat → Int} {i : Nat} (h : zrSw f i) : zrSw (zua f 1188 o) i := zrSw_cg (zua_o (by omega) _ _) (zua_o (by omega) _ _) (fun j => zua_o (by omega) _ _) (fun j _ => zua_o (by omega) _ _) (fun j _ => zua_o (by omega) _ _) h
theorem zrua_d (f : Nat → Nat → Int) (o : Nat → Int) (i w : Nat) : zrsd (zua f 1188 o) i w = zrsd f i w := zrsd_cg (funext fun j => zua_o (by omega) _ _) (funext fun j => zua_o (by omega) _ _) (funext fun j => zua_o (by omega) _ _) (funext fun j => zua_o (by omega) _ _) i w
theorem c232 {x : Int64} (hR : zLayN M.2.2.2) (hw : ∀ i, i < 60 → zbt x i = true → zrSw M.2.1 i) : zFR (zK L) 232 0 (zcall 232 [.inr (.inr 1153), .inr (.inl x)]) [] M Q = Q (.inl (some (.inl (zcnt (zbt x) 60 : Int)))) (zwI M (zua M.2.1 1188 (zrwo M.2.1 x))) := by
  refine zFR_det ?_ Q
  have hF := hR.1
  unfold zLayG at hF
  unfold zrwo
  generalize hQ : (fun r M2 => r = (Sum.inl (some (Sum.inl (zcnt (zbt x) 60 : Int))) : zO) ∧ M2 = zwI M (zua M.2.1 1188 (zord (zrwl M.2.1) (zbt x) (M.2.1 1188) 60))) = Q9
  have outer : ∀ i, i ≤ 60 → ∀ y, zFR (zK L) 232 5 [some (.inr (.inr 1153)), some (.inr (.inl x)), none, some (.inl (zcnt (zbt x) i : Int)), some (.inl (i : Int)), y] [] (zwI M (zua M.2.1 1188 (zord (zrwl M.2.1) (zbt x) (M.2.1 1188) i))) Q9 := by
    refine zloop ?_ ?_
    · intro y
      refine zW_sound 60 [12] ?_
      simp only [ZR232, zW_succ, zE_iload, zE_aload, zE_lload, zE_iinc, zE_istore, zE_astore, zE_lstore, zE_iconst, zE_ldc2, zE_iadd, zE_isub, zE_imul, zE_idiv, zE_irem, zE_ineg, zE_iand, zE_ior, zE_ixor, zE_ishl, zE_ishr, zE_land, zE_lor, zE_lxor, zE_lshl, zE_lshr, zE_i2l, zE_lcmp, zE_dup_i, zE_dup_a, zE_dup2_ia, zE_pop_i, zE_pop_a, zE_pop2, zE_goto, zE_if_eq, zE_icmp_eq, zE_if_ne, zE_icmp_ne, zE_if_lt, zE_icmp_lt, zE_if_ge, zE_icmp_ge, zE_if_gt, zE_icmp_gt, zE_if_le, zE_icmp_le, zE_iaload, zE_baload, zE_laload, zE_aaload, zE_iastore, zE_bastore, zE_lastore, zE_aastore, zE_alen, zE_getf0, zE_getf1, zE_getf2, zE_getf3, zE_putf0, zE_putf1, zE_putf2, zE_putf3, zE_new, zE_newa, zE_newq, zE_ireturn, zE_lreturn, zE_areturn, zE_return, zE_athrow, zE_st0, zE_vi0, zE_st1, zE_vi1, zE_st2, zE_vi2, zE_st3, zE_vi3, zE_st4, zE_vi4, zE_st5, zE_vi5, zE_st6, zE_vi6, zE_st7, zE_vi7, zE_st8, zE_vi8, zSt_0, zSL_0, zSt_1n, zSt_1i, zSt_1a, zSt_1l, zSt_2n, zSt_2i, zSt_2a, zSt_2l, zSt_3n, zSt_3i, zSt_3a, zSt_3l, zSt_4n, zSt_4i, zSt_4a, zSt_4l, zSt_5n, zSt_5i, zSt_5a, zSt_5l, zSt_6n, zSt_6i, zSt_6a, zSt_6l, zSt_7n, zSt_7i, zSt_7a, zSt_7l, zSt_8n, zSt_8i, zSt_8a, zSt_8l, zSt_9n, zSt_9i, zSt_9a, zSt_9l, zSt_10n, zSt_10i, zSt_10a, zSt_10l, zSt_11n, zSt_11i, zSt_11a, zSt_11l, zSt_12n, zSt_12i, zSt_12a, zSt_12l, zSt_13n, zSt_13i, zSt_13a, zSt_13l, zSL_1n, zSL_1i, zSL_1a, zSL_1l, zSL_2n, zSL_2i, zSL_2a, zSL_2l, zSL_3n, zSL_3i, zSL_3a, zSL_3l, zSL_4n, zSL_4i, zSL_4a, zSL_4l, zSL_5n, zSL_5i, zSL_5a, zSL_5l, zSL_6n, zSL_6i, zSL_6a, zSL_6l, zSL_7n, zSL_7i, zSL_7a, zSL_7l, zSL_8n, zSL_8i, zSL_8a, zSL_8l, zSL_9n, zSL_9i, zSL_9a, zSL_9l, zSL_10n, zSL_10i, zSL_10a, zSL_10l, zSL_11n, zSL_11i, zSL_11a, zSL_11l, zSL_12n, zSL_12i, zSL_12a, zSL_12l, zLI_0, zLL_0, zLA_0, zLI_1, zLL_1, zLA_1, zLI_2, zLL_2, zLA_2, zLI_3, zLL_3, zLA_3, zLI_4, zLL_4, zLA_4, zLI_5, zLL_5, zLA_5, zLI_6, zLL_6, zLA_6, zLI_7, zLL_7, zLA_7, zLI_8, zLL_8, zLA_8, zLI_9, zLL_9, zLA_9, zLI_10, zLL_10, zLA_10, zLI_11, zLL_11, zLA_11, zLI_12, zLL_12, zLA_12, zLI_13, zLL_13, zLA_13, zst_0, zst_1n, zst_1i, zst_1a, zst_2n, zst_2i, zst_2a, zst_3n, zst_3i, zst_3a, zst_4n, zst_4i, zst_4a, zst_5n, zst_5i, zst_5a, zst_6n, zst_6i, zst_6a, zst_7n, zst_7i, zst_7a, zst_8n, zst_8i, zst_8a, zst_9n, zst_9i, zst_9a, zst_10n, zst_10i, zst_10a, zst_11n, zst_11i, zst_11a, zst_12n, zst_12i, zst_12a, zst_13n, zst_13i, zst_13a, zst_14n, zst_14i, zst_14a, zst_15n, zst_15i, zst_15a, zR1_n, zR1_v, zsum_n, zsum_i, zsum_l, zsum_a, zlen_n, zlen_i, zlen_l, zlen_a, List.not_mem_nil, List.mem_cons, or_false, false_or, or_self, ↓reduceIte, if_false, if_true, Nat.reduceEqDiff, Nat.reduceAdd, Nat.reduceLeDiff, true_and, and_true, reduceCtorEq, ne_eq, Int.toNat_natCast, not_true_eq_false, not_false_eq_true, true_implies, false_implies, implies_true, Int.reduceToNat, Int.toNat_zero, Int.reduceLT, Int.reduceLE, Int.reduceEq, Int.reduceAdd, Int.reduceMul, Int.reduceNeg]
      subst hQ
      exact ⟨fun _ => ⟨rfl, rfl⟩, fun h => absurd (by omega) h⟩
    · intro i hi ih y
      have hcn := zcnt_le (zbt x) i
      have hcmp := zbt_cmp (x := x) (show i < 64 by omega)
      by_cases ht : zbt x i = true
      · rw [if_pos ht] at hcmp
        have ih2 : ∀ y, zFR (zK L) 232 89 [some (.inr (.inr 1153)), some (.inr (.inl x)), none, some (.inl ((zcnt (zbt x) i : Int) + 1)), some (.inl (i : Int)), y] [] (zwI M (zua M.2.1 1188 (zinsf (zrwl M.2.1) i (zcnt (zbt x) i) (zord (zrwl M.2.1) (zbt x) (M.2.1 1188) i)))) Q9 := by
          intro y
          have h := ih y
          unfold zord at h
          rw [zcnt_s, if_pos ht, if_pos ht] at h
          refine zW_sound 60 [5] ?_
          simp only [ZR232, zW_succ, zE_iload, zE_aload, zE_lload, zE_iinc, zE_istore, zE_astore, zE_lstore, zE_iconst, zE_ldc2, zE_iadd, zE_isub, zE_imul, zE_idiv, zE_irem, zE_ineg, zE_iand, zE_ior, zE_ixor, zE_ishl, zE_ishr, zE_land, zE_lor, zE_lxor, zE_lshl, zE_lshr, zE_i2l, zE_lcmp, zE_dup_i, zE_dup_a, zE_dup2_ia, zE_pop_i, zE_pop_a, zE_pop2, zE_goto, zE_if_eq, zE_icmp_eq, zE_if_ne, zE_icmp_ne, zE_if_lt, zE_icmp_lt, zE_if_ge, zE_icmp_ge, zE_if_gt, zE_icmp_gt, zE_if_le, zE_icmp_le, zE_iaload, zE_baload, zE_laload, zE_aaload, zE_iastore, zE_bastore, zE_lastore, zE_aastore, zE_alen, zE_getf0, zE_getf1, zE_getf2, zE_getf3, zE_putf0, zE_putf1, zE_putf2, zE_putf3, zE_new, zE_newa, zE_newq, zE_ireturn, zE_lreturn, zE_areturn, zE_return, zE_athrow, zE_st0, zE_vi0, zE_st1, zE_vi1, zE_st2, zE_vi2, zE_st3, zE_vi3, zE_st4, zE_vi4, zE_st5, zE_vi5, zE_st6, zE_vi6, zE_st7, zE_vi7, zE_st8, zE_vi8, zSt_0, zSL_0, zSt_1n, zSt_1i, zSt_1a, zSt_1l, zSt_2n, zSt_2i, zSt_2a, zSt_2l, zSt_3n, zSt_3i, zSt_3a, zSt_3l, zSt_4n, zSt_4i, zSt_4a, zSt_4l, zSt_5n, zSt_5i, zSt_5a, zSt_5l, zSt_6n, zSt_6i, zSt_6a, zSt_6l, zSt_7n, zSt_7i, zSt_7a, zSt_7l, zSt_8n, zSt_8i, zSt_8a, zSt_8l, zSt_9n, zSt_9i, zSt_9a, zSt_9l, zSt_10n, zSt_10i, zSt_10a, zSt_10l, zSt_11n, zSt_11i, zSt_11a, zSt_11l, zSt_12n, zSt_12i, zSt_12a, zSt_12l, zSt_13n, zSt_13i, zSt_13a, zSt_13l, zSL_1n, zSL_1i, zSL_1a, zSL_1l, zSL_2n, zSL_2i, zSL_2a, zSL_2l, zSL_3n, zSL_3i, zSL_3a, zSL_3l, zSL_4n, zSL_4i, zSL_4a, zSL_4l, zSL_5n, zSL_5i, zSL_5a, zSL_5l, zSL_6n, zSL_6i, zSL_6a, zSL_6l, zSL_7n, zSL_7i, zSL_7a, zSL_7l, zSL_8n, zSL_8i, zSL_8a, zSL_8l, zSL_9n, zSL_9i, zSL_9a, zSL_9l, zSL_10n, zSL_10i, zSL_10a, zSL_10l, zSL_11n, zSL_11i, zSL_11a, zSL_11l, zSL_12n, zSL_12i, zSL_12a, zSL_12l, zLI_0, zLL_0, zLA_0, zLI_1, zLL_1, zLA_1, zLI_2, zLL_2, zLA_2, zLI_3, zLL_3, zLA_3, zLI_4, zLL_4, zLA_4, zLI_5, zLL_5, zLA_5, zLI_6, zLL_6, zLA_6, zLI_7, zLL_7, zLA_7, zLI_8, zLL_8, zLA_8, zLI_9, zLL_9, zLA_9, zLI_10, zLL_10, zLA_10, zLI_11, zLL_11, zLA_11, zLI_12, zLL_12, zLA_12, zLI_13, zLL_13, zLA_13, zst_0, zst_1n, zst_1i, zst_1a, zst_2n, zst_2i, zst_2a, zst_3n, zst_3i, zst_3a, zst_4n, zst_4i, zst_4a, zst_5n, zst_5i, zst_5a, zst_6n, zst_6i, zst_6a, zst_7n, zst_7i, zst_7a, zst_8n, zst_8i, zst_8a, zst_9n, zst_9i, zst_9a, zst_10n, zst_10i, zst_10a, zst_11n, zst_11i, zst_11a, zst_12n, zst_12i, zst_12a, zst_13n, zst_13i, zst_13a, zst_14n, zst_14i, zst_14a, zst_15n, zst_15i, zst_15a, zR1_n, zR1_v, zsum_n, zsum_i, zsum_l, zsum_a, zlen_n, zlen_i, zlen_l, zlen_a, List.not_mem_nil, List.mem_cons, or_false, false_or, or_self, ↓reduceIte, if_false, if_true, Nat.reduceEqDiff, Nat.reduceAdd, Nat.reduceLeDiff, true_and, and_true, reduceCtorEq, ne_eq, Int.toNat_natCast, not_true_eq_false, not_false_eq_true, true_implies, false_implies, implies_true, Int.reduceToNat, Int.toNat_zero, Int.reduceLT, Int.reduceLE, Int.reduceEq, Int.reduceAdd, Int.reduceMul, Int.reduceNeg]
          exact ⟨by unfold zr32; omega, h⟩
        have hov := zord_v (zrwl M.2.1) (zbt x) (M.2.1 1188) i
        generalize zcnt (zbt x) i = C at *
        generalize zord (zrwl M.2.1) (zbt x) (M.2.1 1188) i = o0 at *
        have e216 : ∀ (o : Nat → Int) (v : Nat), v < 60 → zbt x v = true → ∀ Q : zO → zM → Prop, zFR (zK L) 216 0 (zcall 216 [.inr (.inr 1153), .inl (v : Int), .inl 0]) [] (zwI M (zua M.2.1 1188 o)) Q = Q (.inl (some (.inl (zrsd M.2.1 v 0)))) (zwI M (zua M.2.1 1188 o)) := by
          intro o v hv hb Q
          have h := c216 (L := L) (M := zwI M (zua M.2.1 1188 o)) (Q := Q) (s := v) (w := 0) hR (by omega) (by omega) (zrua_w (hw v hv hb))
          rw [zwI_I, zrua_d] at h
          exact h
        have inner : ∀ (k : Nat) (o : Nat → Int), k ≤ C → (∀ j, j < k → ∃ v : Nat, v < 60 ∧ zbt x v = true ∧ o j = (v : Int)) → (∀ y, zFR (zK L) 232 89 [some (.inr (.inr 1153)), some (.inr (.inl x)), none, some (.inl ((C : Int) + 1)), some (.inl (i : Int)), y] [] (zwI M (zua M.2.1 1188 (zinsf (zrwl M.2.1) i k o))) Q9) → zFR (zK L) 232 26 [some (.inr (.inr 1153)), some (.inr (.inl x)), none, some (.inl (C : Int)), some (.inl (i : Int)), some (.inl (k : Int))] [] (zwI M (zua M.2.1 1188 o)) Q9 := by
          intro k
          induction k with
          | zero =>
            intro o hk2 hv h
            refine zW_sound 60 [31, 89] ?_
            simp only [ZR232, zk_1153, zk_1188, hF, zwI_I, zwI_2, zsI_wI, zwI_w, zua_s, zW_succ, zE_iload, zE_aload, zE_lload, zE_iinc, zE_istore, zE_astore, zE_lstore, zE_iconst, zE_ldc2, zE_iadd, zE_isub, zE_imul, zE_idiv, zE_irem, zE_ineg, zE_iand, zE_ior, zE_ixor, zE_ishl, zE_ishr, zE_land, zE_lor, zE_lxor, zE_lshl, zE_lshr, zE_i2l, zE_lcmp, zE_dup_i, zE_dup_a, zE_dup2_ia, zE_pop_i, zE_pop_a, zE_pop2, zE_goto, zE_if_eq, zE_icmp_eq, zE_if_ne, zE_icmp_ne, zE_if_lt, zE_icmp_lt, zE_if_ge, zE_icmp_ge, zE_if_gt, zE_icmp_gt, zE_if_le, zE_icmp_le, zE_iaload, zE_baload, zE_laload, zE_aaload, zE_iastore, zE_bastore, zE_lastore, zE_aastore, zE_alen, zE_getf0, zE_getf1, zE_getf2, zE_getf3, zE_putf0, zE_putf1, zE_putf2, zE_putf3, zE_new, zE_newa, zE_newq, zE_ireturn, zE_lreturn, zE_areturn, zE_return, zE_athrow, zE_st0, zE_vi0, zE_st1, zE_vi1, zE_st2, zE_vi2, zE_st3, zE_vi3, zE_st4, zE_vi4, zE_st5, zE_vi5, zE_st6, zE_vi6, zE_st7, zE_vi7, zE_st8, zE_vi8, zSt_0, zSL_0, zSt_1n, zSt_1i, zSt_1a, zSt_1l, zSt_2n, zSt_2i, zSt_2a, zSt_2l, zSt_3n, zSt_3i, zSt_3a, zSt_3l, zSt_4n, zSt_4i, zSt_4a, zSt_4l, zSt_5n, zSt_5i, zSt_5a, zSt_5l, zSt_6n, zSt_6i, zSt_6a, zSt_6l, zSt_7n, zSt_7i, zSt_7a, zSt_7l, zSt_8n, zSt_8i, zSt_8a, zSt_8l, zSt_9n, zSt_9i, zSt_9a, zSt_9l, zSt_10n, zSt_10i, zSt_10a, zSt_10l, zSt_11n, zSt_11i, zSt_11a, zSt_11l, zSt_12n, zSt_12i, zSt_12a, zSt_12l, zSt_13n, zSt_13i, zSt_13a, zSt_13l, zSL_1n, zSL_1i, zSL_1a, zSL_1l, zSL_2n, zSL_2i, zSL_2a, zSL_2l, zSL_3n, zSL_3i, zSL_3a, zSL_3l, zSL_4n, zSL_4i, zSL_4a, zSL_4l, zSL_5n, zSL_5i, zSL_5a, zSL_5l, zSL_6n, zSL_6i, zSL_6a, zSL_6l, zSL_7n, zSL_7i, zSL_7a, zSL_7l, zSL_8n, zSL_8i, zSL_8a, zSL_8l, zSL_9n, zSL_9i, zSL_9a, zSL_9l, zSL_10n, zSL_10i, zSL_10a, zSL_10l, zSL_11n, zSL_11i, zSL_11a, zSL_11l, zSL_12n, zSL_12i, zSL_12a, zSL_12l, zLI_0, zLL_0, zLA_0, zLI_1, zLL_1, zLA_1, zLI_2, zLL_2, zLA_2, zLI_3, zLL_3, zLA_3, zLI_4, zLL_4, zLA_4, zLI_5, zLL_5, zLA_5, zLI_6, zLL_6, zLA_6, zLI_7, zLL_7, zLA_7, zLI_8, zLL_8, zLA_8, zLI_9, zLL_9, zLA_9, zLI_10, zLL_10, zLA_10, zLI_11, zLL_11, zLA_11, zLI_12, zLL_12, zLA_12, zLI_13, zLL_13, zLA_13, zst_0, zst_1n, zst_1i, zst_1a, zst_2n, zst_2i, zst_2a, zst_3n, zst_3i, zst_3a, zst_4n, zst_4i, zst_4a, zst_5n, zst_5i, zst_5a, zst_6n, zst_6i, zst_6a, zst_7n, zst_7i, zst_7a, zst_8n, zst_8i, zst_8a, zst_9n, zst_9i, zst_9a, zst_10n, zst_10i, zst_10a, zst_11n, zst_11i, zst_11a, zst_12n, zst_12i, zst_12a, zst_13n, zst_13i, zst_13a, zst_14n, zst_14i, zst_14a, zst_15n, zst_15i, zst_15a, zR1_n, zR1_v, zsum_n, zsum_i, zsum_l, zsum_a, zlen_n, zlen_i, zlen_l, zlen_a, List.not_mem_nil, List.mem_cons, or_false, false_or, or_self, ↓reduceIte, if_false, if_true, Nat.reduceEqDiff, Nat.reduceAdd, Nat.reduceLeDiff, true_and, and_true, reduceCtorEq, ne_eq, Int.toNat_natCast, not_true_eq_false, not_false_eq_true, true_implies, false_implies, implies_true, Int.reduceToNat, Int.toNat_zero, Int.reduceLT, Int.reduceLE, Int.reduceEq, Int.reduceAdd, Int.reduceMul, Int.reduceNeg]
            exact ⟨fun _ => ⟨by omega, by unfold zr32; omega, h _⟩, fun h2 => absurd (by omega) h2⟩
          | succ k ihk =>
            intro o hk2 hv h
            obtain ⟨v, hv1, hv2, hv3⟩ := hv k (by omega)
            unfold zinsf at h
            have e : ((k + 1 : Nat) : Int) - 1 = (k : Int) := by omega
            have eU : ((k + 1 : Nat) : Int) + -1 = (k : Int) := by omega
            have e1 := e216 o v hv1 hv2
            have e2 := e216 o i hi ht
            have iff : zrwl M.2.1 i v = true ↔ zrsd M.2.1 i 0 < zrsd M.2.1 v 0 := decide_eq_true_iff
            refine zW_sound 60 [26, 77] ?_
            simp only [ZR232, zk_1153, zk_1188, hF, zwI_I, zwI_2, zsI_wI, zwI_w, zua_s, zua_a, e, hv3, ZF216.1, ZF216.2.1, ZF216.2.2.1, e1, e2, zW_succ, zE_iload, zE_aload, zE_lload, zE_iinc, zE_istore, zE_astore, zE_lstore, zE_iconst, zE_ldc2, zE_iadd, zE_isub, zE_imul, zE_idiv, zE_irem, zE_ineg, zE_iand, zE_ior, zE_ixor, zE_ishl, zE_ishr, zE_land, zE_lor, zE_lxor, zE_lshl, zE_lshr, zE_i2l, zE_lcmp, zE_dup_i, zE_dup_a, zE_dup2_ia, zE_pop_i, zE_pop_a, zE_pop2, zE_goto, zE_if_eq, zE_icmp_eq, zE_if_ne, zE_icmp_ne, zE_if_lt, zE_icmp_lt, zE_if_ge, zE_icmp_ge, zE_if_gt, zE_icmp_gt, zE_if_le, zE_icmp_le, zE_iaload, zE_baload, zE_laload, zE_aaload, zE_iastore, zE_bastore, zE_lastore, zE_aastore, zE_alen, zE_getf0, zE_getf1, zE_getf2, zE_getf3, zE_putf0, zE_putf1, zE_putf2, zE_putf3, zE_new, zE_newa, zE_newq, zE_ireturn, zE_lreturn, zE_areturn, zE_return, zE_athrow, zE_st0, zE_vi0, zE_st1, zE_vi1, zE_st2, zE_vi2, zE_st3, zE_vi3, zE_st4, zE_vi4, zE_st5, zE_vi5, zE_st6, zE_vi6, zE_st7, zE_vi7, zE_st8, zE_vi8, zSt_0, zSL_0, zSt_1n, zSt_1i, zSt_1a, zSt_1l, zSt_2n, zSt_2i, zSt_2a, zSt_2l, zSt_3n, zSt_3i, zSt_3a, zSt_3l, zSt_4n, zSt_4i, zSt_4a, zSt_4l, zSt_5n, zSt_5i, zSt_5a, zSt_5l, zSt_6n, zSt_6i, zSt_6a, zSt_6l, zSt_7n, zSt_7i, zSt_7a, zSt_7l, zSt_8n, zSt_8i, zSt_8a, zSt_8l, zSt_9n, zSt_9i, zSt_9a, zSt_9l, zSt_10n, zSt_10i, zSt_10a, zSt_10l, zSt_11n, zSt_11i, zSt_11a, zSt_11l, zSt_12n, zSt_12i, zSt_12a, zSt_12l, zSt_13n, zSt_13i, zSt_13a, zSt_13l, zSL_1n, zSL_1i, zSL_1a, zSL_1l, zSL_2n, zSL_2i, zSL_2a, zSL_2l, zSL_3n, zSL_3i, zSL_3a, zSL_3l, zSL_4n, zSL_4i, zSL_4a, zSL_4l, zSL_5n, zSL_5i, zSL_5a, zSL_5l, zSL_6n, zSL_6i, zSL_6a, zSL_6l, zSL_7n, zSL_7i, zSL_7a, zSL_7l, zSL_8n, zSL_8i, zSL_8a, zSL_8l, zSL_9n, zSL_9i, zSL_9a, zSL_9l, zSL_10n, zSL_10i, zSL_10a, zSL_10l, zSL_11n, zSL_11i, zSL_11a, zSL_11l, zSL_12n, zSL_12i, zSL_12a, zSL_12l, zLI_0, zLL_0, zLA_0, zLI_1, zLL_1, zLA_1, zLI_2, zLL_2, zLA_2, zLI_3, zLL_3, zLA_3, zLI_4, zLL_4, zLA_4, zLI_5, zLL_5, zLA_5, zLI_6, zLL_6, zLA_6, zLI_7, zLL_7, zLA_7, zLI_8, zLL_8, zLA_8, zLI_9, zLL_9, zLA_9, zLI_10, zLL_10, zLA_10, zLI_11, zLL_11, zLA_11, zLI_12, zLL_12, zLA_12, zLI_13, zLL_13, zLA_13, zst_0, zst_1n, zst_1i, zst_1a, zst_2n, zst_2i, zst_2a, zst_3n, zst_3i, zst_3a, zst_4n, zst_4i, zst_4a, zst_5n, zst_5i, zst_5a, zst_6n, zst_6i, zst_6a, zst_7n, zst_7i, zst_7a, zst_8n, zst_8i, zst_8a, zst_9n, zst_9i, zst_9a, zst_10n, zst_10i, zst_10a, zst_11n, zst_11i, zst_11a, zst_12n, zst_12i, zst_12a, zst_13n, zst_13i, zst_13a, zst_14n, zst_14i, zst_14a, zst_15n, zst_15i, zst_15a, zR1_n, zR1_v, zsum_n, zsum_i, zsum_l, zsum_a, zlen_n, zlen_i, zlen_l, zlen_a, List.not_mem_nil, List.mem_cons, or_false, false_or, or_self, ↓reduceIte, if_false, if_true, Nat.reduceEqDiff, Nat.reduceAdd, Nat.reduceLeDiff, true_and, and_true, reduceCtorEq, ne_eq, Int.toNat_natCast, not_true_eq_false, not_false_eq_true, true_implies, false_implies, implies_true, Int.reduceToNat, Int.toNat_zero, Int.reduceLT, Int.reduceLE, Int.reduceEq, Int.reduceAdd, Int.reduceMul, Int.reduceNeg]
            rw [eU]
            refine ⟨fun h2 => absurd h2 (by omega), fun _ => ⟨by unfold zr32; omega, by omega, fun hc => ?_, fun hc => ⟨by unfold zr32; omega, by omega, by omega, by unfold zr32; omega, ?_⟩⟩⟩
            · rw [hv3, Int.toNat_natCast, if_neg (fun h2 => by have := iff.mp h2; omega)] at h
              refine zW_sound 60 [89] ?_
              simp only [ZR232, zk_1153, zk_1188, hF, zwI_I, zwI_2, zsI_wI, zwI_w, zua_s, zW_succ, zE_iload, zE_aload, zE_lload, zE_iinc, zE_istore, zE_astore, zE_lstore, zE_iconst, zE_ldc2, zE_iadd, zE_isub, zE_imul, zE_idiv, zE_irem, zE_ineg, zE_iand, zE_ior, zE_ixor, zE_ishl, zE_ishr, zE_land, zE_lor, zE_lxor, zE_lshl, zE_lshr, zE_i2l, zE_lcmp, zE_dup_i, zE_dup_a, zE_dup2_ia, zE_pop_i, zE_pop_a, zE_pop2, zE_goto, zE_if_eq, zE_icmp_eq, zE_if_ne, zE_icmp_ne, zE_if_lt, zE_icmp_lt, zE_if_ge, zE_icmp_ge, zE_if_gt, zE_icmp_gt, zE_if_le, zE_icmp_le, zE_iaload, zE_baload, zE_laload, zE_aaload, zE_iastore, zE_bastore, zE_lastore, zE_aastore, zE_alen, zE_getf0, zE_getf1, zE_getf2, zE_getf3, zE_putf0, zE_putf1, zE_putf2, zE_putf3, zE_new, zE_newa, zE_newq, zE_ireturn, zE_lreturn, zE_areturn, zE_return, zE_athrow, zE_st0, zE_vi0, zE_st1, zE_vi1, zE_st2, zE_vi2, zE_st3, zE_vi3, zE_st4, zE_vi4, zE_st5, zE_vi5, zE_st6, zE_vi6, zE_st7, zE_vi7, zE_st8, zE_vi8, zSt_0, zSL_0, zSt_1n, zSt_1i, zSt_1a, zSt_1l, zSt_2n, zSt_2i, zSt_2a, zSt_2l, zSt_3n, zSt_3i, zSt_3a, zSt_3l, zSt_4n, zSt_4i, zSt_4a, zSt_4l, zSt_5n, zSt_5i, zSt_5a, zSt_5l, zSt_6n, zSt_6i, zSt_6a, zSt_6l, zSt_7n, zSt_7i, zSt_7a, zSt_7l, zSt_8n, zSt_8i, zSt_8a, zSt_8l, zSt_9n, zSt_9i, zSt_9a, zSt_9l, zSt_10n, zSt_10i, zSt_10a, zSt_10l, zSt_11n, zSt_11i, zSt_11a, zSt_11l, zSt_12n, zSt_12i, zSt_12a, zSt_12l, zSt_13n, zSt_13i, zSt_13a, zSt_13l, zSL_1n, zSL_1i, zSL_1a, zSL_1l, zSL_2n, zSL_2i, zSL_2a, zSL_2l, zSL_3n, zSL_3i, zSL_3a, zSL_3l, zSL_4n, zSL_4i, zSL_4a, zSL_4l, zSL_5n, zSL_5i, zSL_5a, zSL_5l, zSL_6n, zSL_6i, zSL_6a, zSL_6l, zSL_7n, zSL_7i, zSL_7a, zSL_7l, zSL_8n, zSL_8i, zSL_8a, zSL_8l, zSL_9n, zSL_9i, zSL_9a, zSL_9l, zSL_10n, zSL_10i, zSL_10a, zSL_10l, zSL_11n, zSL_11i, zSL_11a, zSL_11l, zSL_12n, zSL_12i, zSL_12a, zSL_12l, zLI_0, zLL_0, zLA_0, zLI_1, zLL_1, zLA_1, zLI_2, zLL_2, zLA_2, zLI_3, zLL_3, zLA_3, zLI_4, zLL_4, zLA_4, zLI_5, zLL_5, zLA_5, zLI_6, zLL_6, zLA_6, zLI_7, zLL_7, zLA_7, zLI_8, zLL_8, zLA_8, zLI_9, zLL_9, zLA_9, zLI_10, zLL_10, zLA_10, zLI_11, zLL_11, zLA_11, zLI_12, zLL_12, zLA_12, zLI_13, zLL_13, zLA_13, zst_0, zst_1n, zst_1i, zst_1a, zst_2n, zst_2i, zst_2a, zst_3n, zst_3i, zst_3a, zst_4n, zst_4i, zst_4a, zst_5n, zst_5i, zst_5a, zst_6n, zst_6i, zst_6a, zst_7n, zst_7i, zst_7a, zst_8n, zst_8i, zst_8a, zst_9n, zst_9i, zst_9a, zst_10n, zst_10i, zst_10a, zst_11n, zst_11i, zst_11a, zst_12n, zst_12i, zst_12a, zst_13n, zst_13i, zst_13a, zst_14n, zst_14i, zst_14a, zst_15n, zst_15i, zst_15a, zR1_n, zR1_v, zsum_n, zsum_i, zsum_l, zsum_a, zlen_n, zlen_i, zlen_l, zlen_a, List.not_mem_nil, List.mem_cons, or_false, false_or, or_self, ↓reduceIte, if_false, if_true, Nat.reduceEqDiff, Nat.reduceAdd, Nat.reduceLeDiff, true_and, and_true, reduceCtorEq, ne_eq, Int.toNat_natCast, not_true_eq_false, not_false_eq_true, true_implies, false_implies, implies_true, Int.reduceToNat, Int.toNat_zero, Int.reduceLT, Int.reduceLE, Int.reduceEq, Int.reduceAdd, Int.reduceMul, Int.reduceNeg]
              exact ⟨by omega, by unfold zr32; omega, h _⟩
            · rw [hv3, Int.toNat_natCast, if_pos (iff.mpr (by omega))] at h
              refine ihk _ (by omega) (fun j hj => ?_) h
              rw [zup_ne (by omega)]
              exact hv j (by omega)
        have o9 := inner C o0 (Nat.le_refl C) (fun j hj => by
          obtain ⟨v, h3, h4, h5⟩ := hov j hj
          exact ⟨v, by omega, h4, h5⟩) ih2
        refine zW_sound 60 [26] ?_
        simp only [ZR232, hcmp, zW_succ, zE_iload, zE_aload, zE_lload, zE_iinc, zE_istore, zE_astore, zE_lstore, zE_iconst, zE_ldc2, zE_iadd, zE_isub, zE_imul, zE_idiv, zE_irem, zE_ineg, zE_iand, zE_ior, zE_ixor, zE_ishl, zE_ishr, zE_land, zE_lor, zE_lxor, zE_lshl, zE_lshr, zE_i2l, zE_lcmp, zE_dup_i, zE_dup_a, zE_dup2_ia, zE_pop_i, zE_pop_a, zE_pop2, zE_goto, zE_if_eq, zE_icmp_eq, zE_if_ne, zE_icmp_ne, zE_if_lt, zE_icmp_lt, zE_if_ge, zE_icmp_ge, zE_if_gt, zE_icmp_gt, zE_if_le, zE_icmp_le, zE_iaload, zE_baload, zE_laload, zE_aaload, zE_iastore, zE_bastore, zE_lastore, zE_aastore, zE_alen, zE_getf0, zE_getf1, zE_getf2, zE_getf3, zE_putf0, zE_putf1, zE_putf2, zE_putf3, zE_new, zE_newa, zE_newq, zE_ireturn, zE_lreturn, zE_areturn, zE_return, zE_athrow, zE_st0, zE_vi0, zE_st1, zE_vi1, zE_st2, zE_vi2, zE_st3, zE_vi3, zE_st4, zE_vi4, zE_st5, zE_vi5, zE_st6, zE_vi6, zE_st7, zE_vi7, zE_st8, zE_vi8, zSt_0, zSL_0, zSt_1n, zSt_1i, zSt_1a, zSt_1l, zSt_2n, zSt_2i, zSt_2a, zSt_2l, zSt_3n, zSt_3i, zSt_3a, zSt_3l, zSt_4n, zSt_4i, zSt_4a, zSt_4l, zSt_5n, zSt_5i, zSt_5a, zSt_5l, zSt_6n, zSt_6i, zSt_6a, zSt_6l, zSt_7n, zSt_7i, zSt_7a, zSt_7l, zSt_8n, zSt_8i, zSt_8a, zSt_8l, zSt_9n, zSt_9i, zSt_9a, zSt_9l, zSt_10n, zSt_10i, zSt_10a, zSt_10l, zSt_11n, zSt_11i, zSt_11a, zSt_11l, zSt_12n, zSt_12i, zSt_12a, zSt_12l, zSt_13n, zSt_13i, zSt_13a, zSt_13l, zSL_1n, zSL_1i, zSL_1a, zSL_1l, zSL_2n, zSL_2i, zSL_2a, zSL_2l, zSL_3n, zSL_3i, zSL_3a, zSL_3l, zSL_4n, zSL_4i, zSL_4a, zSL_4l, zSL_5n, zSL_5i, zSL_5a, zSL_5l, zSL_6n, zSL_6i, zSL_6a, zSL_6l, zSL_7n, zSL_7i, zSL_7a, zSL_7l, zSL_8n, zSL_8i, zSL_8a, zSL_8l, zSL_9n, zSL_9i, zSL_9a, zSL_9l, zSL_10n, zSL_10i, zSL_10a, zSL_10l, zSL_11n, zSL_11i, zSL_11a, zSL_11l, zSL_12n, zSL_12i, zSL_12a, zSL_12l, zLI_0, zLL_0, zLA_0, zLI_1, zLL_1, zLA_1, zLI_2, zLL_2, zLA_2, zLI_3, zLL_3, zLA_3, zLI_4, zLL_4, zLA_4, zLI_5, zLL_5, zLA_5, zLI_6, zLL_6, zLA_6, zLI_7, zLL_7, zLA_7, zLI_8, zLL_8, zLA_8, zLI_9, zLL_9, zLA_9, zLI_10, zLL_10, zLA_10, zLI_11, zLL_11, zLA_11, zLI_12, zLL_12, zLA_12, zLI_13, zLL_13, zLA_13, zst_0, zst_1n, zst_1i, zst_1a, zst_2n, zst_2i, zst_2a, zst_3n, zst_3i, zst_3a, zst_4n, zst_4i, zst_4a, zst_5n, zst_5i, zst_5a, zst_6n, zst_6i, zst_6a, zst_7n, zst_7i, zst_7a, zst_8n, zst_8i, zst_8a, zst_9n, zst_9i, zst_9a, zst_10n, zst_10i, zst_10a, zst_11n, zst_11i, zst_11a, zst_12n, zst_12i, zst_12a, zst_13n, zst_13i, zst_13a, zst_14n, zst_14i, zst_14a, zst_15n, zst_15i, zst_15a, zR1_n, zR1_v, zsum_n, zsum_i, zsum_l, zsum_a, zlen_n, zlen_i, zlen_l, zlen_a, List.not_mem_nil, List.mem_cons, or_false, false_or, or_self, ↓reduceIte, if_false, if_true, Nat.reduceEqDiff, Nat.reduceAdd, Nat.reduceLeDiff, true_and, and_true, reduceCtorEq, ne_eq, Int.toNat_natCast, not_true_eq_false, not_false_eq_true, true_implies, false_implies, implies_true, Int.reduceToNat, Int.toNat_zero, Int.reduceLT, Int.reduceLE, Int.reduceEq, Int.reduceAdd, Int.reduceMul, Int.reduceNeg]
        exact ⟨fun h => absurd h (by omega), fun _ => o9⟩
      · rw [if_neg ht] at hcmp
        have h := ih y
        unfold zord at h
        rw [zcnt_s, if_neg ht, if_neg ht] at h
        refine zW_sound 60 [5] ?_
        simp only [ZR232, hcmp, zW_succ, zE_iload, zE_aload, zE_lload, zE_iinc, zE_istore, zE_astore, zE_lstore, zE_iconst, zE_ldc2, zE_iadd, zE_isub, zE_imul, zE_idiv, zE_irem, zE_ineg, zE_iand, zE_ior, zE_ixor, zE_ishl, zE_ishr, zE_land, zE_lor, zE_lxor, zE_lshl, zE_lshr, zE_i2l, zE_lcmp, zE_dup_i, zE_dup_a, zE_dup2_ia, zE_pop_i, zE_pop_a, zE_pop2, zE_goto, zE_if_eq, zE_icmp_eq, zE_if_ne, zE_icmp_ne, zE_if_lt, zE_icmp_lt, zE_if_ge, zE_icmp_ge, zE_if_gt, zE_icmp_gt, zE_if_le, zE_icmp_le, zE_iaload, zE_baload, zE_laload, zE_aaload, zE_iastore, zE_bastore, zE_lastore, zE_aastore, zE_alen, zE_getf0, zE_getf1, zE_getf2, zE_getf3, zE_putf0, zE_putf1, zE_putf2, zE_putf3, zE_new, zE_newa, zE_newq, zE_ireturn, zE_lreturn, zE_areturn, zE_return, zE_athrow, zE_st0, zE_vi0, zE_st1, zE_vi1, zE_st2, zE_vi2, zE_st3, zE_vi3, zE_st4, zE_vi4, zE_st5, zE_vi5, zE_st6, zE_vi6, zE_st7, zE_vi7, zE_st8, zE_vi8, zSt_0, zSL_0, zSt_1n, zSt_1i, zSt_1a, zSt_1l, zSt_2n, zSt_2i, zSt_2a, zSt_2l, zSt_3n, zSt_3i, zSt_3a, zSt_3l, zSt_4n, zSt_4i, zSt_4a, zSt_4l, zSt_5n, zSt_5i, zSt_5a, zSt_5l, zSt_6n, zSt_6i, zSt_6a, zSt_6l, zSt_7n, zSt_7i, zSt_7a, zSt_7l, zSt_8n, zSt_8i, zSt_8a, zSt_8l, zSt_9n, zSt_9i, zSt_9a, zSt_9l, zSt_10n, zSt_10i, zSt_10a, zSt_10l, zSt_11n, zSt_11i, zSt_11a, zSt_11l, zSt_12n, zSt_12i, zSt_12a, zSt_12l, zSt_13n, zSt_13i, zSt_13a, zSt_13l, zSL_1n, zSL_1i, zSL_1a, zSL_1l, zSL_2n, zSL_2i, zSL_2a, zSL_2l, zSL_3n, zSL_3i, zSL_3a, zSL_3l, zSL_4n, zSL_4i, zSL_4a, zSL_4l, zSL_5n, zSL_5i, zSL_5a, zSL_5l, zSL_6n, zSL_6i, zSL_6a, zSL_6l, zSL_7n, zSL_7i, zSL_7a, zSL_7l, zSL_8n, zSL_8i, zSL_8a, zSL_8l, zSL_9n, zSL_9i, zSL_9a, zSL_9l, zSL_10n, zSL_10i, zSL_10a, zSL_10l, zSL_11n, zSL_11i, zSL_11a, zSL_11l, zSL_12n, zSL_12i, zSL_12a, zSL_12l, zLI_0, zLL_0, zLA_0, zLI_1, zLL_1, zLA_1, zLI_2, zLL_2, zLA_2, zLI_3, zLL_3, zLA_3, zLI_4, zLL_4, zLA_4, zLI_5, zLL_5, zLA_5, zLI_6, zLL_6, zLA_6, zLI_7, zLL_7, zLA_7, zLI_8, zLL_8, zLA_8, zLI_9, zLL_9, zLA_9, zLI_10, zLL_10, zLA_10, zLI_11, zLL_11, zLA_11, zLI_12, zLL_12, zLA_12, zLI_13, zLL_13, zLA_13, zst_0, zst_1n, zst_1i, zst_1a, zst_2n, zst_2i, zst_2a, zst_3n, zst_3i, zst_3a, zst_4n, zst_4i, zst_4a, zst_5n, zst_5i, zst_5a, zst_6n, zst_6i, zst_6a, zst_7n, zst_7i, zst_7a, zst_8n, zst_8i, zst_8a, zst_9n, zst_9i, zst_9a, zst_10n, zst_10i, zst_10a, zst_11n, zst_11i, zst_11a, zst_12n, zst_12i, zst_12a, zst_13n, zst_13i, zst_13a, zst_14n, zst_14i, zst_14a, zst_15n, zst_15i, zst_15a, zR1_n, zR1_v, zsum_n, zsum_i, zsum_l, zsum_a, zlen_n, zlen_i, zlen_l, zlen_a, List.not_mem_nil, List.mem_cons, or_false, false_or, or_self, ↓reduceIte, if_false, if_true, Nat.reduceEqDiff, Nat.reduceAdd, Nat.reduceLeDiff, true_and, and_true, reduceCtorEq, ne_eq, Int.toNat_natCast, not_true_eq_false, not_false_eq_true, true_implies, false_implies, implies_true, Int.reduceToNat, Int.toNat_zero, Int.reduceLT, Int.reduceLE, Int.reduceEq, Int.reduceAdd, Int.reduceMul, Int.reduceNeg]
        exact ⟨fun h => absurd h (by omega), fun _ => ⟨by unfold zr32; omega, h⟩⟩
  have o9 := outer 0 (Nat.zero_le _) none
  have e0 : zua M.2.1 1188 (zord (zrwl M.2.1) (zbt x) (M.2.1 1188) 0) = M.2.1 := zua_0 _ _
  rw [e0] at o9
  refine zW_sound 60 [5] ?_
  simp only [ZF232, ZR232, zW_succ, zE_iload, zE_aload, zE_lload, zE_iinc, zE_istore, zE_astore, zE_lstore, zE_iconst, zE_ldc2, zE_iadd, zE_isub, zE_imul, zE_idiv, zE_irem, zE_ineg, zE_iand, zE_ior, zE_ixor, zE_ishl, zE_ishr, zE_land, zE_lor, zE_lxor, zE_lshl, zE_lshr, zE_i2l, zE_lcmp, zE_dup_i, zE_dup_a, zE_dup2_ia, zE_pop_i, zE_pop_a, zE_pop2, zE_goto, zE_if_eq, zE_icmp_eq, zE_if_ne, zE_icmp_ne, zE_if_lt, zE_icmp_lt, zE_if_ge, zE_icmp_ge, zE_if_gt, zE_icmp_gt, zE_if_le, zE_icmp_le, zE_iaload, zE_baload, zE_laload, zE_aaload, zE_iastore, zE_bastore, zE_lastore, zE_aastore, zE_alen, zE_getf0, zE_getf1, zE_getf2, zE_getf3, zE_putf0, zE_putf1, zE_putf2, zE_putf3, zE_new, zE_newa, zE_newq, zE_ireturn, zE_lreturn, zE_areturn, zE_return, zE_athrow, zE_st0, zE_vi0, zE_st1, zE_vi1, zE_st2, zE_vi2, zE_st3, zE_vi3, zE_st4, zE_vi4, zE_st5, zE_vi5, zE_st6, zE_vi6, zE_st7, zE_vi7, zE_st8, zE_vi8, zSt_0, zSL_0, zSt_1n, zSt_1i, zSt_1a, zSt_1l, zSt_2n, zSt_2i, zSt_2a, zSt_2l, zSt_3n, zSt_3i, zSt_3a, zSt_3l, zSt_4n, zSt_4i, zSt_4a, zSt_4l, zSt_5n, zSt_5i, zSt_5a, zSt_5l, zSt_6n, zSt_6i, zSt_6a, zSt_6l, zSt_7n, zSt_7i, zSt_7a, zSt_7l, zSt_8n, zSt_8i, zSt_8a, zSt_8l, zSt_9n, zSt_9i, zSt_9a, zSt_9l, zSt_10n, zSt_10i, zSt_10a, zSt_10l, zSt_11n, zSt_11i, zSt_11a, zSt_11l, zSt_12n, zSt_12i, zSt_12a, zSt_12l, zSt_13n, zSt_13i, zSt_13a, zSt_13l, zSL_1n, zSL_1i, zSL_1a, zSL_1l, zSL_2n, zSL_2i, zSL_2a, zSL_2l, zSL_3n, zSL_3i, zSL_3a, zSL_3l, zSL_4n, zSL_4i, zSL_4a, zSL_4l, zSL_5n, zSL_5i, zSL_5a, zSL_5l, zSL_6n, zSL_6i, zSL_6a, zSL_6l, zSL_7n, zSL_7i, zSL_7a, zSL_7l, zSL_8n, zSL_8i, zSL_8a, zSL_8l, zSL_9n, zSL_9i, zSL_9a, zSL_9l, zSL_10n, zSL_10i, zSL_10a, zSL_10l, zSL_11n, zSL_11i, zSL_11a, zSL_11l, zSL_12n, zSL_12i, zSL_12a, zSL_12l, zLI_0, zLL_0, zLA_0, zLI_1, zLL_1, zLA_1, zLI_2, zLL_2, zLA_2, zLI_3, zLL_3, zLA_3, zLI_4, zLL_4, zLA_4, zLI_5, zLL_5, zLA_5, zLI_6, zLL_6, zLA_6, zLI_7, zLL_7, zLA_7, zLI_8, zLL_8, zLA_8, zLI_9, zLL_9, zLA_9, zLI_10, zLL_10, zLA_10, zLI_11, zLL_11, zLA_11, zLI_12, zLL_12, zLA_12, zLI_13, zLL_13, zLA_13, zst_0, zst_1n, zst_1i, zst_1a, zst_2n, zst_2i, zst_2a, zst_3n, zst_3i, zst_3a, zst_4n, zst_4i, zst_4a, zst_5n, zst_5i, zst_5a, zst_6n, zst_6i, zst_6a, zst_7n, zst_7i, zst_7a, zst_8n, zst_8i, zst_8a, zst_9n, zst_9i, zst_9a, zst_10n, zst_10i, zst_10a, zst_11n, zst_11i, zst_11a, zst_12n, zst_12i, zst_12a, zst_13n, zst_13i, zst_13a, zst_14n, zst_14i, zst_14a, zst_15n, zst_15i, zst_15a, zR1_n, zR1_v, zsum_n, zsum_i, zsum_l, zsum_a, zlen_n, zlen_i, zlen_l, zlen_a, List.not_mem_nil, List.mem_cons, or_false, false_or, or_self, ↓reduceIte, if_false, if_true, Nat.reduceEqDiff, Nat.reduceAdd, Nat.reduceLeDiff, true_and, and_true, reduceCtorEq, ne_eq, Int.toNat_natCast, not_true_eq_false, not_false_eq_true, true_implies, false_implies, implies_true, Int.reduceToNat, Int.toNat_zero, Int.reduceLT, Int.reduceLE, Int.reduceEq, Int.reduceAdd, Int.reduceMul, Int.reduceNeg]
  exact o9
def zrit (f : Nat → Nat → Int) (s : Nat) : Prop := zrsd f s 0 + zrsd f s 3 - zrsd f s 1 ≤ 60 ∧ zrsd f s 1 + zrsd f s 2 - zrsd f s 0 ≤ 60
theorem c239 (hR : zLayN M.2.2.2) (hs : s ≤ 60) (h : zrSw M.2.1 s) : zFR (zK L) 239 0 (zcall 239 [.inr (.inr 1153), .inl (s : Int)]) [] M Q = ((zrit M.2.1 s → Q (.inl (some (.inl 1))) M) ∧ (¬ zrit M.2.1 s → Q (.inl (some (.inl 0))) M)) := by
  have e0 : ∀ Q : zO → zM → Prop, zFR (zK L) 216 0 (zcall 216 [.inr (.inr 1153), .inl (s : Int), .inl 0]) [] M Q = Q (.inl (some (.inl (zrsd M.2.1 s 0)))) M := fun Q => c216 (w := 0) hR hs (by omega) h
  have e1 : ∀ Q : zO → zM → Prop, zFR (zK L) 216 0 (zcall 216 [.inr (.inr 1153), .inl (s : Int), .inl 1]) [] M Q = Q (.inl (some (.inl (zrsd M.2.1 s 1)))) M := fun Q => c216 (w := 1) hR hs (by omega) h
  have e2 : ∀ Q : zO → zM → Prop, zFR (zK L) 216 0 (zcall 216 [.inr (.inr 1153), .inl (s : Int), .inl 2]) [] M Q = Q (.inl (some (.inl (zrsd M.2.1 s 2)))) M := fun Q => c216 (w := 2) hR hs (by omega) h
  have e3 : ∀ Q : zO → zM → Prop, zFR (zK L) 216 0 (zcall 216 [.inr (.inr 1153), .inl (s : Int), .inl 3]) [] M Q = Q (.inl (some (.inl (zrsd M.2.1 s 3)))) M := fun Q => c216 (w := 3) hR hs (by omega) h
  have b0 := zrsd_b (w := 0) h
  have b1 := zrsd_b (w := 1) h
  have b2 := zrsd_b (w := 2) h
  have b3 := zrsd_b (w := 3) h
  refine zFR_bool _ (fun hc => zW_sound 60 [] ?_) (fun hc => zW_sound 60 [] ?_) Q
  · obtain ⟨h1, h2⟩ := hc
    simp only [ZF239, ZR239, zk_1153, ZF216.1, ZF216.2.1, ZF216.2.2.1, e0, e1, e2, e3, zW_succ, zE_iload, zE_aload, zE_lload, zE_iinc, zE_istore, zE_astore, zE_lstore, zE_iconst, zE_ldc2, zE_iadd, zE_isub, zE_imul, zE_idiv, zE_irem, zE_ineg, zE_iand, zE_ior, zE_ixor, zE_ishl, zE_ishr, zE_land, zE_lor, zE_lxor, zE_lshl, zE_lshr, zE_i2l, zE_lcmp, zE_dup_i, zE_dup_a, zE_dup2_ia, zE_pop_i, zE_pop_a, zE_pop2, zE_goto, zE_if_eq, zE_icmp_eq, zE_if_ne, zE_icmp_ne, zE_if_lt, zE_icmp_lt, zE_if_ge, zE_icmp_ge, zE_if_gt, zE_icmp_gt, zE_if_le, zE_icmp_le, zE_iaload, zE_baload, zE_laload, zE_aaload, zE_iastore, zE_bastore, zE_lastore, zE_aastore, zE_alen, zE_getf0, zE_getf1, zE_getf2, zE_getf3, zE_putf0, zE_putf1, zE_putf2, zE_putf3, zE_new, zE_newa, zE_newq, zE_ireturn, zE_lreturn, zE_areturn, zE_return, zE_athrow, zE_st0, zE_vi0, zE_st1, zE_vi1, zE_st2, zE_vi2, zE_st3, zE_vi3, zE_st4, zE_vi4, zE_st5, zE_vi5, zE_st6, zE_vi6, zE_st7, zE_vi7, zE_st8, zE_vi8, zSt_0, zSL_0, zSt_1n, zSt_1i, zSt_1a, zSt_1l, zSt_2n, zSt_2i, zSt_2a, zSt_2l, zSt_3n, zSt_3i, zSt_3a, zSt_3l, zSt_4n, zSt_4i, zSt_4a, zSt_4l, zSt_5n, zSt_5i, zSt_5a, zSt_5l, zSt_6n, zSt_6i, zSt_6a, zSt_6l, zSt_7n, zSt_7i, zSt_7a, zSt_7l, zSt_8n, zSt_8i, zSt_8a, zSt_8l, zSt_9n, zSt_9i, zSt_9a, zSt_9l, zSt_10n, zSt_10i, zSt_10a, zSt_10l, zSt_11n, zSt_11i, zSt_11a, zSt_11l, zSt_12n, zSt_12i, zSt_12a, zSt_12l, zSt_13n, zSt_13i, zSt_13a, zSt_13l, zSL_1n, zSL_1i, zSL_1a, zSL_1l, zSL_2n, zSL_2i, zSL_2a, zSL_2l, zSL_3n, zSL_3i, zSL_3a, zSL_3l, zSL_4n, zSL_4i, zSL_4a, zSL_4l, zSL_5n, zSL_5i, zSL_5a, zSL_5l, zSL_6n, zSL_6i, zSL_6a, zSL_6l, zSL_7n, zSL_7i, zSL_7a, zSL_7l, zSL_8n, zSL_8i, zSL_8a, zSL_8l, zSL_9n, zSL_9i, zSL_9a, zSL_9l, zSL_10n, zSL_10i, zSL_10a, zSL_10l, zSL_11n, zSL_11i, zSL_11a, zSL_11l, zSL_12n, zSL_12i, zSL_12a, zSL_12l, zLI_0, zLL_0, zLA_0, zLI_1, zLL_1, zLA_1, zLI_2, zLL_2, zLA_2, zLI_3, zLL_3, zLA_3, zLI_4, zLL_4, zLA_4, zLI_5, zLL_5, zLA_5, zLI_6, zLL_6, zLA_6, zLI_7, zLL_7, zLA_7, zLI_8, zLL_8, zLA_8, zLI_9, zLL_9, zLA_9, zLI_10, zLL_10, zLA_10, zLI_11, zLL_11, zLA_11, zLI_12, zLL_12, zLA_12, zLI_13, zLL_13, zLA_13, zst_0, zst_1n, zst_1i, zst_1a, zst_2n, zst_2i, zst_2a, zst_3n, zst_3i, zst_3a, zst_4n, zst_4i, zst_4a, zst_5n, zst_5i, zst_5a, zst_6n, zst_6i, zst_6a, zst_7n, zst_7i, zst_7a, zst_8n, zst_8i, zst_8a, zst_9n, zst_9i, zst_9a, zst_10n, zst_10i, zst_10a, zst_11n, zst_11i, zst_11a, zst_12n, zst_12i, zst_12a, zst_13n, zst_13i, zst_13a, zst_14n, zst_14i, zst_14a, zst_15n, zst_15i, zst_15a, zR1_n, zR1_v, zsum_n, zsum_i, zsum_l, zsum_a, zlen_n, zlen_i, zlen_l, zlen_a, List.not_mem_nil, List.mem_cons, or_false, false_or, or_self, ↓reduceIte, if_false, if_true, Nat.reduceEqDiff, Nat.reduceAdd, Nat.reduceLeDiff, true_and, and_true, reduceCtorEq, ne_eq, Int.toNat_natCast, not_true_eq_false, not_false_eq_true, true_implies, false_implies, implies_true, Int.reduceToNat, Int.toNat_zero, Int.reduceLT, Int.reduceLE, Int.reduceEq, Int.reduceAdd, Int.reduceMul, Int.reduceNeg]
    exact ⟨by unfold zr32; omega, by unfold zr32; omega, fun h3 => absurd h3 (by omega), fun _ => ⟨by unfold zr32; omega, by unfold zr32; omega, fun h3 => absurd h3 (by omega)⟩⟩
  · unfold zrit at hc
    simp only [ZF239, ZR239, zk_1153, ZF216.1, ZF216.2.1, ZF216.2.2.1, e0, e1, e2, e3, zW_succ, zE_iload, zE_aload, zE_lload, zE_iinc, zE_istore, zE_astore, zE_lstore, zE_iconst, zE_ldc2, zE_iadd, zE_isub, zE_imul, zE_idiv, zE_irem, zE_ineg, zE_iand, zE_ior, zE_ixor, zE_ishl, zE_ishr, zE_land, zE_lor, zE_lxor, zE_lshl, zE_lshr, zE_i2l, zE_lcmp, zE_dup_i, zE_dup_a, zE_dup2_ia, zE_pop_i, zE_pop_a, zE_pop2, zE_goto, zE_if_eq, zE_icmp_eq, zE_if_ne, zE_icmp_ne, zE_if_lt, zE_icmp_lt, zE_if_ge, zE_icmp_ge, zE_if_gt, zE_icmp_gt, zE_if_le, zE_icmp_le, zE_iaload, zE_baload, zE_laload, zE_aaload, zE_iastore, zE_bastore, zE_lastore, zE_aastore, zE_alen, zE_getf0, zE_getf1, zE_getf2, zE_getf3, zE_putf0, zE_putf1, zE_putf2, zE_putf3, zE_new, zE_newa, zE_newq, zE_ireturn, zE_lreturn, zE_areturn, zE_return, zE_athrow, zE_st0, zE_vi0, zE_st1, zE_vi1, zE_st2, zE_vi2, zE_st3, zE_vi3, zE_st4, zE_vi4, zE_st5, zE_vi5, zE_st6, zE_vi6, zE_st7, zE_vi7, zE_st8, zE_vi8, zSt_0, zSL_0, zSt_1n, zSt_1i, zSt_1a, zSt_1l, zSt_2n, zSt_2i, zSt_2a, zSt_2l, zSt_3n, zSt_3i, zSt_3a, zSt_3l, zSt_4n, zSt_4i, zSt_4a, zSt_4l, zSt_5n, zSt_5i, zSt_5a, zSt_5l, zSt_6n, zSt_6i, zSt_6a, zSt_6l, zSt_7n, zSt_7i, zSt_7a, zSt_7l, zSt_8n, zSt_8i, zSt_8a, zSt_8l, zSt_9n, zSt_9i, zSt_9a, zSt_9l, zSt_10n, zSt_10i, zSt_10a, zSt_10l, zSt_11n, zSt_11i, zSt_11a, zSt_11l, zSt_12n, zSt_12i, zSt_12a, zSt_12l, zSt_13n, zSt_13i, zSt_13a, zSt_13l, zSL_1n, zSL_1i, zSL_1a, zSL_1l, zSL_2n, zSL_2i, zSL_2a, zSL_2l, zSL_3n, zSL_3i, zSL_3a, zSL_3l, zSL_4n, zSL_4i, zSL_4a, zSL_4l, zSL_5n, zSL_5i, zSL_5a, zSL_5l, zSL_6n, zSL_6i, zSL_6a, zSL_6l, zSL_7n, zSL_7i, zSL_7a, zSL_7l, zSL_8n, zSL_8i, zSL_8a, zSL_8l, zSL_9n, zSL_9i, zSL_9a, zSL_9l, zSL_10n, zSL_10i, zSL_10a, zSL_10l, zSL_11n, zSL_11i, zSL_11a, zSL_11l, zSL_12n, zSL_12i, zSL_12a, zSL_12l, zLI_0, zLL_0, zLA_0, zLI_1, zLL_1, zLA_1, zLI_2, zLL_2, zLA_2, zLI_3, zLL_3, zLA_3, zLI_4, zLL_4, zLA_4, zLI_5, zLL_5, zLA_5, zLI_6, zLL_6, zLA_6, zLI_7, zLL_7, zLA_7, zLI_8, zLL_8, zLA_8, zLI_9, zLL_9, zLA_9, zLI_10, zLL_10, zLA_10, zLI_11, zLL_11, zLA_11, zLI_12, zLL_12, zLA_12, zLI_13, zLL_13, zLA_13, zst_0, zst_1n, zst_1i, zst_1a, zst_2n, zst_2i, zst_2a, zst_3n, zst_3i, zst_3a, zst_4n, zst_4i, zst_4a, zst_5n, zst_5i, zst_5a, zst_6n, zst_6i, zst_6a, zst_7n, zst_7i, zst_7a, zst_8n, zst_8i, zst_8a, zst_9n, zst_9i, zst_9a, zst_10n, zst_10i, zst_10a, zst_11n, zst_11i, zst_11a, zst_12n, zst_12i, zst_12a, zst_13n, zst_13i, zst_13a, zst_14n, zst_14i, zst_14a, zst_15n, zst_15i, zst_15a, zR1_n, zR1_v, zsum_n, zsum_i, zsum_l, zsum_a, zlen_n, zlen_i, zlen_l, zlen_a, List.not_mem_nil, List.mem_cons, or_false, false_or, or_self, ↓reduceIte, if_false, if_true, Nat.reduceEqDiff, Nat.reduceAdd, Nat.reduceLeDiff, true_and, and_true, reduceCtorEq, ne_eq, Int.toNat_natCast, not_true_eq_false, not_false_eq_true, true_implies, false_implies, implies_true, Int.reduceToNat, Int.toNat_zero, Int.reduceLT, Int.reduceLE, Int.reduceEq, Int.reduceAdd, Int.reduceMul, Int.reduceNeg]
    exact ⟨by unfold zr32; omega, by unfold zr32; omega, fun h3 => ⟨by unfold zr32; omega, by unfold zr32; omega, fun h4 => absurd ⟨by omega, by omega⟩ hc⟩⟩
end ZRROW
end SG_90_rrow
section SG_91_rspread
/-! the reference: spread out -/
section ZRSPREAD
variable {L : Nat} {M : zM} {s : Nat} {Q : zO → zM → Prop}
theorem zfo_cong {op : Int → Int → Int} {g g' : Nat → Int} {b b' : Int} (hb : b = b') : ∀ k : Nat, (∀ i, i < k → g i = g' i) → zfo op g b k = zfo op g' b' k
  | 0, _ => hb
  | k + 1, h => by
    rw [zfo_s, zfo_s, zfo_cong hb k (fun i hi => h i (by omega)), h k (by omega)]
theorem zf2_cong {op : Int → Int → Int} {n n' : Nat → Int} {X X' : Nat → Nat → Int} {b : Int} : ∀ c : Nat, (∀ p, p < c → n p = n' p) → (∀ p, p < c → ∀ k : Nat, (k : Int) < n p → X p k = X' p k) → zf2 op n X b c = zf2 op n' X' b c
  | 0, _, _ => rfl
  | c + 1, hn, hx => by
    rw [zf2_s, zf2_s, ← hn c (by omega)]
    exact zfo_cong (zf2_cong c (fun p hp => hn p (by omega)) (fun p hp => hx p (by omega))) _ (fun i hi => hx c (by omega) i (by omega))
theorem zfo_mn {g : Nat → Int} {b : Int} : ∀ k : Nat, zfo zmn g b k ≤ b ∧ (∀ i, i < k → zfo zmn g b k ≤ g i) ∧ (zfo zmn g b k = b ∨ ∃ i, i < k ∧ zfo zmn g b k = g i)
  | 0 => ⟨Int.le_refl _, fun i h => absurd h (Nat.not_lt_zero i), Or.inl rfl⟩
  | k + 1 => by
    obtain ⟨h1, h2, h3⟩ := zfo_mn (g := g) (b := b) k
    rw [zfo_s]
    generalize zfo zmn g b k = v at *
    have e : (zmn v (g k) = v ∧ v ≤ g k) ∨ (zmn v (g k) = g k ∧ g k ≤ v) := by unfold zmn; split <;> omega
    rcases e with ⟨e, e2⟩ | ⟨e, e2⟩ <;> rw [e]
    · refine ⟨h1, fun i hi => ?_, ?_⟩
      · by_cases ei : i = k
        · subst ei; exact e2
        · exact h2 i (by omega)
      · rcases h3 with h3 | ⟨i, hi, h3⟩
        · exact Or.inl h3
        · exact Or.inr ⟨i, by omega, h3⟩
    · refine ⟨by omega, fun i hi => ?_, Or.inr ⟨k, by omega, rfl⟩⟩
      by_cases ei : i = k
      · subst ei; exact Int.le_refl _
      · have := h2 i (by omega); omega
theorem zfo_mx {g : Nat → Int} {b : Int} : ∀ k : Nat, b ≤ zfo zmx g b k ∧ (∀ i, i < k → g i ≤ zfo zmx g b k) ∧ (zfo zmx g b k = b ∨ ∃ i, i < k ∧ zfo zmx g b k = g i)
  | 0 => ⟨Int.le_refl _, fun i h => absurd h (Nat.not_lt_zero i), Or.inl rfl⟩
  | k + 1 => by
    obtain ⟨h1, h2, h3⟩ := zfo_mx (g := g) (b := b) k
    rw [zfo_s]
    generalize zfo zmx g b k = v at *
    have e : (zmx v (g k) = v ∧ g k ≤ v) ∨ (zmx v (g k) = g k ∧ v ≤ g k) := by unfold zmx; split <;> omega
    rcases e with ⟨e, e2⟩ | ⟨e, e2⟩ <;> rw [e]
    · refine ⟨h1, fun i hi => ?_, ?_⟩
      · by_cases ei : i = k
        · subst ei; exact e2
        · exact h2 i (by omega)
      · rcases h3 with h3 | ⟨i, hi, h3⟩
        · exact Or.inl h3
        · exact Or.inr ⟨i, by omega, h3⟩
    · refine ⟨by omega, fun i hi => ?_, Or.inr ⟨k, by omega, rfl⟩⟩
      by_cases ei : i = k
      · subst ei; exact Int.le_refl _
      · have := h2 i (by omega); omega
/-- the least of corners -/
theorem zf2_mn {n : Nat → Int} {X : Nat → Nat → Int} {b : Int} : ∀ c : Nat, zf2 zmn n X b c ≤ b ∧ (∀ p, p < c → ∀ k : Nat, (k : Int) < n p → zf2 zmn n X b c ≤ X p k) ∧ (zf2 zmn n X b c = b ∨ ∃ p k : Nat, p < c ∧ (k : Int) < n p ∧ zf2 zmn n X b c = X p k)
  | 0 => ⟨Int.le_refl _, fun p h => absurd h (Nat.not_lt_zero p), Or.inl rfl⟩
  | c + 1 => by
    obtain ⟨h1, h2, h3⟩ := zf2_mn (n := n) (X := X) (b := b) c
    rw [zf2_s]
    obtain ⟨g1, g2, g3⟩ := zfo_mn (g := X c) (b := zf2 zmn n X b c) (n c).toNat
    generalize zfo zmn (X c) (zf2 zmn n X b c) (n c).toNat = v at *
    refine ⟨by omega, fun p hp k hk => ?_, ?_⟩
    · by_cases ep : p = c
      · subst ep; exact g2 k (by omega)
      · have := h2 p (by omega) k hk; omega
    · rcases g3 with g3 | ⟨i, hi, g3⟩
      · rcases h3 with h3 | ⟨p, k, hp, hk, h3⟩
        · exact Or.inl (by omega)
        · exact Or.inr ⟨p, k, by omega, hk, by omega⟩
      · exact Or.inr ⟨c, i, by omega, by omega, g3⟩
/-- the greatest of corners -/
theorem zf2_mx {n : Nat → Int} {X : Nat → Nat → Int} {b : Int} : ∀ c : Nat, b ≤ zf2 zmx n X b c ∧ (∀ p, p < c → ∀ k : Nat, (k : Int) < n p → X p k ≤ zf2 zmx n X b c) ∧ (zf2 zmx n X b c = b ∨ ∃ p k : Nat, p < c ∧ (k : Int) < n p ∧ zf2 zmx n X b c = X p k)
  | 0 => ⟨Int.le_refl _, fun p h => absurd h (Nat.not_lt_zero p), Or.inl rfl⟩
  | c + 1 => by
    obtain ⟨h1, h2, h3⟩ := zf2_mx (n := n) (X := X) (b := b) c
    rw [zf2_s]
    obtain ⟨g1, g2, g3⟩ := zfo_mx (g := X c) (b := zf2 zmx n X b c) (n c).toNat
    generalize zfo zmx (X c) (zf2 zmx n X b c) (n c).toNat = v at *
    refine ⟨by omega, fun p hp k hk => ?_, ?_⟩
    · by_cases ep : p = c
      · subst ep; exact g2 k (by omega)
      · have := h2 p (by omega) k hk; omega
    · rcases g3 with g3 | ⟨i, hi, g3⟩
      · rcases h3 with h3 | ⟨p, k, hp, hk, h3⟩
        · exact Or.inl (by omega)
        · exact Or.inr ⟨p, k, by omega, hk, by omega⟩
      · exact Or.inr ⟨c, i, by omega, by omega, g3⟩
theorem zf2_shn {n : Nat → Int} {X X' : Nat → Nat → Int} {b d : Int} {c : Nat} (h : zf2 zmn n X b c ≠ b) (hd : zf2 zmn n X b c + d ≤ b) (hx : ∀ p, p < c → ∀ k : Nat, (k : Int) < n p → X' p k = X p k + d) : zf2 zmn n X' b c = zf2 zmn n X b c + d := by
  obtain ⟨h1, h2, h3⟩ := zf2_mn (n := n) (X := X) (b := b) c
  obtain ⟨g1, g2, g3⟩ := zf2_mn (n := n) (X := X') (b := b) c
  rcases h3 with h3 | ⟨p, k, hp, hk, h3⟩
  · exact absurd h3 h
  · have a1 := g2 p hp k hk
    rw [hx p hp k hk] at a1
    rcases g3 with g3 | ⟨p2, k2, hp2, hk2, g3⟩
    · omega
    · have a2 := h2 p2 hp2 k2 hk2
      rw [hx p2 hp2 k2 hk2] at g3
      omega
theorem zf2_shx {n : Nat → Int} {X X' : Nat → Nat → Int} {b d : Int} {c : Nat} (h : zf2 zmx n X b c ≠ b) (hd : b ≤ zf2 zmx n X b c + d) (hx : ∀ p, p < c → ∀ k : Nat, (k : Int) < n p → X' p k = X p k + d) : zf2 zmx n X' b c = zf2 zmx n X b c + d := by
  obtain ⟨h1, h2, h3⟩ := zf2_mx (n := n) (X := X) (b := b) c
  obtain ⟨g1, g2, g3⟩ := zf2_mx (n := n) (X := X') (b := b) c
  rcases h3 with h3 | ⟨p, k, hp, hk, h3⟩
  · exact absurd h3 h
  · have a1 := g2 p hp k hk
    rw [hx p hp k hk] at a1
    rcases g3 with g3 | ⟨p2, k2, hp2, hk2, g3⟩
    · omega
    · have a2 := h2 p2 hp2 k2 hk2
      rw [hx p2 hp2 k2 hk2] at g3
      omega
theorem zrmp_x {f : Nat → Nat → Int} {s c p k : Nat} {gx gy : Int → Int → Int} (hp : p < c) (hp4 : p < 4) (hk : (k : Int) < zrN f s p) (hk8 : k < 8) : zrX (zrmp f s c 0 gx gy) s p k = gx (zrX f s p k) (zrY f s p k) := by
  unfold zrX zrmp
  have e1 : (32 * s + 8 * p + k - 32 * s) / 8 = p := by omega
  have e2 : (32 * s + 8 * p + k - 32 * s) % 8 = k := by omega
  rw [e1, e2, if_pos ⟨Or.inl rfl, by omega, Or.inl hp, hk⟩, if_pos rfl]
  rfl
theorem zrmp_y {f : Nat → Nat → Int} {s c p k : Nat} {gx gy : Int → Int → Int} (hp : p < c) (hp4 : p < 4) (hk : (k : Int) < zrN f s p) (hk8 : k < 8) : zrY (zrmp f s c 0 gx gy) s p k = gy (zrX f s p k) (zrY f s p k) := by
  unfold zrY zrmp
  have e1 : (32 * s + 8 * p + k - 32 * s) / 8 = p := by omega
  have e2 : (32 * s + 8 * p + k - 32 * s) % 8 = k := by omega
  rw [e1, e2, if_pos ⟨Or.inr rfl, by omega, Or.inl hp, hk⟩, if_neg (by omega)]
  rfl
theorem zrmp_n {f : Nat → Nat → Int} {s c s' : Nat} {gx gy : Int → Int → Int} : zrN (zrmp f s c 0 gx gy) s' = zrN f s' := funext fun p => zrmp_o (by omega)
/-- a frame that lies on the board -/
def zrFm (f : Nat → Nat → Int) (s : Nat) : Prop := (0 ≤ zrsd f s 0 ∧ zrsd f s 0 ≤ zrsd f s 2 ∧ zrsd f s 2 ≤ 60) ∧ 0 ≤ zrsd f s 1 ∧ zrsd f s 1 ≤ zrsd f s 3 ∧ zrsd f s 3 ≤ 60
theorem zrsd_0 (f : Nat → Nat → Int) (s : Nat) : zrsd f s 0 = zf2 zmn (zrN f s) (zrX f s) 100 (f 1174 s).toNat := rfl
theorem zrsd_1 (f : Nat → Nat → Int) (s : Nat) : zrsd f s 1 = zf2 zmn (zrN f s) (zrY f s) 100 (f 1174 s).toNat := rfl
theorem zrsd_2 (f : Nat → Nat → Int) (s : Nat) : zrsd f s 2 = zf2 zmx (zrN f s) (zrX f s) (-1) (f 1174 s).toNat := rfl
theorem zrsd_3 (f : Nat → Nat → Int) (s : Nat) : zrsd f s 3 = zf2 zmx (zrN f s) (zrY f s) (-1) (f 1174 s).toNat := rfl
/-- the shape shifted -/
def zrsh (f : Nat → Nat → Int) (s : Nat) (dx dy : Int) : Nat → Nat → Int := zrmp f s (f 1174 s).toNat 0 (fun x _ => x + dx) (fun _ y => y + dy)
theorem zrsh_o {f : Nat → Nat → Int} {s b j : Nat} {dx dy : Int} (h : b ≠ 1177 ∧ b ≠ 1178) : zrsh f s dx dy b j = f b j := zrmp_o h
theorem zrsh_p {f : Nat → Nat → Int} {s b j : Nat} {dx dy : Int} (h : ¬ (32 * s ≤ j ∧ j < 32 * s + 32)) : zrsh f s dx dy b j = f b j := zrmp_p (fun h2 => h h2.1)
theorem zrsh_d {f : Nat → Nat → Int} {s : Nat} {dx dy : Int} (hw : zrSw f s) (hf : zrFm f s) (hx : -100 ≤ dx ∧ dx ≤ 100) (hx0 : 0 ≤ zrsd f s 0 + dx ∧ zrsd f s 2 + dx ≤ 60) (hy0 : 0 ≤ zrsd f s 1 + dy ∧ zrsd f s 3 + dy ≤ 60) : zrsd (zrsh f s dx dy) s 0 = zrsd f s 0 + dx ∧ zrsd (zrsh f s dx dy) s 1 = zrsd f s 1 + dy ∧ zrsd (zrsh f s dx dy) s 2 = zrsd f s 2 + dx ∧ zrsd (zrsh f s dx dy) s 3 = zrsd f s 3 + dy := by
  obtain ⟨w1, w2, w3⟩ := hw
  obtain ⟨⟨f1, f2, f3⟩, f4, f5, f6⟩ := hf
  have eN : zrN (zrsh f s dx dy) s = zrN f s := zrmp_n
  have e4 : zrsh f s dx dy 1174 s = f 1174 s := zrsh_o (by omega)
  have eX : ∀ p, p < (f 1174 s).toNat → ∀ k : Nat, (k : Int) < zrN f s p → zrX (zrsh f s dx dy) s p k = zrX f s p k + dx := fun p hp k hk => zrmp_x hp (by omega) hk (by have := (w3 p (by omega)).2.1; omega)
  have eY : ∀ p, p < (f 1174 s).toNat → ∀ k : Nat, (k : Int) < zrN f s p → zrY (zrsh f s dx dy) s p k = zrY f s p k + dy := fun p hp k hk => zrmp_y hp (by omega) hk (by have := (w3 p (by omega)).2.1; omega)
  rw [zrsd_0] at f1 f2 hx0
  rw [zrsd_2] at f2 f3 hx0
  rw [zrsd_1] at f4 f5 hy0
  rw [zrsd_3] at f5 f6 hy0
  rw [zrsd_0, zrsd_1, zrsd_2, zrsd_3, zrsd_0, zrsd_1, zrsd_2, zrsd_3, e4, eN]
  exact ⟨zf2_shn (by omega) (by omega) eX, zf2_shn (by omega) (by omega) eY, zf2_shx (by omega) (by omega) eX, zf2_shx (by omega) (by omega) eY⟩
/-- the same shape in another memory -/
def zrEq (g f : Nat → Nat → Int) (s : Nat) : Prop := g 1174 s = f 1174 s ∧ g 1175 s = f 1175 s ∧ (∀ p, p < 4 → g 1176 (4 * s + p) = f 1176 (4 * s + p)) ∧ ∀ j, 32 * s ≤ j → j < 32 * s + 32 → g 1177 j = f 1177 j ∧ g 1178 j = f 1178 j
theorem zrEq_n {g f : Nat → Nat → Int} {s p : Nat} (h : zrEq g f s) (hp : p < 4) : zrN g s p = zrN f s p := h.2.2.1 p hp
theorem zrEq_x {g f : Nat → Nat → Int} {s p k : Nat} (h : zrEq g f s) (hp : p < 4) (hk : k < 8) : zrX g s p k = zrX f s p k := (h.2.2.2 _ (by omega) (by omega)).1
theorem zrEq_y {g f : Nat → Nat → Int} {s p k : Nat} (h : zrEq g f s) (hp : p < 4) (hk : k < 8) : zrY g s p k = zrY f s p k := (h.2.2.2 _ (by omega) (by omega)).2
theorem zrEq_w {g f : Nat → Nat → Int} {s : Nat} (h : zrEq g f s) (hw : zrSw f s) : zrSw g s := by
  obtain ⟨w1, w2, w3⟩ := hw
  refine ⟨by rw [h.1]; exact w1, by rw [h.2.1]; exact w2, fun p hp => ?_⟩
  rw [h.1] at hp
  obtain ⟨q1, q2, q3⟩ := w3 p hp
  refine ⟨by rw [zrEq_n h (by omega)]; exact q1, by rw [zrEq_n h (by omega)]; exact q2, fun k hk => ?_⟩
  rw [zrEq_n h (by omega)] at hk
  rw [zrEq_x h (by omega) (by omega), zrEq_y h (by omega) (by omega)]
  exact q3 k hk
theorem zrEq_d {g f : Nat → Nat → Int} {s : Nat} (h : zrEq g f s) (hw : zrSw f s) (w : Nat) : zrsd g s w = zrsd f s w := by
  obtain ⟨w1, w2, w3⟩ := hw
  unfold zrsd
  rw [h.1]
  refine zf2_cong _ (fun p hp => zrEq_n h (by omega)) (fun p hp k hk => ?_)
  rw [zrEq_n h (by omega)] at hk
  have k8 := (w3 p (by omega)).2.1
  split
  · exact zrEq_x h (by omega) (by omega)
  · exact zrEq_y h (by omega) (by omega)
theorem zrEq_t {g f e : Nat → Nat → Int} {s : Nat} (h1 : zrEq g f s) (h2 : zrEq f e s) : zrEq g e s := ⟨h1.1.trans h2.1, h1.2.1.trans h2.2.1, fun p hp => (h1.2.2.1 p hp).trans (h2.2.2.1 p hp), fun j a b => ⟨(h1.2.2.2 j a b).1.trans (h2.2.2.2 j a b).1, (h1.2.2.2 j a b).2.trans (h2.2.2.2 j a b).2⟩⟩
theorem zrEq_sh {f : Nat → Nat → Int} {s u : Nat} {dx dy : Int} (h : u ≠ s) : zrEq (zrsh f s dx dy) f u := ⟨zrsh_o (by omega), zrsh_o (by omega), fun p _ => zrsh_o (by omega), fun j _ _ => ⟨zrsh_p (by omega), zrsh_p (by omega)⟩⟩
theorem zrEq_r (f : Nat → Nat → Int) (s : Nat) : zrEq f f s := ⟨rfl, rfl, fun _ _ => rfl, fun _ _ _ => ⟨rfl, rfl⟩⟩
theorem zrEq_ua {f : Nat → Nat → Int} {a s : Nat} {o : Nat → Int} (h : 1174 > a ∨ a > 1178) : zrEq (zua f a o) f s := ⟨zua_o (by omega) _ _, zua_o (by omega) _ _, fun p _ => zua_o (by omega) _ _, fun j _ _ => ⟨zua_o (by omega) _ _, zua_o (by omega) _ _⟩⟩
theorem zrFm_c {f : Nat → Nat → Int} {s : Nat} (hf : zrFm f s) {p k : Nat} (hp : (p : Int) < f 1174 s) (hk : (k : Int) < zrN f s p) : (0 ≤ zrX f s p k ∧ zrX f s p k ≤ 60) ∧ 0 ≤ zrY f s p k ∧ zrY f s p k ≤ 60 := by
  obtain ⟨⟨f1, f2, f3⟩, f4, f5, f6⟩ := hf
  rw [zrsd_0] at f1
  rw [zrsd_2] at f3
  rw [zrsd_1] at f4
  rw [zrsd_3] at f6
  have a1 := (zf2_mn (n := zrN f s) (X := zrX f s) (b := 100) (f 1174 s).toNat).2.1 p (by omega) k hk
  have a2 := (zf2_mn (n := zrN f s) (X := zrY f s) (b := 100) (f 1174 s).toNat).2.1 p (by omega) k hk
  have a3 := (zf2_mx (n := zrN f s) (X := zrX f s) (b := -1) (f 1174 s).toNat).2.1 p (by omega) k hk
  have a4 := (zf2_mx (n := zrN f s) (X := zrY f s) (b := -1) (f 1174 s).toNat).2.1 p (by omega) k hk
  omega
theorem zrsh_w {f : Nat → Nat → Int} {s : Nat} {dx dy : Int} (hw : zrSw f s) (hf : zrFm f s) (hx : -1000 ≤ dx ∧ dx ≤ 1000) (hy : -1000 ≤ dy ∧ dy ≤ 1000) : zrSw (zrsh f s dx dy) s := by
  obtain ⟨w1, w2, w3⟩ := hw
  refine ⟨by rw [zrsh_o (by omega)]; exact w1, by rw [zrsh_o (by omega)]; exact w2, fun p hp => ?_⟩
  rw [zrsh_o (by omega)] at hp
  obtain ⟨p1, p2, p3⟩ := w3 p hp
  have en : zrN (zrsh f s dx dy) s p = zrN f s p := zrsh_o (by omega)
  refine ⟨by rw [en]; exact p1, by rw [en]; exact p2, fun k hk => ?_⟩
  rw [en] at hk
  have c := zrFm_c hf hp hk
  have ex : zrX (zrsh f s dx dy) s p k = zrX f s p k + dx := zrmp_x (by omega) (by omega) hk (by omega)
  have ey : zrY (zrsh f s dx dy) s p k = zrY f s p k + dy := zrmp_y (by omega) (by omega) hk (by omega)
  rw [ex, ey]
  omega
/-- the reference's frames, seen as the class keeps them -/
def zrfv (f : Nat → Nat → Int) : Nat → Nat → Int := fun b j => if j = 11 then zrsd f ((b - 14) / 14) 0 else if j = 13 then zrsd f ((b - 14) / 14) 2 else 0
theorem zrfv_l (f : Nat → Nat → Int) (v : Nat) : zrfv f (14 + 14 * v) 11 = zrsd f v 0 := by
  unfold zrfv
  rw [if_pos rfl, show (14 + 14 * v - 14) / 14 = v by omega]
theorem zrfv_r (f : Nat → Nat → Int) (v : Nat) : zrfv f (14 + 14 * v) 13 = zrsd f v 2 := by
  unfold zrfv
  rw [if_neg (by omega), if_pos rfl, show (14 + 14 * v - 14) / 14 = v by omega]
def zrgm (f : Nat → Nat → Int) (h : Nat → Nat → Int) (o : Nat → Int) (q r : Int) : Nat → Nat → Nat → Int
  | 0 => f
  | i + 1 => zrsh (zrgm f h o q r i) (o (i + 1)).toNat (zspd h o q r i) 0
theorem zrgm_s (f : Nat → Nat → Int) (h : Nat → Nat → Int) (o : Nat → Int) (q r : Int) (i : Nat) : zrgm f h o q r (i + 1) = zrsh (zrgm f h o q r i) (o (i + 1)).toNat (zspd h o q r i) 0 := rfl
theorem zrgm_o {f : Nat → Nat → Int} {h : Nat → Nat → Int} {o : Nat → Int} {q r : Int} {b j : Nat} (hb : b ≠ 1177 ∧ b ≠ 1178) : ∀ i, zrgm f h o q r i b j = f b j
  | 0 => rfl
  | i + 1 => by rw [zrgm_s, zrsh_o hb, zrgm_o hb i]
theorem zrgm_e {f : Nat → Nat → Int} {h : Nat → Nat → Int} {o : Nat → Int} {q r : Int} {u : Nat} : ∀ i, (∀ k, k < i → u ≠ (o (k + 1)).toNat) → zrEq (zrgm f h o q r i) f u
  | 0, _ => zrEq_r f u
  | i + 1, hk => by
    rw [zrgm_s]
    exact zrEq_t (zrEq_sh (hk i (by omega))) (zrgm_e i (fun k h2 => hk k (by omega)))
end ZRSPREAD
end SG_91_rspread
section SG_92_rspread2
/-! the reference: spread out, the method -/
section ZRSPREADB
variable {L : Nat} {M : zM} {s : Nat} {Q : zO → zM → Prop}
theorem zrfv_ok {f : Nat → Nat → Int} {o : Nat → Int} {n : Nat} (h1 : ∀ j, j < n → ∃ v : Nat, v < 60 ∧ zrFm f v ∧ o j = (v : Int)) (h2 : ∀ i j, i < n → j < n → o i = o j → i = j) : zsok (zrfv f) o n := by
  refine ⟨fun j hj => ?_, h2, fun j hj => ?_⟩
  · obtain ⟨v, a, b, c⟩ := h1 j hj
    exact ⟨v, a, c⟩
  · obtain ⟨v, a, ⟨⟨b1, b2, b3⟩, b4⟩, c⟩ := h1 j hj
    rw [c, Int.toNat_natCast]
    have e9 : ∀ s, zrfv f s 9 = 0 := fun s => rfl
    have e10 : ∀ s, zrfv f s 10 = 0 := fun s => rfl
    have e12 : ∀ s, zrfv f s 12 = 0 := fun s => rfl
    have e14 : ∀ s, zrfv f s 14 = 0 := fun s => rfl
    refine ⟨⟨by rw [e10]; omega, by rw [e9]; omega, fun p hp => ?_⟩, ?_, ?_⟩
    · rw [e10] at hp; omega
    · unfold zFm
      rw [zrfv_l, zrfv_r, e12, e14]
      omega
    · rw [zrfv_l, zrfv_r]
      exact b2
theorem zrgm_r {f0 f : Nat → Nat → Int} {o : Nat → Int} {q r : Int} {n : Nat} (hr : 0 ≤ r) (he : ∀ u, zrEq f f0 u) (h1 : ∀ j, j < n → ∃ v : Nat, v < 60 ∧ zrSw f0 v ∧ zrFm f0 v ∧ o j = (v : Int)) (h2 : ∀ i j, i < n → j < n → o i = o j → i = j) (hq : 0 ≤ q ∧ q ≤ 60) (B : ∀ i : Nat, i + 1 < n → 0 ≤ zspe (zrfv f0) o q r i ∧ zspe (zrfv f0) o q r i ≤ 60) : ∀ i : Nat, i + 1 < n → zrSw (zrgm f (zrfv f0) o q r i) (o i).toNat ∧ zrsd (zrgm f (zrfv f0) o q r i) (o i).toNat 2 = zspe (zrfv f0) o q r i := by
  intro i hi
  cases i with
  | zero =>
    obtain ⟨v, a, b, c, d⟩ := h1 0 (by omega)
    have e : zspe (zrfv f0) o q r 0 = zrfv f0 (14 + 14 * v) 13 := by
      unfold zspe zspw
      rw [d, Int.toNat_natCast]
      have : ((0 : Nat) : Int) * q = 0 := Int.zero_mul q
      omega
    rw [e, zrfv_r, d, Int.toNat_natCast]
    exact ⟨zrEq_w (he v) b, zrEq_d (he v) b 2⟩
  | succ i =>
    obtain ⟨v, a, b, c, d⟩ := h1 (i + 1) (by omega)
    have dst : ∀ k, k < i → v ≠ (o (k + 1)).toNat := by
      intro k hk e
      obtain ⟨u, a2, _, _, d2⟩ := h1 (k + 1) (by omega)
      have := h2 (k + 1) (i + 1) (by omega) (by omega) (by rw [d, d2]; rw [d2, Int.toNat_natCast] at e; omega)
      omega
    have eq : zrEq (zrgm f (zrfv f0) o q r i) f0 v := zrEq_t (zrgm_e i dst) (he v)
    have s1 := zspe_s (zrfv f0) o q r i
    have b1 := B i (by omega)
    have b2 := B (i + 1) (by omega)
    have sd : zspd (zrfv f0) o q r i = zspe (zrfv f0) o q r i + q + (if (i : Int) + 1 ≤ r then 1 else 0) - zrsd f0 v 0 := by
      unfold zspd
      rw [d, Int.toNat_natCast, zrfv_l]
    rw [d, Int.toNat_natCast, zrfv_r] at s1
    rw [zrgm_s, d, Int.toNat_natCast]
    obtain ⟨⟨c1, c2, c3⟩, c4, c5, c6⟩ := c
    have D := zrEq_d eq b
    have if1 : 0 ≤ (if (i : Int) + 1 ≤ r then (1 : Int) else 0) ∧ (if (i : Int) + 1 ≤ r then (1 : Int) else 0) ≤ 1 := by split <;> omega
    generalize (if (i : Int) + 1 ≤ r then (1 : Int) else 0) = w at *
    have fm : zrFm (zrgm f (zrfv f0) o q r i) v := ⟨by rw [D, D]; exact ⟨c1, c2, c3⟩, by rw [D, D]; exact ⟨c4, c5, c6⟩⟩
    have z := zrsh_d (dx := zspd (zrfv f0) o q r i) (dy := 0) (zrEq_w eq b) fm (by omega) (by rw [D, D]; omega) (by rw [D, D]; omega)
    refine ⟨zrsh_w (zrEq_w eq b) fm (by omega) (by omega), ?_⟩
    rw [z.2.2.1, D, s1]
    exact Int.add_comm _ _
def zrso (f : Nat → Nat → Int) (x : Int64) : Nat → Nat → Int := zua f 1188 (zrwo f x)
def zrsn (x : Int64) : Nat := zcnt (zbt x) 60
def zrsF (f : Nat → Nat → Int) (x : Int64) : Int := zsfr (zrfv f) (zrwo f x) (zrsn x)
def zrsq (f : Nat → Nat → Int) (x : Int64) : Int := zrsF f x / ((zrsn x : Int) - 1)
def zrsr (f : Nat → Nat → Int) (x : Int64) : Int := zrsF f x % ((zrsn x : Int) - 1)
theorem c231 {x : Int64} (hR : zLayN M.2.2.2) (hw : ∀ i, i < 60 → zbt x i = true → zrSw M.2.1 i ∧ zrFm M.2.1 i) : zFR (zK L) 231 0 (zcall 231 [.inr (.inr 1153), .inr (.inl x)]) [] M Q = (((3 ≤ zrsn x ∧ 0 ≤ zrsF M.2.1 x) → Q (.inl (some (.inl (zspn (zrfv M.2.1) (zrwo M.2.1 x) (zrsq M.2.1 x) (zrsr M.2.1 x) (zrsn x - 2) : Int)))) (zwI M (zrgm (zrso M.2.1 x) (zrfv M.2.1) (zrwo M.2.1 x) (zrsq M.2.1 x) (zrsr M.2.1 x) (zrsn x - 2)))) ∧ (¬ (3 ≤ zrsn x ∧ 0 ≤ zrsF M.2.1 x) → Q (.inl (some (.inl (-1)))) (zwI M (zrso M.2.1 x)))) := by
  have hF := hR.1
  unfold zLayG at hF
  have e232 := fun Q => c232 (L := L) (M := M) (Q := Q) (x := x) hR (fun i hi hb => (hw i hi hb).1)
  have n60 : zrsn x ≤ 60 := zcnt_le (zbt x) 60
  have hov : ∀ j, j < zrsn x → ∃ v : Nat, v < 60 ∧ zbt x v = true ∧ zrwo M.2.1 x j = (v : Int) := fun j hj => zord_v (zrwl M.2.1) (zbt x) (M.2.1 1188) 60 j hj
  have hinj : ∀ i j, i < zrsn x → j < zrsn x → zrwo M.2.1 x i = zrwo M.2.1 x j → i = j := zord_inj (zrwl M.2.1) (zbt x) (M.2.1 1188) 60
  have hec : zcnt (zbt x) 60 = zrsn x := rfl
  have hua : zua M.2.1 1188 (zrwo M.2.1 x) = zrso M.2.1 x := rfl
  rw [hec, hua] at e232
  have so1 : ∀ j, zrso M.2.1 x 1188 j = zrwo M.2.1 x j := fun j => zua_a
  have heq : ∀ u, zrEq (zrso M.2.1 x) M.2.1 u := fun u => zrEq_ua (by omega)
  have hnn : ∀ j, j < zrsn x → ∃ v : Nat, v < 60 ∧ zrSw M.2.1 v ∧ zrFm M.2.1 v ∧ zrwo M.2.1 x j = (v : Int) := fun j hj => by
    obtain ⟨v, a, b, c⟩ := hov j hj
    exact ⟨v, a, (hw v a b).1, (hw v a b).2, c⟩
  have hok : zsok (zrfv M.2.1) (zrwo M.2.1 x) (zrsn x) := zrfv_ok (fun j hj => by
    obtain ⟨v, a, b, c, d⟩ := hnn j hj
    exact ⟨v, a, c, d⟩) hinj
  have eq9 : zrsq M.2.1 x = zrsF M.2.1 x / ((zrsn x : Int) - 1) := rfl
  have er9 : zrsr M.2.1 x = zrsF M.2.1 x % ((zrsn x : Int) - 1) := rfl
  have eF9 : zrsF M.2.1 x = zsfr (zrfv M.2.1) (zrwo M.2.1 x) (zrsn x) := rfl
  generalize zrso M.2.1 x = g0 at *
  generalize zrwo M.2.1 x = o at *
  generalize zrsn x = n at *
  generalize zrsq M.2.1 x = q at *
  generalize zrsr M.2.1 x = r at *
  generalize zrsF M.2.1 x = F at *
  have e216 : ∀ (v w : Nat) (Q : zO → zM → Prop), v < 60 → w < 4 → zrSw M.2.1 v → ∀ g : Nat → Nat → Int, zrEq g M.2.1 v → zFR (zK L) 216 0 (zcall 216 [.inr (.inr 1153), .inl (v : Int), .inl (w : Int)]) [] (zwI M g) Q = Q (.inl (some (.inl (zrsd M.2.1 v w)))) (zwI M g) := by
    intro v w Q hv hw4 hs g hg
    have h := c216 (L := L) (M := zwI M g) (Q := Q) (s := v) (w := w) hR (by omega) hw4 (zrEq_w hg hs)
    rw [zwI_I, zrEq_d hg hs] at h
    exact h
  have pre : 3 ≤ n → ∀ Q9 : zO → zM → Prop, zFR (zK L) 231 87 [some (.inr (.inr 1153)), some (.inr (.inl x)), none, some (.inl (n : Int)), some (.inl F), some (.inl ((n : Int) - 1)), none, none, none] [] (zwI M g0) Q9 → zFR (zK L) 231 0 (zcall 231 [.inr (.inr 1153), .inr (.inl x)]) [] M Q9 := by
    intro h3 Q9 hend
    obtain ⟨v0, a0, b0, c0, d0⟩ := hnn 0 (by omega)
    obtain ⟨v1, a1, b1, c1, d1⟩ := hnn (n - 1) (by omega)
    have eF8 : F = zrsd M.2.1 v1 0 - zrsd M.2.1 v0 2 - zspw (zrfv M.2.1) o (n - 2) := by
      rw [eF9]
      unfold zsfr
      rw [d0, d1, Int.toNat_natCast, Int.toNat_natCast, zrfv_l, zrfv_r]
    have wb : ∀ i : Nat, i + 1 < n → 0 ≤ zspw (zrfv M.2.1) o i ∧ zspw (zrfv M.2.1) o i ≤ 60 * (i : Int) := by
      intro i hi
      refine ⟨zspw_0 hok hi, ?_⟩
      induction i with
      | zero => exact Int.le_refl _
      | succ i ih =>
        have := ih (by omega)
        obtain ⟨v, a, b, ⟨⟨c1, c2, c3⟩, c4⟩, d⟩ := hnn (i + 1) (by omega)
        rw [zspw_s, d, Int.toNat_natCast, zrfv_l, zrfv_r]
        omega
    obtain ⟨⟨c01, c02, c03⟩, c04⟩ := c0
    obtain ⟨⟨c11, c12, c13⟩, c14⟩ := c1
    have lp : ∀ i : Nat, i ≤ n - 2 → zFR (zK L) 231 43 [some (.inr (.inr 1153)), some (.inr (.inl x)), none, some (.inl (n : Int)), some (.inl (zrsd M.2.1 v1 0 - zrsd M.2.1 v0 2 - zspw (zrfv M.2.1) o i)), some (.inl ((i : Int) + 1)), none, none, none] [] (zwI M g0) Q9 := by
      refine zloop ?_ ?_
      · rw [← eF8, show ((n - 2 : Nat) : Int) + 1 = (n : Int) - 1 by omega]
        refine zW_sound 60 [51, 87] ?_
        simp only [ZR231, zW_succ, zE_iload, zE_aload, zE_lload, zE_iinc, zE_istore, zE_astore, zE_lstore, zE_iconst, zE_ldc2, zE_iadd, zE_isub, zE_imul, zE_idiv, zE_irem, zE_ineg, zE_iand, zE_ior, zE_ixor, zE_ishl, zE_ishr, zE_land, zE_lor, zE_lxor, zE_lshl, zE_lshr, zE_i2l, zE_lcmp, zE_dup_i, zE_dup_a, zE_dup2_ia, zE_pop_i, zE_pop_a, zE_pop2, zE_goto, zE_if_eq, zE_icmp_eq, zE_if_ne, zE_icmp_ne, zE_if_lt, zE_icmp_lt, zE_if_ge, zE_icmp_ge, zE_if_gt, zE_icmp_gt, zE_if_le, zE_icmp_le, zE_iaload, zE_baload, zE_laload, zE_aaload, zE_iastore, zE_bastore, zE_lastore, zE_aastore, zE_alen, zE_getf0, zE_getf1, zE_getf2, zE_getf3, zE_putf0, zE_putf1, zE_putf2, zE_putf3, zE_new, zE_newa, zE_newq, zE_ireturn, zE_lreturn, zE_areturn, zE_return, zE_athrow, zE_st0, zE_vi0, zE_st1, zE_vi1, zE_st2, zE_vi2, zE_st3, zE_vi3, zE_st4, zE_vi4, zE_st5, zE_vi5, zE_st6, zE_vi6, zE_st7, zE_vi7, zE_st8, zE_vi8, zSt_0, zSL_0, zSt_1n, zSt_1i, zSt_1a, zSt_1l, zSt_2n, zSt_2i, zSt_2a, zSt_2l, zSt_3n, zSt_3i, zSt_3a, zSt_3l, zSt_4n, zSt_4i, zSt_4a, zSt_4l, zSt_5n, zSt_5i, zSt_5a, zSt_5l, zSt_6n, zSt_6i, zSt_6a, zSt_6l, zSt_7n, zSt_7i, zSt_7a, zSt_7l, zSt_8n, zSt_8i, zSt_8a, zSt_8l, zSt_9n, zSt_9i, zSt_9a, zSt_9l, zSt_10n, zSt_10i, zSt_10a, zSt_10l, zSt_11n, zSt_11i, zSt_11a, zSt_11l, zSt_12n, zSt_12i, zSt_12a, zSt_12l, zSt_13n, zSt_13i, zSt_13a, zSt_13l, zSL_1n, zSL_1i, zSL_1a, zSL_1l, zSL_2n, zSL_2i, zSL_2a, zSL_2l, zSL_3n, zSL_3i, zSL_3a, zSL_3l, zSL_4n, zSL_4i, zSL_4a, zSL_4l, zSL_5n, zSL_5i, zSL_5a, zSL_5l, zSL_6n, zSL_6i, zSL_6a, zSL_6l, zSL_7n, zSL_7i, zSL_7a, zSL_7l, zSL_8n, zSL_8i, zSL_8a, zSL_8l, zSL_9n, zSL_9i, zSL_9a, zSL_9l, zSL_10n, zSL_10i, zSL_10a, zSL_10l, zSL_11n, zSL_11i, zSL_11a, zSL_11l, zSL_12n, zSL_12i, zSL_12a, zSL_12l, zLI_0, zLL_0, zLA_0, zLI_1, zLL_1, zLA_1, zLI_2, zLL_2, zLA_2, zLI_3, zLL_3, zLA_3, zLI_4, zLL_4, zLA_4, zLI_5, zLL_5, zLA_5, zLI_6, zLL_6, zLA_6, zLI_7, zLL_7, zLA_7, zLI_8, zLL_8, zLA_8, zLI_9, zLL_9, zLA_9, zLI_10, zLL_10, zLA_10, zLI_11, zLL_11, zLA_11, zLI_12, zLL_12, zLA_12, zLI_13, zLL_13, zLA_13, zst_0, zst_1n, zst_1i, zst_1a, zst_2n, zst_2i, zst_2a, zst_3n, zst_3i, zst_3a, zst_4n, zst_4i, zst_4a, zst_5n, zst_5i, zst_5a, zst_6n, zst_6i, zst_6a, zst_7n, zst_7i, zst_7a, zst_8n, zst_8i, zst_8a, zst_9n, zst_9i, zst_9a, zst_10n, zst_10i, zst_10a, zst_11n, zst_11i, zst_11a, zst_12n, zst_12i, zst_12a, zst_13n, zst_13i, zst_13a, zst_14n, zst_14i, zst_14a, zst_15n, zst_15i, zst_15a, zR1_n, zR1_v, zsum_n, zsum_i, zsum_l, zsum_a, zlen_n, zlen_i, zlen_l, zlen_a, List.not_mem_nil, List.mem_cons, or_false, false_or, or_self, ↓reduceIte, if_false, if_true, Nat.reduceEqDiff, Nat.reduceAdd, Nat.reduceLeDiff, true_and, and_true, reduceCtorEq, ne_eq, Int.toNat_natCast, not_true_eq_false, not_false_eq_true, true_implies, false_implies, implies_true, Int.reduceToNat, Int.toNat_zero, Int.reduceLT, Int.reduceLE, Int.reduceEq, Int.reduceAdd, Int.reduceMul, Int.reduceNeg]
        exact ⟨by unfold zr32; omega, fun _ => hend, fun h => absurd (by omega) h⟩
      · intro i hi ih
        obtain ⟨v, a, b, ⟨⟨c1, c2, c3⟩, c4⟩, d⟩ := hnn (i + 1) (by omega)
        have w1 := wb i (by omega)
        have s1 := zspw_s (zrfv M.2.1) o i
        rw [d, Int.toNat_natCast, zrfv_l, zrfv_r] at s1
        have eT : ((i : Int) + 1).toNat = i + 1 := by omega
        have x0 := fun Q => e216 v 0 Q a (by omega) b g0 (heq v)
        have x2 := fun Q => e216 v 2 Q a (by omega) b g0 (heq v)
        rw [show ((0 : Nat) : Int) = 0 from rfl] at x0
        rw [show ((2 : Nat) : Int) = 2 from rfl] at x2
        generalize zspw (zrfv M.2.1) o i = W at *
        generalize zspw (zrfv M.2.1) o (i + 1) = W' at *
        rw [show zrsd M.2.1 v1 0 - zrsd M.2.1 v0 2 - W' = zrsd M.2.1 v1 0 - zrsd M.2.1 v0 2 - W - (zrsd M.2.1 v 2 - zrsd M.2.1 v 0) by omega] at ih
        refine zW_sound 60 [43, 87] ?_
        simp only [ZR231, zk_1153, zk_1188, hF, zwI_I, zwI_2, so1, eT, d, ZF216.1, ZF216.2.1, ZF216.2.2.1, x0, x2, zW_succ, zE_iload, zE_aload, zE_lload, zE_iinc, zE_istore, zE_astore, zE_lstore, zE_iconst, zE_ldc2, zE_iadd, zE_isub, zE_imul, zE_idiv, zE_irem, zE_ineg, zE_iand, zE_ior, zE_ixor, zE_ishl, zE_ishr, zE_land, zE_lor, zE_lxor, zE_lshl, zE_lshr, zE_i2l, zE_lcmp, zE_dup_i, zE_dup_a, zE_dup2_ia, zE_pop_i, zE_pop_a, zE_pop2, zE_goto, zE_if_eq, zE_icmp_eq, zE_if_ne, zE_icmp_ne, zE_if_lt, zE_icmp_lt, zE_if_ge, zE_icmp_ge, zE_if_gt, zE_icmp_gt, zE_if_le, zE_icmp_le, zE_iaload, zE_baload, zE_laload, zE_aaload, zE_iastore, zE_bastore, zE_lastore, zE_aastore, zE_alen, zE_getf0, zE_getf1, zE_getf2, zE_getf3, zE_putf0, zE_putf1, zE_putf2, zE_putf3, zE_new, zE_newa, zE_newq, zE_ireturn, zE_lreturn, zE_areturn, zE_return, zE_athrow, zE_st0, zE_vi0, zE_st1, zE_vi1, zE_st2, zE_vi2, zE_st3, zE_vi3, zE_st4, zE_vi4, zE_st5, zE_vi5, zE_st6, zE_vi6, zE_st7, zE_vi7, zE_st8, zE_vi8, zSt_0, zSL_0, zSt_1n, zSt_1i, zSt_1a, zSt_1l, zSt_2n, zSt_2i, zSt_2a, zSt_2l, zSt_3n, zSt_3i, zSt_3a, zSt_3l, zSt_4n, zSt_4i, zSt_4a, zSt_4l, zSt_5n, zSt_5i, zSt_5a, zSt_5l, zSt_6n, zSt_6i, zSt_6a, zSt_6l, zSt_7n, zSt_7i, zSt_7a, zSt_7l, zSt_8n, zSt_8i, zSt_8a, zSt_8l, zSt_9n, zSt_9i, zSt_9a, zSt_9l, zSt_10n, zSt_10i, zSt_10a, zSt_10l, zSt_11n, zSt_11i, zSt_11a, zSt_11l, zSt_12n, zSt_12i, zSt_12a, zSt_12l, zSt_13n, zSt_13i, zSt_13a, zSt_13l, zSL_1n, zSL_1i, zSL_1a, zSL_1l, zSL_2n, zSL_2i, zSL_2a, zSL_2l, zSL_3n, zSL_3i, zSL_3a, zSL_3l, zSL_4n, zSL_4i, zSL_4a, zSL_4l, zSL_5n, zSL_5i, zSL_5a, zSL_5l, zSL_6n, zSL_6i, zSL_6a, zSL_6l, zSL_7n, zSL_7i, zSL_7a, zSL_7l, zSL_8n, zSL_8i, zSL_8a, zSL_8l, zSL_9n, zSL_9i, zSL_9a, zSL_9l, zSL_10n, zSL_10i, zSL_10a, zSL_10l, zSL_11n, zSL_11i, zSL_11a, zSL_11l, zSL_12n, zSL_12i, zSL_12a, zSL_12l, zLI_0, zLL_0, zLA_0, zLI_1, zLL_1, zLA_1, zLI_2, zLL_2, zLA_2, zLI_3, zLL_3, zLA_3, zLI_4, zLL_4, zLA_4, zLI_5, zLL_5, zLA_5, zLI_6, zLL_6, zLA_6, zLI_7, zLL_7, zLA_7, zLI_8, zLL_8, zLA_8, zLI_9, zLL_9, zLA_9, zLI_10, zLL_10, zLA_10, zLI_11, zLL_11, zLA_11, zLI_12, zLL_12, zLA_12, zLI_13, zLL_13, zLA_13, zst_0, zst_1n, zst_1i, zst_1a, zst_2n, zst_2i, zst_2a, zst_3n, zst_3i, zst_3a, zst_4n, zst_4i, zst_4a, zst_5n, zst_5i, zst_5a, zst_6n, zst_6i, zst_6a, zst_7n, zst_7i, zst_7a, zst_8n, zst_8i, zst_8a, zst_9n, zst_9i, zst_9a, zst_10n, zst_10i, zst_10a, zst_11n, zst_11i, zst_11a, zst_12n, zst_12i, zst_12a, zst_13n, zst_13i, zst_13a, zst_14n, zst_14i, zst_14a, zst_15n, zst_15i, zst_15a, zR1_n, zR1_v, zsum_n, zsum_i, zsum_l, zsum_a, zlen_n, zlen_i, zlen_l, zlen_a, List.not_mem_nil, List.mem_cons, or_false, false_or, or_self, ↓reduceIte, if_false, if_true, Nat.reduceEqDiff, Nat.reduceAdd, Nat.reduceLeDiff, true_and, and_true, reduceCtorEq, ne_eq, Int.toNat_natCast, not_true_eq_false, not_false_eq_true, true_implies, false_implies, implies_true, Int.reduceToNat, Int.toNat_zero, Int.reduceLT, Int.reduceLE, Int.reduceEq, Int.reduceAdd, Int.reduceMul, Int.reduceNeg]
        exact ⟨by unfold zr32; omega, fun h => absurd h (by omega), fun _ => ⟨by omega, by omega, by unfold zr32; omega, by unfold zr32; omega, by unfold zr32; omega, ih⟩⟩
    have x0 := fun Q => e216 v1 0 Q a1 (by omega) b1 g0 (heq v1)
    have x2 := fun Q => e216 v0 2 Q a0 (by omega) b0 g0 (heq v0)
    rw [show ((0 : Nat) : Int) = 0 from rfl] at x0
    rw [show ((2 : Nat) : Int) = 2 from rfl] at x2
    have o9 := lp 0 (Nat.zero_le _)
    have ew : zspw (zrfv M.2.1) o 0 = 0 := rfl
    rw [ew, Int.sub_zero, show ((0 : Nat) : Int) + 1 = 1 from rfl] at o9
    have eT : ((n : Int) - 1).toNat = n - 1 := by omega
    refine zW_sound 60 [43] ?_
    simp only [ZF231, ZR231, ZF232.1, ZF232.2.1, ZF232.2.2.1, e232, zk_1153, zk_1188, hF, zwI_I, zwI_2, so1, eT, d0, d1, ZF216.1, ZF216.2.1, ZF216.2.2.1, x0, x2, zW_succ, zE_iload, zE_aload, zE_lload, zE_iinc, zE_istore, zE_astore, zE_lstore, zE_iconst, zE_ldc2, zE_iadd, zE_isub, zE_imul, zE_idiv, zE_irem, zE_ineg, zE_iand, zE_ior, zE_ixor, zE_ishl, zE_ishr, zE_land, zE_lor, zE_lxor, zE_lshl, zE_lshr, zE_i2l, zE_lcmp, zE_dup_i, zE_dup_a, zE_dup2_ia, zE_pop_i, zE_pop_a, zE_pop2, zE_goto, zE_if_eq, zE_icmp_eq, zE_if_ne, zE_icmp_ne, zE_if_lt, zE_icmp_lt, zE_if_ge, zE_icmp_ge, zE_if_gt, zE_icmp_gt, zE_if_le, zE_icmp_le, zE_iaload, zE_baload, zE_laload, zE_aaload, zE_iastore, zE_bastore, zE_lastore, zE_aastore, zE_alen, zE_getf0, zE_getf1, zE_getf2, zE_getf3, zE_putf0, zE_putf1, zE_putf2, zE_putf3, zE_new, zE_newa, zE_newq, zE_ireturn, zE_lreturn, zE_areturn, zE_return, zE_athrow, zE_st0, zE_vi0, zE_st1, zE_vi1, zE_st2, zE_vi2, zE_st3, zE_vi3, zE_st4, zE_vi4, zE_st5, zE_vi5, zE_st6, zE_vi6, zE_st7, zE_vi7, zE_st8, zE_vi8, zSt_0, zSL_0, zSt_1n, zSt_1i, zSt_1a, zSt_1l, zSt_2n, zSt_2i, zSt_2a, zSt_2l, zSt_3n, zSt_3i, zSt_3a, zSt_3l, zSt_4n, zSt_4i, zSt_4a, zSt_4l, zSt_5n, zSt_5i, zSt_5a, zSt_5l, zSt_6n, zSt_6i, zSt_6a, zSt_6l, zSt_7n, zSt_7i, zSt_7a, zSt_7l, zSt_8n, zSt_8i, zSt_8a, zSt_8l, zSt_9n, zSt_9i, zSt_9a, zSt_9l, zSt_10n, zSt_10i, zSt_10a, zSt_10l, zSt_11n, zSt_11i, zSt_11a, zSt_11l, zSt_12n, zSt_12i, zSt_12a, zSt_12l, zSt_13n, zSt_13i, zSt_13a, zSt_13l, zSL_1n, zSL_1i, zSL_1a, zSL_1l, zSL_2n, zSL_2i, zSL_2a, zSL_2l, zSL_3n, zSL_3i, zSL_3a, zSL_3l, zSL_4n, zSL_4i, zSL_4a, zSL_4l, zSL_5n, zSL_5i, zSL_5a, zSL_5l, zSL_6n, zSL_6i, zSL_6a, zSL_6l, zSL_7n, zSL_7i, zSL_7a, zSL_7l, zSL_8n, zSL_8i, zSL_8a, zSL_8l, zSL_9n, zSL_9i, zSL_9a, zSL_9l, zSL_10n, zSL_10i, zSL_10a, zSL_10l, zSL_11n, zSL_11i, zSL_11a, zSL_11l, zSL_12n, zSL_12i, zSL_12a, zSL_12l, zLI_0, zLL_0, zLA_0, zLI_1, zLL_1, zLA_1, zLI_2, zLL_2, zLA_2, zLI_3, zLL_3, zLA_3, zLI_4, zLL_4, zLA_4, zLI_5, zLL_5, zLA_5, zLI_6, zLL_6, zLA_6, zLI_7, zLL_7, zLA_7, zLI_8, zLL_8, zLA_8, zLI_9, zLL_9, zLA_9, zLI_10, zLL_10, zLA_10, zLI_11, zLL_11, zLA_11, zLI_12, zLL_12, zLA_12, zLI_13, zLL_13, zLA_13, zst_0, zst_1n, zst_1i, zst_1a, zst_2n, zst_2i, zst_2a, zst_3n, zst_3i, zst_3a, zst_4n, zst_4i, zst_4a, zst_5n, zst_5i, zst_5a, zst_6n, zst_6i, zst_6a, zst_7n, zst_7i, zst_7a, zst_8n, zst_8i, zst_8a, zst_9n, zst_9i, zst_9a, zst_10n, zst_10i, zst_10a, zst_11n, zst_11i, zst_11a, zst_12n, zst_12i, zst_12a, zst_13n, zst_13i, zst_13a, zst_14n, zst_14i, zst_14a, zst_15n, zst_15i, zst_15a, zR1_n, zR1_v, zsum_n, zsum_i, zsum_l, zsum_a, zlen_n, zlen_i, zlen_l, zlen_a, List.not_mem_nil, List.mem_cons, or_false, false_or, or_self, ↓reduceIte, if_false, if_true, Nat.reduceEqDiff, Nat.reduceAdd, Nat.reduceLeDiff, true_and, and_true, reduceCtorEq, ne_eq, Int.toNat_natCast, not_true_eq_false, not_false_eq_true, true_implies, false_implies, implies_true, Int.reduceToNat, Int.toNat_zero, Int.reduceLT, Int.reduceLE, Int.reduceEq, Int.reduceAdd, Int.reduceMul, Int.reduceNeg]
    refine ⟨fun _ => ?_, fun h => absurd (by omega) h⟩
    repeat (first | refine ⟨by unfold zr32; omega, ?_⟩ | refine ⟨by omega, ?_⟩ | refine ⟨?_, by omega⟩ | intro _)
    exact o9
  by_cases h3 : 3 ≤ n
  · by_cases h0 : 0 ≤ F
    · have run : zFR (zK L) 231 0 (zcall 231 [.inr (.inr 1153), .inr (.inl x)]) [] M (fun rr M2 => rr = .inl (some (.inl (zspn (zrfv M.2.1) o q r (n - 2) : Int))) ∧ M2 = zwI M (zrgm g0 (zrfv M.2.1) o q r (n - 2))) := by
        generalize hQ : (fun (rr : zO) M2 => rr = .inl (some (.inl (zspn (zrfv M.2.1) o q r (n - 2) : Int))) ∧ M2 = zwI M (zrgm g0 (zrfv M.2.1) o q r (n - 2))) = Q9
        refine pre h3 Q9 ?_
        have B : ∀ i : Nat, i + 1 < n → 0 ≤ zspe (zrfv M.2.1) o q r i ∧ zspe (zrfv M.2.1) o q r i ≤ 60 := by
          intro i hi
          have h := zspe_b hok h3 hi (by rw [← eF9]; exact h0)
          rw [← eF9, ← eq9, ← er9] at h
          exact h
        have F60 : F ≤ 60 := by
          obtain ⟨v0, a0, b0, ⟨⟨c01, c02, c03⟩, c04⟩, d0⟩ := hnn 0 (by omega)
          obtain ⟨v1, a1, b1, ⟨⟨c11, c12, c13⟩, c14⟩, d1⟩ := hnn (n - 1) (by omega)
          have w0 := zspw_0 (i := n - 2) hok (by omega)
          rw [eF9]
          unfold zsfr
          rw [d0, d1, Int.toNat_natCast, Int.toNat_natCast, zrfv_l, zrfv_r]
          omega
        have eq1 : F.tdiv ((n : Int) - 1) = q := by rw [eq9]; exact Int.tdiv_eq_ediv_of_nonneg h0
        have eq2 : F.tmod ((n : Int) - 1) = r := by rw [er9]; exact Int.tmod_eq_emod_of_nonneg h0
        have hq : 0 ≤ q := by rw [eq9]; exact Int.ediv_nonneg h0 (by omega)
        have hq2 : q ≤ F := by rw [eq9]; exact Int.ediv_le_self _ h0
        have hr : 0 ≤ r := by rw [er9]; exact Int.emod_nonneg F (by omega)
        have R := zrgm_r (q := q) hr heq hnn hinj ⟨hq, by omega⟩ B
        have loop : ∀ i : Nat, i ≤ n - 2 → ∀ y7 y8, zFR (zK L) 231 100 [some (.inr (.inr 1153)), some (.inr (.inl x)), none, some (.inl (n : Int)), some (.inl F), some (.inl (zspn (zrfv M.2.1) o q r i : Int)), some (.inl ((i : Int) + 1)), y7, y8] [] (zwI M (zrgm g0 (zrfv M.2.1) o q r i)) Q9 := by
          refine zloop ?_ ?_
          · intro y7 y8
            refine zW_sound 60 [108] ?_
            simp only [ZR231, zW_succ, zE_iload, zE_aload, zE_lload, zE_iinc, zE_istore, zE_astore, zE_lstore, zE_iconst, zE_ldc2, zE_iadd, zE_isub, zE_imul, zE_idiv, zE_irem, zE_ineg, zE_iand, zE_ior, zE_ixor, zE_ishl, zE_ishr, zE_land, zE_lor, zE_lxor, zE_lshl, zE_lshr, zE_i2l, zE_lcmp, zE_dup_i, zE_dup_a, zE_dup2_ia, zE_pop_i, zE_pop_a, zE_pop2, zE_goto, zE_if_eq, zE_icmp_eq, zE_if_ne, zE_icmp_ne, zE_if_lt, zE_icmp_lt, zE_if_ge, zE_icmp_ge, zE_if_gt, zE_icmp_gt, zE_if_le, zE_icmp_le, zE_iaload, zE_baload, zE_laload, zE_aaload, zE_iastore, zE_bastore, zE_lastore, zE_aastore, zE_alen, zE_getf0, zE_getf1, zE_getf2, zE_getf3, zE_putf0, zE_putf1, zE_putf2, zE_putf3, zE_new, zE_newa, zE_newq, zE_ireturn, zE_lreturn, zE_areturn, zE_return, zE_athrow, zE_st0, zE_vi0, zE_st1, zE_vi1, zE_st2, zE_vi2, zE_st3, zE_vi3, zE_st4, zE_vi4, zE_st5, zE_vi5, zE_st6, zE_vi6, zE_st7, zE_vi7, zE_st8, zE_vi8, zSt_0, zSL_0, zSt_1n, zSt_1i, zSt_1a, zSt_1l, zSt_2n, zSt_2i, zSt_2a, zSt_2l, zSt_3n, zSt_3i, zSt_3a, zSt_3l, zSt_4n, zSt_4i, zSt_4a, zSt_4l, zSt_5n, zSt_5i, zSt_5a, zSt_5l, zSt_6n, zSt_6i, zSt_6a, zSt_6l, zSt_7n, zSt_7i, zSt_7a, zSt_7l, zSt_8n, zSt_8i, zSt_8a, zSt_8l, zSt_9n, zSt_9i, zSt_9a, zSt_9l, zSt_10n, zSt_10i, zSt_10a, zSt_10l, zSt_11n, zSt_11i, zSt_11a, zSt_11l, zSt_12n, zSt_12i, zSt_12a, zSt_12l, zSt_13n, zSt_13i, zSt_13a, zSt_13l, zSL_1n, zSL_1i, zSL_1a, zSL_1l, zSL_2n, zSL_2i, zSL_2a, zSL_2l, zSL_3n, zSL_3i, zSL_3a, zSL_3l, zSL_4n, zSL_4i, zSL_4a, zSL_4l, zSL_5n, zSL_5i, zSL_5a, zSL_5l, zSL_6n, zSL_6i, zSL_6a, zSL_6l, zSL_7n, zSL_7i, zSL_7a, zSL_7l, zSL_8n, zSL_8i, zSL_8a, zSL_8l, zSL_9n, zSL_9i, zSL_9a, zSL_9l, zSL_10n, zSL_10i, zSL_10a, zSL_10l, zSL_11n, zSL_11i, zSL_11a, zSL_11l, zSL_12n, zSL_12i, zSL_12a, zSL_12l, zLI_0, zLL_0, zLA_0, zLI_1, zLL_1, zLA_1, zLI_2, zLL_2, zLA_2, zLI_3, zLL_3, zLA_3, zLI_4, zLL_4, zLA_4, zLI_5, zLL_5, zLA_5, zLI_6, zLL_6, zLA_6, zLI_7, zLL_7, zLA_7, zLI_8, zLL_8, zLA_8, zLI_9, zLL_9, zLA_9, zLI_10, zLL_10, zLA_10, zLI_11, zLL_11, zLA_11, zLI_12, zLL_12, zLA_12, zLI_13, zLL_13, zLA_13, zst_0, zst_1n, zst_1i, zst_1a, zst_2n, zst_2i, zst_2a, zst_3n, zst_3i, zst_3a, zst_4n, zst_4i, zst_4a, zst_5n, zst_5i, zst_5a, zst_6n, zst_6i, zst_6a, zst_7n, zst_7i, zst_7a, zst_8n, zst_8i, zst_8a, zst_9n, zst_9i, zst_9a, zst_10n, zst_10i, zst_10a, zst_11n, zst_11i, zst_11a, zst_12n, zst_12i, zst_12a, zst_13n, zst_13i, zst_13a, zst_14n, zst_14i, zst_14a, zst_15n, zst_15i, zst_15a, zR1_n, zR1_v, zsum_n, zsum_i, zsum_l, zsum_a, zlen_n, zlen_i, zlen_l, zlen_a, List.not_mem_nil, List.mem_cons, or_false, false_or, or_self, ↓reduceIte, if_false, if_true, Nat.reduceEqDiff, Nat.reduceAdd, Nat.reduceLeDiff, true_and, and_true, reduceCtorEq, ne_eq, Int.toNat_natCast, not_true_eq_false, not_false_eq_true, true_implies, false_implies, implies_true, Int.reduceToNat, Int.toNat_zero, Int.reduceLT, Int.reduceLE, Int.reduceEq, Int.reduceAdd, Int.reduceMul, Int.reduceNeg]
            subst hQ
            exact ⟨by unfold zr32; omega, fun _ => ⟨rfl, rfl⟩, fun h => absurd (by omega) h⟩
          · intro i hi ih y7 y8
            obtain ⟨v, a, b, c, d⟩ := hnn (i + 1) (by omega)
            obtain ⟨u, au, bu, cu, du⟩ := hnn i (by omega)
            have dst : ∀ k, k < i → v ≠ (o (k + 1)).toNat := by
              intro k hk e
              obtain ⟨w, a2, _, _, d2⟩ := hnn (k + 1) (by omega)
              have := hinj (k + 1) (i + 1) (by omega) (by omega) (by rw [d, d2]; rw [d2, Int.toNat_natCast] at e; omega)
              omega
            have eqv : zrEq (zrgm g0 (zrfv M.2.1) o q r i) M.2.1 v := zrEq_t (zrgm_e i dst) (heq v)
            have Ri := R i (by omega)
            have s1 := zspe_s (zrfv M.2.1) o q r i
            have b1 := B i (by omega)
            have b2 := B (i + 1) (by omega)
            have hns := zspn_s (zrfv M.2.1) o q r i
            have on : zspn (zrfv M.2.1) o q r i ≤ i := zcnt_le _ i
            have sd : zspd (zrfv M.2.1) o q r i = zspe (zrfv M.2.1) o q r i + q + (if (i : Int) + 1 ≤ r then 1 else 0) - zrsd M.2.1 v 0 := by
              unfold zspd
              rw [d, Int.toNat_natCast, zrfv_l]
            obtain ⟨ug, Ri⟩ := Ri
            rw [du, Int.toNat_natCast] at ug Ri
            have vg : zrSw (zrgm g0 (zrfv M.2.1) o q r i) v := zrEq_w eqv b
            have dv0 : zrsd (zrgm g0 (zrfv M.2.1) o q r i) v 0 = zrsd M.2.1 v 0 := zrEq_d eqv b 0
            have eg : ∀ j, zrgm g0 (zrfv M.2.1) o q r i 1188 j = o j := fun j => (zrgm_o (by omega) i).trans (so1 j)
            have hms := zrgm_s g0 (zrfv M.2.1) o q r i
            rw [d, Int.toNat_natCast] at hms
            rw [d, Int.toNat_natCast, zrfv_r] at s1
            obtain ⟨⟨cv1, cv2, cv3⟩, cv4⟩ := c
            generalize zrgm g0 (zrfv M.2.1) o q r i = m at *
            generalize zspe (zrfv M.2.1) o q r i = E at *
            generalize zspe (zrfv M.2.1) o q r (i + 1) = E' at *
            generalize zspn (zrfv M.2.1) o q r i = cc at *
            generalize zspd (zrfv M.2.1) o q r i = dd at *
            have x2 := fun Q => c216 (L := L) (M := zwI M m) (Q := Q) (s := u) (w := 2) hR (by omega) (by omega) ug
            have x0 := fun Q => c216 (L := L) (M := zwI M m) (Q := Q) (s := v) (w := 0) hR (by omega) (by omega) vg
            rw [zwI_I, Ri, show ((2 : Nat) : Int) = 2 from rfl] at x2
            rw [zwI_I, dv0, show ((0 : Nat) : Int) = 0 from rfl] at x0
            have dB : -1000 ≤ dd ∧ dd ≤ 1000 := by
              rw [sd]
              split <;> omega
            have x7 : ∀ Q : zO → zM → Prop, zFR (zK L) 217 0 (zcall 217 [.inr (.inr 1153), .inl (v : Int), .inl dd, .inl 0]) [] (zwI M m) Q = Q (.inl none) (zwI M (zrsh m v dd 0)) := fun Q => c217 (M := zwI M m) hR (by omega) vg dB (by omega)
            have eT : ((i : Int) + 1).toNat = i + 1 := by omega
            have eU : ((i : Int) + 1 - 1).toNat = i := by omega
            have next : ∀ (c' : Nat), c' = zspn (zrfv M.2.1) o q r (i + 1) → ∀ y, zFR (zK L) 231 194 [some (.inr (.inr 1153)), some (.inr (.inl x)), none, some (.inl (n : Int)), some (.inl F), some (.inl (c' : Int)), some (.inl ((i : Int) + 1)), y, some (.inl dd)] [] (zwI M (zrsh m v dd 0)) Q9 := by
              intro c' hc y
              refine zW_sound 60 [100] ?_
              simp only [ZR231, zW_succ, zE_iload, zE_aload, zE_lload, zE_iinc, zE_istore, zE_astore, zE_lstore, zE_iconst, zE_ldc2, zE_iadd, zE_isub, zE_imul, zE_idiv, zE_irem, zE_ineg, zE_iand, zE_ior, zE_ixor, zE_ishl, zE_ishr, zE_land, zE_lor, zE_lxor, zE_lshl, zE_lshr, zE_i2l, zE_lcmp, zE_dup_i, zE_dup_a, zE_dup2_ia, zE_pop_i, zE_pop_a, zE_pop2, zE_goto, zE_if_eq, zE_icmp_eq, zE_if_ne, zE_icmp_ne, zE_if_lt, zE_icmp_lt, zE_if_ge, zE_icmp_ge, zE_if_gt, zE_icmp_gt, zE_if_le, zE_icmp_le, zE_iaload, zE_baload, zE_laload, zE_aaload, zE_iastore, zE_bastore, zE_lastore, zE_aastore, zE_alen, zE_getf0, zE_getf1, zE_getf2, zE_getf3, zE_putf0, zE_putf1, zE_putf2, zE_putf3, zE_new, zE_newa, zE_newq, zE_ireturn, zE_lreturn, zE_areturn, zE_return, zE_athrow, zE_st0, zE_vi0, zE_st1, zE_vi1, zE_st2, zE_vi2, zE_st3, zE_vi3, zE_st4, zE_vi4, zE_st5, zE_vi5, zE_st6, zE_vi6, zE_st7, zE_vi7, zE_st8, zE_vi8, zSt_0, zSL_0, zSt_1n, zSt_1i, zSt_1a, zSt_1l, zSt_2n, zSt_2i, zSt_2a, zSt_2l, zSt_3n, zSt_3i, zSt_3a, zSt_3l, zSt_4n, zSt_4i, zSt_4a, zSt_4l, zSt_5n, zSt_5i, zSt_5a, zSt_5l, zSt_6n, zSt_6i, zSt_6a, zSt_6l, zSt_7n, zSt_7i, zSt_7a, zSt_7l, zSt_8n, zSt_8i, zSt_8a, zSt_8l, zSt_9n, zSt_9i, zSt_9a, zSt_9l, zSt_10n, zSt_10i, zSt_10a, zSt_10l, zSt_11n, zSt_11i, zSt_11a, zSt_11l, zSt_12n, zSt_12i, zSt_12a, zSt_12l, zSt_13n, zSt_13i, zSt_13a, zSt_13l, zSL_1n, zSL_1i, zSL_1a, zSL_1l, zSL_2n, zSL_2i, zSL_2a, zSL_2l, zSL_3n, zSL_3i, zSL_3a, zSL_3l, zSL_4n, zSL_4i, zSL_4a, zSL_4l, zSL_5n, zSL_5i, zSL_5a, zSL_5l, zSL_6n, zSL_6i, zSL_6a, zSL_6l, zSL_7n, zSL_7i, zSL_7a, zSL_7l, zSL_8n, zSL_8i, zSL_8a, zSL_8l, zSL_9n, zSL_9i, zSL_9a, zSL_9l, zSL_10n, zSL_10i, zSL_10a, zSL_10l, zSL_11n, zSL_11i, zSL_11a, zSL_11l, zSL_12n, zSL_12i, zSL_12a, zSL_12l, zLI_0, zLL_0, zLA_0, zLI_1, zLL_1, zLA_1, zLI_2, zLL_2, zLA_2, zLI_3, zLL_3, zLA_3, zLI_4, zLL_4, zLA_4, zLI_5, zLL_5, zLA_5, zLI_6, zLL_6, zLA_6, zLI_7, zLL_7, zLA_7, zLI_8, zLL_8, zLA_8, zLI_9, zLL_9, zLA_9, zLI_10, zLL_10, zLA_10, zLI_11, zLL_11, zLA_11, zLI_12, zLL_12, zLA_12, zLI_13, zLL_13, zLA_13, zst_0, zst_1n, zst_1i, zst_1a, zst_2n, zst_2i, zst_2a, zst_3n, zst_3i, zst_3a, zst_4n, zst_4i, zst_4a, zst_5n, zst_5i, zst_5a, zst_6n, zst_6i, zst_6a, zst_7n, zst_7i, zst_7a, zst_8n, zst_8i, zst_8a, zst_9n, zst_9i, zst_9a, zst_10n, zst_10i, zst_10a, zst_11n, zst_11i, zst_11a, zst_12n, zst_12i, zst_12a, zst_13n, zst_13i, zst_13a, zst_14n, zst_14i, zst_14a, zst_15n, zst_15i, zst_15a, zR1_n, zR1_v, zsum_n, zsum_i, zsum_l, zsum_a, zlen_n, zlen_i, zlen_l, zlen_a, List.not_mem_nil, List.mem_cons, or_false, false_or, or_self, ↓reduceIte, if_false, if_true, Nat.reduceEqDiff, Nat.reduceAdd, Nat.reduceLeDiff, true_and, and_true, reduceCtorEq, ne_eq, Int.toNat_natCast, not_true_eq_false, not_false_eq_true, true_implies, false_implies, implies_true, Int.reduceToNat, Int.toNat_zero, Int.reduceLT, Int.reduceLE, Int.reduceEq, Int.reduceAdd, Int.reduceMul, Int.reduceNeg]
              refine ⟨by unfold zr32; omega, ?_⟩
              rw [hc, ← hms]
              exact ih _ _
            have stp : ∀ g : Int, E + g - zrsd M.2.1 v 0 = dd → 0 ≤ g ∧ g ≤ 61 → zFR (zK L) 231 133 [some (.inr (.inr 1153)), some (.inr (.inl x)), none, some (.inl (n : Int)), some (.inl F), some (.inl (cc : Int)), some (.inl ((i : Int) + 1)), some (.inl g), y8] [] (zwI M m) Q9 := by
              intro g hg hg2
              refine zW_sound 60 [194] ?_
              simp only [ZR231, zk_1153, zk_1188, hF, zwI_I, zwI_2, eg, eT, eU, d, du, ZF216.1, ZF216.2.1, ZF216.2.2.1, x0, x2, hg, ZF217.1, ZF217.2.1, ZF217.2.2.1, x7, Int.add_zero, zW_succ, zE_iload, zE_aload, zE_lload, zE_iinc, zE_istore, zE_astore, zE_lstore, zE_iconst, zE_ldc2, zE_iadd, zE_isub, zE_imul, zE_idiv, zE_irem, zE_ineg, zE_iand, zE_ior, zE_ixor, zE_ishl, zE_ishr, zE_land, zE_lor, zE_lxor, zE_lshl, zE_lshr, zE_i2l, zE_lcmp, zE_dup_i, zE_dup_a, zE_dup2_ia, zE_pop_i, zE_pop_a, zE_pop2, zE_goto, zE_if_eq, zE_icmp_eq, zE_if_ne, zE_icmp_ne, zE_if_lt, zE_icmp_lt, zE_if_ge, zE_icmp_ge, zE_if_gt, zE_icmp_gt, zE_if_le, zE_icmp_le, zE_iaload, zE_baload, zE_laload, zE_aaload, zE_iastore, zE_bastore, zE_lastore, zE_aastore, zE_alen, zE_getf0, zE_getf1, zE_getf2, zE_getf3, zE_putf0, zE_putf1, zE_putf2, zE_putf3, zE_new, zE_newa, zE_newq, zE_ireturn, zE_lreturn, zE_areturn, zE_return, zE_athrow, zE_st0, zE_vi0, zE_st1, zE_vi1, zE_st2, zE_vi2, zE_st3, zE_vi3, zE_st4, zE_vi4, zE_st5, zE_vi5, zE_st6, zE_vi6, zE_st7, zE_vi7, zE_st8, zE_vi8, zSt_0, zSL_0, zSt_1n, zSt_1i, zSt_1a, zSt_1l, zSt_2n, zSt_2i, zSt_2a, zSt_2l, zSt_3n, zSt_3i, zSt_3a, zSt_3l, zSt_4n, zSt_4i, zSt_4a, zSt_4l, zSt_5n, zSt_5i, zSt_5a, zSt_5l, zSt_6n, zSt_6i, zSt_6a, zSt_6l, zSt_7n, zSt_7i, zSt_7a, zSt_7l, zSt_8n, zSt_8i, zSt_8a, zSt_8l, zSt_9n, zSt_9i, zSt_9a, zSt_9l, zSt_10n, zSt_10i, zSt_10a, zSt_10l, zSt_11n, zSt_11i, zSt_11a, zSt_11l, zSt_12n, zSt_12i, zSt_12a, zSt_12l, zSt_13n, zSt_13i, zSt_13a, zSt_13l, zSL_1n, zSL_1i, zSL_1a, zSL_1l, zSL_2n, zSL_2i, zSL_2a, zSL_2l, zSL_3n, zSL_3i, zSL_3a, zSL_3l, zSL_4n, zSL_4i, zSL_4a, zSL_4l, zSL_5n, zSL_5i, zSL_5a, zSL_5l, zSL_6n, zSL_6i, zSL_6a, zSL_6l, zSL_7n, zSL_7i, zSL_7a, zSL_7l, zSL_8n, zSL_8i, zSL_8a, zSL_8l, zSL_9n, zSL_9i, zSL_9a, zSL_9l, zSL_10n, zSL_10i, zSL_10a, zSL_10l, zSL_11n, zSL_11i, zSL_11a, zSL_11l, zSL_12n, zSL_12i, zSL_12a, zSL_12l, zLI_0, zLL_0, zLA_0, zLI_1, zLL_1, zLA_1, zLI_2, zLL_2, zLA_2, zLI_3, zLL_3, zLA_3, zLI_4, zLL_4, zLA_4, zLI_5, zLL_5, zLA_5, zLI_6, zLL_6, zLA_6, zLI_7, zLL_7, zLA_7, zLI_8, zLL_8, zLA_8, zLI_9, zLL_9, zLA_9, zLI_10, zLL_10, zLA_10, zLI_11, zLL_11, zLA_11, zLI_12, zLL_12, zLA_12, zLI_13, zLL_13, zLA_13, zst_0, zst_1n, zst_1i, zst_1a, zst_2n, zst_2i, zst_2a, zst_3n, zst_3i, zst_3a, zst_4n, zst_4i, zst_4a, zst_5n, zst_5i, zst_5a, zst_6n, zst_6i, zst_6a, zst_7n, zst_7i, zst_7a, zst_8n, zst_8i, zst_8a, zst_9n, zst_9i, zst_9a, zst_10n, zst_10i, zst_10a, zst_11n, zst_11i, zst_11a, zst_12n, zst_12i, zst_12a, zst_13n, zst_13i, zst_13a, zst_14n, zst_14i, zst_14a, zst_15n, zst_15i, zst_15a, zR1_n, zR1_v, zsum_n, zsum_i, zsum_l, zsum_a, zlen_n, zlen_i, zlen_l, zlen_a, List.not_mem_nil, List.mem_cons, or_false, false_or, or_self, ↓reduceIte, if_false, if_true, Nat.reduceEqDiff, Nat.reduceAdd, Nat.reduceLeDiff, true_and, and_true, reduceCtorEq, ne_eq, Int.toNat_natCast, not_true_eq_false, not_false_eq_true, true_implies, false_implies, implies_true, Int.reduceToNat, Int.toNat_zero, Int.reduceLT, Int.reduceLE, Int.reduceEq, Int.reduceAdd, Int.reduceMul, Int.reduceNeg]
              refine ⟨by unfold zr32; omega, by omega, by unfold zr32; omega, by omega, by unfold zr32; omega, by omega, fun h => ⟨by unfold zr32; omega, ?_⟩, fun h => ⟨by unfold zr32; omega, ?_⟩⟩
              · rw [if_neg (by omega)] at hns; exact next (cc + 1) hns.symm _
              · rw [if_pos (by omega)] at hns; exact next cc hns.symm _
            refine zW_sound 60 [133, 200] ?_
            simp only [ZR231, eq1, eq2, zW_succ, zE_iload, zE_aload, zE_lload, zE_iinc, zE_istore, zE_astore, zE_lstore, zE_iconst, zE_ldc2, zE_iadd, zE_isub, zE_imul, zE_idiv, zE_irem, zE_ineg, zE_iand, zE_ior, zE_ixor, zE_ishl, zE_ishr, zE_land, zE_lor, zE_lxor, zE_lshl, zE_lshr, zE_i2l, zE_lcmp, zE_dup_i, zE_dup_a, zE_dup2_ia, zE_pop_i, zE_pop_a, zE_pop2, zE_goto, zE_if_eq, zE_icmp_eq, zE_if_ne, zE_icmp_ne, zE_if_lt, zE_icmp_lt, zE_if_ge, zE_icmp_ge, zE_if_gt, zE_icmp_gt, zE_if_le, zE_icmp_le, zE_iaload, zE_baload, zE_laload, zE_aaload, zE_iastore, zE_bastore, zE_lastore, zE_aastore, zE_alen, zE_getf0, zE_getf1, zE_getf2, zE_getf3, zE_putf0, zE_putf1, zE_putf2, zE_putf3, zE_new, zE_newa, zE_newq, zE_ireturn, zE_lreturn, zE_areturn, zE_return, zE_athrow, zE_st0, zE_vi0, zE_st1, zE_vi1, zE_st2, zE_vi2, zE_st3, zE_vi3, zE_st4, zE_vi4, zE_st5, zE_vi5, zE_st6, zE_vi6, zE_st7, zE_vi7, zE_st8, zE_vi8, zSt_0, zSL_0, zSt_1n, zSt_1i, zSt_1a, zSt_1l, zSt_2n, zSt_2i, zSt_2a, zSt_2l, zSt_3n, zSt_3i, zSt_3a, zSt_3l, zSt_4n, zSt_4i, zSt_4a, zSt_4l, zSt_5n, zSt_5i, zSt_5a, zSt_5l, zSt_6n, zSt_6i, zSt_6a, zSt_6l, zSt_7n, zSt_7i, zSt_7a, zSt_7l, zSt_8n, zSt_8i, zSt_8a, zSt_8l, zSt_9n, zSt_9i, zSt_9a, zSt_9l, zSt_10n, zSt_10i, zSt_10a, zSt_10l, zSt_11n, zSt_11i, zSt_11a, zSt_11l, zSt_12n, zSt_12i, zSt_12a, zSt_12l, zSt_13n, zSt_13i, zSt_13a, zSt_13l, zSL_1n, zSL_1i, zSL_1a, zSL_1l, zSL_2n, zSL_2i, zSL_2a, zSL_2l, zSL_3n, zSL_3i, zSL_3a, zSL_3l, zSL_4n, zSL_4i, zSL_4a, zSL_4l, zSL_5n, zSL_5i, zSL_5a, zSL_5l, zSL_6n, zSL_6i, zSL_6a, zSL_6l, zSL_7n, zSL_7i, zSL_7a, zSL_7l, zSL_8n, zSL_8i, zSL_8a, zSL_8l, zSL_9n, zSL_9i, zSL_9a, zSL_9l, zSL_10n, zSL_10i, zSL_10a, zSL_10l, zSL_11n, zSL_11i, zSL_11a, zSL_11l, zSL_12n, zSL_12i, zSL_12a, zSL_12l, zLI_0, zLL_0, zLA_0, zLI_1, zLL_1, zLA_1, zLI_2, zLL_2, zLA_2, zLI_3, zLL_3, zLA_3, zLI_4, zLL_4, zLA_4, zLI_5, zLL_5, zLA_5, zLI_6, zLL_6, zLA_6, zLI_7, zLL_7, zLA_7, zLI_8, zLL_8, zLA_8, zLI_9, zLL_9, zLA_9, zLI_10, zLL_10, zLA_10, zLI_11, zLL_11, zLA_11, zLI_12, zLL_12, zLA_12, zLI_13, zLL_13, zLA_13, zst_0, zst_1n, zst_1i, zst_1a, zst_2n, zst_2i, zst_2a, zst_3n, zst_3i, zst_3a, zst_4n, zst_4i, zst_4a, zst_5n, zst_5i, zst_5a, zst_6n, zst_6i, zst_6a, zst_7n, zst_7i, zst_7a, zst_8n, zst_8i, zst_8a, zst_9n, zst_9i, zst_9a, zst_10n, zst_10i, zst_10a, zst_11n, zst_11i, zst_11a, zst_12n, zst_12i, zst_12a, zst_13n, zst_13i, zst_13a, zst_14n, zst_14i, zst_14a, zst_15n, zst_15i, zst_15a, zR1_n, zR1_v, zsum_n, zsum_i, zsum_l, zsum_a, zlen_n, zlen_i, zlen_l, zlen_a, List.not_mem_nil, List.mem_cons, or_false, false_or, or_self, ↓reduceIte, if_false, if_true, Nat.reduceEqDiff, Nat.reduceAdd, Nat.reduceLeDiff, true_and, and_true, reduceCtorEq, ne_eq, Int.toNat_natCast, not_true_eq_false, not_false_eq_true, true_implies, false_implies, implies_true, Int.reduceToNat, Int.toNat_zero, Int.reduceLT, Int.reduceLE, Int.reduceEq, Int.reduceAdd, Int.reduceMul, Int.reduceNeg]
            refine ⟨by unfold zr32; omega, fun h => absurd h (by omega), fun _ => ⟨by unfold zr32; omega, ⟨by omega, fun h => by omega⟩, by unfold zr32; omega, ⟨by omega, fun h => by omega⟩, fun h => ⟨by unfold zr32; omega, ?_⟩, fun h => ⟨by unfold zr32; omega, ?_⟩⟩⟩
            · exact stp (q + 0) (by rw [sd, if_neg (by omega)]; omega) (by omega)
            · exact stp (q + 1) (by rw [sd, if_pos (by omega)]; omega) (by omega)
        have o9 := loop 0 (Nat.zero_le _)
        have e0 : zspn (zrfv M.2.1) o q r 0 = 0 := rfl
        have em : zrgm g0 (zrfv M.2.1) o q r 0 = g0 := rfl
        rw [e0, em, show ((0 : Nat) : Int) + 1 = 1 from rfl, show ((0 : Nat) : Int) = 0 from rfl] at o9
        refine zW_sound 60 [100] ?_
        simp only [ZR231, zW_succ, zE_iload, zE_aload, zE_lload, zE_iinc, zE_istore, zE_astore, zE_lstore, zE_iconst, zE_ldc2, zE_iadd, zE_isub, zE_imul, zE_idiv, zE_irem, zE_ineg, zE_iand, zE_ior, zE_ixor, zE_ishl, zE_ishr, zE_land, zE_lor, zE_lxor, zE_lshl, zE_lshr, zE_i2l, zE_lcmp, zE_dup_i, zE_dup_a, zE_dup2_ia, zE_pop_i, zE_pop_a, zE_pop2, zE_goto, zE_if_eq, zE_icmp_eq, zE_if_ne, zE_icmp_ne, zE_if_lt, zE_icmp_lt, zE_if_ge, zE_icmp_ge, zE_if_gt, zE_icmp_gt, zE_if_le, zE_icmp_le, zE_iaload, zE_baload, zE_laload, zE_aaload, zE_iastore, zE_bastore, zE_lastore, zE_aastore, zE_alen, zE_getf0, zE_getf1, zE_getf2, zE_getf3, zE_putf0, zE_putf1, zE_putf2, zE_putf3, zE_new, zE_newa, zE_newq, zE_ireturn, zE_lreturn, zE_areturn, zE_return, zE_athrow, zE_st0, zE_vi0, zE_st1, zE_vi1, zE_st2, zE_vi2, zE_st3, zE_vi3, zE_st4, zE_vi4, zE_st5, zE_vi5, zE_st6, zE_vi6, zE_st7, zE_vi7, zE_st8, zE_vi8, zSt_0, zSL_0, zSt_1n, zSt_1i, zSt_1a, zSt_1l, zSt_2n, zSt_2i, zSt_2a, zSt_2l, zSt_3n, zSt_3i, zSt_3a, zSt_3l, zSt_4n, zSt_4i, zSt_4a, zSt_4l, zSt_5n, zSt_5i, zSt_5a, zSt_5l, zSt_6n, zSt_6i, zSt_6a, zSt_6l, zSt_7n, zSt_7i, zSt_7a, zSt_7l, zSt_8n, zSt_8i, zSt_8a, zSt_8l, zSt_9n, zSt_9i, zSt_9a, zSt_9l, zSt_10n, zSt_10i, zSt_10a, zSt_10l, zSt_11n, zSt_11i, zSt_11a, zSt_11l, zSt_12n, zSt_12i, zSt_12a, zSt_12l, zSt_13n, zSt_13i, zSt_13a, zSt_13l, zSL_1n, zSL_1i, zSL_1a, zSL_1l, zSL_2n, zSL_2i, zSL_2a, zSL_2l, zSL_3n, zSL_3i, zSL_3a, zSL_3l, zSL_4n, zSL_4i, zSL_4a, zSL_4l, zSL_5n, zSL_5i, zSL_5a, zSL_5l, zSL_6n, zSL_6i, zSL_6a, zSL_6l, zSL_7n, zSL_7i, zSL_7a, zSL_7l, zSL_8n, zSL_8i, zSL_8a, zSL_8l, zSL_9n, zSL_9i, zSL_9a, zSL_9l, zSL_10n, zSL_10i, zSL_10a, zSL_10l, zSL_11n, zSL_11i, zSL_11a, zSL_11l, zSL_12n, zSL_12i, zSL_12a, zSL_12l, zLI_0, zLL_0, zLA_0, zLI_1, zLL_1, zLA_1, zLI_2, zLL_2, zLA_2, zLI_3, zLL_3, zLA_3, zLI_4, zLL_4, zLA_4, zLI_5, zLL_5, zLA_5, zLI_6, zLL_6, zLA_6, zLI_7, zLL_7, zLA_7, zLI_8, zLL_8, zLA_8, zLI_9, zLL_9, zLA_9, zLI_10, zLL_10, zLA_10, zLI_11, zLL_11, zLA_11, zLI_12, zLL_12, zLA_12, zLI_13, zLL_13, zLA_13, zst_0, zst_1n, zst_1i, zst_1a, zst_2n, zst_2i, zst_2a, zst_3n, zst_3i, zst_3a, zst_4n, zst_4i, zst_4a, zst_5n, zst_5i, zst_5a, zst_6n, zst_6i, zst_6a, zst_7n, zst_7i, zst_7a, zst_8n, zst_8i, zst_8a, zst_9n, zst_9i, zst_9a, zst_10n, zst_10i, zst_10a, zst_11n, zst_11i, zst_11a, zst_12n, zst_12i, zst_12a, zst_13n, zst_13i, zst_13a, zst_14n, zst_14i, zst_14a, zst_15n, zst_15i, zst_15a, zR1_n, zR1_v, zsum_n, zsum_i, zsum_l, zsum_a, zlen_n, zlen_i, zlen_l, zlen_a, List.not_mem_nil, List.mem_cons, or_false, false_or, or_self, ↓reduceIte, if_false, if_true, Nat.reduceEqDiff, Nat.reduceAdd, Nat.reduceLeDiff, true_and, and_true, reduceCtorEq, ne_eq, Int.toNat_natCast, not_true_eq_false, not_false_eq_true, true_implies, false_implies, implies_true, Int.reduceToNat, Int.toNat_zero, Int.reduceLT, Int.reduceLE, Int.reduceEq, Int.reduceAdd, Int.reduceMul, Int.reduceNeg]
        exact ⟨fun _ => o9 _ _, fun h => absurd h0 h⟩
      rw [zFR_det run Q]
      exact propext ⟨fun h => ⟨fun _ => h, fun h2 => absurd ⟨h3, h0⟩ h2⟩, fun h => h.1 ⟨h3, h0⟩⟩
    · have run : zFR (zK L) 231 0 (zcall 231 [.inr (.inr 1153), .inr (.inl x)]) [] M (fun rr M2 => rr = .inl (some (.inl (-1))) ∧ M2 = zwI M g0) := by
        refine pre h3 _ (zW_sound 60 [94] ?_)
        simp only [ZR231, zW_succ, zE_iload, zE_aload, zE_lload, zE_iinc, zE_istore, zE_astore, zE_lstore, zE_iconst, zE_ldc2, zE_iadd, zE_isub, zE_imul, zE_idiv, zE_irem, zE_ineg, zE_iand, zE_ior, zE_ixor, zE_ishl, zE_ishr, zE_land, zE_lor, zE_lxor, zE_lshl, zE_lshr, zE_i2l, zE_lcmp, zE_dup_i, zE_dup_a, zE_dup2_ia, zE_pop_i, zE_pop_a, zE_pop2, zE_goto, zE_if_eq, zE_icmp_eq, zE_if_ne, zE_icmp_ne, zE_if_lt, zE_icmp_lt, zE_if_ge, zE_icmp_ge, zE_if_gt, zE_icmp_gt, zE_if_le, zE_icmp_le, zE_iaload, zE_baload, zE_laload, zE_aaload, zE_iastore, zE_bastore, zE_lastore, zE_aastore, zE_alen, zE_getf0, zE_getf1, zE_getf2, zE_getf3, zE_putf0, zE_putf1, zE_putf2, zE_putf3, zE_new, zE_newa, zE_newq, zE_ireturn, zE_lreturn, zE_areturn, zE_return, zE_athrow, zE_st0, zE_vi0, zE_st1, zE_vi1, zE_st2, zE_vi2, zE_st3, zE_vi3, zE_st4, zE_vi4, zE_st5, zE_vi5, zE_st6, zE_vi6, zE_st7, zE_vi7, zE_st8, zE_vi8, zSt_0, zSL_0, zSt_1n, zSt_1i, zSt_1a, zSt_1l, zSt_2n, zSt_2i, zSt_2a, zSt_2l, zSt_3n, zSt_3i, zSt_3a, zSt_3l, zSt_4n, zSt_4i, zSt_4a, zSt_4l, zSt_5n, zSt_5i, zSt_5a, zSt_5l, zSt_6n, zSt_6i, zSt_6a, zSt_6l, zSt_7n, zSt_7i, zSt_7a, zSt_7l, zSt_8n, zSt_8i, zSt_8a, zSt_8l, zSt_9n, zSt_9i, zSt_9a, zSt_9l, zSt_10n, zSt_10i, zSt_10a, zSt_10l, zSt_11n, zSt_11i, zSt_11a, zSt_11l, zSt_12n, zSt_12i, zSt_12a, zSt_12l, zSt_13n, zSt_13i, zSt_13a, zSt_13l, zSL_1n, zSL_1i, zSL_1a, zSL_1l, zSL_2n, zSL_2i, zSL_2a, zSL_2l, zSL_3n, zSL_3i, zSL_3a, zSL_3l, zSL_4n, zSL_4i, zSL_4a, zSL_4l, zSL_5n, zSL_5i, zSL_5a, zSL_5l, zSL_6n, zSL_6i, zSL_6a, zSL_6l, zSL_7n, zSL_7i, zSL_7a, zSL_7l, zSL_8n, zSL_8i, zSL_8a, zSL_8l, zSL_9n, zSL_9i, zSL_9a, zSL_9l, zSL_10n, zSL_10i, zSL_10a, zSL_10l, zSL_11n, zSL_11i, zSL_11a, zSL_11l, zSL_12n, zSL_12i, zSL_12a, zSL_12l, zLI_0, zLL_0, zLA_0, zLI_1, zLL_1, zLA_1, zLI_2, zLL_2, zLA_2, zLI_3, zLL_3, zLA_3, zLI_4, zLL_4, zLA_4, zLI_5, zLL_5, zLA_5, zLI_6, zLL_6, zLA_6, zLI_7, zLL_7, zLA_7, zLI_8, zLL_8, zLA_8, zLI_9, zLL_9, zLA_9, zLI_10, zLL_10, zLA_10, zLI_11, zLL_11, zLA_11, zLI_12, zLL_12, zLA_12, zLI_13, zLL_13, zLA_13, zst_0, zst_1n, zst_1i, zst_1a, zst_2n, zst_2i, zst_2a, zst_3n, zst_3i, zst_3a, zst_4n, zst_4i, zst_4a, zst_5n, zst_5i, zst_5a, zst_6n, zst_6i, zst_6a, zst_7n, zst_7i, zst_7a, zst_8n, zst_8i, zst_8a, zst_9n, zst_9i, zst_9a, zst_10n, zst_10i, zst_10a, zst_11n, zst_11i, zst_11a, zst_12n, zst_12i, zst_12a, zst_13n, zst_13i, zst_13a, zst_14n, zst_14i, zst_14a, zst_15n, zst_15i, zst_15a, zR1_n, zR1_v, zsum_n, zsum_i, zsum_l, zsum_a, zlen_n, zlen_i, zlen_l, zlen_a, List.not_mem_nil, List.mem_cons, or_false, false_or, or_self, ↓reduceIte, if_false, if_true, Nat.reduceEqDiff, Nat.reduceAdd, Nat.reduceLeDiff, true_and, and_true, reduceCtorEq, ne_eq, Int.toNat_natCast, not_true_eq_false, not_false_eq_true, true_implies, false_implies, implies_true, Int.reduceToNat, Int.toNat_zero, Int.reduceLT, Int.reduceLE, Int.reduceEq, Int.reduceAdd, Int.reduceMul, Int.reduceNeg]
        exact fun h => absurd h h0
      rw [zFR_det run Q]
      exact propext ⟨fun h => ⟨fun h2 => absurd h2.2 h0, fun _ => h⟩, fun h => h.2 (fun h2 => h0 h2.2)⟩
  · have run : zFR (zK L) 231 0 (zcall 231 [.inr (.inr 1153), .inr (.inl x)]) [] M (fun rr M2 => rr = .inl (some (.inl (-1))) ∧ M2 = zwI M g0) := by
      refine zW_sound 60 [13] ?_
      simp only [ZF231, ZR231, ZF232.1, ZF232.2.1, ZF232.2.2.1, e232, zk_1153, zW_succ, zE_iload, zE_aload, zE_lload, zE_iinc, zE_istore, zE_astore, zE_lstore, zE_iconst, zE_ldc2, zE_iadd, zE_isub, zE_imul, zE_idiv, zE_irem, zE_ineg, zE_iand, zE_ior, zE_ixor, zE_ishl, zE_ishr, zE_land, zE_lor, zE_lxor, zE_lshl, zE_lshr, zE_i2l, zE_lcmp, zE_dup_i, zE_dup_a, zE_dup2_ia, zE_pop_i, zE_pop_a, zE_pop2, zE_goto, zE_if_eq, zE_icmp_eq, zE_if_ne, zE_icmp_ne, zE_if_lt, zE_icmp_lt, zE_if_ge, zE_icmp_ge, zE_if_gt, zE_icmp_gt, zE_if_le, zE_icmp_le, zE_iaload, zE_baload, zE_laload, zE_aaload, zE_iastore, zE_bastore, zE_lastore, zE_aastore, zE_alen, zE_getf0, zE_getf1, zE_getf2, zE_getf3, zE_putf0, zE_putf1, zE_putf2, zE_putf3, zE_new, zE_newa, zE_newq, zE_ireturn, zE_lreturn, zE_areturn, zE_return, zE_athrow, zE_st0, zE_vi0, zE_st1, zE_vi1, zE_st2, zE_vi2, zE_st3, zE_vi3, zE_st4, zE_vi4, zE_st5, zE_vi5, zE_st6, zE_vi6, zE_st7, zE_vi7, zE_st8, zE_vi8, zSt_0, zSL_0, zSt_1n, zSt_1i, zSt_1a, zSt_1l, zSt_2n, zSt_2i, zSt_2a, zSt_2l, zSt_3n, zSt_3i, zSt_3a, zSt_3l, zSt_4n, zSt_4i, zSt_4a, zSt_4l, zSt_5n, zSt_5i, zSt_5a, zSt_5l, zSt_6n, zSt_6i, zSt_6a, zSt_6l, zSt_7n, zSt_7i, zSt_7a, zSt_7l, zSt_8n, zSt_8i, zSt_8a, zSt_8l, zSt_9n, zSt_9i, zSt_9a, zSt_9l, zSt_10n, zSt_10i, zSt_10a, zSt_10l, zSt_11n, zSt_11i, zSt_11a, zSt_11l, zSt_12n, zSt_12i, zSt_12a, zSt_12l, zSt_13n, zSt_13i, zSt_13a, zSt_13l, zSL_1n, zSL_1i, zSL_1a, zSL_1l, zSL_2n, zSL_2i, zSL_2a, zSL_2l, zSL_3n, zSL_3i, zSL_3a, zSL_3l, zSL_4n, zSL_4i, zSL_4a, zSL_4l, zSL_5n, zSL_5i, zSL_5a, zSL_5l, zSL_6n, zSL_6i, zSL_6a, zSL_6l, zSL_7n, zSL_7i, zSL_7a, zSL_7l, zSL_8n, zSL_8i, zSL_8a, zSL_8l, zSL_9n, zSL_9i, zSL_9a, zSL_9l, zSL_10n, zSL_10i, zSL_10a, zSL_10l, zSL_11n, zSL_11i, zSL_11a, zSL_11l, zSL_12n, zSL_12i, zSL_12a, zSL_12l, zLI_0, zLL_0, zLA_0, zLI_1, zLL_1, zLA_1, zLI_2, zLL_2, zLA_2, zLI_3, zLL_3, zLA_3, zLI_4, zLL_4, zLA_4, zLI_5, zLL_5, zLA_5, zLI_6, zLL_6, zLA_6, zLI_7, zLL_7, zLA_7, zLI_8, zLL_8, zLA_8, zLI_9, zLL_9, zLA_9, zLI_10, zLL_10, zLA_10, zLI_11, zLL_11, zLA_11, zLI_12, zLL_12, zLA_12, zLI_13, zLL_13, zLA_13, zst_0, zst_1n, zst_1i, zst_1a, zst_2n, zst_2i, zst_2a, zst_3n, zst_3i, zst_3a, zst_4n, zst_4i, zst_4a, zst_5n, zst_5i, zst_5a, zst_6n, zst_6i, zst_6a, zst_7n, zst_7i, zst_7a, zst_8n, zst_8i, zst_8a, zst_9n, zst_9i, zst_9a, zst_10n, zst_10i, zst_10a, zst_11n, zst_11i, zst_11a, zst_12n, zst_12i, zst_12a, zst_13n, zst_13i, zst_13a, zst_14n, zst_14i, zst_14a, zst_15n, zst_15i, zst_15a, zR1_n, zR1_v, zsum_n, zsum_i, zsum_l, zsum_a, zlen_n, zlen_i, zlen_l, zlen_a, List.not_mem_nil, List.mem_cons, or_false, false_or, or_self, ↓reduceIte, if_false, if_true, Nat.reduceEqDiff, Nat.reduceAdd, Nat.reduceLeDiff, true_and, and_true, reduceCtorEq, ne_eq, Int.toNat_natCast, not_true_eq_false, not_false_eq_true, true_implies, false_implies, implies_true, Int.reduceToNat, Int.toNat_zero, Int.reduceLT, Int.reduceLE, Int.reduceEq, Int.reduceAdd, Int.reduceMul, Int.reduceNeg]
      exact fun h => absurd h (by omega)
    rw [zFR_det run Q]
    exact propext ⟨fun h => ⟨fun h2 => absurd h2.1 h3, fun _ => h⟩, fun h => h.2 (fun h2 => h3 h2.1)⟩
end ZRSPREADB
end SG_92_rspread2
