/-! the law, from its start to its end -/
section ZPLAW
variable {L : Nat}
/-- what the law's rounds come to -/
def zpQ (r : zO) (M2 : zM) : Prop := r = .inl (some (.inl 1)) ∧ M2.1.2.2.1 ≤ 2000 ∧ M2.1.2.2.2 ≤ 30000
theorem zplaw_end {m : Nat} {C : zM} {s : Nat → zM} (hw : zpW L m C s) (h1 : C.1.2.2.1 ≤ 2000) (h2 : C.1.2.2.2 ≤ 30000) (y4 y5 y6 : Option zV) : zFR (zK L) 407 241 [some (.inr (.inr 1)), some (.inr (.inr 2)), some (.inl 1), some (.inl 24), y4, y5, y6] [] C zpQ := by
  obtain ⟨M2, e126, c1⟩ := p126 hw
  have o : zpQ (.inl (some (.inl 1))) M2 := ⟨rfl, by rw [c1]; exact h1, by rw [c1]; exact h2⟩
  refine zW_sound 60 [] ?_
  simp only [ZR407, zk_2, ZF126.1, ZF126.2.1, ZF126.2.2.1, e126, zW_succ, zE_iload, zE_aload, zE_lload, zE_iinc, zE_istore, zE_astore, zE_lstore, zE_iconst, zE_ldc2, zE_iadd, zE_isub, zE_imul, zE_idiv, zE_irem, zE_ineg, zE_iand, zE_ior, zE_ixor, zE_ishl, zE_ishr, zE_land, zE_lor, zE_lxor, zE_lshl, zE_lshr, zE_i2l, zE_lcmp, zE_dup_i, zE_dup_a, zE_dup2_ia, zE_pop_i, zE_pop_a, zE_pop2, zE_goto, zE_if_eq, zE_icmp_eq, zE_if_ne, zE_icmp_ne, zE_if_lt, zE_icmp_lt, zE_if_ge, zE_icmp_ge, zE_if_gt, zE_icmp_gt, zE_if_le, zE_icmp_le, zE_iaload, zE_baload, zE_laload, zE_aaload, zE_iastore, zE_bastore, zE_lastore, zE_aastore, zE_alen, zE_getf0, zE_getf1, zE_getf2, zE_getf3, zE_putf0, zE_putf1, zE_putf2, zE_putf3, zE_new, zE_newa, zE_newq, zE_ireturn, zE_lreturn, zE_areturn, zE_return, zE_athrow, zE_st0, zE_vi0, zE_st1, zE_vi1, zE_st2, zE_vi2, zE_st3, zE_vi3, zE_st4, zE_vi4, zE_st5, zE_vi5, zE_st6, zE_vi6, zE_st7, zE_vi7, zE_st8, zE_vi8, zSt_0, zSL_0, zSt_1n, zSt_1i, zSt_1a, zSt_1l, zSt_2n, zSt_2i, zSt_2a, zSt_2l, zSt_3n, zSt_3i, zSt_3a, zSt_3l, zSt_4n, zSt_4i, zSt_4a, zSt_4l, zSt_5n, zSt_5i, zSt_5a, zSt_5l, zSt_6n, zSt_6i, zSt_6a, zSt_6l, zSt_7n, zSt_7i, zSt_7a, zSt_7l, zSt_8n, zSt_8i, zSt_8a, zSt_8l, zSt_9n, zSt_9i, zSt_9a, zSt_9l, zSt_10n, zSt_10i, zSt_10a, zSt_10l, zSt_11n, zSt_11i, zSt_11a, zSt_11l, zSt_12n, zSt_12i, zSt_12a, zSt_12l, zSt_13n, zSt_13i, zSt_13a, zSt_13l, zSL_1n, zSL_1i, zSL_1a, zSL_1l, zSL_2n, zSL_2i, zSL_2a, zSL_2l, zSL_3n, zSL_3i, zSL_3a, zSL_3l, zSL_4n, zSL_4i, zSL_4a, zSL_4l, zSL_5n, zSL_5i, zSL_5a, zSL_5l, zSL_6n, zSL_6i, zSL_6a, zSL_6l, zSL_7n, zSL_7i, zSL_7a, zSL_7l, zSL_8n, zSL_8i, zSL_8a, zSL_8l, zSL_9n, zSL_9i, zSL_9a, zSL_9l, zSL_10n, zSL_10i, zSL_10a, zSL_10l, zSL_11n, zSL_11i, zSL_11a, zSL_11l, zSL_12n, zSL_12i, zSL_12a, zSL_12l, zLI_0, zLL_0, zLA_0, zLI_1, zLL_1, zLA_1, zLI_2, zLL_2, zLA_2, zLI_3, zLL_3, zLA_3, zLI_4, zLL_4, zLA_4, zLI_5, zLL_5, zLA_5, zLI_6, zLL_6, zLA_6, zLI_7, zLL_7, zLA_7, zLI_8, zLL_8, zLA_8, zLI_9, zLL_9, zLA_9, zLI_10, zLL_10, zLA_10, zLI_11, zLL_11, zLA_11, zLI_12, zLL_12, zLA_12, zLI_13, zLL_13, zLA_13, zst_0, zst_1n, zst_1i, zst_1a, zst_2n, zst_2i, zst_2a, zst_3n, zst_3i, zst_3a, zst_4n, zst_4i, zst_4a, zst_5n, zst_5i, zst_5a, zst_6n, zst_6i, zst_6a, zst_7n, zst_7i, zst_7a, zst_8n, zst_8i, zst_8a, zst_9n, zst_9i, zst_9a, zst_10n, zst_10i, zst_10a, zst_11n, zst_11i, zst_11a, zst_12n, zst_12i, zst_12a, zst_13n, zst_13i, zst_13a, zst_14n, zst_14i, zst_14a, zst_15n, zst_15i, zst_15a, zR1_n, zR1_v, zsum_n, zsum_i, zsum_l, zsum_a, zlen_n, zlen_i, zlen_l, zlen_a, List.not_mem_nil, List.mem_cons, or_false, false_or, or_self, ↓reduceIte, if_false, if_true, Nat.reduceEqDiff, Nat.reduceAdd, Nat.reduceLeDiff, true_and, and_true, reduceCtorEq, ne_eq, Int.toNat_natCast, not_true_eq_false, not_false_eq_true, true_implies, false_implies, implies_true, Int.reduceToNat, Int.toNat_zero, Int.reduceLT, Int.reduceLE, Int.reduceEq, Int.reduceAdd, Int.reduceMul, Int.reduceNeg]
  (repeat' (first | with_reducible refine And.intro ?_ ?_ | with_reducible intro _)) <;> try first | with_reducible rfl | with_reducible assumption | omega | (unfold zr32; omega) | contradiction | (exact absurd (by omega) (by assumption)) | rfl | (simp only [Sum.inl.injEq, Option.some.injEq]; omega)
set_option maxRecDepth 8000 in
/-- one round: two shapes, an act, a point, areas -/
theorem zplaw_step (hL : L ≤ 260) {k m : Nat} (hk : k < 24) {C : zM} {s : Nat → zM} (hw : zpW L m C s) (hB : zpB C.2.1) (y4 y5 y6 : Option zV) (ih : ∀ (m' : Nat) (C' : zM) (s' : Nat → zM) (y4 y5 y6 : Option zV), zpW L m' C' s' → zpB C'.2.1 → C'.1.2.2.1 ≤ C.1.2.2.1 + 2 → C'.1.2.2.2 ≤ C.1.2.2.2 + 12 → zFR (zK L) 407 108 [some (.inr (.inr 1)), some (.inr (.inr 2)), some (.inl 1), some (.inl ((k : Int) + 1)), y4, y5, y6] [] C' zpQ) : zFR (zK L) 407 108 [some (.inr (.inr 1)), some (.inr (.inr 2)), some (.inl 1), some (.inl (k : Int)), y4, y5, y6] [] C zpQ := by
  have r0 := hw.2.2.1
  have n1 := zpB_1 r0 hB
  have n60 : zrct (s m).2.1 ≤ 60 := zcnt_le _ _
  obtain ⟨v, ev⟩ := p391 (M := C) hL (k := 4 + (k : Int)) (by omega)
  have e393 := fun Q => p393 (L := L) (M := C) (Q := Q) hw.1 r0
  simp only [zwI_id] at e393
  obtain ⟨a, a1, a2⟩ := p392 (L := L) (v := v) (n := (zrct (s m).2.1 : Int)) (by omega)
  obtain ⟨an, ha⟩ : ∃ an : Nat, a = (an : Int) := ⟨a.toNat, by omega⟩
  subst ha
  obtain ⟨f1, hf1, e167⟩ := p167 (L := L) (M := C) hw.1 r0 (k := an) (by omega)
  simp only [zwI_id] at e167
  obtain ⟨i, i1, i2⟩ := zqvl (g := (s m).2.1) (q := an) (by omega)
  rw [i2] at e167
  have w1 := zpW_5 hw hf1
  have e393' := fun Q => p393 (L := L) (M := C) (Q := Q) hw.1 w1.2.2.1
  simp only [zwI_I] at e393'
  obtain ⟨b, b1, b2⟩ := p392 (L := L) (v := (Int32.ofInt v >>> (Int32.ofInt 5 &&& 31)).toInt) (n := (zrct (s m).2.1 : Int)) (by omega)
  obtain ⟨bn, hb⟩ : ∃ bn : Nat, b = (bn : Int) := ⟨b.toNat, by omega⟩
  subst hb
  obtain ⟨f2, hf2, e167'⟩ := p167 (L := L) (M := C) (f := f1) hw.1 w1.2.2.1 (k := bn) (by omega)
  obtain ⟨j, j1, j2⟩ := zqvl (g := (s m).2.1) (q := bn) (by omega)
  rw [j2] at e167'
  have w2 : zpW L m (zwI C f2) s := zpW_5 (C := zwI C f1) w1 hf2
  have k2 : zpK C.2.1 f2 := zpK_t (zpK_5 hf1) (zpK_5 hf2)
  obtain ⟨kd, kd1, kd2⟩ := p392 (L := L) (v := (Int32.ofInt v >>> (Int32.ofInt 10 &&& 31)).toInt) (n := 7) (by omega)
  obtain ⟨u, eu⟩ := p391 (M := zwI C f2) hL (k := 30 + (k : Int)) (by omega)
  obtain ⟨M2, e406, m', s', w3, k3, t1, t2⟩ := p406 (C := zwI C f2) w2 (zpB_K hB k2) i1.1 i1.2 j1.1 j1.2 (k := kd) (v := u) (by omega)
  have hB3 : zpB M2.2.1 := zpB_K (zpB_K hB k2) k3
  have t1' : M2.1.2.2.1 ≤ C.1.2.2.1 + 2 := t1
  have t2' : M2.1.2.2.2 ≤ C.1.2.2.2 + 12 := t2
  have r3 := w3.2.2.1
  obtain ⟨px, px1, px2⟩ := p392 (L := L) (v := v) (n := 121) (by omega)
  obtain ⟨py, py1, py2⟩ := p392 (L := L) (v := (Int32.ofInt v >>> (Int32.ofInt 8 &&& 31)).toInt) (n := 121) (by omega)
  obtain ⟨f4, hf4, e394⟩ := p394 (L := L) (M := M2) (x := px) (y := py) w3.1 r3 (zpB_V r3 hB3) (by omega) (by omega)
  simp only [zwI_id] at e394
  have w4 := zpW_5 w3 hf4
  have hB4 : zpB f4 := zpB_K hB3 (zpK_5 hf4)
  have r4 : zqR m' f4 (s' m').2.1 := w4.2.2.1
  have i3 : (s' m').2.1 1166 i = 1 := by
    rw [← zqR_t r3 i1.1]
    exact k3.2 i i1.1 (k2.2 i i1.1 ((zqR_t r0 i1.1).trans i1.2))
  have j3 : (s' m').2.1 1166 j = 1 := by
    rw [← zqR_t r3 j1.1]
    exact k3.2 j j1.1 (k2.2 j j1.1 ((zqR_t r0 j1.1).trans j1.2))
  obtain ⟨h', z5, y5', e396⟩ := p396 (L := L) (M := M2) (f := f4) w3.1 r4 w4.2.2.2.2.2 i1.1 i3 j1.1 j3 w4.2.2.2.2.1
  have w5 : zpW L m' (zwI M2 h') s' := zpW_z (C := zwI M2 f4) w4 z5 y5'
  have o1 := ih m' (zwI M2 f4) s' (some (.inl v)) (some (.inl (i : Int))) (some (.inl (j : Int))) w4 hB4 t1' t2'
  have o2 := ih m' (zwI M2 h') s' (some (.inl v)) (some (.inl (i : Int))) (some (.inl (j : Int))) w5 (zpB_K hB4 (zpK_z z5)) t1' t2'
  clear ih r0 n1 hw hB w1 w2 w3 w4 w5 hB3 hB4 r3 r4 i1 i2 i3 j1 j2 j3 k2 k3 hf1 hf2 hf4 t1 t2 t1' t2' z5 y5' a1 b1 kd1 px1 py1
  generalize (zrct (s m).2.1 : Int) = N at *
  have sC : zFR (zK L) 407 188 [some (.inr (.inr 1)), some (.inr (.inr 2)), some (.inl 1), some (.inl (k : Int)), some (.inl v), some (.inl (i : Int)), some (.inl (j : Int))] [] M2 zpQ := by
    clear ev eu e393 e393' e167 e167' e406 a2 b2 kd2
    refine zW_sound 60 [108] ?_
    simp only [ZR407, zk_2, ZF392.1, ZF392.2.1, ZF392.2.2.1, px2, py2, ZF394.1, ZF394.2.1, ZF394.2.2.1, e394, ZF396.1, ZF396.2.1, ZF396.2.2.1, e396, zW_succ, zE_iload, zE_aload, zE_lload, zE_iinc, zE_istore, zE_astore, zE_lstore, zE_iconst, zE_ldc2, zE_iadd, zE_isub, zE_imul, zE_idiv, zE_irem, zE_ineg, zE_iand, zE_ior, zE_ixor, zE_ishl, zE_ishr, zE_land, zE_lor, zE_lxor, zE_lshl, zE_lshr, zE_i2l, zE_lcmp, zE_dup_i, zE_dup_a, zE_dup2_ia, zE_pop_i, zE_pop_a, zE_pop2, zE_goto, zE_if_eq, zE_icmp_eq, zE_if_ne, zE_icmp_ne, zE_if_lt, zE_icmp_lt, zE_if_ge, zE_icmp_ge, zE_if_gt, zE_icmp_gt, zE_if_le, zE_icmp_le, zE_iaload, zE_baload, zE_laload, zE_aaload, zE_iastore, zE_bastore, zE_lastore, zE_aastore, zE_alen, zE_getf0, zE_getf1, zE_getf2, zE_getf3, zE_putf0, zE_putf1, zE_putf2, zE_putf3, zE_new, zE_newa, zE_newq, zE_ireturn, zE_lreturn, zE_areturn, zE_return, zE_athrow, zE_st0, zE_vi0, zE_st1, zE_vi1, zE_st2, zE_vi2, zE_st3, zE_vi3, zE_st4, zE_vi4, zE_st5, zE_vi5, zE_st6, zE_vi6, zE_st7, zE_vi7, zE_st8, zE_vi8, zSt_0, zSL_0, zSt_1n, zSt_1i, zSt_1a, zSt_1l, zSt_2n, zSt_2i, zSt_2a, zSt_2l, zSt_3n, zSt_3i, zSt_3a, zSt_3l, zSt_4n, zSt_4i, zSt_4a, zSt_4l, zSt_5n, zSt_5i, zSt_5a, zSt_5l, zSt_6n, zSt_6i, zSt_6a, zSt_6l, zSt_7n, zSt_7i, zSt_7a, zSt_7l, zSt_8n, zSt_8i, zSt_8a, zSt_8l, zSt_9n, zSt_9i, zSt_9a, zSt_9l, zSt_10n, zSt_10i, zSt_10a, zSt_10l, zSt_11n, zSt_11i, zSt_11a, zSt_11l, zSt_12n, zSt_12i, zSt_12a, zSt_12l, zSt_13n, zSt_13i, zSt_13a, zSt_13l, zSL_1n, zSL_1i, zSL_1a, zSL_1l, zSL_2n, zSL_2i, zSL_2a, zSL_2l, zSL_3n, zSL_3i, zSL_3a, zSL_3l, zSL_4n, zSL_4i, zSL_4a, zSL_4l, zSL_5n, zSL_5i, zSL_5a, zSL_5l, zSL_6n, zSL_6i, zSL_6a, zSL_6l, zSL_7n, zSL_7i, zSL_7a, zSL_7l, zSL_8n, zSL_8i, zSL_8a, zSL_8l, zSL_9n, zSL_9i, zSL_9a, zSL_9l, zSL_10n, zSL_10i, zSL_10a, zSL_10l, zSL_11n, zSL_11i, zSL_11a, zSL_11l, zSL_12n, zSL_12i, zSL_12a, zSL_12l, zLI_0, zLL_0, zLA_0, zLI_1, zLL_1, zLA_1, zLI_2, zLL_2, zLA_2, zLI_3, zLL_3, zLA_3, zLI_4, zLL_4, zLA_4, zLI_5, zLL_5, zLA_5, zLI_6, zLL_6, zLA_6, zLI_7, zLL_7, zLA_7, zLI_8, zLL_8, zLA_8, zLI_9, zLL_9, zLA_9, zLI_10, zLL_10, zLA_10, zLI_11, zLL_11, zLA_11, zLI_12, zLL_12, zLA_12, zLI_13, zLL_13, zLA_13, zst_0, zst_1n, zst_1i, zst_1a, zst_2n, zst_2i, zst_2a, zst_3n, zst_3i, zst_3a, zst_4n, zst_4i, zst_4a, zst_5n, zst_5i, zst_5a, zst_6n, zst_6i, zst_6a, zst_7n, zst_7i, zst_7a, zst_8n, zst_8i, zst_8a, zst_9n, zst_9i, zst_9a, zst_10n, zst_10i, zst_10a, zst_11n, zst_11i, zst_11a, zst_12n, zst_12i, zst_12a, zst_13n, zst_13i, zst_13a, zst_14n, zst_14i, zst_14a, zst_15n, zst_15i, zst_15a, zR1_n, zR1_v, zsum_n, zsum_i, zsum_l, zsum_a, zlen_n, zlen_i, zlen_l, zlen_a, List.not_mem_nil, List.mem_cons, or_false, false_or, or_self, ↓reduceIte, if_false, if_true, Nat.reduceEqDiff, Nat.reduceAdd, Nat.reduceLeDiff, true_and, and_true, reduceCtorEq, ne_eq, Int.toNat_natCast, not_true_eq_false, not_false_eq_true, true_implies, false_implies, implies_true, Int.reduceToNat, Int.toNat_zero, Int.reduceLT, Int.reduceLE, Int.reduceEq, Int.reduceAdd, Int.reduceMul, Int.reduceNeg]
    (repeat' (first | with_reducible refine And.intro ?_ ?_ | with_reducible intro _)) <;> try first | with_reducible rfl | with_reducible assumption | omega | (unfold zr32; omega) | contradiction | (exact absurd (by omega) (by assumption)) | rfl | (simp only [Sum.inl.injEq, Option.some.injEq]; omega)
  have sB : zFR (zK L) 407 159 [some (.inr (.inr 1)), some (.inr (.inr 2)), some (.inl 1), some (.inl (k : Int)), some (.inl v), some (.inl (i : Int)), some (.inl (j : Int))] [] (zwI C f2) zpQ := by
    clear ev e393 e393' e167 e167' e394 e396 a2 b2 px2 py2 o1 o2
    refine zW_sound 60 [188] ?_
    simp only [ZR407, zk_2, ZF391.1, ZF391.2.1, ZF391.2.2.1, eu, ZF392.1, ZF392.2.1, ZF392.2.2.1, kd2, ZF406.1, ZF406.2.1, ZF406.2.2.1, e406, zW_succ, zE_iload, zE_aload, zE_lload, zE_iinc, zE_istore, zE_astore, zE_lstore, zE_iconst, zE_ldc2, zE_iadd, zE_isub, zE_imul, zE_idiv, zE_irem, zE_ineg, zE_iand, zE_ior, zE_ixor, zE_ishl, zE_ishr, zE_land, zE_lor, zE_lxor, zE_lshl, zE_lshr, zE_i2l, zE_lcmp, zE_dup_i, zE_dup_a, zE_dup2_ia, zE_pop_i, zE_pop_a, zE_pop2, zE_goto, zE_if_eq, zE_icmp_eq, zE_if_ne, zE_icmp_ne, zE_if_lt, zE_icmp_lt, zE_if_ge, zE_icmp_ge, zE_if_gt, zE_icmp_gt, zE_if_le, zE_icmp_le, zE_iaload, zE_baload, zE_laload, zE_aaload, zE_iastore, zE_bastore, zE_lastore, zE_aastore, zE_alen, zE_getf0, zE_getf1, zE_getf2, zE_getf3, zE_putf0, zE_putf1, zE_putf2, zE_putf3, zE_new, zE_newa, zE_newq, zE_ireturn, zE_lreturn, zE_areturn, zE_return, zE_athrow, zE_st0, zE_vi0, zE_st1, zE_vi1, zE_st2, zE_vi2, zE_st3, zE_vi3, zE_st4, zE_vi4, zE_st5, zE_vi5, zE_st6, zE_vi6, zE_st7, zE_vi7, zE_st8, zE_vi8, zSt_0, zSL_0, zSt_1n, zSt_1i, zSt_1a, zSt_1l, zSt_2n, zSt_2i, zSt_2a, zSt_2l, zSt_3n, zSt_3i, zSt_3a, zSt_3l, zSt_4n, zSt_4i, zSt_4a, zSt_4l, zSt_5n, zSt_5i, zSt_5a, zSt_5l, zSt_6n, zSt_6i, zSt_6a, zSt_6l, zSt_7n, zSt_7i, zSt_7a, zSt_7l, zSt_8n, zSt_8i, zSt_8a, zSt_8l, zSt_9n, zSt_9i, zSt_9a, zSt_9l, zSt_10n, zSt_10i, zSt_10a, zSt_10l, zSt_11n, zSt_11i, zSt_11a, zSt_11l, zSt_12n, zSt_12i, zSt_12a, zSt_12l, zSt_13n, zSt_13i, zSt_13a, zSt_13l, zSL_1n, zSL_1i, zSL_1a, zSL_1l, zSL_2n, zSL_2i, zSL_2a, zSL_2l, zSL_3n, zSL_3i, zSL_3a, zSL_3l, zSL_4n, zSL_4i, zSL_4a, zSL_4l, zSL_5n, zSL_5i, zSL_5a, zSL_5l, zSL_6n, zSL_6i, zSL_6a, zSL_6l, zSL_7n, zSL_7i, zSL_7a, zSL_7l, zSL_8n, zSL_8i, zSL_8a, zSL_8l, zSL_9n, zSL_9i, zSL_9a, zSL_9l, zSL_10n, zSL_10i, zSL_10a, zSL_10l, zSL_11n, zSL_11i, zSL_11a, zSL_11l, zSL_12n, zSL_12i, zSL_12a, zSL_12l, zLI_0, zLL_0, zLA_0, zLI_1, zLL_1, zLA_1, zLI_2, zLL_2, zLA_2, zLI_3, zLL_3, zLA_3, zLI_4, zLL_4, zLA_4, zLI_5, zLL_5, zLA_5, zLI_6, zLL_6, zLA_6, zLI_7, zLL_7, zLA_7, zLI_8, zLL_8, zLA_8, zLI_9, zLL_9, zLA_9, zLI_10, zLL_10, zLA_10, zLI_11, zLL_11, zLA_11, zLI_12, zLL_12, zLA_12, zLI_13, zLL_13, zLA_13, zst_0, zst_1n, zst_1i, zst_1a, zst_2n, zst_2i, zst_2a, zst_3n, zst_3i, zst_3a, zst_4n, zst_4i, zst_4a, zst_5n, zst_5i, zst_5a, zst_6n, zst_6i, zst_6a, zst_7n, zst_7i, zst_7a, zst_8n, zst_8i, zst_8a, zst_9n, zst_9i, zst_9a, zst_10n, zst_10i, zst_10a, zst_11n, zst_11i, zst_11a, zst_12n, zst_12i, zst_12a, zst_13n, zst_13i, zst_13a, zst_14n, zst_14i, zst_14a, zst_15n, zst_15i, zst_15a, zR1_n, zR1_v, zsum_n, zsum_i, zsum_l, zsum_a, zlen_n, zlen_i, zlen_l, zlen_a, List.not_mem_nil, List.mem_cons, or_false, false_or, or_self, ↓reduceIte, if_false, if_true, Nat.reduceEqDiff, Nat.reduceAdd, Nat.reduceLeDiff, true_and, and_true, reduceCtorEq, ne_eq, Int.toNat_natCast, not_true_eq_false, not_false_eq_true, true_implies, false_implies, implies_true, Int.reduceToNat, Int.toNat_zero, Int.reduceLT, Int.reduceLE, Int.reduceEq, Int.reduceAdd, Int.reduceMul, Int.reduceNeg]
    (repeat' (first | with_reducible refine And.intro ?_ ?_ | with_reducible intro _)) <;> try first | with_reducible rfl | with_reducible assumption | omega | (unfold zr32; omega) | contradiction | (exact absurd (by omega) (by assumption)) | rfl | (simp only [Sum.inl.injEq, Option.some.injEq]; omega)
  clear sC o1 o2 e394 e396 e406 eu kd2 px2 py2
  refine zW_sound 60 [159] ?_
  simp only [ZR407, zk_2, ZF391.1, ZF391.2.1, ZF391.2.2.1, ev, ZF392.1, ZF392.2.1, ZF392.2.2.1, a2, b2, ZF393.1, ZF393.2.1, ZF393.2.2.1, e393, e393', ZF167.1, ZF167.2.1, ZF167.2.2.1, e167, e167', zW_succ, zE_iload, zE_aload, zE_lload, zE_iinc, zE_istore, zE_astore, zE_lstore, zE_iconst, zE_ldc2, zE_iadd, zE_isub, zE_imul, zE_idiv, zE_irem, zE_ineg, zE_iand, zE_ior, zE_ixor, zE_ishl, zE_ishr, zE_land, zE_lor, zE_lxor, zE_lshl, zE_lshr, zE_i2l, zE_lcmp, zE_dup_i, zE_dup_a, zE_dup2_ia, zE_pop_i, zE_pop_a, zE_pop2, zE_goto, zE_if_eq, zE_icmp_eq, zE_if_ne, zE_icmp_ne, zE_if_lt, zE_icmp_lt, zE_if_ge, zE_icmp_ge, zE_if_gt, zE_icmp_gt, zE_if_le, zE_icmp_le, zE_iaload, zE_baload, zE_laload, zE_aaload, zE_iastore, zE_bastore, zE_lastore, zE_aastore, zE_alen, zE_getf0, zE_getf1, zE_getf2, zE_getf3, zE_putf0, zE_putf1, zE_putf2, zE_putf3, zE_new, zE_newa, zE_newq, zE_ireturn, zE_lreturn, zE_areturn, zE_return, zE_athrow, zE_st0, zE_vi0, zE_st1, zE_vi1, zE_st2, zE_vi2, zE_st3, zE_vi3, zE_st4, zE_vi4, zE_st5, zE_vi5, zE_st6, zE_vi6, zE_st7, zE_vi7, zE_st8, zE_vi8, zSt_0, zSL_0, zSt_1n, zSt_1i, zSt_1a, zSt_1l, zSt_2n, zSt_2i, zSt_2a, zSt_2l, zSt_3n, zSt_3i, zSt_3a, zSt_3l, zSt_4n, zSt_4i, zSt_4a, zSt_4l, zSt_5n, zSt_5i, zSt_5a, zSt_5l, zSt_6n, zSt_6i, zSt_6a, zSt_6l, zSt_7n, zSt_7i, zSt_7a, zSt_7l, zSt_8n, zSt_8i, zSt_8a, zSt_8l, zSt_9n, zSt_9i, zSt_9a, zSt_9l, zSt_10n, zSt_10i, zSt_10a, zSt_10l, zSt_11n, zSt_11i, zSt_11a, zSt_11l, zSt_12n, zSt_12i, zSt_12a, zSt_12l, zSt_13n, zSt_13i, zSt_13a, zSt_13l, zSL_1n, zSL_1i, zSL_1a, zSL_1l, zSL_2n, zSL_2i, zSL_2a, zSL_2l, zSL_3n, zSL_3i, zSL_3a, zSL_3l, zSL_4n, zSL_4i, zSL_4a, zSL_4l, zSL_5n, zSL_5i, zSL_5a, zSL_5l, zSL_6n, zSL_6i, zSL_6a, zSL_6l, zSL_7n, zSL_7i, zSL_7a, zSL_7l, zSL_8n, zSL_8i, zSL_8a, zSL_8l, zSL_9n, zSL_9i, zSL_9a, zSL_9l, zSL_10n, zSL_10i, zSL_10a, zSL_10l, zSL_11n, zSL_11i, zSL_11a, zSL_11l, zSL_12n, zSL_12i, zSL_12a, zSL_12l, zLI_0, zLL_0, zLA_0, zLI_1, zLL_1, zLA_1, zLI_2, zLL_2, zLA_2, zLI_3, zLL_3, zLA_3, zLI_4, zLL_4, zLA_4, zLI_5, zLL_5, zLA_5, zLI_6, zLL_6, zLA_6, zLI_7, zLL_7, zLA_7, zLI_8, zLL_8, zLA_8, zLI_9, zLL_9, zLA_9, zLI_10, zLL_10, zLA_10, zLI_11, zLL_11, zLA_11, zLI_12, zLL_12, zLA_12, zLI_13, zLL_13, zLA_13, zst_0, zst_1n, zst_1i, zst_1a, zst_2n, zst_2i, zst_2a, zst_3n, zst_3i, zst_3a, zst_4n, zst_4i, zst_4a, zst_5n, zst_5i, zst_5a, zst_6n, zst_6i, zst_6a, zst_7n, zst_7i, zst_7a, zst_8n, zst_8i, zst_8a, zst_9n, zst_9i, zst_9a, zst_10n, zst_10i, zst_10a, zst_11n, zst_11i, zst_11a, zst_12n, zst_12i, zst_12a, zst_13n, zst_13i, zst_13a, zst_14n, zst_14i, zst_14a, zst_15n, zst_15i, zst_15a, zR1_n, zR1_v, zsum_n, zsum_i, zsum_l, zsum_a, zlen_n, zlen_i, zlen_l, zlen_a, List.not_mem_nil, List.mem_cons, or_false, false_or, or_self, ↓reduceIte, if_false, if_true, Nat.reduceEqDiff, Nat.reduceAdd, Nat.reduceLeDiff, true_and, and_true, reduceCtorEq, ne_eq, Int.toNat_natCast, not_true_eq_false, not_false_eq_true, true_implies, false_implies, implies_true, Int.reduceToNat, Int.toNat_zero, Int.reduceLT, Int.reduceLE, Int.reduceEq, Int.reduceAdd, Int.reduceMul, Int.reduceNeg]
  (repeat' (first | with_reducible refine And.intro ?_ ?_ | with_reducible intro _)) <;> try first | with_reducible rfl | with_reducible assumption | omega | (unfold zr32; omega) | contradiction | (exact absurd (by omega) (by assumption)) | rfl | (simp only [Sum.inl.injEq, Option.some.injEq]; omega)
theorem zplaw_loop (hL : L ≤ 260) (d : Nat) : ∀ (k m : Nat) (C : zM) (s : Nat → zM) (y4 y5 y6 : Option zV), k + d = 24 → zpW L m C s → zpB C.2.1 → C.1.2.2.1 + 2 * d ≤ 2000 → C.1.2.2.2 + 12 * d ≤ 30000 → zFR (zK L) 407 108 [some (.inr (.inr 1)), some (.inr (.inr 2)), some (.inl 1), some (.inl (k : Int)), y4, y5, y6] [] C zpQ := by
  induction d with
  | zero =>
    intro k m C s y4 y5 y6 hd hw hB h1 h2
    have ex := zplaw_end hw (by omega) (by omega) y4 y5 y6
    have ek : (k : Int) = 24 := by omega
    rw [ek]
    refine zW_sound 60 [241] ?_
    simp only [ZR407, zW_succ, zE_iload, zE_aload, zE_lload, zE_iinc, zE_istore, zE_astore, zE_lstore, zE_iconst, zE_ldc2, zE_iadd, zE_isub, zE_imul, zE_idiv, zE_irem, zE_ineg, zE_iand, zE_ior, zE_ixor, zE_ishl, zE_ishr, zE_land, zE_lor, zE_lxor, zE_lshl, zE_lshr, zE_i2l, zE_lcmp, zE_dup_i, zE_dup_a, zE_dup2_ia, zE_pop_i, zE_pop_a, zE_pop2, zE_goto, zE_if_eq, zE_icmp_eq, zE_if_ne, zE_icmp_ne, zE_if_lt, zE_icmp_lt, zE_if_ge, zE_icmp_ge, zE_if_gt, zE_icmp_gt, zE_if_le, zE_icmp_le, zE_iaload, zE_baload, zE_laload, zE_aaload, zE_iastore, zE_bastore, zE_lastore, zE_aastore, zE_alen, zE_getf0, zE_getf1, zE_getf2, zE_getf3, zE_putf0, zE_putf1, zE_putf2, zE_putf3, zE_new, zE_newa, zE_newq, zE_ireturn, zE_lreturn, zE_areturn, zE_return, zE_athrow, zE_st0, zE_vi0, zE_st1, zE_vi1, zE_st2, zE_vi2, zE_st3, zE_vi3, zE_st4, zE_vi4, zE_st5, zE_vi5, zE_st6, zE_vi6, zE_st7, zE_vi7, zE_st8, zE_vi8, zSt_0, zSL_0, zSt_1n, zSt_1i, zSt_1a, zSt_1l, zSt_2n, zSt_2i, zSt_2a, zSt_2l, zSt_3n, zSt_3i, zSt_3a, zSt_3l, zSt_4n, zSt_4i, zSt_4a, zSt_4l, zSt_5n, zSt_5i, zSt_5a, zSt_5l, zSt_6n, zSt_6i, zSt_6a, zSt_6l, zSt_7n, zSt_7i, zSt_7a, zSt_7l, zSt_8n, zSt_8i, zSt_8a, zSt_8l, zSt_9n, zSt_9i, zSt_9a, zSt_9l, zSt_10n, zSt_10i, zSt_10a, zSt_10l, zSt_11n, zSt_11i, zSt_11a, zSt_11l, zSt_12n, zSt_12i, zSt_12a, zSt_12l, zSt_13n, zSt_13i, zSt_13a, zSt_13l, zSL_1n, zSL_1i, zSL_1a, zSL_1l, zSL_2n, zSL_2i, zSL_2a, zSL_2l, zSL_3n, zSL_3i, zSL_3a, zSL_3l, zSL_4n, zSL_4i, zSL_4a, zSL_4l, zSL_5n, zSL_5i, zSL_5a, zSL_5l, zSL_6n, zSL_6i, zSL_6a, zSL_6l, zSL_7n, zSL_7i, zSL_7a, zSL_7l, zSL_8n, zSL_8i, zSL_8a, zSL_8l, zSL_9n, zSL_9i, zSL_9a, zSL_9l, zSL_10n, zSL_10i, zSL_10a, zSL_10l, zSL_11n, zSL_11i, zSL_11a, zSL_11l, zSL_12n, zSL_12i, zSL_12a, zSL_12l, zLI_0, zLL_0, zLA_0, zLI_1, zLL_1, zLA_1, zLI_2, zLL_2, zLA_2, zLI_3, zLL_3, zLA_3, zLI_4, zLL_4, zLA_4, zLI_5, zLL_5, zLA_5, zLI_6, zLL_6, zLA_6, zLI_7, zLL_7, zLA_7, zLI_8, zLL_8, zLA_8, zLI_9, zLL_9, zLA_9, zLI_10, zLL_10, zLA_10, zLI_11, zLL_11, zLA_11, zLI_12, zLL_12, zLA_12, zLI_13, zLL_13, zLA_13, zst_0, zst_1n, zst_1i, zst_1a, zst_2n, zst_2i, zst_2a, zst_3n, zst_3i, zst_3a, zst_4n, zst_4i, zst_4a, zst_5n, zst_5i, zst_5a, zst_6n, zst_6i, zst_6a, zst_7n, zst_7i, zst_7a, zst_8n, zst_8i, zst_8a, zst_9n, zst_9i, zst_9a, zst_10n, zst_10i, zst_10a, zst_11n, zst_11i, zst_11a, zst_12n, zst_12i, zst_12a, zst_13n, zst_13i, zst_13a, zst_14n, zst_14i, zst_14a, zst_15n, zst_15i, zst_15a, zR1_n, zR1_v, zsum_n, zsum_i, zsum_l, zsum_a, zlen_n, zlen_i, zlen_l, zlen_a, List.not_mem_nil, List.mem_cons, or_false, false_or, or_self, ↓reduceIte, if_false, if_true, Nat.reduceEqDiff, Nat.reduceAdd, Nat.reduceLeDiff, true_and, and_true, reduceCtorEq, ne_eq, Int.toNat_natCast, not_true_eq_false, not_false_eq_true, true_implies, false_implies, implies_true, Int.reduceToNat, Int.toNat_zero, Int.reduceLT, Int.reduceLE, Int.reduceEq, Int.reduceAdd, Int.reduceMul, Int.reduceNeg]
    exact ex
  | succ d ih =>
    intro k m C s y4 y5 y6 hd hw hB h1 h2
    refine zplaw_step hL (by omega) hw hB y4 y5 y6 (fun m' C' s' y4 y5 y6 hw' hB' h1' h2' => ?_)
    have o := ih (k + 1) m' C' s' y4 y5 y6 (by omega) hw' hB' (by omega) (by omega)
    rw [Int.natCast_succ] at o
    exact o
set_option maxRecDepth 8000 in
theorem zplaw_all (hL : L ≤ 260) (xs : Nat → Int32) : ∃ M2 : zM, zBS (zK L) (407, 0, zcall 407 [.inr (.inr 1)], [], zM0 xs) (.inl (some (.inl 1))) M2 ∧ M2.1.2.2.1 ≤ 600064 ∧ M2.1.2.2.2 ≤ 7301640 := by
  have key : zFR (zK L) 407 0 (zcall 407 [.inr (.inr 1)]) [] (zM0 xs) zpQ := by
    obtain ⟨F, hF⟩ : ∃ F : Nat → Nat → Int, (fun (a i : Nat) => if a = 1 then (xs i).toInt else 0) = F := ⟨_, rfl⟩
    have e0 : zM0 xs = zmm 0 0 0 F (fun _ _ => 0) (fun _ _ => 0) := by
      rw [← hF]
      rfl
    have F0' : ∀ a, 2 ≤ a → ∀ j, F a j = 0 := fun a ha j => by
      rw [← hF]
      exact if_neg (by omega)
    rw [e0]
    clear e0 hF
    generalize hG : (fun _ _ => 0 : Nat → Nat → Int64) = G
    generalize hR0 : (fun _ _ => 0 : Nat → Nat → Nat) = R0
    have f0 : zfre 0 F G R0 := fun a ha => ⟨funext fun j => F0' a ha j, by rw [← hG], by rw [← hR0]⟩
    have b0 := fun c s => zborn_m f0 c s 13
    obtain ⟨r, M2, ⟨R1, hr, hM, f1, cl, o1⟩, e120⟩ := zFRx (c120 (L := L) (F := F) (G := G) (R := R0) (zfre_s f0))
    subst hr hM
    have w0 : zpW L 0 (zmm 1151 1151 25132 (zcF F) G R1) (fun _ => zpgh F R1) := zpW_0 F0' cl
    obtain ⟨v0, e391⟩ := p391 (M := zmm 1151 1151 25132 (zcF F) G R1) hL (k := 0) (by omega)
    obtain ⟨r0, r1, r2⟩ := p392 (L := L) (v := v0) (n := 65536) (by omega)
    obtain ⟨C1, s1, e143, w1, c1, k1, t1, g1⟩ := pk_143 w0 (h := 0) (e := r0) (n := 6) (by omega) (by omega) (by omega) (by omega)
    have e143' : ∀ Q : zO → zM → Prop, zFR (zK L) 143 0 (zcall 143 [.inr (.inr 2), .inl 0, .inl r0, .inl 6]) [] (zmm 1151 1151 25132 (zcF F) G R1) Q = Q (.inl (some (.inl 5))) C1 := e143
    obtain ⟨v1, e391'⟩ := p391 (M := C1) hL (k := 1) (by omega)
    obtain ⟨q0, q1, q2⟩ := p392 (L := L) (v := v1) (n := 65536) (by omega)
    obtain ⟨C2, s2, e143b, w2, c2, k2, t2, g2⟩ := pk_143 w1 (h := 1) (e := q0) (n := 3) (by omega) (by omega) (by omega) (by omega)
    have e143b' : ∀ Q : zO → zM → Prop, zFR (zK L) 143 0 (zcall 143 [.inr (.inr 2), .inl 1, .inl q0, .inl 3]) [] C1 Q = Q (.inl (some (.inl 8))) C2 := e143b
    have g0 : C2.2.1 11 0 = 0 := by
      rw [g2, g1, zmm_I]
      exact zcF_11 F0'
    obtain ⟨v2, e391b⟩ := p391 (M := C2) hL (k := 2) (by omega)
    obtain ⟨u0, u1, u2⟩ := p392 (L := L) (v := v2) (n := 61) (by omega)
    obtain ⟨x3, C3, s3, x0, e161, w3, _, c3, k3, x4, x5, x6⟩ := pk_161 w2 (by omega) (h := 2) (t := 1) (a := u0) (by omega) (by omega) (Or.inr rfl) ⟨by rw [g0]; omega, fun i hi => by rw [g0] at hi; omega⟩
    rw [g0] at x4 x5 x6
    have x3' : x3 = 1 := x4
    subst x3'
    have g3 : C3.2.1 11 0 = 1 := x5
    have g4 : C3.2.1 12 0 = 1 := x6
    obtain ⟨v3, e391c⟩ := p391 (M := C3) hL (k := 3) (by omega)
    obtain ⟨p0, p1, p2⟩ := p392 (L := L) (v := v3) (n := 61) (by omega)
    obtain ⟨z3, C4, s4, z0, e161b, w4, _, c4, k4, z4, _⟩ := pk_161 w3 (by omega) (h := 2) (t := 0) (a := p0) (by omega) (by omega) (Or.inl rfl) ⟨by rw [g3]; omega, fun i hi => by
      rw [g3] at hi
      have i0 : i = 0 := by omega
      subst i0
      rw [g4]
      omega⟩
    rw [g3] at z4
    have z3' : z3 = 2 := z4
    subst z3'
    have hB : zpB C4.2.1 := zpB_K (f := C1.2.1) ⟨t1 0 (by omega) (by omega), fun l hl => by
      rw [k1.1 l hl, zmm_I]
      exact zcF_6 F0' l⟩ (zpK_t k2 (zpK_t k3 k4))
    have cc : C4.1 = (zmm 1151 1151 25132 (zcF F) G R1).1 := c4.trans (c3.trans (c2.trans c1))
    have o9 := zplaw_loop (L := L) hL 24 0 _ C4 s4 none none none (by omega) w4 hB (by rw [cc]; show 1151 + 48 ≤ 2000; omega) (by rw [cc]; show 25132 + 288 ≤ 30000; omega)
    rw [show ((0 : Nat) : Int) = 0 from rfl] at o9
    clear w0 w1 w2 w3 w4 hB k1 k2 k3 k4 t1 t2 c1 c2 c3 c4 cc e143 e143b
    refine zW_sound 120 [108] ?_
    simp only [ZF407, ZR407, zk_2, zmm_n, zmm_t, Int.reduceToNat, b0, ZF120.1, ZF120.2.1, ZF120.2.2.1, e120, ZF391.1, ZF391.2.1, ZF391.2.2.1, e391, e391', e391b, e391c, ZF392.1, ZF392.2.1, ZF392.2.2.1, r2, q2, u2, p2, ZF143.1, ZF143.2.1, ZF143.2.2.1, e143', e143b', ZF161.1, ZF161.2.1, ZF161.2.2.1, e161, e161b, zW_succ, zE_iload, zE_aload, zE_lload, zE_iinc, zE_istore, zE_astore, zE_lstore, zE_iconst, zE_ldc2, zE_iadd, zE_isub, zE_imul, zE_idiv, zE_irem, zE_ineg, zE_iand, zE_ior, zE_ixor, zE_ishl, zE_ishr, zE_land, zE_lor, zE_lxor, zE_lshl, zE_lshr, zE_i2l, zE_lcmp, zE_dup_i, zE_dup_a, zE_dup2_ia, zE_pop_i, zE_pop_a, zE_pop2, zE_goto, zE_if_eq, zE_icmp_eq, zE_if_ne, zE_icmp_ne, zE_if_lt, zE_icmp_lt, zE_if_ge, zE_icmp_ge, zE_if_gt, zE_icmp_gt, zE_if_le, zE_icmp_le, zE_iaload, zE_baload, zE_laload, zE_aaload, zE_iastore, zE_bastore, zE_lastore, zE_aastore, zE_alen, zE_getf0, zE_getf1, zE_getf2, zE_getf3, zE_putf0, zE_putf1, zE_putf2, zE_putf3, zE_new, zE_newa, zE_newq, zE_ireturn, zE_lreturn, zE_areturn, zE_return, zE_athrow, zE_st0, zE_vi0, zE_st1, zE_vi1, zE_st2, zE_vi2, zE_st3, zE_vi3, zE_st4, zE_vi4, zE_st5, zE_vi5, zE_st6, zE_vi6, zE_st7, zE_vi7, zE_st8, zE_vi8, zSt_0, zSL_0, zSt_1n, zSt_1i, zSt_1a, zSt_1l, zSt_2n, zSt_2i, zSt_2a, zSt_2l, zSt_3n, zSt_3i, zSt_3a, zSt_3l, zSt_4n, zSt_4i, zSt_4a, zSt_4l, zSt_5n, zSt_5i, zSt_5a, zSt_5l, zSt_6n, zSt_6i, zSt_6a, zSt_6l, zSt_7n, zSt_7i, zSt_7a, zSt_7l, zSt_8n, zSt_8i, zSt_8a, zSt_8l, zSt_9n, zSt_9i, zSt_9a, zSt_9l, zSt_10n, zSt_10i, zSt_10a, zSt_10l, zSt_11n, zSt_11i, zSt_11a, zSt_11l, zSt_12n, zSt_12i, zSt_12a, zSt_12l, zSt_13n, zSt_13i, zSt_13a, zSt_13l, zSL_1n, zSL_1i, zSL_1a, zSL_1l, zSL_2n, zSL_2i, zSL_2a, zSL_2l, zSL_3n, zSL_3i, zSL_3a, zSL_3l, zSL_4n, zSL_4i, zSL_4a, zSL_4l, zSL_5n, zSL_5i, zSL_5a, zSL_5l, zSL_6n, zSL_6i, zSL_6a, zSL_6l, zSL_7n, zSL_7i, zSL_7a, zSL_7l, zSL_8n, zSL_8i, zSL_8a, zSL_8l, zSL_9n, zSL_9i, zSL_9a, zSL_9l, zSL_10n, zSL_10i, zSL_10a, zSL_10l, zSL_11n, zSL_11i, zSL_11a, zSL_11l, zSL_12n, zSL_12i, zSL_12a, zSL_12l, zLI_0, zLL_0, zLA_0, zLI_1, zLL_1, zLA_1, zLI_2, zLL_2, zLA_2, zLI_3, zLL_3, zLA_3, zLI_4, zLL_4, zLA_4, zLI_5, zLL_5, zLA_5, zLI_6, zLL_6, zLA_6, zLI_7, zLL_7, zLA_7, zLI_8, zLL_8, zLA_8, zLI_9, zLL_9, zLA_9, zLI_10, zLL_10, zLA_10, zLI_11, zLL_11, zLA_11, zLI_12, zLL_12, zLA_12, zLI_13, zLL_13, zLA_13, zst_0, zst_1n, zst_1i, zst_1a, zst_2n, zst_2i, zst_2a, zst_3n, zst_3i, zst_3a, zst_4n, zst_4i, zst_4a, zst_5n, zst_5i, zst_5a, zst_6n, zst_6i, zst_6a, zst_7n, zst_7i, zst_7a, zst_8n, zst_8i, zst_8a, zst_9n, zst_9i, zst_9a, zst_10n, zst_10i, zst_10a, zst_11n, zst_11i, zst_11a, zst_12n, zst_12i, zst_12a, zst_13n, zst_13i, zst_13a, zst_14n, zst_14i, zst_14a, zst_15n, zst_15i, zst_15a, zR1_n, zR1_v, zsum_n, zsum_i, zsum_l, zsum_a, zlen_n, zlen_i, zlen_l, zlen_a, List.not_mem_nil, List.mem_cons, or_false, false_or, or_self, ↓reduceIte, if_false, if_true, Nat.reduceEqDiff, Nat.reduceAdd, Nat.reduceLeDiff, true_and, and_true, reduceCtorEq, ne_eq, Int.toNat_natCast, not_true_eq_false, not_false_eq_true, true_implies, false_implies, implies_true, Int.reduceToNat, Int.toNat_zero, Int.reduceLT, Int.reduceLE, Int.reduceEq, Int.reduceAdd, Int.reduceMul, Int.reduceNeg]
    (repeat' (first | with_reducible refine And.intro ?_ ?_ | with_reducible intro _)) <;> try first | with_reducible rfl | with_reducible assumption | omega | (unfold zr32; omega) | contradiction | (exact absurd (by omega) (by assumption)) | rfl | (simp only [Sum.inl.injEq, Option.some.injEq]; omega)
  obtain ⟨r, M2, hb, h1, h2, h3⟩ := key
  subst h1
  exact ⟨M2, hb, by omega, by omega⟩
end ZPLAW
