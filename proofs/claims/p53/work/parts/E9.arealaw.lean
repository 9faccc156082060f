/-! the law: areas -/
section ZPAREA
variable {L n : Nat} {M : zM} {f g h : Nat → Nat → Int} {Q : zO → zM → Prop} {s t : Nat}
/-- a shape that is there, as the areas want it -/
theorem zpWl (r : zqR n f g) (hs : s < 60) (t1 : g 1166 s = 1) : zcWl f (14 + 14 * s) ∧ zhsb (f (14 + 14 * s) 9) 0 = false ∧ zth f (s : Int) := by
  have t2 : f (14 + 14 * s) 0 = 1 := (zqR_t r hs).trans t1
  obtain ⟨se, so⟩ := zqR_f r hs t2
  have c14 := so.1
  refine ⟨⟨zShA_i hs, zqE_sw se so, zqSPc se so (by rw [se.2.1]; omega)⟩, ?_, ⟨by omega, by omega, by rw [Int.toNat_natCast]; exact t2⟩⟩
  rw [se.1]
  cases hb : zhsb (g 1175 s) 0 with
  | false => rfl
  | true => exact absurd (zhsb_iff.mp hb) so.2.1.2.2
theorem zpth {k : Nat} (hz : zsw f h) (h1 : zth f (s : Int)) : zth h (s : Int) := ⟨h1.1, h1.2.1, by rw [hz _ (by have := h1.2.1; omega)]; exact h1.2.2⟩
theorem zp01 (hz : zsw f h) (h01 : ∀ k : Nat, k < 60 → f (14 + 14 * k) 0 = 0 ∨ f (14 + 14 * k) 0 = 1) : ∀ k : Nat, k < 60 → h (14 + 14 * k) 0 = 0 ∨ h (14 + 14 * k) 0 = 1 := fun k hk => by
  rw [hz _ (by omega)]
  exact h01 k hk
/-- an area of one -/
theorem p395_1 (hR : zLay M.2.2.2) (r : zqR n f g) (he : zpEm f) (hs : s < 60) (t1 : g 1166 s = 1) (hz : zsw f h) (h0 : ∀ y, h 1114 y = 0) : ∃ h', zsw f h' ∧ (∀ y, h' 1114 y = 0) ∧ ∀ Q : zO → zM → Prop, zFR (zK L) 395 0 (zcall 395 [.inr (.inr 2), .inl (-1), .inl (s : Int), .inl (s : Int)]) [] (zwI M h) Q = Q (.inl (some (.inr (.inl (Int64.ofInt (zcA f 0 (14 + 14 * s) 1138)))))) (zwI M h') := by
  obtain ⟨ws, _, th⟩ := zpWl r hs t1
  have we := zpEm_w he
  have hb := zcA_b (w := 0) ws we
  obtain ⟨T, hT⟩ : ∃ T : Nat, zcA f 0 (14 + 14 * s) 1138 = (T : Int) := ⟨(zcA f 0 (14 + 14 * s) 1138).toNat, by omega⟩
  obtain ⟨d1, d2⟩ := zlt_dv (T := T) (by omega)
  obtain ⟨g1, z1, y1, v1, e1⟩ := c105v (L := L) (M := M) hR ws we hz h0
  obtain ⟨g2, z2, y2, v2, e2⟩ := c105v (L := L) (M := M) hR ws we z1 y1
  have c1 := fun Q => c177_g (L := L) (M := zwI M h) (Q := Q) (b := 0) (s := s) (T := T) (f' := g1) hR (zp01 hz (zqR_01 r)) (zpth (k := 0) hz th) e1 ((v1 0 (by omega)).trans hT) (by omega)
  have c2 := fun Q => c177_g (L := L) (M := zwI M g1) (Q := Q) (b := 1) (s := s) (T := T) (f' := g2) hR (zp01 z1 (zqR_01 r)) (zpth (k := 0) z1 th) e2 ((v2 0 (by omega)).trans hT) (by omega)
  simp only [zwI_w] at c1 c2
  refine ⟨g2, z2, y2, fun Q => zFR_det (zW_sound 60 [] ?_) Q⟩
  simp only [ZF395, ZR395, zk_2, ZF177.1, ZF177.2.1, ZF177.2.2.1, c1, c2, zW_succ, zE_iload, zE_aload, zE_lload, zE_iinc, zE_istore, zE_astore, zE_lstore, zE_iconst, zE_ldc2, zE_iadd, zE_isub, zE_imul, zE_idiv, zE_irem, zE_ineg, zE_iand, zE_ior, zE_ixor, zE_ishl, zE_ishr, zE_land, zE_lor, zE_lxor, zE_lshl, zE_lshr, zE_i2l, zE_lcmp, zE_dup_i, zE_dup_a, zE_dup2_ia, zE_pop_i, zE_pop_a, zE_pop2, zE_goto, zE_if_eq, zE_icmp_eq, zE_if_ne, zE_icmp_ne, zE_if_lt, zE_icmp_lt, zE_if_ge, zE_icmp_ge, zE_if_gt, zE_icmp_gt, zE_if_le, zE_icmp_le, zE_iaload, zE_baload, zE_laload, zE_aaload, zE_iastore, zE_bastore, zE_lastore, zE_aastore, zE_alen, zE_getf0, zE_getf1, zE_getf2, zE_getf3, zE_putf0, zE_putf1, zE_putf2, zE_putf3, zE_new, zE_newa, zE_newq, zE_ireturn, zE_lreturn, zE_areturn, zE_return, zE_athrow, zE_st0, zE_vi0, zE_st1, zE_vi1, zE_st2, zE_vi2, zE_st3, zE_vi3, zE_st4, zE_vi4, zE_st5, zE_vi5, zE_st6, zE_vi6, zE_st7, zE_vi7, zE_st8, zE_vi8, zSt_0, zSL_0, zSt_1n, zSt_1i, zSt_1a, zSt_1l, zSt_2n, zSt_2i, zSt_2a, zSt_2l, zSt_3n, zSt_3i, zSt_3a, zSt_3l, zSt_4n, zSt_4i, zSt_4a, zSt_4l, zSt_5n, zSt_5i, zSt_5a, zSt_5l, zSt_6n, zSt_6i, zSt_6a, zSt_6l, zSt_7n, zSt_7i, zSt_7a, zSt_7l, zSt_8n, zSt_8i, zSt_8a, zSt_8l, zSt_9n, zSt_9i, zSt_9a, zSt_9l, zSt_10n, zSt_10i, zSt_10a, zSt_10l, zSt_11n, zSt_11i, zSt_11a, zSt_11l, zSt_12n, zSt_12i, zSt_12a, zSt_12l, zSt_13n, zSt_13i, zSt_13a, zSt_13l, zSL_1n, zSL_1i, zSL_1a, zSL_1l, zSL_2n, zSL_2i, zSL_2a, zSL_2l, zSL_3n, zSL_3i, zSL_3a, zSL_3l, zSL_4n, zSL_4i, zSL_4a, zSL_4l, zSL_5n, zSL_5i, zSL_5a, zSL_5l, zSL_6n, zSL_6i, zSL_6a, zSL_6l, zSL_7n, zSL_7i, zSL_7a, zSL_7l, zSL_8n, zSL_8i, zSL_8a, zSL_8l, zSL_9n, zSL_9i, zSL_9a, zSL_9l, zSL_10n, zSL_10i, zSL_10a, zSL_10l, zSL_11n, zSL_11i, zSL_11a, zSL_11l, zSL_12n, zSL_12i, zSL_12a, zSL_12l, zLI_0, zLL_0, zLA_0, zLI_1, zLL_1, zLA_1, zLI_2, zLL_2, zLA_2, zLI_3, zLL_3, zLA_3, zLI_4, zLL_4, zLA_4, zLI_5, zLL_5, zLA_5, zLI_6, zLL_6, zLA_6, zLI_7, zLL_7, zLA_7, zLI_8, zLL_8, zLA_8, zLI_9, zLL_9, zLA_9, zLI_10, zLL_10, zLA_10, zLI_11, zLL_11, zLA_11, zLI_12, zLL_12, zLA_12, zLI_13, zLL_13, zLA_13, zst_0, zst_1n, zst_1i, zst_1a, zst_2n, zst_2i, zst_2a, zst_3n, zst_3i, zst_3a, zst_4n, zst_4i, zst_4a, zst_5n, zst_5i, zst_5a, zst_6n, zst_6i, zst_6a, zst_7n, zst_7i, zst_7a, zst_8n, zst_8i, zst_8a, zst_9n, zst_9i, zst_9a, zst_10n, zst_10i, zst_10a, zst_11n, zst_11i, zst_11a, zst_12n, zst_12i, zst_12a, zst_13n, zst_13i, zst_13a, zst_14n, zst_14i, zst_14a, zst_15n, zst_15i, zst_15a, zR1_n, zR1_v, zsum_n, zsum_i, zsum_l, zsum_a, zlen_n, zlen_i, zlen_l, zlen_a, List.not_mem_nil, List.mem_cons, or_false, false_or, or_self, ↓reduceIte, if_false, if_true, Nat.reduceEqDiff, Nat.reduceAdd, Nat.reduceLeDiff, true_and, and_true, reduceCtorEq, ne_eq, Int.toNat_natCast, not_true_eq_false, not_false_eq_true, true_implies, false_implies, implies_true, Int.reduceToNat, Int.toNat_zero, Int.reduceLT, Int.reduceLE, Int.reduceEq, Int.reduceAdd, Int.reduceMul, Int.reduceNeg]
  (repeat' (first | with_reducible refine And.intro ?_ ?_ | with_reducible intro _)) <;> try first | with_reducible rfl | with_reducible assumption | omega | (unfold zr32; omega) | contradiction | (exact absurd (by omega) (by assumption)) | rfl | (simp only [Sum.inl.injEq, Option.some.injEq]; omega)
  all_goals first | exact d2 | (rw [hT, d1])
/-- an area of two -/
theorem p395_2 (hR : zLay M.2.2.2) (r : zqR n f g) (hs : s < 60) (t1 : g 1166 s = 1) (ht : t < 60) (t2 : g 1166 t = 1) {w : Nat} (hw : w ≤ 3) (hz : zsw f h) (h0 : ∀ y, h 1114 y = 0) : ∃ h', zsw f h' ∧ (∀ y, h' 1114 y = 0) ∧ ∀ Q : zO → zM → Prop, zFR (zK L) 395 0 (zcall 395 [.inr (.inr 2), .inl (w : Int), .inl (s : Int), .inl (t : Int)]) [] (zwI M h) Q = Q (.inl (some (.inr (.inl (Int64.ofInt (zcA f (w : Int) (14 + 14 * s) (14 + 14 * t))))))) (zwI M h') := by
  obtain ⟨ws, _, th⟩ := zpWl r hs t1
  obtain ⟨wt, _, tt⟩ := zpWl r ht t2
  have hb := zcA_b (w := (w : Int)) ws wt
  obtain ⟨T, hT⟩ : ∃ T : Nat, zcA f (w : Int) (14 + 14 * s) (14 + 14 * t) = (T : Int) := ⟨(zcA f (w : Int) (14 + 14 * s) (14 + 14 * t)).toNat, by omega⟩
  obtain ⟨d1, d2⟩ := zlt_dv (T := T) (by omega)
  obtain ⟨g1, z1, y1, v1, e1⟩ := c105v (L := L) (M := M) hR ws wt hz h0
  obtain ⟨g2, z2, y2, v2, e2⟩ := c105v (L := L) (M := M) hR ws wt z1 y1
  have c1 := fun Q => c178_g (L := L) (M := zwI M h) (Q := Q) (b := 0) (s := s) (t := t) (w := (w : Int)) (T := T) (f' := g1) hR (zp01 hz (zqR_01 r)) (zpth (k := 0) hz th) (zpth (k := 0) hz tt) (by omega) e1 (by rw [Int.toNat_natCast]; exact (v1 w (by omega)).trans hT) (by omega)
  have c2 := fun Q => c178_g (L := L) (M := zwI M g1) (Q := Q) (b := 1) (s := s) (t := t) (w := (w : Int)) (T := T) (f' := g2) hR (zp01 z1 (zqR_01 r)) (zpth (k := 0) z1 th) (zpth (k := 0) z1 tt) (by omega) e2 (by rw [Int.toNat_natCast]; exact (v2 w (by omega)).trans hT) (by omega)
  simp only [zwI_w] at c1 c2
  have w0 : ¬ (w : Int) < 0 := by omega
  refine ⟨g2, z2, y2, fun Q => zFR_det (zW_sound 60 [] ?_) Q⟩
  simp only [ZF395, ZR395, zk_2, ZF178.1, ZF178.2.1, ZF178.2.2.1, c1, c2, zW_succ, zE_iload, zE_aload, zE_lload, zE_iinc, zE_istore, zE_astore, zE_lstore, zE_iconst, zE_ldc2, zE_iadd, zE_isub, zE_imul, zE_idiv, zE_irem, zE_ineg, zE_iand, zE_ior, zE_ixor, zE_ishl, zE_ishr, zE_land, zE_lor, zE_lxor, zE_lshl, zE_lshr, zE_i2l, zE_lcmp, zE_dup_i, zE_dup_a, zE_dup2_ia, zE_pop_i, zE_pop_a, zE_pop2, zE_goto, zE_if_eq, zE_icmp_eq, zE_if_ne, zE_icmp_ne, zE_if_lt, zE_icmp_lt, zE_if_ge, zE_icmp_ge, zE_if_gt, zE_icmp_gt, zE_if_le, zE_icmp_le, zE_iaload, zE_baload, zE_laload, zE_aaload, zE_iastore, zE_bastore, zE_lastore, zE_aastore, zE_alen, zE_getf0, zE_getf1, zE_getf2, zE_getf3, zE_putf0, zE_putf1, zE_putf2, zE_putf3, zE_new, zE_newa, zE_newq, zE_ireturn, zE_lreturn, zE_areturn, zE_return, zE_athrow, zE_st0, zE_vi0, zE_st1, zE_vi1, zE_st2, zE_vi2, zE_st3, zE_vi3, zE_st4, zE_vi4, zE_st5, zE_vi5, zE_st6, zE_vi6, zE_st7, zE_vi7, zE_st8, zE_vi8, zSt_0, zSL_0, zSt_1n, zSt_1i, zSt_1a, zSt_1l, zSt_2n, zSt_2i, zSt_2a, zSt_2l, zSt_3n, zSt_3i, zSt_3a, zSt_3l, zSt_4n, zSt_4i, zSt_4a, zSt_4l, zSt_5n, zSt_5i, zSt_5a, zSt_5l, zSt_6n, zSt_6i, zSt_6a, zSt_6l, zSt_7n, zSt_7i, zSt_7a, zSt_7l, zSt_8n, zSt_8i, zSt_8a, zSt_8l, zSt_9n, zSt_9i, zSt_9a, zSt_9l, zSt_10n, zSt_10i, zSt_10a, zSt_10l, zSt_11n, zSt_11i, zSt_11a, zSt_11l, zSt_12n, zSt_12i, zSt_12a, zSt_12l, zSt_13n, zSt_13i, zSt_13a, zSt_13l, zSL_1n, zSL_1i, zSL_1a, zSL_1l, zSL_2n, zSL_2i, zSL_2a, zSL_2l, zSL_3n, zSL_3i, zSL_3a, zSL_3l, zSL_4n, zSL_4i, zSL_4a, zSL_4l, zSL_5n, zSL_5i, zSL_5a, zSL_5l, zSL_6n, zSL_6i, zSL_6a, zSL_6l, zSL_7n, zSL_7i, zSL_7a, zSL_7l, zSL_8n, zSL_8i, zSL_8a, zSL_8l, zSL_9n, zSL_9i, zSL_9a, zSL_9l, zSL_10n, zSL_10i, zSL_10a, zSL_10l, zSL_11n, zSL_11i, zSL_11a, zSL_11l, zSL_12n, zSL_12i, zSL_12a, zSL_12l, zLI_0, zLL_0, zLA_0, zLI_1, zLL_1, zLA_1, zLI_2, zLL_2, zLA_2, zLI_3, zLL_3, zLA_3, zLI_4, zLL_4, zLA_4, zLI_5, zLL_5, zLA_5, zLI_6, zLL_6, zLA_6, zLI_7, zLL_7, zLA_7, zLI_8, zLL_8, zLA_8, zLI_9, zLL_9, zLA_9, zLI_10, zLL_10, zLA_10, zLI_11, zLL_11, zLA_11, zLI_12, zLL_12, zLA_12, zLI_13, zLL_13, zLA_13, zst_0, zst_1n, zst_1i, zst_1a, zst_2n, zst_2i, zst_2a, zst_3n, zst_3i, zst_3a, zst_4n, zst_4i, zst_4a, zst_5n, zst_5i, zst_5a, zst_6n, zst_6i, zst_6a, zst_7n, zst_7i, zst_7a, zst_8n, zst_8i, zst_8a, zst_9n, zst_9i, zst_9a, zst_10n, zst_10i, zst_10a, zst_11n, zst_11i, zst_11a, zst_12n, zst_12i, zst_12a, zst_13n, zst_13i, zst_13a, zst_14n, zst_14i, zst_14a, zst_15n, zst_15i, zst_15a, zR1_n, zR1_v, zsum_n, zsum_i, zsum_l, zsum_a, zlen_n, zlen_i, zlen_l, zlen_a, List.not_mem_nil, List.mem_cons, or_false, false_or, or_self, ↓reduceIte, if_false, if_true, Nat.reduceEqDiff, Nat.reduceAdd, Nat.reduceLeDiff, true_and, and_true, reduceCtorEq, ne_eq, Int.toNat_natCast, not_true_eq_false, not_false_eq_true, true_implies, false_implies, implies_true, Int.reduceToNat, Int.toNat_zero, Int.reduceLT, Int.reduceLE, Int.reduceEq, Int.reduceAdd, Int.reduceMul, Int.reduceNeg]
  (repeat' (first | with_reducible refine And.intro ?_ ?_ | with_reducible intro _)) <;> try first | with_reducible rfl | with_reducible assumption | omega | (unfold zr32; omega) | contradiction | (exact absurd (by omega) (by assumption)) | rfl | (simp only [Sum.inl.injEq, Option.some.injEq]; omega)
  all_goals first | exact d2 | (rw [hT, d1])
/-- the laws of the areas of two hold -/
theorem p396 (hR : zLay M.2.2.2) (r : zqR n f g) (he : zpEm f) (hs : s < 60) (t1 : g 1166 s = 1) (ht : t < 60) (t2 : g 1166 t = 1) (h0 : ∀ y, f 1114 y = 0) : ∃ h', zsw f h' ∧ (∀ y, h' 1114 y = 0) ∧ ∀ Q : zO → zM → Prop, zFR (zK L) 396 0 (zcall 396 [.inr (.inr 2), .inl (s : Int), .inl (t : Int)]) [] (zwI M f) Q = Q (.inl (some (.inl 1))) (zwI M h') := by
  obtain ⟨ws, ns, _⟩ := zpWl r hs t1
  obtain ⟨wt, nt, _⟩ := zpWl r ht t2
  obtain ⟨a1, a2, a3, a4⟩ := zcA_laws he ws wt ns nt
  have z0 : zsw f f := fun _ _ => rfl
  obtain ⟨g1, z1, y1, e1⟩ := p395_2 (L := L) (M := M) (w := 1) hR r hs t1 ht t2 (by omega) z0 h0
  obtain ⟨g2, z2, y2, e2⟩ := p395_2 (L := L) (M := M) (w := 0) hR r hs t1 ht t2 (by omega) z1 y1
  obtain ⟨g3, z3, y3, e3⟩ := p395_1 (L := L) (M := M) hR r he hs t1 z2 y2
  obtain ⟨g4, z4, y4, e4⟩ := p395_1 (L := L) (M := M) hR r he ht t2 z3 y3
  obtain ⟨g5, z5, y5, e5⟩ := p395_2 (L := L) (M := M) (w := 2) hR r hs t1 ht t2 (by omega) z4 y4
  obtain ⟨g6, z6, y6, e6⟩ := p395_1 (L := L) (M := M) hR r he hs t1 z5 y5
  obtain ⟨g7, z7, y7, e7⟩ := p395_2 (L := L) (M := M) (w := 1) hR r ht t2 hs t1 (by omega) z6 y6
  obtain ⟨g8, z8, y8, e8⟩ := p395_2 (L := L) (M := M) (w := 3) hR r hs t1 ht t2 (by omega) z7 y7
  obtain ⟨g9, z9, y9, e9⟩ := p395_2 (L := L) (M := M) (w := 0) hR r hs t1 ht t2 (by omega) z8 y8
  rw [show (((1 : Nat) : Int)) = 1 from rfl] at e1 e7
  rw [show (((0 : Nat) : Int)) = 0 from rfl] at e2 e9
  rw [show (((2 : Nat) : Int)) = 2 from rfl] at e5
  rw [show (((3 : Nat) : Int)) = 3 from rfl] at e8
  rw [a4] at e7
  generalize zcA f 0 (14 + 14 * s) (14 + 14 * t) = A0 at *
  generalize zcA f 1 (14 + 14 * s) (14 + 14 * t) = A1 at *
  generalize zcA f 2 (14 + 14 * s) (14 + 14 * t) = A2 at *
  generalize zcA f 3 (14 + 14 * s) (14 + 14 * t) = A3 at *
  generalize zcA f 0 (14 + 14 * s) 1138 = P at *
  generalize zcA f 0 (14 + 14 * t) 1138 = R at *
  have l1 : (lg_cmp (Int64.ofInt A0 + Int64.ofInt A1) (Int64.ofInt P + Int64.ofInt R)).toInt = 0 := by
    rw [← Int64.ofInt_add, ← Int64.ofInt_add, a1]
    exact zlc_0 _
  have l2 : (lg_cmp (Int64.ofInt A2 + Int64.ofInt A1) (Int64.ofInt P)).toInt = 0 := by
    rw [← Int64.ofInt_add, a2]
    exact zlc_0 _
  have l3 : (lg_cmp (Int64.ofInt A1) (Int64.ofInt A1)).toInt = 0 := zlc_0 _
  have l4 : (lg_cmp (Int64.ofInt A3 + Int64.ofInt A1) (Int64.ofInt A0)).toInt = 0 := by
    rw [← Int64.ofInt_add, a3]
    exact zlc_0 _
  refine ⟨g9, z9, y9, fun Q => zFR_det (zW_sound 120 [] ?_) Q⟩
  simp only [ZF396, ZR396, ZF395.1, ZF395.2.1, ZF395.2.2.1, e1, e2, e3, e4, e5, e6, e7, e8, e9, l1, l2, l3, l4, zW_succ, zE_iload, zE_aload, zE_lload, zE_iinc, zE_istore, zE_astore, zE_lstore, zE_iconst, zE_ldc2, zE_iadd, zE_isub, zE_imul, zE_idiv, zE_irem, zE_ineg, zE_iand, zE_ior, zE_ixor, zE_ishl, zE_ishr, zE_land, zE_lor, zE_lxor, zE_lshl, zE_lshr, zE_i2l, zE_lcmp, zE_dup_i, zE_dup_a, zE_dup2_ia, zE_pop_i, zE_pop_a, zE_pop2, zE_goto, zE_if_eq, zE_icmp_eq, zE_if_ne, zE_icmp_ne, zE_if_lt, zE_icmp_lt, zE_if_ge, zE_icmp_ge, zE_if_gt, zE_icmp_gt, zE_if_le, zE_icmp_le, zE_iaload, zE_baload, zE_laload, zE_aaload, zE_iastore, zE_bastore, zE_lastore, zE_aastore, zE_alen, zE_getf0, zE_getf1, zE_getf2, zE_getf3, zE_putf0, zE_putf1, zE_putf2, zE_putf3, zE_new, zE_newa, zE_newq, zE_ireturn, zE_lreturn, zE_areturn, zE_return, zE_athrow, zE_st0, zE_vi0, zE_st1, zE_vi1, zE_st2, zE_vi2, zE_st3, zE_vi3, zE_st4, zE_vi4, zE_st5, zE_vi5, zE_st6, zE_vi6, zE_st7, zE_vi7, zE_st8, zE_vi8, zSt_0, zSL_0, zSt_1n, zSt_1i, zSt_1a, zSt_1l, zSt_2n, zSt_2i, zSt_2a, zSt_2l, zSt_3n, zSt_3i, zSt_3a, zSt_3l, zSt_4n, zSt_4i, zSt_4a, zSt_4l, zSt_5n, zSt_5i, zSt_5a, zSt_5l, zSt_6n, zSt_6i, zSt_6a, zSt_6l, zSt_7n, zSt_7i, zSt_7a, zSt_7l, zSt_8n, zSt_8i, zSt_8a, zSt_8l, zSt_9n, zSt_9i, zSt_9a, zSt_9l, zSt_10n, zSt_10i, zSt_10a, zSt_10l, zSt_11n, zSt_11i, zSt_11a, zSt_11l, zSt_12n, zSt_12i, zSt_12a, zSt_12l, zSt_13n, zSt_13i, zSt_13a, zSt_13l, zSL_1n, zSL_1i, zSL_1a, zSL_1l, zSL_2n, zSL_2i, zSL_2a, zSL_2l, zSL_3n, zSL_3i, zSL_3a, zSL_3l, zSL_4n, zSL_4i, zSL_4a, zSL_4l, zSL_5n, zSL_5i, zSL_5a, zSL_5l, zSL_6n, zSL_6i, zSL_6a, zSL_6l, zSL_7n, zSL_7i, zSL_7a, zSL_7l, zSL_8n, zSL_8i, zSL_8a, zSL_8l, zSL_9n, zSL_9i, zSL_9a, zSL_9l, zSL_10n, zSL_10i, zSL_10a, zSL_10l, zSL_11n, zSL_11i, zSL_11a, zSL_11l, zSL_12n, zSL_12i, zSL_12a, zSL_12l, zLI_0, zLL_0, zLA_0, zLI_1, zLL_1, zLA_1, zLI_2, zLL_2, zLA_2, zLI_3, zLL_3, zLA_3, zLI_4, zLL_4, zLA_4, zLI_5, zLL_5, zLA_5, zLI_6, zLL_6, zLA_6, zLI_7, zLL_7, zLA_7, zLI_8, zLL_8, zLA_8, zLI_9, zLL_9, zLA_9, zLI_10, zLL_10, zLA_10, zLI_11, zLL_11, zLA_11, zLI_12, zLL_12, zLA_12, zLI_13, zLL_13, zLA_13, zst_0, zst_1n, zst_1i, zst_1a, zst_2n, zst_2i, zst_2a, zst_3n, zst_3i, zst_3a, zst_4n, zst_4i, zst_4a, zst_5n, zst_5i, zst_5a, zst_6n, zst_6i, zst_6a, zst_7n, zst_7i, zst_7a, zst_8n, zst_8i, zst_8a, zst_9n, zst_9i, zst_9a, zst_10n, zst_10i, zst_10a, zst_11n, zst_11i, zst_11a, zst_12n, zst_12i, zst_12a, zst_13n, zst_13i, zst_13a, zst_14n, zst_14i, zst_14a, zst_15n, zst_15i, zst_15a, zR1_n, zR1_v, zsum_n, zsum_i, zsum_l, zsum_a, zlen_n, zlen_i, zlen_l, zlen_a, List.not_mem_nil, List.mem_cons, or_false, false_or, or_self, ↓reduceIte, if_false, if_true, Nat.reduceEqDiff, Nat.reduceAdd, Nat.reduceLeDiff, true_and, and_true, reduceCtorEq, ne_eq, Int.toNat_natCast, not_true_eq_false, not_false_eq_true, true_implies, false_implies, implies_true, Int.reduceToNat, Int.toNat_zero, Int.reduceLT, Int.reduceLE, Int.reduceEq, Int.reduceAdd, Int.reduceMul, Int.reduceNeg]
  (repeat' (first | with_reducible refine And.intro ?_ ?_ | with_reducible intro _)) <;> try first | with_reducible rfl | with_reducible assumption | omega | (unfold zr32; omega) | contradiction | (exact absurd (by omega) (by assumption)) | rfl | (simp only [Sum.inl.injEq, Option.some.injEq]; omega)
end ZPAREA
