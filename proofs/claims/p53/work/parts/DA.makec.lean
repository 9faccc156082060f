section SG_DA_makec
/-! constructors: the board, the class's object -/
section ZMAKE2Q
variable {L : Nat} {Q : zO → zM → Prop} {n c s t a b i j x : Nat} {F : Nat → Nat → Int} {G : Nat → Nat → Int64} {R : Nat → Nat → Nat}
def zshs (F : Nat → Nat → Int) : Nat → Nat → Nat → Int
  | 0 => F
  | i + 1 => zshI (zshs F i) (14 + 14 * i)
theorem zshs_s (F : Nat → Nat → Int) (i : Nat) : zshs F (i + 1) = zshI (zshs F i) (14 + 14 * i) := rfl
theorem zshs_o : ∀ m, (∀ i, i < m → a ≠ 14 + 14 * i) → zshs F m a = F a
  | 0, _ => rfl
  | m + 1, h => by
    rw [zshs_s]
    funext j
    rw [zshI_o (h m (by omega))]
    rw [zshs_o m (fun i hi => h i (by omega))]
theorem zshs_v : ∀ m i, i < m → zshs F m (14 + 14 * i) 6 = -1 ∧ zshs F m (14 + 14 * i) 7 = -1 ∧ zshs F m (14 + 14 * i) 8 = -1 ∧ zshs F m (14 + 14 * i) 3 = 1 ∧ zshs F m (14 + 14 * i) 4 = 1 ∧ ∀ j, (j < 3 ∨ j = 5 ∨ 8 < j) → zshs F m (14 + 14 * i) j = F (14 + 14 * i) j
  | 0, i, h => absurd h (Nat.not_lt_zero i)
  | m + 1, i, h => by
    rw [zshs_s]
    by_cases e : i = m
    · subst e
      obtain ⟨a1, a2, a3, a4, a5, a6⟩ := zshI_v (F := zshs F i) (t := 14 + 14 * i)
      refine ⟨a1, a2, a3, a4, a5, fun j hj => ?_⟩
      rw [a6 j hj, zshs_o i (fun k hk => by omega)]
    · have ih := zshs_v m i (by omega)
      rw [zshI_o (by omega), zshI_o (by omega), zshI_o (by omega), zshI_o (by omega), zshI_o (by omega)]
      refine ⟨ih.1, ih.2.1, ih.2.2.1, ih.2.2.2.1, ih.2.2.2.2.1, fun j hj => ?_⟩
      rw [zshI_o (by omega)]
      exact ih.2.2.2.2.2 j hj
/-- the board's own references -/
def zbdR (R : Nat → Nat → Nat) : Prop := R 3 0 = 4 ∧ R 3 1 = 5 ∧ R 3 2 = 6 ∧ R 3 3 = 7 ∧ R 3 4 = 8 ∧ R 3 5 = 9 ∧ R 3 6 = 10 ∧ R 3 7 = 11 ∧ R 11 1 = 12 ∧ R 11 2 = 13
theorem zbdR_c {R' : Nat → Nat → Nat} (h3 : R' 3 = R 3) (h11 : R' 11 = R 11) (h : zbdR R) : zbdR R' := by
  unfold zbdR at *
  rw [h3, h11]
  exact h
set_option maxRecDepth 8000 in
theorem c0 (hf : zfre 2 F G R) : zFR (zK L) 0 0 (zcall 0 [.inr (.inr 3)]) [] (zmm 2 2 21 F G R) (fun r M2 => ∃ R', r = .inl none ∧ M2 = zmm 852 852 6164 (zfil (zshs F 60) 7 60 (-1)) G R' ∧ zfre 852 (zfil (zshs F 60) 7 60 (-1)) G R' ∧ zbdR R' ∧ (∀ i, i < 60 → R' 4 i = 14 + 14 * i ∧ zshR R' (14 + 14 * i)) ∧ ∀ a, a < 3 → R' a = R a) := by
  generalize hQ : (fun (r : zO) M2 => ∃ R', r = .inl none ∧ M2 = zmm 852 852 6164 (zfil (zshs F 60) 7 60 (-1)) G R' ∧ zfre 852 (zfil (zshs F 60) 7 60 (-1)) G R' ∧ zbdR R' ∧ (∀ i, i < 60 → R' 4 i = 14 + 14 * i ∧ zshR R' (14 + 14 * i)) ∧ ∀ a, a < 3 → R' a = R a) = Q9
  have loop : ∀ i, i ≤ 60 → ∀ R', zfre (12 + 14 * i) (zshs F i) G R' → zbdR R' → (∀ k, k < i → R' 4 k = 14 + 14 * k ∧ zshR R' (14 + 14 * k)) → (∀ a, a < 3 → R' a = R a) → zFR (zK L) 0 73 [some (.inr (.inr 3)), some (.inl (i : Int))] [] (zmm (12 + 14 * i) (12 + 14 * i) (404 + 96 * i) (zshs F i) G R') Q9 := by
    refine zloop ?_ ?_
    · intro R' h1 h2 h3 h4
      have h33 := h2.2.2.2.1
      have q9 : Q9 (.inl none) (zmm 852 852 6164 (zfil (zshs F 60) 7 60 (-1)) G R') := by
        subst hQ
        exact ⟨R', rfl, rfl, zfre_f h1 (by omega), h2, h3, h4⟩
      have e385 := fun Q => c385 (L := L) (M := zmm 852 852 6164 (zshs F 60) G R') (Q := Q) (a := 7) (n := 60) (v := -1) zk_7 (by omega) (by omega)
      rw [zmm_I, zmm_w] at e385
      rw [show 12 + 14 * 60 = 852 from rfl, show 404 + 96 * 60 = 6164 from rfl]
      generalize zfil (zshs F 60) 7 60 (-1) = F7 at *
      generalize zshs F 60 = F6 at *
      refine zW_sound 60 [79] ?_
      simp only [ZR0, zk_3, zk_7, zmm_R, h33, ZF385.1, ZF385.2.1, ZF385.2.2.1, e385, zW_succ, zE_iload, zE_aload, zE_lload, zE_iinc, zE_istore, zE_astore, zE_lstore, zE_iconst, zE_ldc2, zE_iadd, zE_isub, zE_imul, zE_idiv, zE_irem, zE_ineg, zE_iand, zE_ior, zE_ixor, zE_ishl, zE_ishr, zE_land, zE_lor, zE_lxor, zE_lshl, zE_lshr, zE_i2l, zE_lcmp, zE_dup_i, zE_dup_a, zE_dup2_ia, zE_pop_i, zE_pop_a, zE_pop2, zE_goto, zE_if_eq, zE_icmp_eq, zE_if_ne, zE_icmp_ne, zE_if_lt, zE_icmp_lt, zE_if_ge, zE_icmp_ge, zE_if_gt, zE_icmp_gt, zE_if_le, zE_icmp_le, zE_iaload, zE_baload, zE_laload, zE_aaload, zE_iastore, zE_bastore, zE_lastore, zE_aastore, zE_alen, zE_getf0, zE_getf1, zE_getf2, zE_getf3, zE_putf0, zE_putf1, zE_putf2, zE_putf3, zE_new, zE_newa, zE_newq, zE_ireturn, zE_lreturn, zE_areturn, zE_return, zE_athrow, zE_st0, zE_vi0, zE_st1, zE_vi1, zE_st2, zE_vi2, zE_st3, zE_vi3, zE_st4, zE_vi4, zE_st5, zE_vi5, zE_st6, zE_vi6, zE_st7, zE_vi7, zE_st8, zE_vi8, zSt_0, zSL_0, zSt_1n, zSt_1i, zSt_1a, zSt_1l, zSt_2n, zSt_2i, zSt_2a, zSt_2l, zSt_3n, zSt_3i, zSt_3a, zSt_3l, zSt_4n, zSt_4i, zSt_4a, zSt_4l, zSt_5n, zSt_5i, zSt_5a, zSt_5l, zSt_6n, zSt_6i, zSt_6a, zSt_6l, zSt_7n, zSt_7i, zSt_7a, zSt_7l, zSt_8n, zSt_8i, zSt_8a, zSt_8l, zSt_9n, zSt_9i, zSt_9a, zSt_9l, zSt_10n, zSt_10i, zSt_10a, zSt_10l, zSt_11n, zSt_11i, zSt_11a, zSt_11l, zSt_12n, zSt_12i, zSt_12a, zSt_12l, zSt_13n, zSt_13i, zSt_13a, zSt_13l, zSL_1n, zSL_1i, zSL_1a, zSL_1l, zSL_2n, zSL_2i, zSL_2a, zSL_2l, zSL_3n, zSL_3i, zSL_3a, zSL_3l, zSL_4n, zSL_4i, zSL_4a, zSL_4l, zSL_5n, zSL_5i, zSL_5a, zSL_5l, zSL_6n, zSL_6i, zSL_6a, zSL_6l, zSL_7n, zSL_7i, zSL_7a, zSL_7l, zSL_8n, zSL_8i, zSL_8a, zSL_8l, zSL_9n, zSL_9i, zSL_9a, zSL_9l, zSL_10n, zSL_10i, zSL_10a, zSL_10l, zSL_11n, zSL_11i, zSL_11a, zSL_11l, zSL_12n, zSL_12i, zSL_12a, zSL_12l, zLI_0, zLL_0, zLA_0, zLI_1, zLL_1, zLA_1, zLI_2, zLL_2, zLA_2, zLI_3, zLL_3, zLA_3, zLI_4, zLL_4, zLA_4, zLI_5, zLL_5, zLA_5, zLI_6, zLL_6, zLA_6, zLI_7, zLL_7, zLA_7, zLI_8, zLL_8, zLA_8, zLI_9, zLL_9, zLA_9, zLI_10, zLL_10, zLA_10, zLI_11, zLL_11, zLA_11, zLI_12, zLL_12, zLA_12, zLI_13, zLL_13, zLA_13, zst_0, zst_1n, zst_1i, zst_1a, zst_2n, zst_2i, zst_2a, zst_3n, zst_3i, zst_3a, zst_4n, zst_4i, zst_4a, zst_5n, zst_5i, zst_5a, zst_6n, zst_6i, zst_6a, zst_7n, zst_7i, zst_7a, zst_8n, zst_8i, zst_8a, zst_9n, zst_9i, zst_9a, zst_10n, zst_10i, zst_10a, zst_11n, zst_11i, zst_11a, zst_12n, zst_12i, zst_12a, zst_13n, zst_13i, zst_13a, zst_14n, zst_14i, zst_14a, zst_15n, zst_15i, zst_15a, zR1_n, zR1_v, zsum_n, zsum_i, zsum_l, zsum_a, zlen_n, zlen_i, zlen_l, zlen_a, List.not_mem_nil, List.mem_cons, or_false, false_or, or_self, ↓reduceIte, if_false, if_true, Nat.reduceEqDiff, Nat.reduceAdd, Nat.reduceLeDiff, true_and, and_true, reduceCtorEq, ne_eq, Int.toNat_natCast, not_true_eq_false, not_false_eq_true, true_implies, false_implies, implies_true, Int.reduceToNat, Int.toNat_zero, Int.reduceLT, Int.reduceLE, Int.reduceEq, Int.reduceAdd, Int.reduceMul, Int.reduceNeg]
      (repeat' (first | with_reducible refine And.intro ?_ ?_ | with_reducible intro _)) <;> try first | with_reducible rfl | with_reducible assumption | omega | (unfold zr32; omega) | contradiction | (exact absurd (by omega) (by assumption)) | rfl | (simp only [Sum.inl.injEq, Option.some.injEq]; omega)
    · intro i hi ih R' h1 h2 h3 h4
      have h30 := h2.1
      obtain ⟨N, hN⟩ : ∃ N, 12 + 14 * i = N := ⟨_, rfl⟩
      obtain ⟨S, hS⟩ : ∃ S, 404 + 96 * i = S := ⟨_, rfl⟩
      rw [hN] at h1
      obtain ⟨k1, k2⟩ := zK_sh (L := L) (zShA_i hi)
      rw [show 14 + 14 * i = N + 2 by omega] at k1
      have b1 := fun c s => zborn_m h1 c s 16
      obtain ⟨r, M2, ⟨R2, hr, hM, f2, s2, o2⟩, e90⟩ := zFRx (c90 (L := L) (t := N + 2) (n := N + 1) (c := N + 1) (s := S + 16) (F := zshs F i) (G := G) (R := R') (Or.inl ⟨i, hi, by omega⟩) (by omega) (zfre_s h1))
      subst hr hM
      have o9 := ih (zr2 R2 4 i (N + 2)) (by
        rw [zshs_s, show 14 + 14 * i = N + 2 by omega]
        exact zfre_R (zfre_k f2 (by omega)) (by omega)) (zbdR_c ((zr2_a (by omega)).trans (o2 3 (by omega))) ((zr2_a (by omega)).trans (o2 11 (by omega))) h2) (fun k hk => by
        by_cases e : k = i
        · subst e
          rw [zr2_eq, show 14 + 14 * k = N + 2 by omega]
          exact ⟨rfl, zshR_c (fun a q1 q2 => zr2_a (by omega)) s2⟩
        · obtain ⟨r1, r2⟩ := h3 k (by omega)
          refine ⟨?_, zshR_c (fun a q1 q2 => (zr2_a (by omega)).trans (o2 a (by omega))) r2⟩
          rw [zr2_i e, o2 4 (by omega)]
          exact r1) (fun a ha => (zr2_a (by omega)).trans ((o2 a (by omega)).trans (h4 a ha)))
      rw [zshs_s, show 14 + 14 * i = N + 2 by omega, show 12 + 14 * (i + 1) = N + 1 + 13 by omega, show 404 + 96 * (i + 1) = S + 16 + 80 by omega, Int.natCast_succ] at o9
      rw [hN, hS]
      generalize zshI (zshs F i) (N + 2) = F2 at *
      generalize zshs F i = F1 at *
      refine zW_sound 60 [73, 98] ?_
      simp only [ZR0, zk_3, zk_4, k1, h30, zmm_n, zmm_t, zmm_R, zmm_sR, Int.toNat_natCast, b1, ZF90.1, ZF90.2.1, ZF90.2.2.1, e90, zW_succ, zE_iload, zE_aload, zE_lload, zE_iinc, zE_istore, zE_astore, zE_lstore, zE_iconst, zE_ldc2, zE_iadd, zE_isub, zE_imul, zE_idiv, zE_irem, zE_ineg, zE_iand, zE_ior, zE_ixor, zE_ishl, zE_ishr, zE_land, zE_lor, zE_lxor, zE_lshl, zE_lshr, zE_i2l, zE_lcmp, zE_dup_i, zE_dup_a, zE_dup2_ia, zE_pop_i, zE_pop_a, zE_pop2, zE_goto, zE_if_eq, zE_icmp_eq, zE_if_ne, zE_icmp_ne, zE_if_lt, zE_icmp_lt, zE_if_ge, zE_icmp_ge, zE_if_gt, zE_icmp_gt, zE_if_le, zE_icmp_le, zE_iaload, zE_baload, zE_laload, zE_aaload, zE_iastore, zE_bastore, zE_lastore, zE_aastore, zE_alen, zE_getf0, zE_getf1, zE_getf2, zE_getf3, zE_putf0, zE_putf1, zE_putf2, zE_putf3, zE_new, zE_newa, zE_newq, zE_ireturn, zE_lreturn, zE_areturn, zE_return, zE_athrow, zE_st0, zE_vi0, zE_st1, zE_vi1, zE_st2, zE_vi2, zE_st3, zE_vi3, zE_st4, zE_vi4, zE_st5, zE_vi5, zE_st6, zE_vi6, zE_st7, zE_vi7, zE_st8, zE_vi8, zSt_0, zSL_0, zSt_1n, zSt_1i, zSt_1a, zSt_1l, zSt_2n, zSt_2i, zSt_2a, zSt_2l, zSt_3n, zSt_3i, zSt_3a, zSt_3l, zSt_4n, zSt_4i, zSt_4a, zSt_4l, zSt_5n, zSt_5i, zSt_5a, zSt_5l, zSt_6n, zSt_6i, zSt_6a, zSt_6l, zSt_7n, zSt_7i, zSt_7a, zSt_7l, zSt_8n, zSt_8i, zSt_8a, zSt_8l, zSt_9n, zSt_9i, zSt_9a, zSt_9l, zSt_10n, zSt_10i, zSt_10a, zSt_10l, zSt_11n, zSt_11i, zSt_11a, zSt_11l, zSt_12n, zSt_12i, zSt_12a, zSt_12l, zSt_13n, zSt_13i, zSt_13a, zSt_13l, zSL_1n, zSL_1i, zSL_1a, zSL_1l, zSL_2n, zSL_2i, zSL_2a, zSL_2l, zSL_3n, zSL_3i, zSL_3a, zSL_3l, zSL_4n, zSL_4i, zSL_4a, zSL_4l, zSL_5n, zSL_5i, zSL_5a, zSL_5l, zSL_6n, zSL_6i, zSL_6a, zSL_6l, zSL_7n, zSL_7i, zSL_7a, zSL_7l, zSL_8n, zSL_8i, zSL_8a, zSL_8l, zSL_9n, zSL_9i, zSL_9a, zSL_9l, zSL_10n, zSL_10i, zSL_10a, zSL_10l, zSL_11n, zSL_11i, zSL_11a, zSL_11l, zSL_12n, zSL_12i, zSL_12a, zSL_12l, zLI_0, zLL_0, zLA_0, zLI_1, zLL_1, zLA_1, zLI_2, zLL_2, zLA_2, zLI_3, zLL_3, zLA_3, zLI_4, zLL_4, zLA_4, zLI_5, zLL_5, zLA_5, zLI_6, zLL_6, zLA_6, zLI_7, zLL_7, zLA_7, zLI_8, zLL_8, zLA_8, zLI_9, zLL_9, zLA_9, zLI_10, zLL_10, zLA_10, zLI_11, zLL_11, zLA_11, zLI_12, zLL_12, zLA_12, zLI_13, zLL_13, zLA_13, zst_0, zst_1n, zst_1i, zst_1a, zst_2n, zst_2i, zst_2a, zst_3n, zst_3i, zst_3a, zst_4n, zst_4i, zst_4a, zst_5n, zst_5i, zst_5a, zst_6n, zst_6i, zst_6a, zst_7n, zst_7i, zst_7a, zst_8n, zst_8i, zst_8a, zst_9n, zst_9i, zst_9a, zst_10n, zst_10i, zst_10a, zst_11n, zst_11i, zst_11a, zst_12n, zst_12i, zst_12a, zst_13n, zst_13i, zst_13a, zst_14n, zst_14i, zst_14a, zst_15n, zst_15i, zst_15a, zR1_n, zR1_v, zsum_n, zsum_i, zsum_l, zsum_a, zlen_n, zlen_i, zlen_l, zlen_a, List.not_mem_nil, List.mem_cons, or_false, false_or, or_self, ↓reduceIte, if_false, if_true, Nat.reduceEqDiff, Nat.reduceAdd, Nat.reduceLeDiff, true_and, and_true, reduceCtorEq, ne_eq, Int.toNat_natCast, not_true_eq_false, not_false_eq_true, true_implies, false_implies, implies_true, Int.reduceToNat, Int.toNat_zero, Int.reduceLT, Int.reduceLE, Int.reduceEq, Int.reduceAdd, Int.reduceMul, Int.reduceNeg]
      (repeat' (first | with_reducible refine And.intro ?_ ?_ | with_reducible intro _)) <;> try first | with_reducible rfl | with_reducible assumption | omega | (unfold zr32; omega) | contradiction | (exact absurd (by omega) (by assumption)) | rfl | (simp only [Sum.inl.injEq, Option.some.injEq]; omega)
      all_goals exact Or.inl True.intro
  have b0 := fun c s => zborn_m hf c s 60
  have h0 : zfre 3 F G (zr2 R 3 0 4) := zfre_x hf (by omega)
  have b1 := fun c s => zborn_m h0 c s 60
  have h1 : zfre 4 F G (zr2 (zr2 R 3 0 4) 3 1 5) := zfre_x h0 (by omega)
  have b2 := fun c s => zborn_m h1 c s 4
  have h2 : zfre 5 F G (zr2 (zr2 (zr2 R 3 0 4) 3 1 5) 3 2 6) := zfre_x h1 (by omega)
  have b3 := fun c s => zborn_m h2 c s 60
  have h3 : zfre 6 F G (zr2 (zr2 (zr2 (zr2 R 3 0 4) 3 1 5) 3 2 6) 3 3 7) := zfre_x h2 (by omega)
  have b4 := fun c s => zborn_m h3 c s 60
  have h4 : zfre 7 F G (zr2 (zr2 (zr2 (zr2 (zr2 R 3 0 4) 3 1 5) 3 2 6) 3 3 7) 3 4 8) := zfre_x h3 (by omega)
  have b5 := fun c s => zborn_m h4 c s 60
  have h5 : zfre 8 F G (zr2 (zr2 (zr2 (zr2 (zr2 (zr2 R 3 0 4) 3 1 5) 3 2 6) 3 3 7) 3 4 8) 3 5 9) := zfre_x h4 (by omega)
  have b6 := fun c s => zborn_m h5 c s 60
  have h6 : zfre 9 F G (zr2 (zr2 (zr2 (zr2 (zr2 (zr2 (zr2 R 3 0 4) 3 1 5) 3 2 6) 3 3 7) 3 4 8) 3 5 9) 3 6 10) := zfre_x h5 (by omega)
  have b7 := fun c s => zborn_m h6 c s 3
  have e57 := fun Q => c57 (L := L) (Q := Q) (F := F) (G := G) (R := (zr2 (zr2 (zr2 (zr2 (zr2 (zr2 (zr2 R 3 0 4) 3 1 5) 3 2 6) 3 3 7) 3 4 8) 3 5 9) 3 6 10)) (zfre_s h6)
  have hz : zfre 12 F G (zr2 (zr2 (zr2 (zr2 (zr2 (zr2 (zr2 (zr2 (zr2 (zr2 R 3 0 4) 3 1 5) 3 2 6) 3 3 7) 3 4 8) 3 5 9) 3 6 10) 11 1 12) 11 2 13) 3 7 11) := zfre_R (zfre_R (zfre_R (zfre_k h6 (by omega)) (by omega)) (by omega)) (by omega)
  have o9 := loop 0 (Nat.zero_le _) (zr2 (zr2 (zr2 (zr2 (zr2 (zr2 (zr2 (zr2 (zr2 (zr2 R 3 0 4) 3 1 5) 3 2 6) 3 3 7) 3 4 8) 3 5 9) 3 6 10) 11 1 12) 11 2 13) 3 7 11) hz ⟨rfl, rfl, rfl, rfl, rfl, rfl, rfl, rfl, rfl, rfl⟩ (fun k hk => absurd hk (Nat.not_lt_zero k)) (fun a ha => by
    rw [zr2_a (by omega), zr2_a (by omega), zr2_a (by omega), zr2_a (by omega), zr2_a (by omega), zr2_a (by omega), zr2_a (by omega), zr2_a (by omega), zr2_a (by omega), zr2_a (by omega)])
  rw [show 12 + 14 * 0 = 12 from rfl, show 404 + 96 * 0 = 404 from rfl, show ((0 : Nat) : Int) = 0 from rfl, show zshs F 0 = F from rfl] at o9
  refine zW_sound 90 [73] ?_
  simp only [ZF0, ZR0, zk_3, zk_4, zk_5, zk_6, zk_7, zk_8, zk_9, zk_10, zk_11, zmm_n, zmm_t, zmm_sR, Int.reduceToNat, b0, b1, b2, b3, b4, b5, b6, b7, ZF57.1, ZF57.2.1, ZF57.2.2.1, e57, zW_succ, zE_iload, zE_aload, zE_lload, zE_iinc, zE_istore, zE_astore, zE_lstore, zE_iconst, zE_ldc2, zE_iadd, zE_isub, zE_imul, zE_idiv, zE_irem, zE_ineg, zE_iand, zE_ior, zE_ixor, zE_ishl, zE_ishr, zE_land, zE_lor, zE_lxor, zE_lshl, zE_lshr, zE_i2l, zE_lcmp, zE_dup_i, zE_dup_a, zE_dup2_ia, zE_pop_i, zE_pop_a, zE_pop2, zE_goto, zE_if_eq, zE_icmp_eq, zE_if_ne, zE_icmp_ne, zE_if_lt, zE_icmp_lt, zE_if_ge, zE_icmp_ge, zE_if_gt, zE_icmp_gt, zE_if_le, zE_icmp_le, zE_iaload, zE_baload, zE_laload, zE_aaload, zE_iastore, zE_bastore, zE_lastore, zE_aastore, zE_alen, zE_getf0, zE_getf1, zE_getf2, zE_getf3, zE_putf0, zE_putf1, zE_putf2, zE_putf3, zE_new, zE_newa, zE_newq, zE_ireturn, zE_lreturn, zE_areturn, zE_return, zE_athrow, zE_st0, zE_vi0, zE_st1, zE_vi1, zE_st2, zE_vi2, zE_st3, zE_vi3, zE_st4, zE_vi4, zE_st5, zE_vi5, zE_st6, zE_vi6, zE_st7, zE_vi7, zE_st8, zE_vi8, zSt_0, zSL_0, zSt_1n, zSt_1i, zSt_1a, zSt_1l, zSt_2n, zSt_2i, zSt_2a, zSt_2l, zSt_3n, zSt_3i, zSt_3a, zSt_3l, zSt_4n, zSt_4i, zSt_4a, zSt_4l, zSt_5n, zSt_5i, zSt_5a, zSt_5l, zSt_6n, zSt_6i, zSt_6a, zSt_6l, zSt_7n, zSt_7i, zSt_7a, zSt_7l, zSt_8n, zSt_8i, zSt_8a, zSt_8l, zSt_9n, zSt_9i, zSt_9a, zSt_9l, zSt_10n, zSt_10i, zSt_10a, zSt_10l, zSt_11n, zSt_11i, zSt_11a, zSt_11l, zSt_12n, zSt_12i, zSt_12a, zSt_12l, zSt_13n, zSt_13i, zSt_13a, zSt_13l, zSL_1n, zSL_1i, zSL_1a, zSL_1l, zSL_2n, zSL_2i, zSL_2a, zSL_2l, zSL_3n, zSL_3i, zSL_3a, zSL_3l, zSL_4n, zSL_4i, zSL_4a, zSL_4l, zSL_5n, zSL_5i, zSL_5a, zSL_5l, zSL_6n, zSL_6i, zSL_6a, zSL_6l, zSL_7n, zSL_7i, zSL_7a, zSL_7l, zSL_8n, zSL_8i, zSL_8a, zSL_8l, zSL_9n, zSL_9i, zSL_9a, zSL_9l, zSL_10n, zSL_10i, zSL_10a, zSL_10l, zSL_11n, zSL_11i, zSL_11a, zSL_11l, zSL_12n, zSL_12i, zSL_12a, zSL_12l, zLI_0, zLL_0, zLA_0, zLI_1, zLL_1, zLA_1, zLI_2, zLL_2, zLA_2, zLI_3, zLL_3, zLA_3, zLI_4, zLL_4, zLA_4, zLI_5, zLL_5, zLA_5, zLI_6, zLL_6, zLA_6, zLI_7, zLL_7, zLA_7, zLI_8, zLL_8, zLA_8, zLI_9, zLL_9, zLA_9, zLI_10, zLL_10, zLA_10, zLI_11, zLL_11, zLA_11, zLI_12, zLL_12, zLA_12, zLI_13, zLL_13, zLA_13, zst_0, zst_1n, zst_1i, zst_1a, zst_2n, zst_2i, zst_2a, zst_3n, zst_3i, zst_3a, zst_4n, zst_4i, zst_4a, zst_5n, zst_5i, zst_5a, zst_6n, zst_6i, zst_6a, zst_7n, zst_7i, zst_7a, zst_8n, zst_8i, zst_8a, zst_9n, zst_9i, zst_9a, zst_10n, zst_10i, zst_10a, zst_11n, zst_11i, zst_11a, zst_12n, zst_12i, zst_12a, zst_13n, zst_13i, zst_13a, zst_14n, zst_14i, zst_14a, zst_15n, zst_15i, zst_15a, zR1_n, zR1_v, zsum_n, zsum_i, zsum_l, zsum_a, zlen_n, zlen_i, zlen_l, zlen_a, List.not_mem_nil, List.mem_cons, or_false, false_or, or_self, ↓reduceIte, if_false, if_true, Nat.reduceEqDiff, Nat.reduceAdd, Nat.reduceLeDiff, true_and, and_true, reduceCtorEq, ne_eq, Int.toNat_natCast, not_true_eq_false, not_false_eq_true, true_implies, false_implies, implies_true, Int.reduceToNat, Int.toNat_zero, Int.reduceLT, Int.reduceLE, Int.reduceEq, Int.reduceAdd, Int.reduceMul, Int.reduceNeg]
  (repeat' (first | with_reducible refine And.intro ?_ ?_ | with_reducible intro _)) <;> try first | with_reducible rfl | with_reducible assumption | omega | (unfold zr32; omega) | contradiction | (exact absurd (by omega) (by assumption)) | rfl | (simp only [Sum.inl.injEq, Option.some.injEq]; omega)
/-- a change's references -/
def zchR (R : Nat → Nat → Nat) (i : Nat) : Prop := R 854 i = 855 + 4 * i ∧ R (855 + 4 * i) 12 = 856 + 4 * i ∧ R (856 + 4 * i) 1 = 857 + 4 * i ∧ R (856 + 4 * i) 2 = 858 + 4 * i
/-- all of the class's references -/
def zclR (R : Nat → Nat → Nat) : Prop := zbdR R ∧ (∀ i, i < 60 → R 4 i = 14 + 14 * i ∧ zshR R (14 + 14 * i)) ∧ (∀ i, i < 60 → zchR R i) ∧ zshR R 1124 ∧ zshR R 1138 ∧ (R 2 0 = 3 ∧ R 2 1 = 854 ∧ R 2 3 = 1095 ∧ R 2 4 = 1098 ∧ R 2 5 = 1101 ∧ R 2 6 = 1103 ∧ R 2 7 = 1105 ∧ R 2 8 = 1115 ∧ R 2 9 = 1117 ∧ R 2 10 = 1124 ∧ R 2 11 = 1138 ∧ R 2 12 = 1152) ∧ (R 1095 1 = 1096 ∧ R 1095 2 = 1097 ∧ R 1098 1 = 1099 ∧ R 1098 2 = 1100 ∧ R 1101 1 = 1102 ∧ R 1103 1 = 1104) ∧ (R 1105 0 = 1106 ∧ R 1105 2 = 1107 ∧ R 1105 3 = 1108 ∧ R 1105 4 = 1109 ∧ R 1105 5 = 1110 ∧ R 1105 6 = 1111 ∧ R 1105 7 = 1112 ∧ R 1105 8 = 1113 ∧ R 1105 12 = 1114) ∧ R 1115 1 = 1116 ∧ (R 1117 0 = 1118 ∧ R 1117 1 = 1119 ∧ R 1117 2 = 1120 ∧ R 1117 3 = 1121 ∧ R 1117 4 = 1122 ∧ R 1117 5 = 1123)
def zcF (F : Nat → Nat → Int) : Nat → Nat → Int := zshI (zshI (zu2 (zfil (zshs F 60) 7 60 (-1)) 2 2 0) 1124) 1138
set_option maxRecDepth 8000 in
/-- after the changes are made -/
theorem c120_b {R0 : Nat → Nat → Nat} (hf : zfre 1093 F G R) (hp : zbdR R ∧ (∀ i, i < 60 → R 4 i = 14 + 14 * i ∧ zshR R (14 + 14 * i)) ∧ (∀ i, i < 60 → zchR R i) ∧ R 2 0 = 3 ∧ R 2 1 = 854) (ho : ∀ a, a < 2 → R a = R0 a) : zFR (zK L) 120 51 [some (.inr (.inr 2)), some (.inl 60)] [] (zmm 1093 1093 8144 F G R) (fun r M2 => ∃ R', r = .inl none ∧ M2 = zmm 1151 1151 25132 (zshI (zshI (zu2 F 2 2 0) 1124) 1138) G R' ∧ zfre 1151 (zshI (zshI (zu2 F 2 2 0) 1124) 1138) G R' ∧ zclR R' ∧ ∀ a, a < 2 → R' a = R0 a) := by
  have f0 := zfre_I (a := 2) (i := 2) (v := 0) hf (by omega)
  generalize hF : zu2 F 2 2 0 = F1 at *
  have b0 := fun c s => zborn_m f0 c s 3
  have g1 : zfre 1094 F1 G R := zfre_s f0
  have e0 := fun Q => c75 (L := L) (Q := Q) (n := 1094) (c := 1094) (s := 8147) (t := 1095) (F := F1) (G := G) (R := R) g1 (by omega) zk_1095 zk_1096 zk_1097
  have g2 : zfre 1096 F1 G (zr2 (zr2 (zr2 R 1095 1 1096) 1095 2 1097) 2 3 1095) := zfre_R (zfre_R (zfre_R (zfre_k g1 (by omega)) (by omega)) (by omega)) (by omega)
  have b1 := fun c s => zborn_m g2 c s 3
  have g3 : zfre 1097 F1 G (zr2 (zr2 (zr2 R 1095 1 1096) 1095 2 1097) 2 3 1095) := zfre_s g2
  have e1 := fun Q => c75 (L := L) (Q := Q) (n := 1097) (c := 1097) (s := 8166) (t := 1098) (F := F1) (G := G) (R := (zr2 (zr2 (zr2 R 1095 1 1096) 1095 2 1097) 2 3 1095)) g3 (by omega) zk_1098 zk_1099 zk_1100
  have g4 : zfre 1099 F1 G (zr2 (zr2 (zr2 (zr2 (zr2 (zr2 R 1095 1 1096) 1095 2 1097) 2 3 1095) 1098 1 1099) 1098 2 1100) 2 4 1098) := zfre_R (zfre_R (zfre_R (zfre_k g3 (by omega)) (by omega)) (by omega)) (by omega)
  have b2 := fun c s => zborn_m g4 c s 2
  have g5 : zfre 1100 F1 G (zr2 (zr2 (zr2 (zr2 (zr2 (zr2 R 1095 1 1096) 1095 2 1097) 2 3 1095) 1098 1 1099) 1098 2 1100) 2 4 1098) := zfre_s g4
  have e2 : ∀ Q : zO → zM → Prop, zFR (zK L) 113 0 (zcall 113 [.inr (.inr 1101), .inl 80]) [] (zmm 1100 1100 8184 F1 G (zr2 (zr2 (zr2 (zr2 (zr2 (zr2 R 1095 1 1096) 1095 2 1097) 2 3 1095) 1098 1 1099) 1098 2 1100) 2 4 1098)) Q = Q (.inl none) (zmm 1101 1101 8264 F1 G (zr2 (zr2 (zr2 (zr2 (zr2 (zr2 (zr2 R 1095 1 1096) 1095 2 1097) 2 3 1095) 1098 1 1099) 1098 2 1100) 2 4 1098) 1101 1 1102)) := fun Q => c113 (L := L) (Q := Q) (n := 1100) (c := 1100) (s := 8184) (t := 1101) (m := 80) (F := F1) (G := G) (R := (zr2 (zr2 (zr2 (zr2 (zr2 (zr2 R 1095 1 1096) 1095 2 1097) 2 3 1095) 1098 1 1099) 1098 2 1100) 2 4 1098)) g5 (by omega) (by omega) (by omega) zk_1101 zk_1102
  have g6 : zfre 1101 F1 G (zr2 (zr2 (zr2 (zr2 (zr2 (zr2 (zr2 (zr2 R 1095 1 1096) 1095 2 1097) 2 3 1095) 1098 1 1099) 1098 2 1100) 2 4 1098) 1101 1 1102) 2 5 1101) := zfre_R (zfre_R (zfre_k g5 (by omega)) (by omega)) (by omega)
  have b3 := fun c s => zborn_m g6 c s 2
  have g7 : zfre 1102 F1 G (zr2 (zr2 (zr2 (zr2 (zr2 (zr2 (zr2 (zr2 R 1095 1 1096) 1095 2 1097) 2 3 1095) 1098 1 1099) 1098 2 1100) 2 4 1098) 1101 1 1102) 2 5 1101) := zfre_s g6
  have e3 : ∀ Q : zO → zM → Prop, zFR (zK L) 113 0 (zcall 113 [.inr (.inr 1103), .inl 228]) [] (zmm 1102 1102 8266 F1 G (zr2 (zr2 (zr2 (zr2 (zr2 (zr2 (zr2 (zr2 R 1095 1 1096) 1095 2 1097) 2 3 1095) 1098 1 1099) 1098 2 1100) 2 4 1098) 1101 1 1102) 2 5 1101)) Q = Q (.inl none) (zmm 1103 1103 8494 F1 G (zr2 (zr2 (zr2 (zr2 (zr2 (zr2 (zr2 (zr2 (zr2 R 1095 1 1096) 1095 2 1097) 2 3 1095) 1098 1 1099) 1098 2 1100) 2 4 1098) 1101 1 1102) 2 5 1101) 1103 1 1104)) := fun Q => c113 (L := L) (Q := Q) (n := 1102) (c := 1102) (s := 8266) (t := 1103) (m := 228) (F := F1) (G := G) (R := (zr2 (zr2 (zr2 (zr2 (zr2 (zr2 (zr2 (zr2 R 1095 1 1096) 1095 2 1097) 2 3 1095) 1098 1 1099) 1098 2 1100) 2 4 1098) 1101 1 1102) 2 5 1101)) g7 (by omega) (by omega) (by omega) zk_1103 zk_1104
  have g8 : zfre 1103 F1 G (zr2 (zr2 (zr2 (zr2 (zr2 (zr2 (zr2 (zr2 (zr2 (zr2 R 1095 1 1096) 1095 2 1097) 2 3 1095) 1098 1 1099) 1098 2 1100) 2 4 1098) 1101 1 1102) 2 5 1101) 1103 1 1104) 2 6 1103) := zfre_R (zfre_R (zfre_k g7 (by omega)) (by omega)) (by omega)
  have b4 := fun c s => zborn_m g8 c s 13
  have g9 : zfre 1104 F1 G (zr2 (zr2 (zr2 (zr2 (zr2 (zr2 (zr2 (zr2 (zr2 (zr2 R 1095 1 1096) 1095 2 1097) 2 3 1095) 1098 1 1099) 1098 2 1100) 2 4 1098) 1101 1 1102) 2 5 1101) 1103 1 1104) 2 6 1103) := zfre_s g8
  have e4 := fun Q => c104 (L := L) (Q := Q) (F := F1) (G := G) (R := (zr2 (zr2 (zr2 (zr2 (zr2 (zr2 (zr2 (zr2 (zr2 (zr2 R 1095 1 1096) 1095 2 1097) 2 3 1095) 1098 1 1099) 1098 2 1100) 2 4 1098) 1101 1 1102) 2 5 1101) 1103 1 1104) 2 6 1103)) g9
  have g10 : zfre 1113 F1 G (zr2 (zr2 (zr2 (zr2 (zr2 (zr2 (zr2 (zr2 (zr2 (zr2 (zr2 (zr2 (zr2 (zr2 (zr2 (zr2 (zr2 (zr2 (zr2 (zr2 R 1095 1 1096) 1095 2 1097) 2 3 1095) 1098 1 1099) 1098 2 1100) 2 4 1098) 1101 1 1102) 2 5 1101) 1103 1 1104) 2 6 1103) 1105 0 1106) 1105 2 1107) 1105 3 1108) 1105 4 1109) 1105 5 1110) 1105 6 1111) 1105 7 1112) 1105 8 1113) 1105 12 1114) 2 7 1105) := zfre_R (zfre_R (zfre_R (zfre_R (zfre_R (zfre_R (zfre_R (zfre_R (zfre_R (zfre_R (zfre_k g9 (by omega)) (by omega)) (by omega)) (by omega)) (by omega)) (by omega)) (by omega)) (by omega)) (by omega)) (by omega)) (by omega)
  have b5 := fun c s => zborn_m g10 c s 2
  have g11 : zfre 1114 F1 G (zr2 (zr2 (zr2 (zr2 (zr2 (zr2 (zr2 (zr2 (zr2 (zr2 (zr2 (zr2 (zr2 (zr2 (zr2 (zr2 (zr2 (zr2 (zr2 (zr2 R 1095 1 1096) 1095 2 1097) 2 3 1095) 1098 1 1099) 1098 2 1100) 2 4 1098) 1101 1 1102) 2 5 1101) 1103 1 1104) 2 6 1103) 1105 0 1106) 1105 2 1107) 1105 3 1108) 1105 4 1109) 1105 5 1110) 1105 6 1111) 1105 7 1112) 1105 8 1113) 1105 12 1114) 2 7 1105) := zfre_s g10
  have e5 := fun Q => c49 (L := L) (Q := Q) (F := F1) (G := G) (R := (zr2 (zr2 (zr2 (zr2 (zr2 (zr2 (zr2 (zr2 (zr2 (zr2 (zr2 (zr2 (zr2 (zr2 (zr2 (zr2 (zr2 (zr2 (zr2 (zr2 R 1095 1 1096) 1095 2 1097) 2 3 1095) 1098 1 1099) 1098 2 1100) 2 4 1098) 1101 1 1102) 2 5 1101) 1103 1 1104) 2 6 1103) 1105 0 1106) 1105 2 1107) 1105 3 1108) 1105 4 1109) 1105 5 1110) 1105 6 1111) 1105 7 1112) 1105 8 1113) 1105 12 1114) 2 7 1105)) g11
  have g12 : zfre 1115 F1 G (zr2 (zr2 (zr2 (zr2 (zr2 (zr2 (zr2 (zr2 (zr2 (zr2 (zr2 (zr2 (zr2 (zr2 (zr2 (zr2 (zr2 (zr2 (zr2 (zr2 (zr2 (zr2 R 1095 1 1096) 1095 2 1097) 2 3 1095) 1098 1 1099) 1098 2 1100) 2 4 1098) 1101 1 1102) 2 5 1101) 1103 1 1104) 2 6 1103) 1105 0 1106) 1105 2 1107) 1105 3 1108) 1105 4 1109) 1105 5 1110) 1105 6 1111) 1105 7 1112) 1105 8 1113) 1105 12 1114) 2 7 1105) 1115 1 1116) 2 8 1115) := zfre_R (zfre_R (zfre_k g11 (by omega)) (by omega)) (by omega)
  have b6 := fun c s => zborn_m g12 c s 7
  have g13 : zfre 1116 F1 G (zr2 (zr2 (zr2 (zr2 (zr2 (zr2 (zr2 (zr2 (zr2 (zr2 (zr2 (zr2 (zr2 (zr2 (zr2 (zr2 (zr2 (zr2 (zr2 (zr2 (zr2 (zr2 R 1095 1 1096) 1095 2 1097) 2 3 1095) 1098 1 1099) 1098 2 1100) 2 4 1098) 1101 1 1102) 2 5 1101) 1103 1 1104) 2 6 1103) 1105 0 1106) 1105 2 1107) 1105 3 1108) 1105 4 1109) 1105 5 1110) 1105 6 1111) 1105 7 1112) 1105 8 1113) 1105 12 1114) 2 7 1105) 1115 1 1116) 2 8 1115) := zfre_s g12
  have e6 := fun Q => c63 (L := L) (Q := Q) (F := F1) (G := G) (R := (zr2 (zr2 (zr2 (zr2 (zr2 (zr2 (zr2 (zr2 (zr2 (zr2 (zr2 (zr2 (zr2 (zr2 (zr2 (zr2 (zr2 (zr2 (zr2 (zr2 (zr2 (zr2 R 1095 1 1096) 1095 2 1097) 2 3 1095) 1098 1 1099) 1098 2 1100) 2 4 1098) 1101 1 1102) 2 5 1101) 1103 1 1104) 2 6 1103) 1105 0 1106) 1105 2 1107) 1105 3 1108) 1105 4 1109) 1105 5 1110) 1105 6 1111) 1105 7 1112) 1105 8 1113) 1105 12 1114) 2 7 1105) 1115 1 1116) 2 8 1115)) g13
  have g14 : zfre 1122 F1 G (zr2 (zr2 (zr2 (zr2 (zr2 (zr2 (zr2 (zr2 (zr2 (zr2 (zr2 (zr2 (zr2 (zr2 (zr2 (zr2 (zr2 (zr2 (zr2 (zr2 (zr2 (zr2 (zr2 (zr2 (zr2 (zr2 (zr2 (zr2 (zr2 R 1095 1 1096) 1095 2 1097) 2 3 1095) 1098 1 1099) 1098 2 1100) 2 4 1098) 1101 1 1102) 2 5 1101) 1103 1 1104) 2 6 1103) 1105 0 1106) 1105 2 1107) 1105 3 1108) 1105 4 1109) 1105 5 1110) 1105 6 1111) 1105 7 1112) 1105 8 1113) 1105 12 1114) 2 7 1105) 1115 1 1116) 2 8 1115) 1117 0 1118) 1117 1 1119) 1117 2 1120) 1117 3 1121) 1117 4 1122) 1117 5 1123) 2 9 1117) := zfre_R (zfre_R (zfre_R (zfre_R (zfre_R (zfre_R (zfre_R (zfre_k g13 (by omega)) (by omega)) (by omega)) (by omega)) (by omega)) (by omega)) (by omega)) (by omega)
  have nxt : zFR (zK L) 120 138 [some (.inr (.inr 2)), some (.inl 60)] [] (zmm 1122 1122 24939 F1 G (zr2 (zr2 (zr2 (zr2 (zr2 (zr2 (zr2 (zr2 (zr2 (zr2 (zr2 (zr2 (zr2 (zr2 (zr2 (zr2 (zr2 (zr2 (zr2 (zr2 (zr2 (zr2 (zr2 (zr2 (zr2 (zr2 (zr2 (zr2 (zr2 R 1095 1 1096) 1095 2 1097) 2 3 1095) 1098 1 1099) 1098 2 1100) 2 4 1098) 1101 1 1102) 2 5 1101) 1103 1 1104) 2 6 1103) 1105 0 1106) 1105 2 1107) 1105 3 1108) 1105 4 1109) 1105 5 1110) 1105 6 1111) 1105 7 1112) 1105 8 1113) 1105 12 1114) 2 7 1105) 1115 1 1116) 2 8 1115) 1117 0 1118) 1117 1 1119) 1117 2 1120) 1117 3 1121) 1117 4 1122) 1117 5 1123) 2 9 1117)) (fun r M2 => ∃ R', r = .inl none ∧ M2 = zmm 1151 1151 25132 (zshI (zshI F1 1124) 1138) G R' ∧ zfre 1151 (zshI (zshI F1 1124) 1138) G R' ∧ zclR R' ∧ ∀ a, a < 2 → R' a = R0 a) := by
    obtain ⟨p1, p2, p3, p4, p5⟩ := hp
    have oR : ∀ a, a ≠ 2 → a < 1095 → (zr2 (zr2 (zr2 (zr2 (zr2 (zr2 (zr2 (zr2 (zr2 (zr2 (zr2 (zr2 (zr2 (zr2 (zr2 (zr2 (zr2 (zr2 (zr2 (zr2 (zr2 (zr2 (zr2 (zr2 (zr2 (zr2 (zr2 (zr2 (zr2 R 1095 1 1096) 1095 2 1097) 2 3 1095) 1098 1 1099) 1098 2 1100) 2 4 1098) 1101 1 1102) 2 5 1101) 1103 1 1104) 2 6 1103) 1105 0 1106) 1105 2 1107) 1105 3 1108) 1105 4 1109) 1105 5 1110) 1105 6 1111) 1105 7 1112) 1105 8 1113) 1105 12 1114) 2 7 1105) 1115 1 1116) 2 8 1115) 1117 0 1118) 1117 1 1119) 1117 2 1120) 1117 3 1121) 1117 4 1122) 1117 5 1123) 2 9 1117) a = R a := fun a h1 h2 => by
      rw [zr2_a (by omega), zr2_a (by omega), zr2_a (by omega), zr2_a (by omega), zr2_a (by omega), zr2_a (by omega), zr2_a (by omega), zr2_a (by omega), zr2_a (by omega), zr2_a (by omega), zr2_a (by omega), zr2_a (by omega), zr2_a (by omega), zr2_a (by omega), zr2_a (by omega), zr2_a (by omega), zr2_a (by omega), zr2_a (by omega), zr2_a (by omega), zr2_a (by omega), zr2_a (by omega), zr2_a (by omega), zr2_a (by omega), zr2_a (by omega), zr2_a (by omega), zr2_a (by omega), zr2_a (by omega), zr2_a (by omega), zr2_a (by omega)]
    have x20 : (zr2 (zr2 (zr2 (zr2 (zr2 (zr2 (zr2 (zr2 (zr2 (zr2 (zr2 (zr2 (zr2 (zr2 (zr2 (zr2 (zr2 (zr2 (zr2 (zr2 (zr2 (zr2 (zr2 (zr2 (zr2 (zr2 (zr2 (zr2 (zr2 R 1095 1 1096) 1095 2 1097) 2 3 1095) 1098 1 1099) 1098 2 1100) 2 4 1098) 1101 1 1102) 2 5 1101) 1103 1 1104) 2 6 1103) 1105 0 1106) 1105 2 1107) 1105 3 1108) 1105 4 1109) 1105 5 1110) 1105 6 1111) 1105 7 1112) 1105 8 1113) 1105 12 1114) 2 7 1105) 1115 1 1116) 2 8 1115) 1117 0 1118) 1117 1 1119) 1117 2 1120) 1117 3 1121) 1117 4 1122) 1117 5 1123) 2 9 1117) 2 0 = 3 := p4
    have x21 : (zr2 (zr2 (zr2 (zr2 (zr2 (zr2 (zr2 (zr2 (zr2 (zr2 (zr2 (zr2 (zr2 (zr2 (zr2 (zr2 (zr2 (zr2 (zr2 (zr2 (zr2 (zr2 (zr2 (zr2 (zr2 (zr2 (zr2 (zr2 (zr2 R 1095 1 1096) 1095 2 1097) 2 3 1095) 1098 1 1099) 1098 2 1100) 2 4 1098) 1101 1 1102) 2 5 1101) 1103 1 1104) 2 6 1103) 1105 0 1106) 1105 2 1107) 1105 3 1108) 1105 4 1109) 1105 5 1110) 1105 6 1111) 1105 7 1112) 1105 8 1113) 1105 12 1114) 2 7 1105) 1115 1 1116) 2 8 1115) 1117 0 1118) 1117 1 1119) 1117 2 1120) 1117 3 1121) 1117 4 1122) 1117 5 1123) 2 9 1117) 2 1 = 854 := p5
    have y2_3 : (zr2 (zr2 (zr2 (zr2 (zr2 (zr2 (zr2 (zr2 (zr2 (zr2 (zr2 (zr2 (zr2 (zr2 (zr2 (zr2 (zr2 (zr2 (zr2 (zr2 (zr2 (zr2 (zr2 (zr2 (zr2 (zr2 (zr2 (zr2 (zr2 R 1095 1 1096) 1095 2 1097) 2 3 1095) 1098 1 1099) 1098 2 1100) 2 4 1098) 1101 1 1102) 2 5 1101) 1103 1 1104) 2 6 1103) 1105 0 1106) 1105 2 1107) 1105 3 1108) 1105 4 1109) 1105 5 1110) 1105 6 1111) 1105 7 1112) 1105 8 1113) 1105 12 1114) 2 7 1105) 1115 1 1116) 2 8 1115) 1117 0 1118) 1117 1 1119) 1117 2 1120) 1117 3 1121) 1117 4 1122) 1117 5 1123) 2 9 1117) 2 3 = 1095 := rfl
    have y2_4 : (zr2 (zr2 (zr2 (zr2 (zr2 (zr2 (zr2 (zr2 (zr2 (zr2 (zr2 (zr2 (zr2 (zr2 (zr2 (zr2 (zr2 (zr2 (zr2 (zr2 (zr2 (zr2 (zr2 (zr2 (zr2 (zr2 (zr2 (zr2 (zr2 R 1095 1 1096) 1095 2 1097) 2 3 1095) 1098 1 1099) 1098 2 1100) 2 4 1098) 1101 1 1102) 2 5 1101) 1103 1 1104) 2 6 1103) 1105 0 1106) 1105 2 1107) 1105 3 1108) 1105 4 1109) 1105 5 1110) 1105 6 1111) 1105 7 1112) 1105 8 1113) 1105 12 1114) 2 7 1105) 1115 1 1116) 2 8 1115) 1117 0 1118) 1117 1 1119) 1117 2 1120) 1117 3 1121) 1117 4 1122) 1117 5 1123) 2 9 1117) 2 4 = 1098 := rfl
    have y2_5 : (zr2 (zr2 (zr2 (zr2 (zr2 (zr2 (zr2 (zr2 (zr2 (zr2 (zr2 (zr2 (zr2 (zr2 (zr2 (zr2 (zr2 (zr2 (zr2 (zr2 (zr2 (zr2 (zr2 (zr2 (zr2 (zr2 (zr2 (zr2 (zr2 R 1095 1 1096) 1095 2 1097) 2 3 1095) 1098 1 1099) 1098 2 1100) 2 4 1098) 1101 1 1102) 2 5 1101) 1103 1 1104) 2 6 1103) 1105 0 1106) 1105 2 1107) 1105 3 1108) 1105 4 1109) 1105 5 1110) 1105 6 1111) 1105 7 1112) 1105 8 1113) 1105 12 1114) 2 7 1105) 1115 1 1116) 2 8 1115) 1117 0 1118) 1117 1 1119) 1117 2 1120) 1117 3 1121) 1117 4 1122) 1117 5 1123) 2 9 1117) 2 5 = 1101 := rfl
    have y2_6 : (zr2 (zr2 (zr2 (zr2 (zr2 (zr2 (zr2 (zr2 (zr2 (zr2 (zr2 (zr2 (zr2 (zr2 (zr2 (zr2 (zr2 (zr2 (zr2 (zr2 (zr2 (zr2 (zr2 (zr2 (zr2 (zr2 (zr2 (zr2 (zr2 R 1095 1 1096) 1095 2 1097) 2 3 1095) 1098 1 1099) 1098 2 1100) 2 4 1098) 1101 1 1102) 2 5 1101) 1103 1 1104) 2 6 1103) 1105 0 1106) 1105 2 1107) 1105 3 1108) 1105 4 1109) 1105 5 1110) 1105 6 1111) 1105 7 1112) 1105 8 1113) 1105 12 1114) 2 7 1105) 1115 1 1116) 2 8 1115) 1117 0 1118) 1117 1 1119) 1117 2 1120) 1117 3 1121) 1117 4 1122) 1117 5 1123) 2 9 1117) 2 6 = 1103 := rfl
    have y2_7 : (zr2 (zr2 (zr2 (zr2 (zr2 (zr2 (zr2 (zr2 (zr2 (zr2 (zr2 (zr2 (zr2 (zr2 (zr2 (zr2 (zr2 (zr2 (zr2 (zr2 (zr2 (zr2 (zr2 (zr2 (zr2 (zr2 (zr2 (zr2 (zr2 R 1095 1 1096) 1095 2 1097) 2 3 1095) 1098 1 1099) 1098 2 1100) 2 4 1098) 1101 1 1102) 2 5 1101) 1103 1 1104) 2 6 1103) 1105 0 1106) 1105 2 1107) 1105 3 1108) 1105 4 1109) 1105 5 1110) 1105 6 1111) 1105 7 1112) 1105 8 1113) 1105 12 1114) 2 7 1105) 1115 1 1116) 2 8 1115) 1117 0 1118) 1117 1 1119) 1117 2 1120) 1117 3 1121) 1117 4 1122) 1117 5 1123) 2 9 1117) 2 7 = 1105 := rfl
    have y2_8 : (zr2 (zr2 (zr2 (zr2 (zr2 (zr2 (zr2 (zr2 (zr2 (zr2 (zr2 (zr2 (zr2 (zr2 (zr2 (zr2 (zr2 (zr2 (zr2 (zr2 (zr2 (zr2 (zr2 (zr2 (zr2 (zr2 (zr2 (zr2 (zr2 R 1095 1 1096) 1095 2 1097) 2 3 1095) 1098 1 1099) 1098 2 1100) 2 4 1098) 1101 1 1102) 2 5 1101) 1103 1 1104) 2 6 1103) 1105 0 1106) 1105 2 1107) 1105 3 1108) 1105 4 1109) 1105 5 1110) 1105 6 1111) 1105 7 1112) 1105 8 1113) 1105 12 1114) 2 7 1105) 1115 1 1116) 2 8 1115) 1117 0 1118) 1117 1 1119) 1117 2 1120) 1117 3 1121) 1117 4 1122) 1117 5 1123) 2 9 1117) 2 8 = 1115 := rfl
    have y2_9 : (zr2 (zr2 (zr2 (zr2 (zr2 (zr2 (zr2 (zr2 (zr2 (zr2 (zr2 (zr2 (zr2 (zr2 (zr2 (zr2 (zr2 (zr2 (zr2 (zr2 (zr2 (zr2 (zr2 (zr2 (zr2 (zr2 (zr2 (zr2 (zr2 R 1095 1 1096) 1095 2 1097) 2 3 1095) 1098 1 1099) 1098 2 1100) 2 4 1098) 1101 1 1102) 2 5 1101) 1103 1 1104) 2 6 1103) 1105 0 1106) 1105 2 1107) 1105 3 1108) 1105 4 1109) 1105 5 1110) 1105 6 1111) 1105 7 1112) 1105 8 1113) 1105 12 1114) 2 7 1105) 1115 1 1116) 2 8 1115) 1117 0 1118) 1117 1 1119) 1117 2 1120) 1117 3 1121) 1117 4 1122) 1117 5 1123) 2 9 1117) 2 9 = 1117 := rfl
    have y1095_1 : (zr2 (zr2 (zr2 (zr2 (zr2 (zr2 (zr2 (zr2 (zr2 (zr2 (zr2 (zr2 (zr2 (zr2 (zr2 (zr2 (zr2 (zr2 (zr2 (zr2 (zr2 (zr2 (zr2 (zr2 (zr2 (zr2 (zr2 (zr2 (zr2 R 1095 1 1096) 1095 2 1097) 2 3 1095) 1098 1 1099) 1098 2 1100) 2 4 1098) 1101 1 1102) 2 5 1101) 1103 1 1104) 2 6 1103) 1105 0 1106) 1105 2 1107) 1105 3 1108) 1105 4 1109) 1105 5 1110) 1105 6 1111) 1105 7 1112) 1105 8 1113) 1105 12 1114) 2 7 1105) 1115 1 1116) 2 8 1115) 1117 0 1118) 1117 1 1119) 1117 2 1120) 1117 3 1121) 1117 4 1122) 1117 5 1123) 2 9 1117) 1095 1 = 1096 := rfl
    have y1095_2 : (zr2 (zr2 (zr2 (zr2 (zr2 (zr2 (zr2 (zr2 (zr2 (zr2 (zr2 (zr2 (zr2 (zr2 (zr2 (zr2 (zr2 (zr2 (zr2 (zr2 (zr2 (zr2 (zr2 (zr2 (zr2 (zr2 (zr2 (zr2 (zr2 R 1095 1 1096) 1095 2 1097) 2 3 1095) 1098 1 1099) 1098 2 1100) 2 4 1098) 1101 1 1102) 2 5 1101) 1103 1 1104) 2 6 1103) 1105 0 1106) 1105 2 1107) 1105 3 1108) 1105 4 1109) 1105 5 1110) 1105 6 1111) 1105 7 1112) 1105 8 1113) 1105 12 1114) 2 7 1105) 1115 1 1116) 2 8 1115) 1117 0 1118) 1117 1 1119) 1117 2 1120) 1117 3 1121) 1117 4 1122) 1117 5 1123) 2 9 1117) 1095 2 = 1097 := rfl
    have y1098_1 : (zr2 (zr2 (zr2 (zr2 (zr2 (zr2 (zr2 (zr2 (zr2 (zr2 (zr2 (zr2 (zr2 (zr2 (zr2 (zr2 (zr2 (zr2 (zr2 (zr2 (zr2 (zr2 (zr2 (zr2 (zr2 (zr2 (zr2 (zr2 (zr2 R 1095 1 1096) 1095 2 1097) 2 3 1095) 1098 1 1099) 1098 2 1100) 2 4 1098) 1101 1 1102) 2 5 1101) 1103 1 1104) 2 6 1103) 1105 0 1106) 1105 2 1107) 1105 3 1108) 1105 4 1109) 1105 5 1110) 1105 6 1111) 1105 7 1112) 1105 8 1113) 1105 12 1114) 2 7 1105) 1115 1 1116) 2 8 1115) 1117 0 1118) 1117 1 1119) 1117 2 1120) 1117 3 1121) 1117 4 1122) 1117 5 1123) 2 9 1117) 1098 1 = 1099 := rfl
    have y1098_2 : (zr2 (zr2 (zr2 (zr2 (zr2 (zr2 (zr2 (zr2 (zr2 (zr2 (zr2 (zr2 (zr2 (zr2 (zr2 (zr2 (zr2 (zr2 (zr2 (zr2 (zr2 (zr2 (zr2 (zr2 (zr2 (zr2 (zr2 (zr2 (zr2 R 1095 1 1096) 1095 2 1097) 2 3 1095) 1098 1 1099) 1098 2 1100) 2 4 1098) 1101 1 1102) 2 5 1101) 1103 1 1104) 2 6 1103) 1105 0 1106) 1105 2 1107) 1105 3 1108) 1105 4 1109) 1105 5 1110) 1105 6 1111) 1105 7 1112) 1105 8 1113) 1105 12 1114) 2 7 1105) 1115 1 1116) 2 8 1115) 1117 0 1118) 1117 1 1119) 1117 2 1120) 1117 3 1121) 1117 4 1122) 1117 5 1123) 2 9 1117) 1098 2 = 1100 := rfl
    have y1101_1 : (zr2 (zr2 (zr2 (zr2 (zr2 (zr2 (zr2 (zr2 (zr2 (zr2 (zr2 (zr2 (zr2 (zr2 (zr2 (zr2 (zr2 (zr2 (zr2 (zr2 (zr2 (zr2 (zr2 (zr2 (zr2 (zr2 (zr2 (zr2 (zr2 R 1095 1 1096) 1095 2 1097) 2 3 1095) 1098 1 1099) 1098 2 1100) 2 4 1098) 1101 1 1102) 2 5 1101) 1103 1 1104) 2 6 1103) 1105 0 1106) 1105 2 1107) 1105 3 1108) 1105 4 1109) 1105 5 1110) 1105 6 1111) 1105 7 1112) 1105 8 1113) 1105 12 1114) 2 7 1105) 1115 1 1116) 2 8 1115) 1117 0 1118) 1117 1 1119) 1117 2 1120) 1117 3 1121) 1117 4 1122) 1117 5 1123) 2 9 1117) 1101 1 = 1102 := rfl
    have y1103_1 : (zr2 (zr2 (zr2 (zr2 (zr2 (zr2 (zr2 (zr2 (zr2 (zr2 (zr2 (zr2 (zr2 (zr2 (zr2 (zr2 (zr2 (zr2 (zr2 (zr2 (zr2 (zr2 (zr2 (zr2 (zr2 (zr2 (zr2 (zr2 (zr2 R 1095 1 1096) 1095 2 1097) 2 3 1095) 1098 1 1099) 1098 2 1100) 2 4 1098) 1101 1 1102) 2 5 1101) 1103 1 1104) 2 6 1103) 1105 0 1106) 1105 2 1107) 1105 3 1108) 1105 4 1109) 1105 5 1110) 1105 6 1111) 1105 7 1112) 1105 8 1113) 1105 12 1114) 2 7 1105) 1115 1 1116) 2 8 1115) 1117 0 1118) 1117 1 1119) 1117 2 1120) 1117 3 1121) 1117 4 1122) 1117 5 1123) 2 9 1117) 1103 1 = 1104 := rfl
    have y1105_0 : (zr2 (zr2 (zr2 (zr2 (zr2 (zr2 (zr2 (zr2 (zr2 (zr2 (zr2 (zr2 (zr2 (zr2 (zr2 (zr2 (zr2 (zr2 (zr2 (zr2 (zr2 (zr2 (zr2 (zr2 (zr2 (zr2 (zr2 (zr2 (zr2 R 1095 1 1096) 1095 2 1097) 2 3 1095) 1098 1 1099) 1098 2 1100) 2 4 1098) 1101 1 1102) 2 5 1101) 1103 1 1104) 2 6 1103) 1105 0 1106) 1105 2 1107) 1105 3 1108) 1105 4 1109) 1105 5 1110) 1105 6 1111) 1105 7 1112) 1105 8 1113) 1105 12 1114) 2 7 1105) 1115 1 1116) 2 8 1115) 1117 0 1118) 1117 1 1119) 1117 2 1120) 1117 3 1121) 1117 4 1122) 1117 5 1123) 2 9 1117) 1105 0 = 1106 := rfl
    have y1105_2 : (zr2 (zr2 (zr2 (zr2 (zr2 (zr2 (zr2 (zr2 (zr2 (zr2 (zr2 (zr2 (zr2 (zr2 (zr2 (zr2 (zr2 (zr2 (zr2 (zr2 (zr2 (zr2 (zr2 (zr2 (zr2 (zr2 (zr2 (zr2 (zr2 R 1095 1 1096) 1095 2 1097) 2 3 1095) 1098 1 1099) 1098 2 1100) 2 4 1098) 1101 1 1102) 2 5 1101) 1103 1 1104) 2 6 1103) 1105 0 1106) 1105 2 1107) 1105 3 1108) 1105 4 1109) 1105 5 1110) 1105 6 1111) 1105 7 1112) 1105 8 1113) 1105 12 1114) 2 7 1105) 1115 1 1116) 2 8 1115) 1117 0 1118) 1117 1 1119) 1117 2 1120) 1117 3 1121) 1117 4 1122) 1117 5 1123) 2 9 1117) 1105 2 = 1107 := rfl
    have y1105_3 : (zr2 (zr2 (zr2 (zr2 (zr2 (zr2 (zr2 (zr2 (zr2 (zr2 (zr2 (zr2 (zr2 (zr2 (zr2 (zr2 (zr2 (zr2 (zr2 (zr2 (zr2 (zr2 (zr2 (zr2 (zr2 (zr2 (zr2 (zr2 (zr2 R 1095 1 1096) 1095 2 1097) 2 3 1095) 1098 1 1099) 1098 2 1100) 2 4 1098) 1101 1 1102) 2 5 1101) 1103 1 1104) 2 6 1103) 1105 0 1106) 1105 2 1107) 1105 3 1108) 1105 4 1109) 1105 5 1110) 1105 6 1111) 1105 7 1112) 1105 8 1113) 1105 12 1114) 2 7 1105) 1115 1 1116) 2 8 1115) 1117 0 1118) 1117 1 1119) 1117 2 1120) 1117 3 1121) 1117 4 1122) 1117 5 1123) 2 9 1117) 1105 3 = 1108 := rfl
    have y1105_4 : (zr2 (zr2 (zr2 (zr2 (zr2 (zr2 (zr2 (zr2 (zr2 (zr2 (zr2 (zr2 (zr2 (zr2 (zr2 (zr2 (zr2 (zr2 (zr2 (zr2 (zr2 (zr2 (zr2 (zr2 (zr2 (zr2 (zr2 (zr2 (zr2 R 1095 1 1096) 1095 2 1097) 2 3 1095) 1098 1 1099) 1098 2 1100) 2 4 1098) 1101 1 1102) 2 5 1101) 1103 1 1104) 2 6 1103) 1105 0 1106) 1105 2 1107) 1105 3 1108) 1105 4 1109) 1105 5 1110) 1105 6 1111) 1105 7 1112) 1105 8 1113) 1105 12 1114) 2 7 1105) 1115 1 1116) 2 8 1115) 1117 0 1118) 1117 1 1119) 1117 2 1120) 1117 3 1121) 1117 4 1122) 1117 5 1123) 2 9 1117) 1105 4 = 1109 := rfl
    have y1105_5 : (zr2 (zr2 (zr2 (zr2 (zr2 (zr2 (zr2 (zr2 (zr2 (zr2 (zr2 (zr2 (zr2 (zr2 (zr2 (zr2 (zr2 (zr2 (zr2 (zr2 (zr2 (zr2 (zr2 (zr2 (zr2 (zr2 (zr2 (zr2 (zr2 R 1095 1 1096) 1095 2 1097) 2 3 1095) 1098 1 1099) 1098 2 1100) 2 4 1098) 1101 1 1102) 2 5 1101) 1103 1 1104) 2 6 1103) 1105 0 1106) 1105 2 1107) 1105 3 1108) 1105 4 1109) 1105 5 1110) 1105 6 1111) 1105 7 1112) 1105 8 1113) 1105 12 1114) 2 7 1105) 1115 1 1116) 2 8 1115) 1117 0 1118) 1117 1 1119) 1117 2 1120) 1117 3 1121) 1117 4 1122) 1117 5 1123) 2 9 1117) 1105 5 = 1110 := rfl
    have y1105_6 : (zr2 (zr2 (zr2 (zr2 (zr2 (zr2 (zr2 (zr2 (zr2 (zr2 (zr2 (zr2 (zr2 (zr2 (zr2 (zr2 (zr2 (zr2 (zr2 (zr2 (zr2 (zr2 (zr2 (zr2 (zr2 (zr2 (zr2 (zr2 (zr2 R 1095 1 1096) 1095 2 1097) 2 3 1095) 1098 1 1099) 1098 2 1100) 2 4 1098) 1101 1 1102) 2 5 1101) 1103 1 1104) 2 6 1103) 1105 0 1106) 1105 2 1107) 1105 3 1108) 1105 4 1109) 1105 5 1110) 1105 6 1111) 1105 7 1112) 1105 8 1113) 1105 12 1114) 2 7 1105) 1115 1 1116) 2 8 1115) 1117 0 1118) 1117 1 1119) 1117 2 1120) 1117 3 1121) 1117 4 1122) 1117 5 1123) 2 9 1117) 1105 6 = 1111 := rfl
    have y1105_7 : (zr2 (zr2 (zr2 (zr2 (zr2 (zr2 (zr2 (zr2 (zr2 (zr2 (zr2 (zr2 (zr2 (zr2 (zr2 (zr2 (zr2 (zr2 (zr2 (zr2 (zr2 (zr2 (zr2 (zr2 (zr2 (zr2 (zr2 (zr2 (zr2 R 1095 1 1096) 1095 2 1097) 2 3 1095) 1098 1 1099) 1098 2 1100) 2 4 1098) 1101 1 1102) 2 5 1101) 1103 1 1104) 2 6 1103) 1105 0 1106) 1105 2 1107) 1105 3 1108) 1105 4 1109) 1105 5 1110) 1105 6 1111) 1105 7 1112) 1105 8 1113) 1105 12 1114) 2 7 1105) 1115 1 1116) 2 8 1115) 1117 0 1118) 1117 1 1119) 1117 2 1120) 1117 3 1121) 1117 4 1122) 1117 5 1123) 2 9 1117) 1105 7 = 1112 := rfl
    have y1105_8 : (zr2 (zr2 (zr2 (zr2 (zr2 (zr2 (zr2 (zr2 (zr2 (zr2 (zr2 (zr2 (zr2 (zr2 (zr2 (zr2 (zr2 (zr2 (zr2 (zr2 (zr2 (zr2 (zr2 (zr2 (zr2 (zr2 (zr2 (zr2 (zr2 R 1095 1 1096) 1095 2 1097) 2 3 1095) 1098 1 1099) 1098 2 1100) 2 4 1098) 1101 1 1102) 2 5 1101) 1103 1 1104) 2 6 1103) 1105 0 1106) 1105 2 1107) 1105 3 1108) 1105 4 1109) 1105 5 1110) 1105 6 1111) 1105 7 1112) 1105 8 1113) 1105 12 1114) 2 7 1105) 1115 1 1116) 2 8 1115) 1117 0 1118) 1117 1 1119) 1117 2 1120) 1117 3 1121) 1117 4 1122) 1117 5 1123) 2 9 1117) 1105 8 = 1113 := rfl
    have y1105_12 : (zr2 (zr2 (zr2 (zr2 (zr2 (zr2 (zr2 (zr2 (zr2 (zr2 (zr2 (zr2 (zr2 (zr2 (zr2 (zr2 (zr2 (zr2 (zr2 (zr2 (zr2 (zr2 (zr2 (zr2 (zr2 (zr2 (zr2 (zr2 (zr2 R 1095 1 1096) 1095 2 1097) 2 3 1095) 1098 1 1099) 1098 2 1100) 2 4 1098) 1101 1 1102) 2 5 1101) 1103 1 1104) 2 6 1103) 1105 0 1106) 1105 2 1107) 1105 3 1108) 1105 4 1109) 1105 5 1110) 1105 6 1111) 1105 7 1112) 1105 8 1113) 1105 12 1114) 2 7 1105) 1115 1 1116) 2 8 1115) 1117 0 1118) 1117 1 1119) 1117 2 1120) 1117 3 1121) 1117 4 1122) 1117 5 1123) 2 9 1117) 1105 12 = 1114 := rfl
    have y1115_1 : (zr2 (zr2 (zr2 (zr2 (zr2 (zr2 (zr2 (zr2 (zr2 (zr2 (zr2 (zr2 (zr2 (zr2 (zr2 (zr2 (zr2 (zr2 (zr2 (zr2 (zr2 (zr2 (zr2 (zr2 (zr2 (zr2 (zr2 (zr2 (zr2 R 1095 1 1096) 1095 2 1097) 2 3 1095) 1098 1 1099) 1098 2 1100) 2 4 1098) 1101 1 1102) 2 5 1101) 1103 1 1104) 2 6 1103) 1105 0 1106) 1105 2 1107) 1105 3 1108) 1105 4 1109) 1105 5 1110) 1105 6 1111) 1105 7 1112) 1105 8 1113) 1105 12 1114) 2 7 1105) 1115 1 1116) 2 8 1115) 1117 0 1118) 1117 1 1119) 1117 2 1120) 1117 3 1121) 1117 4 1122) 1117 5 1123) 2 9 1117) 1115 1 = 1116 := rfl
    have y1117_0 : (zr2 (zr2 (zr2 (zr2 (zr2 (zr2 (zr2 (zr2 (zr2 (zr2 (zr2 (zr2 (zr2 (zr2 (zr2 (zr2 (zr2 (zr2 (zr2 (zr2 (zr2 (zr2 (zr2 (zr2 (zr2 (zr2 (zr2 (zr2 (zr2 R 1095 1 1096) 1095 2 1097) 2 3 1095) 1098 1 1099) 1098 2 1100) 2 4 1098) 1101 1 1102) 2 5 1101) 1103 1 1104) 2 6 1103) 1105 0 1106) 1105 2 1107) 1105 3 1108) 1105 4 1109) 1105 5 1110) 1105 6 1111) 1105 7 1112) 1105 8 1113) 1105 12 1114) 2 7 1105) 1115 1 1116) 2 8 1115) 1117 0 1118) 1117 1 1119) 1117 2 1120) 1117 3 1121) 1117 4 1122) 1117 5 1123) 2 9 1117) 1117 0 = 1118 := rfl
    have y1117_1 : (zr2 (zr2 (zr2 (zr2 (zr2 (zr2 (zr2 (zr2 (zr2 (zr2 (zr2 (zr2 (zr2 (zr2 (zr2 (zr2 (zr2 (zr2 (zr2 (zr2 (zr2 (zr2 (zr2 (zr2 (zr2 (zr2 (zr2 (zr2 (zr2 R 1095 1 1096) 1095 2 1097) 2 3 1095) 1098 1 1099) 1098 2 1100) 2 4 1098) 1101 1 1102) 2 5 1101) 1103 1 1104) 2 6 1103) 1105 0 1106) 1105 2 1107) 1105 3 1108) 1105 4 1109) 1105 5 1110) 1105 6 1111) 1105 7 1112) 1105 8 1113) 1105 12 1114) 2 7 1105) 1115 1 1116) 2 8 1115) 1117 0 1118) 1117 1 1119) 1117 2 1120) 1117 3 1121) 1117 4 1122) 1117 5 1123) 2 9 1117) 1117 1 = 1119 := rfl
    have y1117_2 : (zr2 (zr2 (zr2 (zr2 (zr2 (zr2 (zr2 (zr2 (zr2 (zr2 (zr2 (zr2 (zr2 (zr2 (zr2 (zr2 (zr2 (zr2 (zr2 (zr2 (zr2 (zr2 (zr2 (zr2 (zr2 (zr2 (zr2 (zr2 (zr2 R 1095 1 1096) 1095 2 1097) 2 3 1095) 1098 1 1099) 1098 2 1100) 2 4 1098) 1101 1 1102) 2 5 1101) 1103 1 1104) 2 6 1103) 1105 0 1106) 1105 2 1107) 1105 3 1108) 1105 4 1109) 1105 5 1110) 1105 6 1111) 1105 7 1112) 1105 8 1113) 1105 12 1114) 2 7 1105) 1115 1 1116) 2 8 1115) 1117 0 1118) 1117 1 1119) 1117 2 1120) 1117 3 1121) 1117 4 1122) 1117 5 1123) 2 9 1117) 1117 2 = 1120 := rfl
    have y1117_3 : (zr2 (zr2 (zr2 (zr2 (zr2 (zr2 (zr2 (zr2 (zr2 (zr2 (zr2 (zr2 (zr2 (zr2 (zr2 (zr2 (zr2 (zr2 (zr2 (zr2 (zr2 (zr2 (zr2 (zr2 (zr2 (zr2 (zr2 (zr2 (zr2 R 1095 1 1096) 1095 2 1097) 2 3 1095) 1098 1 1099) 1098 2 1100) 2 4 1098) 1101 1 1102) 2 5 1101) 1103 1 1104) 2 6 1103) 1105 0 1106) 1105 2 1107) 1105 3 1108) 1105 4 1109) 1105 5 1110) 1105 6 1111) 1105 7 1112) 1105 8 1113) 1105 12 1114) 2 7 1105) 1115 1 1116) 2 8 1115) 1117 0 1118) 1117 1 1119) 1117 2 1120) 1117 3 1121) 1117 4 1122) 1117 5 1123) 2 9 1117) 1117 3 = 1121 := rfl
    have y1117_4 : (zr2 (zr2 (zr2 (zr2 (zr2 (zr2 (zr2 (zr2 (zr2 (zr2 (zr2 (zr2 (zr2 (zr2 (zr2 (zr2 (zr2 (zr2 (zr2 (zr2 (zr2 (zr2 (zr2 (zr2 (zr2 (zr2 (zr2 (zr2 (zr2 R 1095 1 1096) 1095 2 1097) 2 3 1095) 1098 1 1099) 1098 2 1100) 2 4 1098) 1101 1 1102) 2 5 1101) 1103 1 1104) 2 6 1103) 1105 0 1106) 1105 2 1107) 1105 3 1108) 1105 4 1109) 1105 5 1110) 1105 6 1111) 1105 7 1112) 1105 8 1113) 1105 12 1114) 2 7 1105) 1115 1 1116) 2 8 1115) 1117 0 1118) 1117 1 1119) 1117 2 1120) 1117 3 1121) 1117 4 1122) 1117 5 1123) 2 9 1117) 1117 4 = 1122 := rfl
    have y1117_5 : (zr2 (zr2 (zr2 (zr2 (zr2 (zr2 (zr2 (zr2 (zr2 (zr2 (zr2 (zr2 (zr2 (zr2 (zr2 (zr2 (zr2 (zr2 (zr2 (zr2 (zr2 (zr2 (zr2 (zr2 (zr2 (zr2 (zr2 (zr2 (zr2 R 1095 1 1096) 1095 2 1097) 2 3 1095) 1098 1 1099) 1098 2 1100) 2 4 1098) 1101 1 1102) 2 5 1101) 1103 1 1104) 2 6 1103) 1105 0 1106) 1105 2 1107) 1105 3 1108) 1105 4 1109) 1105 5 1110) 1105 6 1111) 1105 7 1112) 1105 8 1113) 1105 12 1114) 2 7 1105) 1115 1 1116) 2 8 1115) 1117 0 1118) 1117 1 1119) 1117 2 1120) 1117 3 1121) 1117 4 1122) 1117 5 1123) 2 9 1117) 1117 5 = 1123 := rfl
    have hfr := g14
    have oB : ∀ a, a < 2 → (zr2 (zr2 (zr2 (zr2 (zr2 (zr2 (zr2 (zr2 (zr2 (zr2 (zr2 (zr2 (zr2 (zr2 (zr2 (zr2 (zr2 (zr2 (zr2 (zr2 (zr2 (zr2 (zr2 (zr2 (zr2 (zr2 (zr2 (zr2 (zr2 R 1095 1 1096) 1095 2 1097) 2 3 1095) 1098 1 1099) 1098 2 1100) 2 4 1098) 1101 1 1102) 2 5 1101) 1103 1 1104) 2 6 1103) 1105 0 1106) 1105 2 1107) 1105 3 1108) 1105 4 1109) 1105 5 1110) 1105 6 1111) 1105 7 1112) 1105 8 1113) 1105 12 1114) 2 7 1105) 1115 1 1116) 2 8 1115) 1117 0 1118) 1117 1 1119) 1117 2 1120) 1117 3 1121) 1117 4 1122) 1117 5 1123) 2 9 1117) a = R0 a := fun a ha => (oR a (by omega) (by omega)).trans (ho a ha)
    clear hf f0 hF b0 b1 b2 b3 b4 b5 b6 e0 e1 e2 e3 e4 e5 e6 g1 g2 g3 g4 g5 g6 g7 g8 g9 g10 g11 g12 g13
    generalize (zr2 (zr2 (zr2 (zr2 (zr2 (zr2 (zr2 (zr2 (zr2 (zr2 (zr2 (zr2 (zr2 (zr2 (zr2 (zr2 (zr2 (zr2 (zr2 (zr2 (zr2 (zr2 (zr2 (zr2 (zr2 (zr2 (zr2 (zr2 (zr2 R 1095 1 1096) 1095 2 1097) 2 3 1095) 1098 1 1099) 1098 2 1100) 2 4 1098) 1101 1 1102) 2 5 1101) 1103 1 1104) 2 6 1103) 1105 0 1106) 1105 2 1107) 1105 3 1108) 1105 4 1109) 1105 5 1110) 1105 6 1111) 1105 7 1112) 1105 8 1113) 1105 12 1114) 2 7 1105) 1115 1 1116) 2 8 1115) 1117 0 1118) 1117 1 1119) 1117 2 1120) 1117 3 1121) 1117 4 1122) 1117 5 1123) 2 9 1117) = R1 at *
    have b1 := fun c s => zborn_m hfr c s 16
    obtain ⟨r, M2, ⟨R2, hr, hM, fr2, s2, o2⟩, e90⟩ := zFRx (c90 (L := L) (t := 1124) (n := 1123) (c := 1123) (s := 24955) (F := F1) (G := G) (R := R1) (Or.inr (Or.inl rfl)) rfl (zfre_s hfr))
    subst hr hM
    have h2a : zfre 1136 (zshI F1 1124) G (zr2 R2 2 10 1124) := zfre_R (a := 2) (i := 10) (w := 1124) fr2 (by omega)
    have b2 := fun c s => zborn_m h2a c s 16
    obtain ⟨r, M2, ⟨R3, hr, hM, fr3, s3, o3⟩, e90b⟩ := zFRx (c90 (L := L) (t := 1138) (n := 1137) (c := 1137) (s := 25051) (F := zshI F1 1124) (G := G) (R := zr2 R2 2 10 1124) (Or.inr (Or.inr rfl)) rfl (zfre_s h2a))
    subst hr hM
    have h3a : zfre 1150 (zshI (zshI F1 1124) 1138) G (zr2 R3 2 11 1138) := zfre_R (a := 2) (i := 11) (w := 1138) fr3 (by omega)
    have b3 := fun c s => zborn_m h3a c s 1
    have e61 := fun (M : zM) (Q : zO → zM → Prop) => c61 (L := L) (Q := Q) (t := 1152) (M := M) zk_1152
    have fin : ∃ R', (zmm 1151 1151 25132 (zshI (zshI F1 1124) 1138) G (zr2 (zr2 R3 2 11 1138) 2 12 1152)) = zmm 1151 1151 25132 (zshI (zshI F1 1124) 1138) G R' ∧ zfre 1151 (zshI (zshI F1 1124) 1138) G R' ∧ zclR R' ∧ ∀ a, a < 2 → R' a = R0 a := by
      refine ⟨_, rfl, zfre_R (zfre_s h3a) (by omega), ?_, fun a ha => ?_⟩
      · have oo : ∀ a, a ≠ 2 → a < 1124 → zr2 (zr2 R3 2 11 1138) 2 12 1152 a = R1 a := fun a h1 h2 => by
          rw [zr2_a h1, zr2_a h1, o3 a (by omega), zr2_a h1, o2 a (by omega)]
        have ob : ∀ a, a ≠ 2 → a < 1095 → zr2 (zr2 R3 2 11 1138) 2 12 1152 a = R a := fun a h1 h2 => (oo a h1 (by omega)).trans (oR a h1 h2)
        have o2' : ∀ j, j ≠ 10 → j ≠ 11 → j ≠ 12 → zr2 (zr2 R3 2 11 1138) 2 12 1152 2 j = R1 2 j := fun j h1 h2 h3 => by
          rw [zr2_i h3, zr2_i h2, o3 2 (by omega), zr2_i h1, o2 2 (by omega)]
        refine ⟨zbdR_c (ob 3 (by omega) (by omega)) (ob 11 (by omega) (by omega)) p1, fun i hi => ?_, fun i hi => ?_, zshR_c (fun a q1 q2 => ?_) s2, zshR_c (fun a q1 q2 => ?_) s3, ⟨?_, ?_, ?_, ?_, ?_, ?_, ?_, ?_, ?_, ?_, ?_, ?_⟩, ⟨?_, ?_, ?_, ?_, ?_, ?_⟩, ⟨?_, ?_, ?_, ?_, ?_, ?_, ?_, ?_, ?_⟩, ?_, ⟨?_, ?_, ?_, ?_, ?_, ?_⟩⟩
        · rw [ob 4 (by omega) (by omega)]
          exact ⟨(p2 i hi).1, zshR_c (fun a q1 q2 => ob a (by omega) (by omega)) (p2 i hi).2⟩
        · obtain ⟨d1, d2, d3, d4⟩ := p3 i hi
          refine ⟨?_, ?_, ?_, ?_⟩
          · rw [ob 854 (by omega) (by omega)]; exact d1
          · rw [ob _ (by omega) (by omega)]; exact d2
          · rw [ob _ (by omega) (by omega)]; exact d3
          · rw [ob _ (by omega) (by omega)]; exact d4
        · rw [zr2_a (by omega), zr2_a (by omega), o3 a (by omega), zr2_a (by omega)]
        · rw [zr2_a (by omega), zr2_a (by omega)]
        · exact (o2' 0 (by omega) (by omega) (by omega)).trans x20
        · exact (o2' 1 (by omega) (by omega) (by omega)).trans x21
        · exact (o2' 3 (by omega) (by omega) (by omega)).trans y2_3
        · exact (o2' 4 (by omega) (by omega) (by omega)).trans y2_4
        · exact (o2' 5 (by omega) (by omega) (by omega)).trans y2_5
        · exact (o2' 6 (by omega) (by omega) (by omega)).trans y2_6
        · exact (o2' 7 (by omega) (by omega) (by omega)).trans y2_7
        · exact (o2' 8 (by omega) (by omega) (by omega)).trans y2_8
        · exact (o2' 9 (by omega) (by omega) (by omega)).trans y2_9
        · rw [zr2_i (by omega), zr2_i (by omega), o3 2 (by omega), zr2_eq]
        · rw [zr2_i (by omega), zr2_eq]
        · exact zr2_eq
        · exact (congrFun (oo 1095 (by omega) (by omega)) 1).trans y1095_1
        · exact (congrFun (oo 1095 (by omega) (by omega)) 2).trans y1095_2
        · exact (congrFun (oo 1098 (by omega) (by omega)) 1).trans y1098_1
        · exact (congrFun (oo 1098 (by omega) (by omega)) 2).trans y1098_2
        · exact (congrFun (oo 1101 (by omega) (by omega)) 1).trans y1101_1
        · exact (congrFun (oo 1103 (by omega) (by omega)) 1).trans y1103_1
        · exact (congrFun (oo 1105 (by omega) (by omega)) 0).trans y1105_0
        · exact (congrFun (oo 1105 (by omega) (by omega)) 2).trans y1105_2
        · exact (congrFun (oo 1105 (by omega) (by omega)) 3).trans y1105_3
        · exact (congrFun (oo 1105 (by omega) (by omega)) 4).trans y1105_4
        · exact (congrFun (oo 1105 (by omega) (by omega)) 5).trans y1105_5
        · exact (congrFun (oo 1105 (by omega) (by omega)) 6).trans y1105_6
        · exact (congrFun (oo 1105 (by omega) (by omega)) 7).trans y1105_7
        · exact (congrFun (oo 1105 (by omega) (by omega)) 8).trans y1105_8
        · exact (congrFun (oo 1105 (by omega) (by omega)) 12).trans y1105_12
        · exact (congrFun (oo 1115 (by omega) (by omega)) 1).trans y1115_1
        · exact (congrFun (oo 1117 (by omega) (by omega)) 0).trans y1117_0
        · exact (congrFun (oo 1117 (by omega) (by omega)) 1).trans y1117_1
        · exact (congrFun (oo 1117 (by omega) (by omega)) 2).trans y1117_2
        · exact (congrFun (oo 1117 (by omega) (by omega)) 3).trans y1117_3
        · exact (congrFun (oo 1117 (by omega) (by omega)) 4).trans y1117_4
        · exact (congrFun (oo 1117 (by omega) (by omega)) 5).trans y1117_5
      · rw [zr2_a (by omega), zr2_a (by omega), o3 a (by omega), zr2_a (by omega), o2 a (by omega)]
        exact oB a ha
    obtain ⟨R9, e9, p9⟩ := fin
    refine zW_sound 60 [] ?_
    simp only [ZR120, zk_2, zk_1152, zmm_n, zmm_t, zmm_R, zmm_sR, (zK_sh (L := L) (show zShA 1124 from Or.inr (Or.inl rfl))).1, (zK_sh (L := L) (show zShA 1138 from Or.inr (Or.inr rfl))).1, b1, b2, b3, ZF90.1, ZF90.2.1, ZF90.2.2.1, e90, e90b, ZF61.1, ZF61.2.1, ZF61.2.2.1, e61, zW_succ, zE_iload, zE_aload, zE_lload, zE_iinc, zE_istore, zE_astore, zE_lstore, zE_iconst, zE_ldc2, zE_iadd, zE_isub, zE_imul, zE_idiv, zE_irem, zE_ineg, zE_iand, zE_ior, zE_ixor, zE_ishl, zE_ishr, zE_land, zE_lor, zE_lxor, zE_lshl, zE_lshr, zE_i2l, zE_lcmp, zE_dup_i, zE_dup_a, zE_dup2_ia, zE_pop_i, zE_pop_a, zE_pop2, zE_goto, zE_if_eq, zE_icmp_eq, zE_if_ne, zE_icmp_ne, zE_if_lt, zE_icmp_lt, zE_if_ge, zE_icmp_ge, zE_if_gt, zE_icmp_gt, zE_if_le, zE_icmp_le, zE_iaload, zE_baload, zE_laload, zE_aaload, zE_iastore, zE_bastore, zE_lastore, zE_aastore, zE_alen, zE_getf0, zE_getf1, zE_getf2, zE_getf3, zE_putf0, zE_putf1, zE_putf2, zE_putf3, zE_new, zE_newa, zE_newq, zE_ireturn, zE_lreturn, zE_areturn, zE_return, zE_athrow, zE_st0, zE_vi0, zE_st1, zE_vi1, zE_st2, zE_vi2, zE_st3, zE_vi3, zE_st4, zE_vi4, zE_st5, zE_vi5, zE_st6, zE_vi6, zE_st7, zE_vi7, zE_st8, zE_vi8, zSt_0, zSL_0, zSt_1n, zSt_1i, zSt_1a, zSt_1l, zSt_2n, zSt_2i, zSt_2a, zSt_2l, zSt_3n, zSt_3i, zSt_3a, zSt_3l, zSt_4n, zSt_4i, zSt_4a, zSt_4l, zSt_5n, zSt_5i, zSt_5a, zSt_5l, zSt_6n, zSt_6i, zSt_6a, zSt_6l, zSt_7n, zSt_7i, zSt_7a, zSt_7l, zSt_8n, zSt_8i, zSt_8a, zSt_8l, zSt_9n, zSt_9i, zSt_9a, zSt_9l, zSt_10n, zSt_10i, zSt_10a, zSt_10l, zSt_11n, zSt_11i, zSt_11a, zSt_11l, zSt_12n, zSt_12i, zSt_12a, zSt_12l, zSt_13n, zSt_13i, zSt_13a, zSt_13l, zSL_1n, zSL_1i, zSL_1a, zSL_1l, zSL_2n, zSL_2i, zSL_2a, zSL_2l, zSL_3n, zSL_3i, zSL_3a, zSL_3l, zSL_4n, zSL_4i, zSL_4a, zSL_4l, zSL_5n, zSL_5i, zSL_5a, zSL_5l, zSL_6n, zSL_6i, zSL_6a, zSL_6l, zSL_7n, zSL_7i, zSL_7a, zSL_7l, zSL_8n, zSL_8i, zSL_8a, zSL_8l, zSL_9n, zSL_9i, zSL_9a, zSL_9l, zSL_10n, zSL_10i, zSL_10a, zSL_10l, zSL_11n, zSL_11i, zSL_11a, zSL_11l, zSL_12n, zSL_12i, zSL_12a, zSL_12l, zLI_0, zLL_0, zLA_0, zLI_1, zLL_1, zLA_1, zLI_2, zLL_2, zLA_2, zLI_3, zLL_3, zLA_3, zLI_4, zLL_4, zLA_4, zLI_5, zLL_5, zLA_5, zLI_6, zLL_6, zLA_6, zLI_7, zLL_7, zLA_7, zLI_8, zLL_8, zLA_8, zLI_9, zLL_9, zLA_9, zLI_10, zLL_10, zLA_10, zLI_11, zLL_11, zLA_11, zLI_12, zLL_12, zLA_12, zLI_13, zLL_13, zLA_13, zst_0, zst_1n, zst_1i, zst_1a, zst_2n, zst_2i, zst_2a, zst_3n, zst_3i, zst_3a, zst_4n, zst_4i, zst_4a, zst_5n, zst_5i, zst_5a, zst_6n, zst_6i, zst_6a, zst_7n, zst_7i, zst_7a, zst_8n, zst_8i, zst_8a, zst_9n, zst_9i, zst_9a, zst_10n, zst_10i, zst_10a, zst_11n, zst_11i, zst_11a, zst_12n, zst_12i, zst_12a, zst_13n, zst_13i, zst_13a, zst_14n, zst_14i, zst_14a, zst_15n, zst_15i, zst_15a, zR1_n, zR1_v, zsum_n, zsum_i, zsum_l, zsum_a, zlen_n, zlen_i, zlen_l, zlen_a, List.not_mem_nil, List.mem_cons, or_false, false_or, or_self, ↓reduceIte, if_false, if_true, Nat.reduceEqDiff, Nat.reduceAdd, Nat.reduceLeDiff, true_and, and_true, reduceCtorEq, ne_eq, Int.toNat_natCast, not_true_eq_false, not_false_eq_true, true_implies, false_implies, implies_true, Int.reduceToNat, Int.toNat_zero, Int.reduceLT, Int.reduceLE, Int.reduceEq, Int.reduceAdd, Int.reduceMul, Int.reduceNeg]
    (repeat' (first | with_reducible refine And.intro ?_ ?_ | with_reducible intro _)) <;> try first | with_reducible rfl | with_reducible assumption | omega | (unfold zr32; omega) | contradiction | (exact absurd (by omega) (by assumption)) | rfl | (simp only [Sum.inl.injEq, Option.some.injEq]; omega)
    all_goals first | exact ⟨R9, e9, p9⟩ | exact ⟨R9, rfl, e9, p9⟩
  have nx2 := nxt
  generalize hQ : (fun (r : zO) M2 => ∃ R', r = .inl none ∧ M2 = zmm 1151 1151 25132 (zshI (zshI F1 1124) 1138) G R' ∧ zfre 1151 (zshI (zshI F1 1124) 1138) G R' ∧ zclR R' ∧ ∀ a, a < 2 → R' a = R0 a) = Q9 at *
  clear nxt
  refine zW_sound 120 [138] ?_
  simp only [ZR120, zk_2, zk_1095, zk_1098, zk_1101, zk_1103, zk_1105, zk_1115, zk_1117, zsI_w, zmm_I, zmm_w, hF, zmm_n, zmm_t, zmm_sR, b0, b1, b2, b3, b4, b5, b6, ZF75.1, ZF75.2.1, ZF75.2.2.1, ZF113.1, ZF113.2.1, ZF113.2.2.1, ZF104.1, ZF104.2.1, ZF104.2.2.1, ZF49.1, ZF49.2.1, ZF49.2.2.1, ZF63.1, ZF63.2.1, ZF63.2.2.1, e0, e1, e2, e3, e4, e5, e6, zW_succ, zE_iload, zE_aload, zE_lload, zE_iinc, zE_istore, zE_astore, zE_lstore, zE_iconst, zE_ldc2, zE_iadd, zE_isub, zE_imul, zE_idiv, zE_irem, zE_ineg, zE_iand, zE_ior, zE_ixor, zE_ishl, zE_ishr, zE_land, zE_lor, zE_lxor, zE_lshl, zE_lshr, zE_i2l, zE_lcmp, zE_dup_i, zE_dup_a, zE_dup2_ia, zE_pop_i, zE_pop_a, zE_pop2, zE_goto, zE_if_eq, zE_icmp_eq, zE_if_ne, zE_icmp_ne, zE_if_lt, zE_icmp_lt, zE_if_ge, zE_icmp_ge, zE_if_gt, zE_icmp_gt, zE_if_le, zE_icmp_le, zE_iaload, zE_baload, zE_laload, zE_aaload, zE_iastore, zE_bastore, zE_lastore, zE_aastore, zE_alen, zE_getf0, zE_getf1, zE_getf2, zE_getf3, zE_putf0, zE_putf1, zE_putf2, zE_putf3, zE_new, zE_newa, zE_newq, zE_ireturn, zE_lreturn, zE_areturn, zE_return, zE_athrow, zE_st0, zE_vi0, zE_st1, zE_vi1, zE_st2, zE_vi2, zE_st3, zE_vi3, zE_st4, zE_vi4, zE_st5, zE_vi5, zE_st6, zE_vi6, zE_st7, zE_vi7, zE_st8, zE_vi8, zSt_0, zSL_0, zSt_1n, zSt_1i, zSt_1a, zSt_1l, zSt_2n, zSt_2i, zSt_2a, zSt_2l, zSt_3n, zSt_3i, zSt_3a, zSt_3l, zSt_4n, zSt_4i, zSt_4a, zSt_4l, zSt_5n, zSt_5i, zSt_5a, zSt_5l, zSt_6n, zSt_6i, zSt_6a, zSt_6l, zSt_7n, zSt_7i, zSt_7a, zSt_7l, zSt_8n, zSt_8i, zSt_8a, zSt_8l, zSt_9n, zSt_9i, zSt_9a, zSt_9l, zSt_10n, zSt_10i, zSt_10a, zSt_10l, zSt_11n, zSt_11i, zSt_11a, zSt_11l, zSt_12n, zSt_12i, zSt_12a, zSt_12l, zSt_13n, zSt_13i, zSt_13a, zSt_13l, zSL_1n, zSL_1i, zSL_1a, zSL_1l, zSL_2n, zSL_2i, zSL_2a, zSL_2l, zSL_3n, zSL_3i, zSL_3a, zSL_3l, zSL_4n, zSL_4i, zSL_4a, zSL_4l, zSL_5n, zSL_5i, zSL_5a, zSL_5l, zSL_6n, zSL_6i, zSL_6a, zSL_6l, zSL_7n, zSL_7i, zSL_7a, zSL_7l, zSL_8n, zSL_8i, zSL_8a, zSL_8l, zSL_9n, zSL_9i, zSL_9a, zSL_9l, zSL_10n, zSL_10i, zSL_10a, zSL_10l, zSL_11n, zSL_11i, zSL_11a, zSL_11l, zSL_12n, zSL_12i, zSL_12a, zSL_12l, zLI_0, zLL_0, zLA_0, zLI_1, zLL_1, zLA_1, zLI_2, zLL_2, zLA_2, zLI_3, zLL_3, zLA_3, zLI_4, zLL_4, zLA_4, zLI_5, zLL_5, zLA_5, zLI_6, zLL_6, zLA_6, zLI_7, zLL_7, zLA_7, zLI_8, zLL_8, zLA_8, zLI_9, zLL_9, zLA_9, zLI_10, zLL_10, zLA_10, zLI_11, zLL_11, zLA_11, zLI_12, zLL_12, zLA_12, zLI_13, zLL_13, zLA_13, zst_0, zst_1n, zst_1i, zst_1a, zst_2n, zst_2i, zst_2a, zst_3n, zst_3i, zst_3a, zst_4n, zst_4i, zst_4a, zst_5n, zst_5i, zst_5a, zst_6n, zst_6i, zst_6a, zst_7n, zst_7i, zst_7a, zst_8n, zst_8i, zst_8a, zst_9n, zst_9i, zst_9a, zst_10n, zst_10i, zst_10a, zst_11n, zst_11i, zst_11a, zst_12n, zst_12i, zst_12a, zst_13n, zst_13i, zst_13a, zst_14n, zst_14i, zst_14a, zst_15n, zst_15i, zst_15a, zR1_n, zR1_v, zsum_n, zsum_i, zsum_l, zsum_a, zlen_n, zlen_i, zlen_l, zlen_a, List.not_mem_nil, List.mem_cons, or_false, false_or, or_self, ↓reduceIte, if_false, if_true, Nat.reduceEqDiff, Nat.reduceAdd, Nat.reduceLeDiff, true_and, and_true, reduceCtorEq, ne_eq, Int.toNat_natCast, not_true_eq_false, not_false_eq_true, true_implies, false_implies, implies_true, Int.reduceToNat, Int.toNat_zero, Int.reduceLT, Int.reduceLE, Int.reduceEq, Int.reduceAdd, Int.reduceMul, Int.reduceNeg]
  (repeat' (first | with_reducible refine And.intro ?_ ?_ | with_reducible intro _)) <;> try first | with_reducible rfl | with_reducible assumption | omega | (unfold zr32; omega) | contradiction | (exact absurd (by omega) (by assumption)) | rfl | (simp only [Sum.inl.injEq, Option.some.injEq]; omega)
set_option maxRecDepth 8000 in
theorem c120 (hf : zfre 1 F G R) : zFR (zK L) 120 0 (zcall 120 [.inr (.inr 2)]) [] (zmm 1 1 13 F G R) (fun r M2 => ∃ R', r = .inl none ∧ M2 = zmm 1151 1151 25132 (zcF F) G R' ∧ zfre 1151 (zcF F) G R' ∧ zclR R' ∧ ∀ a, a < 2 → R' a = R a) := by
  generalize hQ : (fun (r : zO) M2 => ∃ R', r = .inl none ∧ M2 = zmm 1151 1151 25132 (zcF F) G R' ∧ zfre 1151 (zcF F) G R' ∧ zclR R' ∧ ∀ a, a < 2 → R' a = R a) = Q9
  have b0 := fun c s => zborn_m hf c s 8
  obtain ⟨r, M2, ⟨R2, hr, hM, f2, t1, t2, o2⟩, e0⟩ := zFRx (c0 (L := L) (F := F) (G := G) (R := R) (zfre_s hf))
  subst hr hM
  obtain ⟨F1, hF1⟩ : ∃ F1, zfil (zshs F 60) 7 60 (-1) = F1 := ⟨_, rfl⟩
  rw [hF1] at e0 f2
  have h2 := zfre_R (a := 2) (i := 0) (w := 3) f2 (by omega)
  have b1 := fun c s => zborn_m h2 c s 60
  have loop : ∀ i, i ≤ 60 → ∀ R', zfre (853 + 4 * i) F1 G R' → zbdR R' → (∀ k, k < 60 → R' 4 k = 14 + 14 * k ∧ zshR R' (14 + 14 * k)) → (∀ k, k < i → zchR R' k) → (R' 2 0 = 3 ∧ R' 2 1 = 854) → (∀ a, a < 2 → R' a = R a) → zFR (zK L) 120 26 [some (.inr (.inr 2)), some (.inl (i : Int))] [] (zmm (853 + 4 * i) (853 + 4 * i) (6224 + 32 * i) F1 G R') Q9 := by
    refine zloop ?_ ?_
    · intro R' h1 h2 h3 h4 h5 h6
      have e := c120_b (L := L) (F := F1) (G := G) (R := R') (R0 := R) h1 ⟨h2, h3, h4, h5.1, h5.2⟩ h6
      have o9 : zFR (zK L) 120 51 [some (.inr (.inr 2)), some (.inl 60)] [] (zmm 1093 1093 8144 F1 G R') Q9 := by
        subst hQ hF1
        exact e
      rw [show 853 + 4 * 60 = 1093 from rfl, show 6224 + 32 * 60 = 8144 from rfl, show ((60 : Nat) : Int) = 60 from rfl]
      refine zW_sound 60 [32, 51] ?_
      simp only [ZR120, zW_succ, zE_iload, zE_aload, zE_lload, zE_iinc, zE_istore, zE_astore, zE_lstore, zE_iconst, zE_ldc2, zE_iadd, zE_isub, zE_imul, zE_idiv, zE_irem, zE_ineg, zE_iand, zE_ior, zE_ixor, zE_ishl, zE_ishr, zE_land, zE_lor, zE_lxor, zE_lshl, zE_lshr, zE_i2l, zE_lcmp, zE_dup_i, zE_dup_a, zE_dup2_ia, zE_pop_i, zE_pop_a, zE_pop2, zE_goto, zE_if_eq, zE_icmp_eq, zE_if_ne, zE_icmp_ne, zE_if_lt, zE_icmp_lt, zE_if_ge, zE_icmp_ge, zE_if_gt, zE_icmp_gt, zE_if_le, zE_icmp_le, zE_iaload, zE_baload, zE_laload, zE_aaload, zE_iastore, zE_bastore, zE_lastore, zE_aastore, zE_alen, zE_getf0, zE_getf1, zE_getf2, zE_getf3, zE_putf0, zE_putf1, zE_putf2, zE_putf3, zE_new, zE_newa, zE_newq, zE_ireturn, zE_lreturn, zE_areturn, zE_return, zE_athrow, zE_st0, zE_vi0, zE_st1, zE_vi1, zE_st2, zE_vi2, zE_st3, zE_vi3, zE_st4, zE_vi4, zE_st5, zE_vi5, zE_st6, zE_vi6, zE_st7, zE_vi7, zE_st8, zE_vi8, zSt_0, zSL_0, zSt_1n, zSt_1i, zSt_1a, zSt_1l, zSt_2n, zSt_2i, zSt_2a, zSt_2l, zSt_3n, zSt_3i, zSt_3a, zSt_3l, zSt_4n, zSt_4i, zSt_4a, zSt_4l, zSt_5n, zSt_5i, zSt_5a, zSt_5l, zSt_6n, zSt_6i, zSt_6a, zSt_6l, zSt_7n, zSt_7i, zSt_7a, zSt_7l, zSt_8n, zSt_8i, zSt_8a, zSt_8l, zSt_9n, zSt_9i, zSt_9a, zSt_9l, zSt_10n, zSt_10i, zSt_10a, zSt_10l, zSt_11n, zSt_11i, zSt_11a, zSt_11l, zSt_12n, zSt_12i, zSt_12a, zSt_12l, zSt_13n, zSt_13i, zSt_13a, zSt_13l, zSL_1n, zSL_1i, zSL_1a, zSL_1l, zSL_2n, zSL_2i, zSL_2a, zSL_2l, zSL_3n, zSL_3i, zSL_3a, zSL_3l, zSL_4n, zSL_4i, zSL_4a, zSL_4l, zSL_5n, zSL_5i, zSL_5a, zSL_5l, zSL_6n, zSL_6i, zSL_6a, zSL_6l, zSL_7n, zSL_7i, zSL_7a, zSL_7l, zSL_8n, zSL_8i, zSL_8a, zSL_8l, zSL_9n, zSL_9i, zSL_9a, zSL_9l, zSL_10n, zSL_10i, zSL_10a, zSL_10l, zSL_11n, zSL_11i, zSL_11a, zSL_11l, zSL_12n, zSL_12i, zSL_12a, zSL_12l, zLI_0, zLL_0, zLA_0, zLI_1, zLL_1, zLA_1, zLI_2, zLL_2, zLA_2, zLI_3, zLL_3, zLA_3, zLI_4, zLL_4, zLA_4, zLI_5, zLL_5, zLA_5, zLI_6, zLL_6, zLA_6, zLI_7, zLL_7, zLA_7, zLI_8, zLL_8, zLA_8, zLI_9, zLL_9, zLA_9, zLI_10, zLL_10, zLA_10, zLI_11, zLL_11, zLA_11, zLI_12, zLL_12, zLA_12, zLI_13, zLL_13, zLA_13, zst_0, zst_1n, zst_1i, zst_1a, zst_2n, zst_2i, zst_2a, zst_3n, zst_3i, zst_3a, zst_4n, zst_4i, zst_4a, zst_5n, zst_5i, zst_5a, zst_6n, zst_6i, zst_6a, zst_7n, zst_7i, zst_7a, zst_8n, zst_8i, zst_8a, zst_9n, zst_9i, zst_9a, zst_10n, zst_10i, zst_10a, zst_11n, zst_11i, zst_11a, zst_12n, zst_12i, zst_12a, zst_13n, zst_13i, zst_13a, zst_14n, zst_14i, zst_14a, zst_15n, zst_15i, zst_15a, zR1_n, zR1_v, zsum_n, zsum_i, zsum_l, zsum_a, zlen_n, zlen_i, zlen_l, zlen_a, List.not_mem_nil, List.mem_cons, or_false, false_or, or_self, ↓reduceIte, if_false, if_true, Nat.reduceEqDiff, Nat.reduceAdd, Nat.reduceLeDiff, true_and, and_true, reduceCtorEq, ne_eq, Int.toNat_natCast, not_true_eq_false, not_false_eq_true, true_implies, false_implies, implies_true, Int.reduceToNat, Int.toNat_zero, Int.reduceLT, Int.reduceLE, Int.reduceEq, Int.reduceAdd, Int.reduceMul, Int.reduceNeg]
      (repeat' (first | with_reducible refine And.intro ?_ ?_ | with_reducible intro _)) <;> try first | with_reducible rfl | with_reducible assumption | omega | (unfold zr32; omega) | contradiction | (exact absurd (by omega) (by assumption)) | rfl | (simp only [Sum.inl.injEq, Option.some.injEq]; omega)
    · intro i hi ih R' h1 h2 h3 h4 h5 h6
      obtain ⟨N, hN⟩ : ∃ N, 853 + 4 * i = N := ⟨_, rfl⟩
      obtain ⟨S, hS⟩ : ∃ S, 6224 + 32 * i = S := ⟨_, rfl⟩
      rw [hN] at h1
      have k1 : zK L (N + 2) = (1, 0) := by rw [show N + 2 = 855 + 4 * i by omega]; exact zK_ch hi
      have b1 := fun c s => zborn_m h1 c s 13
      have e47 := fun Q => c47 (L := L) (Q := Q) (t := N + 2) (n := N + 1) (c := N + 1) (s := S + 13) (i := i) (F := F1) (G := G) (R := R') (by omega) hi (by omega) (zfre_s h1)
      have h51 := h5.2
      have ro : ∀ a, a < N + 2 → a ≠ 854 → (zr2 (zr2 (zr2 (zr2 R' (N + 1 + 2) 1 (N + 1 + 1 + 2)) (N + 1 + 2) 2 (N + 1 + 1 + 1 + 2)) (N + 2) 12 (N + 1 + 2)) 854 i (N + 2)) a = R' a := fun a q1 q2 => by
        rw [zr2_a q2, zr2_a (by omega), zr2_a (by omega), zr2_a (by omega)]
      have o9 := ih (zr2 (zr2 (zr2 (zr2 R' (N + 1 + 2) 1 (N + 1 + 1 + 2)) (N + 1 + 2) 2 (N + 1 + 1 + 1 + 2)) (N + 2) 12 (N + 1 + 2)) 854 i (N + 2)) (zfre_R (zfre_R (zfre_R (zfre_R (zfre_k h1 (by omega)) (by omega)) (by omega)) (by omega)) (by omega)) (zbdR_c (ro 3 (by omega) (by omega)) (ro 11 (by omega) (by omega)) h2) (fun k hk => by
        rw [ro 4 (by omega) (by omega)]
        exact ⟨(h3 k hk).1, zshR_c (fun a q1 q2 => ro a (by omega) (by omega)) (h3 k hk).2⟩) (fun k hk => by
        by_cases e : k = i
        · subst e
          unfold zchR
          rw [zr2_eq, show 855 + 4 * k = N + 2 by omega, show 856 + 4 * k = N + 1 + 2 by omega, zr2_a (show N + 2 ≠ 854 by omega), zr2_eq, zr2_a (show N + 1 + 2 ≠ 854 by omega), zr2_a (show N + 1 + 2 ≠ N + 2 by omega), zr2_eq, zr2_i (show (1 : Nat) ≠ 2 by omega), zr2_eq]
          omega
        · obtain ⟨d1, d2, d3, d4⟩ := h4 k (by omega)
          refine ⟨?_, ?_, ?_, ?_⟩
          · rw [zr2_i e, zr2_a (show 854 ≠ N + 2 by omega), zr2_a (show 854 ≠ N + 1 + 2 by omega), zr2_a (show 854 ≠ N + 1 + 2 by omega)]
            exact d1
          · rw [ro (855 + 4 * k) (by omega) (by omega)]
            exact d2
          · rw [ro (856 + 4 * k) (by omega) (by omega)]
            exact d3
          · rw [ro (856 + 4 * k) (by omega) (by omega)]
            exact d4) (by
        rw [ro 2 (by omega) (by omega)]
        exact h5) (fun a ha => (ro a (by omega) (by omega)).trans (h6 a ha))
      rw [show 853 + 4 * (i + 1) = N + 1 + 1 + 1 + 1 by omega, show 6224 + 32 * (i + 1) = S + 13 + 3 + 8 + 8 by omega, Int.natCast_succ] at o9
      rw [hN, hS]
      refine zW_sound 60 [26, 51] ?_
      simp only [ZR120, zk_2, zk_854, k1, h51, zmm_n, zmm_t, zmm_R, zmm_sR, Int.toNat_natCast, b1, ZF47.1, ZF47.2.1, ZF47.2.2.1, e47, zW_succ, zE_iload, zE_aload, zE_lload, zE_iinc, zE_istore, zE_astore, zE_lstore, zE_iconst, zE_ldc2, zE_iadd, zE_isub, zE_imul, zE_idiv, zE_irem, zE_ineg, zE_iand, zE_ior, zE_ixor, zE_ishl, zE_ishr, zE_land, zE_lor, zE_lxor, zE_lshl, zE_lshr, zE_i2l, zE_lcmp, zE_dup_i, zE_dup_a, zE_dup2_ia, zE_pop_i, zE_pop_a, zE_pop2, zE_goto, zE_if_eq, zE_icmp_eq, zE_if_ne, zE_icmp_ne, zE_if_lt, zE_icmp_lt, zE_if_ge, zE_icmp_ge, zE_if_gt, zE_icmp_gt, zE_if_le, zE_icmp_le, zE_iaload, zE_baload, zE_laload, zE_aaload, zE_iastore, zE_bastore, zE_lastore, zE_aastore, zE_alen, zE_getf0, zE_getf1, zE_getf2, zE_getf3, zE_putf0, zE_putf1, zE_putf2, zE_putf3, zE_new, zE_newa, zE_newq, zE_ireturn, zE_lreturn, zE_areturn, zE_return, zE_athrow, zE_st0, zE_vi0, zE_st1, zE_vi1, zE_st2, zE_vi2, zE_st3, zE_vi3, zE_st4, zE_vi4, zE_st5, zE_vi5, zE_st6, zE_vi6, zE_st7, zE_vi7, zE_st8, zE_vi8, zSt_0, zSL_0, zSt_1n, zSt_1i, zSt_1a, zSt_1l, zSt_2n, zSt_2i, zSt_2a, zSt_2l, zSt_3n, zSt_3i, zSt_3a, zSt_3l, zSt_4n, zSt_4i, zSt_4a, zSt_4l, zSt_5n, zSt_5i, zSt_5a, zSt_5l, zSt_6n, zSt_6i, zSt_6a, zSt_6l, zSt_7n, zSt_7i, zSt_7a, zSt_7l, zSt_8n, zSt_8i, zSt_8a, zSt_8l, zSt_9n, zSt_9i, zSt_9a, zSt_9l, zSt_10n, zSt_10i, zSt_10a, zSt_10l, zSt_11n, zSt_11i, zSt_11a, zSt_11l, zSt_12n, zSt_12i, zSt_12a, zSt_12l, zSt_13n, zSt_13i, zSt_13a, zSt_13l, zSL_1n, zSL_1i, zSL_1a, zSL_1l, zSL_2n, zSL_2i, zSL_2a, zSL_2l, zSL_3n, zSL_3i, zSL_3a, zSL_3l, zSL_4n, zSL_4i, zSL_4a, zSL_4l, zSL_5n, zSL_5i, zSL_5a, zSL_5l, zSL_6n, zSL_6i, zSL_6a, zSL_6l, zSL_7n, zSL_7i, zSL_7a, zSL_7l, zSL_8n, zSL_8i, zSL_8a, zSL_8l, zSL_9n, zSL_9i, zSL_9a, zSL_9l, zSL_10n, zSL_10i, zSL_10a, zSL_10l, zSL_11n, zSL_11i, zSL_11a, zSL_11l, zSL_12n, zSL_12i, zSL_12a, zSL_12l, zLI_0, zLL_0, zLA_0, zLI_1, zLL_1, zLA_1, zLI_2, zLL_2, zLA_2, zLI_3, zLL_3, zLA_3, zLI_4, zLL_4, zLA_4, zLI_5, zLL_5, zLA_5, zLI_6, zLL_6, zLA_6, zLI_7, zLL_7, zLA_7, zLI_8, zLL_8, zLA_8, zLI_9, zLL_9, zLA_9, zLI_10, zLL_10, zLA_10, zLI_11, zLL_11, zLA_11, zLI_12, zLL_12, zLA_12, zLI_13, zLL_13, zLA_13, zst_0, zst_1n, zst_1i, zst_1a, zst_2n, zst_2i, zst_2a, zst_3n, zst_3i, zst_3a, zst_4n, zst_4i, zst_4a, zst_5n, zst_5i, zst_5a, zst_6n, zst_6i, zst_6a, zst_7n, zst_7i, zst_7a, zst_8n, zst_8i, zst_8a, zst_9n, zst_9i, zst_9a, zst_10n, zst_10i, zst_10a, zst_11n, zst_11i, zst_11a, zst_12n, zst_12i, zst_12a, zst_13n, zst_13i, zst_13a, zst_14n, zst_14i, zst_14a, zst_15n, zst_15i, zst_15a, zR1_n, zR1_v, zsum_n, zsum_i, zsum_l, zsum_a, zlen_n, zlen_i, zlen_l, zlen_a, List.not_mem_nil, List.mem_cons, or_false, false_or, or_self, ↓reduceIte, if_false, if_true, Nat.reduceEqDiff, Nat.reduceAdd, Nat.reduceLeDiff, true_and, and_true, reduceCtorEq, ne_eq, Int.toNat_natCast, not_true_eq_false, not_false_eq_true, true_implies, false_implies, implies_true, Int.reduceToNat, Int.toNat_zero, Int.reduceLT, Int.reduceLE, Int.reduceEq, Int.reduceAdd, Int.reduceMul, Int.reduceNeg]
      (repeat' (first | with_reducible refine And.intro ?_ ?_ | with_reducible intro _)) <;> try first | with_reducible rfl | with_reducible assumption | omega | (unfold zr32; omega) | contradiction | (exact absurd (by omega) (by assumption)) | rfl | (simp only [Sum.inl.injEq, Option.some.injEq]; omega)
      all_goals exact Or.inr (Or.inr True.intro)
  have o9 := loop 0 (Nat.zero_le _) (zr2 (zr2 R2 2 0 3) 2 1 854) (zfre_x h2 (by omega)) (zbdR_c (by rw [zr2_a (by omega), zr2_a (by omega)]) (by rw [zr2_a (by omega), zr2_a (by omega)]) t1) (fun k hk => by
    rw [zr2_a (by omega), zr2_a (by omega)]
    exact ⟨(t2 k hk).1, zshR_c (fun a q1 q2 => by rw [zr2_a (by omega), zr2_a (by omega)]) (t2 k hk).2⟩) (fun k hk => absurd hk (Nat.not_lt_zero k)) ⟨rfl, rfl⟩ (fun a ha => by
    rw [zr2_a (by omega), zr2_a (by omega)]
    exact o2 a (by omega))
  rw [show 853 + 4 * 0 = 853 from rfl, show 6224 + 32 * 0 = 6224 from rfl, show ((0 : Nat) : Int) = 0 from rfl] at o9
  refine zW_sound 60 [26] ?_
  simp only [ZF120, ZR120, zk_2, zk_3, zk_854, zmm_n, zmm_t, zmm_sR, Int.reduceToNat, b0, ZF0.1, ZF0.2.1, ZF0.2.2.1, e0, b1, zW_succ, zE_iload, zE_aload, zE_lload, zE_iinc, zE_istore, zE_astore, zE_lstore, zE_iconst, zE_ldc2, zE_iadd, zE_isub, zE_imul, zE_idiv, zE_irem, zE_ineg, zE_iand, zE_ior, zE_ixor, zE_ishl, zE_ishr, zE_land, zE_lor, zE_lxor, zE_lshl, zE_lshr, zE_i2l, zE_lcmp, zE_dup_i, zE_dup_a, zE_dup2_ia, zE_pop_i, zE_pop_a, zE_pop2, zE_goto, zE_if_eq, zE_icmp_eq, zE_if_ne, zE_icmp_ne, zE_if_lt, zE_icmp_lt, zE_if_ge, zE_icmp_ge, zE_if_gt, zE_icmp_gt, zE_if_le, zE_icmp_le, zE_iaload, zE_baload, zE_laload, zE_aaload, zE_iastore, zE_bastore, zE_lastore, zE_aastore, zE_alen, zE_getf0, zE_getf1, zE_getf2, zE_getf3, zE_putf0, zE_putf1, zE_putf2, zE_putf3, zE_new, zE_newa, zE_newq, zE_ireturn, zE_lreturn, zE_areturn, zE_return, zE_athrow, zE_st0, zE_vi0, zE_st1, zE_vi1, zE_st2, zE_vi2, zE_st3, zE_vi3, zE_st4, zE_vi4, zE_st5, zE_vi5, zE_st6, zE_vi6, zE_st7, zE_vi7, zE_st8, zE_vi8, zSt_0, zSL_0, zSt_1n, zSt_1i, zSt_1a, zSt_1l, zSt_2n, zSt_2i, zSt_2a, zSt_2l, zSt_3n, zSt_3i, zSt_3a, zSt_3l, zSt_4n, zSt_4i, zSt_4a, zSt_4l, zSt_5n, zSt_5i, zSt_5a, zSt_5l, zSt_6n, zSt_6i, zSt_6a, zSt_6l, zSt_7n, zSt_7i, zSt_7a, zSt_7l, zSt_8n, zSt_8i, zSt_8a, zSt_8l, zSt_9n, zSt_9i, zSt_9a, zSt_9l, zSt_10n, zSt_10i, zSt_10a, zSt_10l, zSt_11n, zSt_11i, zSt_11a, zSt_11l, zSt_12n, zSt_12i, zSt_12a, zSt_12l, zSt_13n, zSt_13i, zSt_13a, zSt_13l, zSL_1n, zSL_1i, zSL_1a, zSL_1l, zSL_2n, zSL_2i, zSL_2a, zSL_2l, zSL_3n, zSL_3i, zSL_3a, zSL_3l, zSL_4n, zSL_4i, zSL_4a, zSL_4l, zSL_5n, zSL_5i, zSL_5a, zSL_5l, zSL_6n, zSL_6i, zSL_6a, zSL_6l, zSL_7n, zSL_7i, zSL_7a, zSL_7l, zSL_8n, zSL_8i, zSL_8a, zSL_8l, zSL_9n, zSL_9i, zSL_9a, zSL_9l, zSL_10n, zSL_10i, zSL_10a, zSL_10l, zSL_11n, zSL_11i, zSL_11a, zSL_11l, zSL_12n, zSL_12i, zSL_12a, zSL_12l, zLI_0, zLL_0, zLA_0, zLI_1, zLL_1, zLA_1, zLI_2, zLL_2, zLA_2, zLI_3, zLL_3, zLA_3, zLI_4, zLL_4, zLA_4, zLI_5, zLL_5, zLA_5, zLI_6, zLL_6, zLA_6, zLI_7, zLL_7, zLA_7, zLI_8, zLL_8, zLA_8, zLI_9, zLL_9, zLA_9, zLI_10, zLL_10, zLA_10, zLI_11, zLL_11, zLA_11, zLI_12, zLL_12, zLA_12, zLI_13, zLL_13, zLA_13, zst_0, zst_1n, zst_1i, zst_1a, zst_2n, zst_2i, zst_2a, zst_3n, zst_3i, zst_3a, zst_4n, zst_4i, zst_4a, zst_5n, zst_5i, zst_5a, zst_6n, zst_6i, zst_6a, zst_7n, zst_7i, zst_7a, zst_8n, zst_8i, zst_8a, zst_9n, zst_9i, zst_9a, zst_10n, zst_10i, zst_10a, zst_11n, zst_11i, zst_11a, zst_12n, zst_12i, zst_12a, zst_13n, zst_13i, zst_13a, zst_14n, zst_14i, zst_14a, zst_15n, zst_15i, zst_15a, zR1_n, zR1_v, zsum_n, zsum_i, zsum_l, zsum_a, zlen_n, zlen_i, zlen_l, zlen_a, List.not_mem_nil, List.mem_cons, or_false, false_or, or_self, ↓reduceIte, if_false, if_true, Nat.reduceEqDiff, Nat.reduceAdd, Nat.reduceLeDiff, true_and, and_true, reduceCtorEq, ne_eq, Int.toNat_natCast, not_true_eq_false, not_false_eq_true, true_implies, false_implies, implies_true, Int.reduceToNat, Int.toNat_zero, Int.reduceLT, Int.reduceLE, Int.reduceEq, Int.reduceAdd, Int.reduceMul, Int.reduceNeg]
  (repeat' (first | with_reducible refine And.intro ?_ ?_ | with_reducible intro _)) <;> try first | with_reducible rfl | with_reducible assumption | omega | (unfold zr32; omega) | contradiction | (exact absurd (by omega) (by assumption)) | rfl | (simp only [Sum.inl.injEq, Option.some.injEq]; omega)
end ZMAKE2Q
end SG_DA_makec
section SG_DC1_startq
/-! the start: both boards bare -/
section ZSTARTQ
variable {L : Nat} {Q : zO → zM → Prop} {F : Nat → Nat → Int} {G : Nat → Nat → Int64} {R : Nat → Nat → Nat} {K : Nat → Nat × Nat}
theorem zcF_o {b j : Nat} (h2 : b ≠ 2 ∨ j ≠ 2) (h7 : b ≠ 7 ∨ 60 ≤ j) (hs : ∀ i, i < 60 → b ≠ 14 + 14 * i) (h3 : b ≠ 1124) (h4 : b ≠ 1138) : zcF F b j = F b j := by
  unfold zcF
  rw [zshI_o h4, zshI_o h3, zu2_sj h2]
  unfold zfil
  rw [if_neg (by omega), zshs_o 60 hs]
theorem zcF_7 {j : Nat} (hj : j < 60) : zcF F 7 j = -1 := by
  unfold zcF
  rw [zshI_o (by omega), zshI_o (by omega), zu2_sj (by omega)]
  exact if_pos ⟨rfl, hj⟩
theorem zcF_s {i j : Nat} (hi : i < 60) : zcF F (14 + 14 * i) j = zshs F 60 (14 + 14 * i) j := by
  unfold zcF
  rw [zshI_o (by omega), zshI_o (by omega), zu2_sj (by omega)]
  unfold zfil
  rw [if_neg (by omega)]
theorem zcF_38 {j : Nat} (hj : 8 < j) : zcF F 1138 j = F 1138 j := by
  unfold zcF
  rw [zshI_v.2.2.2.2.2 j (Or.inr (Or.inr hj)), zshI_o (by omega), zu2_sj (by omega)]
  unfold zfil
  rw [if_neg (by omega), zshs_o 60 (fun i hi => by omega)]
theorem zcF_2 : zcF F 2 2 = 0 := by
  unfold zcF
  rw [zshI_o (by omega), zshI_o (by omega), zu2_eq]
theorem zqJ_i (hF : ∀ a, 2 ≤ a → ∀ j, F a j = 0) : zqJ (zcF F) := by
  refine ⟨fun i hi => ?_, fun i hi => ?_, ⟨fun i hi => ?_, fun j hj => ?_⟩, fun j hj => ?_⟩
  · obtain ⟨v6, v7, v8, v3, v4, _⟩ := zshs_v (F := F) 60 i hi
    unfold zKy
    rw [zcF_s hi, zcF_s hi, v3, v4]
    omega
  · obtain ⟨v6, v7, v8, v3, v4, _⟩ := zshs_v (F := F) 60 i hi
    show -1 ≤ zcF F (14 + 14 * i) 6 ∧ zcF F (14 + 14 * i) 6 < 60
    rw [zcF_s hi, v6]
    omega
  · obtain ⟨v6, v7, v8, v3, v4, _⟩ := zshs_v (F := F) 60 i hi
    rw [zcF_s hi, v8]
    omega
  · rw [zcF_7 hj]
    omega
  · rw [zcF_o (by omega) (by omega) (fun i _ => by omega) (by omega) (by omega)]
    exact Or.inl (hF 8 (by omega) j)
theorem zrcl_o {f : Nat → Nat → Int} {b j : Nat} (h : (b < 1166 ∧ (b ≠ 1153 ∨ j ≠ 33)) ∨ b = 1167 ∨ b = 1168 ∨ b = 1174) : zrcl f b j = f b j := by
  unfold zrcl zrc2 zrc1
  rw [zu2_sj (by omega), if_neg (by omega), if_neg (by omega), if_neg (by omega)]
theorem zqR_i (hF : ∀ a, 2 ≤ a → ∀ j, F a j = 0) : zqR 0 (zrcl (zcF F)) (zrcl (zcF F)) := by
  have r := zqR_0 (f := zcF F) (g := zcF F) (fun i hi => by
    rw [zcF_o (by omega) (by omega) (fun i _ => by omega) (by omega) (by omega), zcF_o (by omega) (by omega) (fun i _ => by omega) (by omega) (by omega), hF 1167 (by omega), hF 1168 (by omega)]
    omega) (zqJ_i hF)
  refine zqR_keep3 (fun b j hb => ?_) (fun j hj => ?_) (fun _ _ _ => rfl) rfl r
  · rw [zrcl_o (by omega)]
    unfold zcla
    rw [zu2_if]
    by_cases c1 : b = 11 ∧ j = 0
    · rw [if_pos c1, c1.1, c1.2, zcF_o (by omega) (by omega) (fun i _ => by omega) (by omega) (by omega)]
      exact hF 11 (by omega) 0
    · rw [if_neg c1]
      unfold zfil
      by_cases c2 : b = 7 ∧ j < 60
      · rw [if_pos c2, c2.1]
        exact zcF_7 c2.2
      · rw [if_neg c2]
        unfold zclr
        by_cases c3 : j = 0 ∧ 14 ≤ b ∧ (b - 14) % 14 = 0 ∧ (b - 14) / 14 < 60
        · rw [if_pos c3]
          obtain ⟨i, hi, e⟩ : ∃ i, i < 60 ∧ b = 14 + 14 * i := ⟨(b - 14) / 14, by omega, by omega⟩
          rw [e, c3.1, zcF_s hi, (zshs_v 60 i hi).2.2.2.2.2 0 (by omega)]
          exact hF _ (by omega) 0
        · rw [if_neg c3]
          by_cases c4 : b = 6 ∧ j < 4
          · rw [if_pos c4, c4.1, zcF_o (by omega) (by omega) (fun i _ => by omega) (by omega) (by omega)]
            exact hF 6 (by omega) j
          · rw [if_neg c4]
  · rw [zrcl_o (by omega), zcF_o (by omega) (by omega) (fun i _ => by omega) (by omega) (by omega)]
    exact Or.inl (hF 8 (by omega) j)
theorem zqX_i (hF : ∀ a, 2 ≤ a → ∀ j, F a j = 0) : zqX (zrcl (zcF F)) := by
  have z : ∀ b j, 854 ≤ b → b ≠ 1124 → b ≠ 1138 → b < 1166 → (b ≠ 1153 ∨ j ≠ 33) → zrcl (zcF F) b j = 0 := fun b j h1 h2 h3 h4 h5 => by
    rw [zrcl_o (by omega), zcF_o (by omega) (by omega) (fun i _ => by omega) h2 h3]
    exact hF b (by omega) j
  have z38 : ∀ j, 8 < j → zrcl (zcF F) 1138 j = 0 := fun j hj => by
    rw [zrcl_o (by omega), zcF_38 hj]
    exact hF _ (by omega) j
  have y1 := z 1095 0 (by omega) (by omega) (by omega) (by omega) (by omega)
  have y2 := z 1101 0 (by omega) (by omega) (by omega) (by omega) (by omega)
  have y3 := z 1103 0 (by omega) (by omega) (by omega) (by omega) (by omega)
  have w3 := z 1153 3 (by omega) (by omega) (by omega) (by omega) (by omega)
  have w5 := z 1153 5 (by omega) (by omega) (by omega) (by omega) (by omega)
  have w7 := z 1153 7 (by omega) (by omega) (by omega) (by omega) (by omega)
  refine ⟨⟨by rw [y1, w3]; omega, fun j hj => ?_⟩, ⟨by rw [y2, w5]; omega, fun j _ => ?_, fun j hj => ?_⟩, ⟨by rw [y3, w7]; omega, fun j hj => ?_⟩, fun j => ?_, fun j => ?_, z38 10 (by omega), z38 9 (by omega)⟩
  · rw [y1] at hj; omega
  · rw [z 1102 j (by omega) (by omega) (by omega) (by omega) (by omega), z 1156 j (by omega) (by omega) (by omega) (by omega) (by omega)]
    omega
  · rw [y2] at hj; omega
  · rw [y3] at hj; omega
  · exact z 1123 j (by omega) (by omega) (by omega) (by omega) (by omega)
  · exact z 1114 j (by omega) (by omega) (by omega) (by omega) (by omega)
theorem zqW_i {M : zM} (hF : ∀ a, 2 ≤ a → ∀ j, F a j = 0) (h1 : M.2.1 = zrcl (zcF F)) (h2 : zLay M.2.2.2) : zqW 0 M := by
  refine ⟨⟨h2, by rw [h1]; exact zqR_i hF, by omega, ⟨?_, ?_⟩, fun k hk => absurd hk (Nat.not_lt_zero k)⟩, by rw [h1]; exact zqX_i hF⟩
  · rw [h1, zrcl_o (by omega), zcF_2]
    rfl
  · rw [h1, zrcl_o (by omega), zcF_o (by omega) (by omega) (fun i _ => by omega) (by omega) (by omega), hF 1153 (by omega)]
    rfl
end ZSTARTQ
end SG_DC1_startq
