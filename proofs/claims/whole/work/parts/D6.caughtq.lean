/-! those caught: both name the same -/
section ZCAUGHTQ
variable {L m n : Nat} {M B : zM} {s t : Nat} {Q : zO → zM → Prop} {f g : Nat → Nat → Int} {x y w h : Int} {cc : Nat → Int}
/-- the catcher, as the class lays it -/
def zccl (f : Nat → Nat → Int) : Nat → Nat → Int := zu2 (zu2 (zu2 (zu2 (zu2 (zu2 f 1124 0 1) 1124 5 (-1)) 1124 2 1) 1124 6 (-1)) 1124 7 (-1)) 1124 8 (-1)
def zcpl (f : Nat → Nat → Int) (x y w h : Int) : Nat → Nat → Int := zpset (zccl f) 1126 4 (zbx x w) (zby y h)
def zctu (f : Nat → Nat → Int) (x y w h : Int) : Nat → Nat → Int := zu2 (zu2 (zcpl f x y w h) 1124 10 1) 1124 9 2
def zctr (f : Nat → Nat → Int) (x y w h : Int) : Nat → Nat → Int := zfnd (zctu f x y w h) 1124
theorem zctr_o {b j : Nat} (hb : b < 1124 ∨ 1128 < b) : zctr f x y w h b j = f b j := by
  unfold zctr
  rw [zfnd_o (by omega)]
  unfold zctu
  rw [zu2_a (by omega), zu2_a (by omega)]
  unfold zcpl
  rw [zpset_ob (by omega)]
  unfold zccl
  rw [zu2_a (by omega), zu2_a (by omega), zu2_a (by omega), zu2_a (by omega), zu2_a (by omega), zu2_a (by omega)]
theorem zctu_v : zctu f x y w h 1124 10 = 1 ∧ zctu f x y w h 1124 9 = 2 ∧ zctu f x y w h 1126 0 = 4 ∧ ∀ k, k < 4 → zctu f x y w h 1127 k = zbx x w k ∧ zctu f x y w h 1128 k = zby y h k := by
  unfold zctu
  refine ⟨by rw [zu2_i (by omega), zu2_eq], zu2_eq _ _ _ _, ?_, fun k hk => ⟨?_, ?_⟩⟩
  · rw [zu2_a (by omega), zu2_a (by omega)]
    exact zpset_n _ _ _ _ _
  · rw [zu2_a (by omega), zu2_a (by omega)]
    exact zpset_X _ 1126 hk _ _
  · rw [zu2_a (by omega), zu2_a (by omega)]
    exact zpset_Y _ 1126 hk _ _
theorem zctr_v : zctr f x y w h 1124 10 = 1 ∧ zctr f x y w h 1124 9 = 2 ∧ zctr f x y w h 1126 0 = 4 ∧ ∀ k, k < 4 → zctr f x y w h 1127 k = zbx x w k ∧ zctr f x y w h 1128 k = zby y h k := by
  obtain ⟨a1, a2, a3, a4⟩ := zctu_v (f := f) (x := x) (y := y) (w := w) (h := h)
  unfold zctr
  exact ⟨by rw [zfnd_o (by omega)]; exact a1, by rw [zfnd_o (by omega)]; exact a2, by rw [zfnd_o (by omega)]; exact a3, fun k hk => ⟨by rw [zfnd_o (by omega)]; exact (a4 k hk).1, by rw [zfnd_o (by omega)]; exact (a4 k hk).2⟩⟩
theorem zmn_m (a b : Int) : zmn a b = min a b := by unfold zmn; split <;> omega
theorem zmx_m (a b : Int) : zmx a b = max a b := by unfold zmx; split <;> omega
theorem zf2_1 {op : Int → Int → Int} {n : Nat → Int} {X : Nat → Nat → Int} {b : Int} (hn : n 0 = 4) : zf2 op n X b 1 = op (op (op (op b (X 0 0)) (X 0 1)) (X 0 2)) (X 0 3) := by
  show zfo op (X 0) b (n 0).toNat = _
  rw [hn]
  rfl
theorem zctr_f (hw : 1 ≤ w) (hh : 1 ≤ h) : zctr f x y w h 1124 11 = x ∧ zctr f x y w h 1124 12 = y ∧ zctr f x y w h 1124 13 = x + w ∧ zctr f x y w h 1124 14 = y + h := by
  obtain ⟨a1, a2, a3, a4⟩ := zctu_v (f := f) (x := x) (y := y) (w := w) (h := h)
  have eN : zN (zctu f x y w h) 1124 0 = 4 := a3
  have eX : ∀ k, k < 4 → zX (zctu f x y w h) 1124 0 k = zbx x w k := fun k hk => (a4 k hk).1
  have eY : ∀ k, k < 4 → zY (zctu f x y w h) 1124 0 k = zby y h k := fun k hk => (a4 k hk).2
  have b0 : zbx x w 0 = x := rfl
  have b1 : zbx x w 1 = x + w := rfl
  have b2 : zbx x w 2 = x + w := rfl
  have b3 : zbx x w 3 = x := rfl
  have d0 : zby y h 0 = y := rfl
  have d1 : zby y h 1 = y := rfl
  have d2 : zby y h 2 = y + h := rfl
  have d3 : zby y h 3 = y + h := rfl
  have t1 : (1 : Int).toNat = 1 := rfl
  unfold zctr zfnd
  rw [zfr_l, zfr_d, zfr_r, zfr_u, a1, t1, zf2_1 eN, zf2_1 eN, zf2_1 eN, zf2_1 eN, eX 0 (by omega), eX 1 (by omega), eX 2 (by omega), eX 3 (by omega), eY 0 (by omega), eY 1 (by omega), eY 2 (by omega), eY 3 (by omega), b0, b1, b2, b3, d0, d1, d2, d3]
  simp only [zmn_m, zmx_m]
  omega
theorem zctr_p (h1 : 1 ≤ w ∧ w ≤ 60) (h2 : 1 ≤ h ∧ h ≤ 60) (h3 : 0 ≤ x ∧ x ≤ 60 - w) (h4 : 0 ≤ y ∧ y ≤ 60 - h) : zSP (zN (zctr f x y w h) 1124) (zX (zctr f x y w h) 1124) (zY (zctr f x y w h) 1124) 1 := by
  intro p hp
  have hp0 : p = 0 := by omega
  subst hp0
  obtain ⟨a1, a2, a3, a4⟩ := zctr_v (f := f) (x := x) (y := y) (w := w) (h := h)
  have eN : zN (zctr f x y w h) 1124 0 = 4 := a3
  have eX : ∀ k, k < 4 → zX (zctr f x y w h) 1124 0 k = zbx x w k := fun k hk => (a4 k hk).1
  have eY : ∀ k, k < 4 → zY (zctr f x y w h) 1124 0 k = zby y h k := fun k hk => (a4 k hk).2
  obtain ⟨⟨q1, q2, q3⟩, q4⟩ := zrcat_p (f := f) h1 h2 h3 h4 0 (by omega)
  have rN : zrN (zrcat f x y w h 4) 60 0 = 4 := (zrcat_n f x y w h 4).2.2
  rw [rN] at q1 q2 q3 q4
  have rX : ∀ k, k < 4 → zrX (zrcat f x y w h 4) 60 0 k = zbx x w k := fun k hk => by
    unfold zrX
    rw [show 32 * 60 + 8 * 0 + k = 1920 + k by omega]
    exact zrcat_x f x y w h 4 k hk
  have rY : ∀ k, k < 4 → zrY (zrcat f x y w h 4) 60 0 k = zby y h k := fun k hk => by
    unfold zrY
    rw [show 32 * 60 + 8 * 0 + k = 1920 + k by omega]
    exact zrcat_y f x y w h 4 k hk
  rw [eN]
  refine ⟨⟨q1, q2, fun k hk => ?_⟩, zpr_cg (fun k hk => ?_) (fun k hk => ?_) q4⟩
  · rw [eX k (by omega), eY k (by omega), ← rX k (by omega), ← rY k (by omega)]
    exact q3 k hk
  · rw [eX k (by omega), rX k (by omega)]
  · rw [eY k (by omega), rY k (by omega)]
theorem zctr_s (h1 : 1 ≤ w ∧ w ≤ 60) (h2 : 1 ≤ h ∧ h ≤ 60) (h3 : 0 ≤ x ∧ x ≤ 60 - w) (h4 : 0 ≤ y ∧ y ≤ 60 - h) : zSw (zctr f x y w h) 1124 := by
  have hp := zctr_p (f := f) h1 h2 h3 h4
  obtain ⟨a1, a2, a3, a4⟩ := zctr_v (f := f) (x := x) (y := y) (w := w) (h := h)
  refine ⟨by rw [a1]; omega, by rw [a2]; omega, fun p hp2 => ?_⟩
  rw [a1] at hp2
  exact (hp p (by omega)).1
theorem c176_1 {b : Int} (hs : zShA s) (hR : zLay M.2.2.2) (hb : b ≠ 0) (hc : M.2.1 1124 11 ≤ M.2.1 s 11 ∧ M.2.1 s 13 ≤ M.2.1 1124 13 ∧ M.2.1 1124 12 ≤ M.2.1 s 12 ∧ M.2.1 s 14 ≤ M.2.1 1124 14) : zFR (zK L) 176 0 (zcall 176 [.inr (.inr 2), .inr (.inr s), .inl b]) [] M Q = Q (.inl (some (.inl 1))) M := by
  have hF : M.2.2.2 2 10 = 1124 := by
    have hF := hR.1
    unfold zLayF at hF
    simp only [hF]
  obtain ⟨k1, k2⟩ := zK_sh (L := L) hs
  obtain ⟨k3, k4⟩ := zK_sh (L := L) (show zShA 1124 from Or.inr (Or.inl rfl))
  refine zFR_det (zW_sound 60 [66] ?_) Q
  simp only [ZF176, ZR176, zk_2, k1, k3, hF, zW_succ, zE_iload, zE_aload, zE_lload, zE_iinc, zE_istore, zE_astore, zE_lstore, zE_iconst, zE_ldc2, zE_iadd, zE_isub, zE_imul, zE_idiv, zE_irem, zE_ineg, zE_iand, zE_ior, zE_ixor, zE_ishl, zE_ishr, zE_land, zE_lor, zE_lxor, zE_lshl, zE_lshr, zE_i2l, zE_lcmp, zE_dup_i, zE_dup_a, zE_dup2_ia, zE_pop_i, zE_pop_a, zE_pop2, zE_goto, zE_if_eq, zE_icmp_eq, zE_if_ne, zE_icmp_ne, zE_if_lt, zE_icmp_lt, zE_if_ge, zE_icmp_ge, zE_if_gt, zE_icmp_gt, zE_if_le, zE_icmp_le, zE_iaload, zE_baload, zE_laload, zE_aaload, zE_iastore, zE_bastore, zE_lastore, zE_aastore, zE_alen, zE_getf0, zE_getf1, zE_getf2, zE_getf3, zE_putf0, zE_putf1, zE_putf2, zE_putf3, zE_new, zE_newa, zE_newq, zE_ireturn, zE_lreturn, zE_areturn, zE_return, zE_athrow, zE_st0, zE_vi0, zE_st1, zE_vi1, zE_st2, zE_vi2, zE_st3, zE_vi3, zE_st4, zE_vi4, zE_st5, zE_vi5, zE_st6, zE_vi6, zE_st7, zE_vi7, zE_st8, zE_vi8, zSt_0, zSL_0, zSt_1n, zSt_1i, zSt_1a, zSt_1l, zSt_2n, zSt_2i, zSt_2a, zSt_2l, zSt_3n, zSt_3i, zSt_3a, zSt_3l, zSt_4n, zSt_4i, zSt_4a, zSt_4l, zSt_5n, zSt_5i, zSt_5a, zSt_5l, zSt_6n, zSt_6i, zSt_6a, zSt_6l, zSt_7n, zSt_7i, zSt_7a, zSt_7l, zSt_8n, zSt_8i, zSt_8a, zSt_8l, zSt_9n, zSt_9i, zSt_9a, zSt_9l, zSt_10n, zSt_10i, zSt_10a, zSt_10l, zSt_11n, zSt_11i, zSt_11a, zSt_11l, zSt_12n, zSt_12i, zSt_12a, zSt_12l, zSt_13n, zSt_13i, zSt_13a, zSt_13l, zSL_1n, zSL_1i, zSL_1a, zSL_1l, zSL_2n, zSL_2i, zSL_2a, zSL_2l, zSL_3n, zSL_3i, zSL_3a, zSL_3l, zSL_4n, zSL_4i, zSL_4a, zSL_4l, zSL_5n, zSL_5i, zSL_5a, zSL_5l, zSL_6n, zSL_6i, zSL_6a, zSL_6l, zSL_7n, zSL_7i, zSL_7a, zSL_7l, zSL_8n, zSL_8i, zSL_8a, zSL_8l, zSL_9n, zSL_9i, zSL_9a, zSL_9l, zSL_10n, zSL_10i, zSL_10a, zSL_10l, zSL_11n, zSL_11i, zSL_11a, zSL_11l, zSL_12n, zSL_12i, zSL_12a, zSL_12l, zLI_0, zLL_0, zLA_0, zLI_1, zLL_1, zLA_1, zLI_2, zLL_2, zLA_2, zLI_3, zLL_3, zLA_3, zLI_4, zLL_4, zLA_4, zLI_5, zLL_5, zLA_5, zLI_6, zLL_6, zLA_6, zLI_7, zLL_7, zLA_7, zLI_8, zLL_8, zLA_8, zLI_9, zLL_9, zLA_9, zLI_10, zLL_10, zLA_10, zLI_11, zLL_11, zLA_11, zLI_12, zLL_12, zLA_12, zLI_13, zLL_13, zLA_13, zst_0, zst_1n, zst_1i, zst_1a, zst_2n, zst_2i, zst_2a, zst_3n, zst_3i, zst_3a, zst_4n, zst_4i, zst_4a, zst_5n, zst_5i, zst_5a, zst_6n, zst_6i, zst_6a, zst_7n, zst_7i, zst_7a, zst_8n, zst_8i, zst_8a, zst_9n, zst_9i, zst_9a, zst_10n, zst_10i, zst_10a, zst_11n, zst_11i, zst_11a, zst_12n, zst_12i, zst_12a, zst_13n, zst_13i, zst_13a, zst_14n, zst_14i, zst_14a, zst_15n, zst_15i, zst_15a, zR1_n, zR1_v, zsum_n, zsum_i, zsum_l, zsum_a, zlen_n, zlen_i, zlen_l, zlen_a, List.not_mem_nil, List.mem_cons, or_false, false_or, or_self, ↓reduceIte, if_false, if_true, Nat.reduceEqDiff, Nat.reduceAdd, Nat.reduceLeDiff, true_and, and_true, reduceCtorEq, ne_eq, Int.toNat_natCast, not_true_eq_false, not_false_eq_true, true_implies, false_implies, implies_true, Int.reduceToNat, Int.toNat_zero, Int.reduceLT, Int.reduceLE, Int.reduceEq, Int.reduceAdd, Int.reduceMul, Int.reduceNeg]
  (repeat' (first | with_reducible refine And.intro ?_ ?_ | with_reducible intro _)) <;> try first | with_reducible rfl | with_reducible assumption | omega | (unfold zr32; omega) | contradiction | (exact absurd (by omega) (by assumption)) | rfl | (simp only [Sum.inl.injEq, Option.some.injEq]; omega)
theorem c176_0 {b : Int} (hs : zShA s) (hR : zLay M.2.2.2) (hb : b ≠ 0) (hc : ¬ (M.2.1 1124 11 ≤ M.2.1 s 11 ∧ M.2.1 s 13 ≤ M.2.1 1124 13 ∧ M.2.1 1124 12 ≤ M.2.1 s 12 ∧ M.2.1 s 14 ≤ M.2.1 1124 14)) : zFR (zK L) 176 0 (zcall 176 [.inr (.inr 2), .inr (.inr s), .inl b]) [] M Q = Q (.inl (some (.inl 0))) M := by
  have hF : M.2.2.2 2 10 = 1124 := by
    have hF := hR.1
    unfold zLayF at hF
    simp only [hF]
  obtain ⟨k1, k2⟩ := zK_sh (L := L) hs
  obtain ⟨k3, k4⟩ := zK_sh (L := L) (show zShA 1124 from Or.inr (Or.inl rfl))
  refine zFR_det (zW_sound 60 [66] ?_) Q
  simp only [ZF176, ZR176, zk_2, k1, k3, hF, zW_succ, zE_iload, zE_aload, zE_lload, zE_iinc, zE_istore, zE_astore, zE_lstore, zE_iconst, zE_ldc2, zE_iadd, zE_isub, zE_imul, zE_idiv, zE_irem, zE_ineg, zE_iand, zE_ior, zE_ixor, zE_ishl, zE_ishr, zE_land, zE_lor, zE_lxor, zE_lshl, zE_lshr, zE_i2l, zE_lcmp, zE_dup_i, zE_dup_a, zE_dup2_ia, zE_pop_i, zE_pop_a, zE_pop2, zE_goto, zE_if_eq, zE_icmp_eq, zE_if_ne, zE_icmp_ne, zE_if_lt, zE_icmp_lt, zE_if_ge, zE_icmp_ge, zE_if_gt, zE_icmp_gt, zE_if_le, zE_icmp_le, zE_iaload, zE_baload, zE_laload, zE_aaload, zE_iastore, zE_bastore, zE_lastore, zE_aastore, zE_alen, zE_getf0, zE_getf1, zE_getf2, zE_getf3, zE_putf0, zE_putf1, zE_putf2, zE_putf3, zE_new, zE_newa, zE_newq, zE_ireturn, zE_lreturn, zE_areturn, zE_return, zE_athrow, zE_st0, zE_vi0, zE_st1, zE_vi1, zE_st2, zE_vi2, zE_st3, zE_vi3, zE_st4, zE_vi4, zE_st5, zE_vi5, zE_st6, zE_vi6, zE_st7, zE_vi7, zE_st8, zE_vi8, zSt_0, zSL_0, zSt_1n, zSt_1i, zSt_1a, zSt_1l, zSt_2n, zSt_2i, zSt_2a, zSt_2l, zSt_3n, zSt_3i, zSt_3a, zSt_3l, zSt_4n, zSt_4i, zSt_4a, zSt_4l, zSt_5n, zSt_5i, zSt_5a, zSt_5l, zSt_6n, zSt_6i, zSt_6a, zSt_6l, zSt_7n, zSt_7i, zSt_7a, zSt_7l, zSt_8n, zSt_8i, zSt_8a, zSt_8l, zSt_9n, zSt_9i, zSt_9a, zSt_9l, zSt_10n, zSt_10i, zSt_10a, zSt_10l, zSt_11n, zSt_11i, zSt_11a, zSt_11l, zSt_12n, zSt_12i, zSt_12a, zSt_12l, zSt_13n, zSt_13i, zSt_13a, zSt_13l, zSL_1n, zSL_1i, zSL_1a, zSL_1l, zSL_2n, zSL_2i, zSL_2a, zSL_2l, zSL_3n, zSL_3i, zSL_3a, zSL_3l, zSL_4n, zSL_4i, zSL_4a, zSL_4l, zSL_5n, zSL_5i, zSL_5a, zSL_5l, zSL_6n, zSL_6i, zSL_6a, zSL_6l, zSL_7n, zSL_7i, zSL_7a, zSL_7l, zSL_8n, zSL_8i, zSL_8a, zSL_8l, zSL_9n, zSL_9i, zSL_9a, zSL_9l, zSL_10n, zSL_10i, zSL_10a, zSL_10l, zSL_11n, zSL_11i, zSL_11a, zSL_11l, zSL_12n, zSL_12i, zSL_12a, zSL_12l, zLI_0, zLL_0, zLA_0, zLI_1, zLL_1, zLA_1, zLI_2, zLL_2, zLA_2, zLI_3, zLL_3, zLA_3, zLI_4, zLL_4, zLA_4, zLI_5, zLL_5, zLA_5, zLI_6, zLL_6, zLA_6, zLI_7, zLL_7, zLA_7, zLI_8, zLL_8, zLA_8, zLI_9, zLL_9, zLA_9, zLI_10, zLL_10, zLA_10, zLI_11, zLL_11, zLA_11, zLI_12, zLL_12, zLA_12, zLI_13, zLL_13, zLA_13, zst_0, zst_1n, zst_1i, zst_1a, zst_2n, zst_2i, zst_2a, zst_3n, zst_3i, zst_3a, zst_4n, zst_4i, zst_4a, zst_5n, zst_5i, zst_5a, zst_6n, zst_6i, zst_6a, zst_7n, zst_7i, zst_7a, zst_8n, zst_8i, zst_8a, zst_9n, zst_9i, zst_9a, zst_10n, zst_10i, zst_10a, zst_11n, zst_11i, zst_11a, zst_12n, zst_12i, zst_12a, zst_13n, zst_13i, zst_13a, zst_14n, zst_14i, zst_14a, zst_15n, zst_15i, zst_15a, zR1_n, zR1_v, zsum_n, zsum_i, zsum_l, zsum_a, zlen_n, zlen_i, zlen_l, zlen_a, List.not_mem_nil, List.mem_cons, or_false, false_or, or_self, ↓reduceIte, if_false, if_true, Nat.reduceEqDiff, Nat.reduceAdd, Nat.reduceLeDiff, true_and, and_true, reduceCtorEq, ne_eq, Int.toNat_natCast, not_true_eq_false, not_false_eq_true, true_implies, false_implies, implies_true, Int.reduceToNat, Int.toNat_zero, Int.reduceLT, Int.reduceLE, Int.reduceEq, Int.reduceAdd, Int.reduceMul, Int.reduceNeg]
  (repeat' (first | with_reducible refine And.intro ?_ ?_ | with_reducible intro _)) <;> try first | with_reducible rfl | with_reducible assumption | omega | (unfold zr32; omega) | contradiction | (exact absurd (by omega) (by assumption)) | rfl | (simp only [Sum.inl.injEq, Option.some.injEq]; omega)
theorem c176_a {V : Int} {f' : Nat → Nat → Int} (hR : zLay M.2.2.2) (e105 : ∀ Q : zO → zM → Prop, zFR (zK L) 105 0 (zcall 105 [.inr (.inr 1105), .inr (.inr s), .inr (.inr 1124)]) [] M Q = Q (.inl none) (zwI M f')) (e6 : f' 1106 1 = V) : zFR (zK L) 176 0 (zcall 176 [.inr (.inr 2), .inr (.inr s), .inl 0]) [] M Q = ((0 < V → Q (.inl (some (.inl 1))) (zwI M f')) ∧ (¬ 0 < V → Q (.inl (some (.inl 0))) (zwI M f'))) := by
  have hF : M.2.2.2 2 10 = 1124 ∧ M.2.2.2 2 7 = 1105 ∧ M.2.2.2 1105 0 = 1106 := by
    have hF := hR.1
    unfold zLayF at hF
    exact ⟨by simp only [hF], by simp only [hF], by simp only [hF]⟩
  refine zFR_bool _ (fun hc => zW_sound 60 [4] ?_) (fun hc => zW_sound 60 [4] ?_) Q
  · simp only [ZF176, ZR176, zk_2, zk_1105, zk_1106, hF, zwI_2, zwI_I, Int.reduceToNat, e6, ZF105.1, ZF105.2.1, ZF105.2.2.1, e105, zW_succ, zE_iload, zE_aload, zE_lload, zE_iinc, zE_istore, zE_astore, zE_lstore, zE_iconst, zE_ldc2, zE_iadd, zE_isub, zE_imul, zE_idiv, zE_irem, zE_ineg, zE_iand, zE_ior, zE_ixor, zE_ishl, zE_ishr, zE_land, zE_lor, zE_lxor, zE_lshl, zE_lshr, zE_i2l, zE_lcmp, zE_dup_i, zE_dup_a, zE_dup2_ia, zE_pop_i, zE_pop_a, zE_pop2, zE_goto, zE_if_eq, zE_icmp_eq, zE_if_ne, zE_icmp_ne, zE_if_lt, zE_icmp_lt, zE_if_ge, zE_icmp_ge, zE_if_gt, zE_icmp_gt, zE_if_le, zE_icmp_le, zE_iaload, zE_baload, zE_laload, zE_aaload, zE_iastore, zE_bastore, zE_lastore, zE_aastore, zE_alen, zE_getf0, zE_getf1, zE_getf2, zE_getf3, zE_putf0, zE_putf1, zE_putf2, zE_putf3, zE_new, zE_newa, zE_newq, zE_ireturn, zE_lreturn, zE_areturn, zE_return, zE_athrow, zE_st0, zE_vi0, zE_st1, zE_vi1, zE_st2, zE_vi2, zE_st3, zE_vi3, zE_st4, zE_vi4, zE_st5, zE_vi5, zE_st6, zE_vi6, zE_st7, zE_vi7, zE_st8, zE_vi8, zSt_0, zSL_0, zSt_1n, zSt_1i, zSt_1a, zSt_1l, zSt_2n, zSt_2i, zSt_2a, zSt_2l, zSt_3n, zSt_3i, zSt_3a, zSt_3l, zSt_4n, zSt_4i, zSt_4a, zSt_4l, zSt_5n, zSt_5i, zSt_5a, zSt_5l, zSt_6n, zSt_6i, zSt_6a, zSt_6l, zSt_7n, zSt_7i, zSt_7a, zSt_7l, zSt_8n, zSt_8i, zSt_8a, zSt_8l, zSt_9n, zSt_9i, zSt_9a, zSt_9l, zSt_10n, zSt_10i, zSt_10a, zSt_10l, zSt_11n, zSt_11i, zSt_11a, zSt_11l, zSt_12n, zSt_12i, zSt_12a, zSt_12l, zSt_13n, zSt_13i, zSt_13a, zSt_13l, zSL_1n, zSL_1i, zSL_1a, zSL_1l, zSL_2n, zSL_2i, zSL_2a, zSL_2l, zSL_3n, zSL_3i, zSL_3a, zSL_3l, zSL_4n, zSL_4i, zSL_4a, zSL_4l, zSL_5n, zSL_5i, zSL_5a, zSL_5l, zSL_6n, zSL_6i, zSL_6a, zSL_6l, zSL_7n, zSL_7i, zSL_7a, zSL_7l, zSL_8n, zSL_8i, zSL_8a, zSL_8l, zSL_9n, zSL_9i, zSL_9a, zSL_9l, zSL_10n, zSL_10i, zSL_10a, zSL_10l, zSL_11n, zSL_11i, zSL_11a, zSL_11l, zSL_12n, zSL_12i, zSL_12a, zSL_12l, zLI_0, zLL_0, zLA_0, zLI_1, zLL_1, zLA_1, zLI_2, zLL_2, zLA_2, zLI_3, zLL_3, zLA_3, zLI_4, zLL_4, zLA_4, zLI_5, zLL_5, zLA_5, zLI_6, zLL_6, zLA_6, zLI_7, zLL_7, zLA_7, zLI_8, zLL_8, zLA_8, zLI_9, zLL_9, zLA_9, zLI_10, zLL_10, zLA_10, zLI_11, zLL_11, zLA_11, zLI_12, zLL_12, zLA_12, zLI_13, zLL_13, zLA_13, zst_0, zst_1n, zst_1i, zst_1a, zst_2n, zst_2i, zst_2a, zst_3n, zst_3i, zst_3a, zst_4n, zst_4i, zst_4a, zst_5n, zst_5i, zst_5a, zst_6n, zst_6i, zst_6a, zst_7n, zst_7i, zst_7a, zst_8n, zst_8i, zst_8a, zst_9n, zst_9i, zst_9a, zst_10n, zst_10i, zst_10a, zst_11n, zst_11i, zst_11a, zst_12n, zst_12i, zst_12a, zst_13n, zst_13i, zst_13a, zst_14n, zst_14i, zst_14a, zst_15n, zst_15i, zst_15a, zR1_n, zR1_v, zsum_n, zsum_i, zsum_l, zsum_a, zlen_n, zlen_i, zlen_l, zlen_a, List.not_mem_nil, List.mem_cons, or_false, false_or, or_self, ↓reduceIte, if_false, if_true, Nat.reduceEqDiff, Nat.reduceAdd, Nat.reduceLeDiff, true_and, and_true, reduceCtorEq, ne_eq, Int.toNat_natCast, not_true_eq_false, not_false_eq_true, true_implies, false_implies, implies_true, Int.reduceToNat, Int.toNat_zero, Int.reduceLT, Int.reduceLE, Int.reduceEq, Int.reduceAdd, Int.reduceMul, Int.reduceNeg]
    (repeat' (first | with_reducible refine And.intro ?_ ?_ | with_reducible intro _)) <;> try first | with_reducible rfl | with_reducible assumption | omega | (unfold zr32; omega) | contradiction | (exact absurd (by omega) (by assumption)) | rfl | (simp only [Sum.inl.injEq, Option.some.injEq]; omega)
  · simp only [ZF176, ZR176, zk_2, zk_1105, zk_1106, hF, zwI_2, zwI_I, Int.reduceToNat, e6, ZF105.1, ZF105.2.1, ZF105.2.2.1, e105, zW_succ, zE_iload, zE_aload, zE_lload, zE_iinc, zE_istore, zE_astore, zE_lstore, zE_iconst, zE_ldc2, zE_iadd, zE_isub, zE_imul, zE_idiv, zE_irem, zE_ineg, zE_iand, zE_ior, zE_ixor, zE_ishl, zE_ishr, zE_land, zE_lor, zE_lxor, zE_lshl, zE_lshr, zE_i2l, zE_lcmp, zE_dup_i, zE_dup_a, zE_dup2_ia, zE_pop_i, zE_pop_a, zE_pop2, zE_goto, zE_if_eq, zE_icmp_eq, zE_if_ne, zE_icmp_ne, zE_if_lt, zE_icmp_lt, zE_if_ge, zE_icmp_ge, zE_if_gt, zE_icmp_gt, zE_if_le, zE_icmp_le, zE_iaload, zE_baload, zE_laload, zE_aaload, zE_iastore, zE_bastore, zE_lastore, zE_aastore, zE_alen, zE_getf0, zE_getf1, zE_getf2, zE_getf3, zE_putf0, zE_putf1, zE_putf2, zE_putf3, zE_new, zE_newa, zE_newq, zE_ireturn, zE_lreturn, zE_areturn, zE_return, zE_athrow, zE_st0, zE_vi0, zE_st1, zE_vi1, zE_st2, zE_vi2, zE_st3, zE_vi3, zE_st4, zE_vi4, zE_st5, zE_vi5, zE_st6, zE_vi6, zE_st7, zE_vi7, zE_st8, zE_vi8, zSt_0, zSL_0, zSt_1n, zSt_1i, zSt_1a, zSt_1l, zSt_2n, zSt_2i, zSt_2a, zSt_2l, zSt_3n, zSt_3i, zSt_3a, zSt_3l, zSt_4n, zSt_4i, zSt_4a, zSt_4l, zSt_5n, zSt_5i, zSt_5a, zSt_5l, zSt_6n, zSt_6i, zSt_6a, zSt_6l, zSt_7n, zSt_7i, zSt_7a, zSt_7l, zSt_8n, zSt_8i, zSt_8a, zSt_8l, zSt_9n, zSt_9i, zSt_9a, zSt_9l, zSt_10n, zSt_10i, zSt_10a, zSt_10l, zSt_11n, zSt_11i, zSt_11a, zSt_11l, zSt_12n, zSt_12i, zSt_12a, zSt_12l, zSt_13n, zSt_13i, zSt_13a, zSt_13l, zSL_1n, zSL_1i, zSL_1a, zSL_1l, zSL_2n, zSL_2i, zSL_2a, zSL_2l, zSL_3n, zSL_3i, zSL_3a, zSL_3l, zSL_4n, zSL_4i, zSL_4a, zSL_4l, zSL_5n, zSL_5i, zSL_5a, zSL_5l, zSL_6n, zSL_6i, zSL_6a, zSL_6l, zSL_7n, zSL_7i, zSL_7a, zSL_7l, zSL_8n, zSL_8i, zSL_8a, zSL_8l, zSL_9n, zSL_9i, zSL_9a, zSL_9l, zSL_10n, zSL_10i, zSL_10a, zSL_10l, zSL_11n, zSL_11i, zSL_11a, zSL_11l, zSL_12n, zSL_12i, zSL_12a, zSL_12l, zLI_0, zLL_0, zLA_0, zLI_1, zLL_1, zLA_1, zLI_2, zLL_2, zLA_2, zLI_3, zLL_3, zLA_3, zLI_4, zLL_4, zLA_4, zLI_5, zLL_5, zLA_5, zLI_6, zLL_6, zLA_6, zLI_7, zLL_7, zLA_7, zLI_8, zLL_8, zLA_8, zLI_9, zLL_9, zLA_9, zLI_10, zLL_10, zLA_10, zLI_11, zLL_11, zLA_11, zLI_12, zLL_12, zLA_12, zLI_13, zLL_13, zLA_13, zst_0, zst_1n, zst_1i, zst_1a, zst_2n, zst_2i, zst_2a, zst_3n, zst_3i, zst_3a, zst_4n, zst_4i, zst_4a, zst_5n, zst_5i, zst_5a, zst_6n, zst_6i, zst_6a, zst_7n, zst_7i, zst_7a, zst_8n, zst_8i, zst_8a, zst_9n, zst_9i, zst_9a, zst_10n, zst_10i, zst_10a, zst_11n, zst_11i, zst_11a, zst_12n, zst_12i, zst_12a, zst_13n, zst_13i, zst_13a, zst_14n, zst_14i, zst_14a, zst_15n, zst_15i, zst_15a, zR1_n, zR1_v, zsum_n, zsum_i, zsum_l, zsum_a, zlen_n, zlen_i, zlen_l, zlen_a, List.not_mem_nil, List.mem_cons, or_false, false_or, or_self, ↓reduceIte, if_false, if_true, Nat.reduceEqDiff, Nat.reduceAdd, Nat.reduceLeDiff, true_and, and_true, reduceCtorEq, ne_eq, Int.toNat_natCast, not_true_eq_false, not_false_eq_true, true_implies, false_implies, implies_true, Int.reduceToNat, Int.toNat_zero, Int.reduceLT, Int.reduceLE, Int.reduceEq, Int.reduceAdd, Int.reduceMul, Int.reduceNeg]
    (repeat' (first | with_reducible refine And.intro ?_ ?_ | with_reducible intro _)) <;> try first | with_reducible rfl | with_reducible assumption | omega | (unfold zr32; omega) | contradiction | (exact absurd (by omega) (by assumption)) | rfl | (simp only [Sum.inl.injEq, Option.some.injEq]; omega)
/-- caught, as the class has it -/
def zcfwq (f : Nat → Nat → Int) (k : Nat) : Prop := f 1124 11 ≤ f (14 + 14 * k) 11 ∧ f (14 + 14 * k) 13 ≤ f 1124 13 ∧ f 1124 12 ≤ f (14 + 14 * k) 12 ∧ f (14 + 14 * k) 14 ≤ f 1124 14
noncomputable def zcca (f : Nat → Nat → Int) (k : Nat) : Int := (zTot (zE2 f (14 + 14 * k) 1124 (f (14 + 14 * k) 10).toNat 1) (zgl 1 (f (14 + 14 * k) 9) (f 1124 9) (f (14 + 14 * k) 10).toNat) 3601).2
noncomputable def zccb (f : Nat → Nat → Int) (b : Int) (k : Nat) : Bool := @decide (zsee f k = true ∧ ((b ≠ 0 ∧ zcfwq f k) ∨ (b = 0 ∧ 0 < zcca f k))) (Classical.propDecidable _)
theorem zccb_i {b : Int} {k : Nat} : zccb f b k = true ↔ (zsee f k = true ∧ ((b ≠ 0 ∧ zcfwq f k) ∨ (b = 0 ∧ 0 < zcca f k))) := by
  unfold zccb
  exact @decide_eq_true_iff _ (Classical.propDecidable _)
theorem zSP_sw {c : Nat} (hz : zsw f g) (hs : zShA s) (hc : c ≤ 4) (hp : zSP (zN f s) (zX f s) (zY f s) c) : zSP (zN g s) (zX g s) (zY g s) c := fun p hp2 => by
  have hs2 := zShA_sw hs
  obtain ⟨a1, a2, a3⟩ := zvw_f (f := g) (g := f) (s := s) (p := p) (fun b j q1 q2 => by rw [hz b (by omega)]) (by omega)
  rw [a1, a2, a3]
  exact hp p hp2
theorem zE2_sw {c1 c2 : Nat} (hz : zsw f g) (hs : zShA s) (ht : zShA t) (h1 : c1 ≤ 4) (h2 : c2 ≤ 4) (p1 : zSP (zN f s) (zX f s) (zY f s) c1) (p2 : zSP (zN f t) (zX f t) (zY f t) c2) : zE2 g s t c1 c2 = zE2 f s t c1 c2 := by
  have hs2 := zShA_sw hs
  have ht2 := zShA_sw ht
  unfold zE2
  rw [zeS_cg (k := zN f s) (X := zX f s) (Y := zY f s) c1 (fun p hp => by
    obtain ⟨a1, a2, a3⟩ := zvw_f (f := g) (g := f) (s := s) (p := p) (fun b j q1 q2 => by rw [hz b (by omega)]) (by omega)
    rw [a1, a2, a3]
    exact ⟨rfl, (p1 p hp).1.1, fun j _ => ⟨rfl, rfl⟩⟩), zeS_cg (k := zN f t) (X := zX f t) (Y := zY f t) c2 (fun p hp => by
    obtain ⟨a1, a2, a3⟩ := zvw_f (f := g) (g := f) (s := t) (p := p) (fun b j q1 q2 => by rw [hz b (by omega)]) (by omega)
    rw [a1, a2, a3]
    exact ⟨rfl, (p2 p hp).1.1, fun j _ => ⟨rfl, rfl⟩⟩)]
set_option maxRecDepth 8000 in
theorem c175_l {b : Int} {F3 : Nat → Nat → Int} (hR : zLay M.2.2.2) (h01 : ∀ k : Nat, k < 60 → F3 (14 + 14 * k) 0 = 0 ∨ F3 (14 + 14 * k) 0 = 1) (hl : zLy F3) (hS : ∀ k, k < 60 → F3 (14 + 14 * k) 0 = 1 → zSw F3 (14 + 14 * k) ∧ zSP (zN F3 (14 + 14 * k)) (zX F3 (14 + 14 * k)) (zY F3 (14 + 14 * k)) (F3 (14 + 14 * k) 10).toNat) (wt : zSw F3 1124) (e10 : F3 1124 10 = 1) (p60 : zSP (zN F3 1124) (zX F3 1124) (zY F3 1124) 1) (hz : ∀ y, F3 1114 y = 0) : zFR (zK L) 175 48 [some (.inr (.inr 2)), some (.inl x), some (.inl y), some (.inl w), some (.inl h), some (.inl b), some (.inr (.inl (Int64.ofInt 0))), none, some (.inl 0)] [] (zwI M F3) (fun r M2 => ∃ f', r = .inl (some (.inr (.inl (zsts (zccb F3 b) 60)))) ∧ M2 = zwI M f' ∧ zsw F3 f' ∧ ∀ y, f' 1114 y = 0) := by
  have hF := hR.1
  unfold zLayF at hF
  have sc : zShA 1124 := Or.inr (Or.inl rfl)
  generalize hQ : (fun (r : zO) M2 => ∃ f', r = .inl (some (.inr (.inl (zsts (zccb F3 b) 60)))) ∧ M2 = zwI M f' ∧ zsw F3 f' ∧ ∀ y, f' 1114 y = 0) = Q9
  have loop : ∀ i : Nat, i ≤ 60 → ∀ g, zsw F3 g → (∀ y, g 1114 y = 0) → zFR (zK L) 175 48 [some (.inr (.inr 2)), some (.inl x), some (.inl y), some (.inl w), some (.inl h), some (.inl b), some (.inr (.inl (zsts (zccb F3 b) i))), none, some (.inl (i : Int))] [] (zwI M g) Q9 := by
    refine zloop ?_ ?_
    · intro g hg hg0
      have q9 : Q9 (.inl (some (.inr (.inl (zsts (zccb F3 b) 60))))) (zwI M g) := by
        subst hQ
        exact ⟨g, rfl, rfl, hg, hg0⟩
      generalize zsts (zccb F3 b) 60 = z at *
      refine zW_sound 60 [55] ?_
      simp only [ZR175, zW_succ, zE_iload, zE_aload, zE_lload, zE_iinc, zE_istore, zE_astore, zE_lstore, zE_iconst, zE_ldc2, zE_iadd, zE_isub, zE_imul, zE_idiv, zE_irem, zE_ineg, zE_iand, zE_ior, zE_ixor, zE_ishl, zE_ishr, zE_land, zE_lor, zE_lxor, zE_lshl, zE_lshr, zE_i2l, zE_lcmp, zE_dup_i, zE_dup_a, zE_dup2_ia, zE_pop_i, zE_pop_a, zE_pop2, zE_goto, zE_if_eq, zE_icmp_eq, zE_if_ne, zE_icmp_ne, zE_if_lt, zE_icmp_lt, zE_if_ge, zE_icmp_ge, zE_if_gt, zE_icmp_gt, zE_if_le, zE_icmp_le, zE_iaload, zE_baload, zE_laload, zE_aaload, zE_iastore, zE_bastore, zE_lastore, zE_aastore, zE_alen, zE_getf0, zE_getf1, zE_getf2, zE_getf3, zE_putf0, zE_putf1, zE_putf2, zE_putf3, zE_new, zE_newa, zE_newq, zE_ireturn, zE_lreturn, zE_areturn, zE_return, zE_athrow, zE_st0, zE_vi0, zE_st1, zE_vi1, zE_st2, zE_vi2, zE_st3, zE_vi3, zE_st4, zE_vi4, zE_st5, zE_vi5, zE_st6, zE_vi6, zE_st7, zE_vi7, zE_st8, zE_vi8, zSt_0, zSL_0, zSt_1n, zSt_1i, zSt_1a, zSt_1l, zSt_2n, zSt_2i, zSt_2a, zSt_2l, zSt_3n, zSt_3i, zSt_3a, zSt_3l, zSt_4n, zSt_4i, zSt_4a, zSt_4l, zSt_5n, zSt_5i, zSt_5a, zSt_5l, zSt_6n, zSt_6i, zSt_6a, zSt_6l, zSt_7n, zSt_7i, zSt_7a, zSt_7l, zSt_8n, zSt_8i, zSt_8a, zSt_8l, zSt_9n, zSt_9i, zSt_9a, zSt_9l, zSt_10n, zSt_10i, zSt_10a, zSt_10l, zSt_11n, zSt_11i, zSt_11a, zSt_11l, zSt_12n, zSt_12i, zSt_12a, zSt_12l, zSt_13n, zSt_13i, zSt_13a, zSt_13l, zSL_1n, zSL_1i, zSL_1a, zSL_1l, zSL_2n, zSL_2i, zSL_2a, zSL_2l, zSL_3n, zSL_3i, zSL_3a, zSL_3l, zSL_4n, zSL_4i, zSL_4a, zSL_4l, zSL_5n, zSL_5i, zSL_5a, zSL_5l, zSL_6n, zSL_6i, zSL_6a, zSL_6l, zSL_7n, zSL_7i, zSL_7a, zSL_7l, zSL_8n, zSL_8i, zSL_8a, zSL_8l, zSL_9n, zSL_9i, zSL_9a, zSL_9l, zSL_10n, zSL_10i, zSL_10a, zSL_10l, zSL_11n, zSL_11i, zSL_11a, zSL_11l, zSL_12n, zSL_12i, zSL_12a, zSL_12l, zLI_0, zLL_0, zLA_0, zLI_1, zLL_1, zLA_1, zLI_2, zLL_2, zLA_2, zLI_3, zLL_3, zLA_3, zLI_4, zLL_4, zLA_4, zLI_5, zLL_5, zLA_5, zLI_6, zLL_6, zLA_6, zLI_7, zLL_7, zLA_7, zLI_8, zLL_8, zLA_8, zLI_9, zLL_9, zLA_9, zLI_10, zLL_10, zLA_10, zLI_11, zLL_11, zLA_11, zLI_12, zLL_12, zLA_12, zLI_13, zLL_13, zLA_13, zst_0, zst_1n, zst_1i, zst_1a, zst_2n, zst_2i, zst_2a, zst_3n, zst_3i, zst_3a, zst_4n, zst_4i, zst_4a, zst_5n, zst_5i, zst_5a, zst_6n, zst_6i, zst_6a, zst_7n, zst_7i, zst_7a, zst_8n, zst_8i, zst_8a, zst_9n, zst_9i, zst_9a, zst_10n, zst_10i, zst_10a, zst_11n, zst_11i, zst_11a, zst_12n, zst_12i, zst_12a, zst_13n, zst_13i, zst_13a, zst_14n, zst_14i, zst_14a, zst_15n, zst_15i, zst_15a, zR1_n, zR1_v, zsum_n, zsum_i, zsum_l, zsum_a, zlen_n, zlen_i, zlen_l, zlen_a, List.not_mem_nil, List.mem_cons, or_false, false_or, or_self, ↓reduceIte, if_false, if_true, Nat.reduceEqDiff, Nat.reduceAdd, Nat.reduceLeDiff, true_and, and_true, reduceCtorEq, ne_eq, Int.toNat_natCast, not_true_eq_false, not_false_eq_true, true_implies, false_implies, implies_true, Int.reduceToNat, Int.toNat_zero, Int.reduceLT, Int.reduceLE, Int.reduceEq, Int.reduceAdd, Int.reduceMul, Int.reduceNeg]
      (repeat' (first | with_reducible refine And.intro ?_ ?_ | with_reducible intro _)) <;> try first | with_reducible rfl | with_reducible assumption | omega | (unfold zr32; omega) | contradiction | (exact absurd (by omega) (by assumption)) | rfl | (simp only [Sum.inl.injEq, Option.some.injEq]; omega)
    · intro i hi ih g hg hg0
      have g1 : ∀ b j, (b < 1105 ∨ 1114 < b) → g b j = F3 b j := fun b j hb => by rw [hg b hb]
      have e46 := fun Q => c46 (L := L) (M := zwI M g) (Q := Q) (s := i) hR hi (fun k hk => by rw [zwI_I, g1 _ _ (by omega)]; exact h01 k hk) (fun t => by
        rw [zwI_I, g1 _ _ (by omega)] at t ⊢
        exact hl.1 i hi t) (fun j hj => by rw [zwI_I, g1 _ _ (by omega)]; exact hl.2 j hj)
      rw [zwI_I, g1 (14 + 14 * i) 0 (by omega), g1 (14 + 14 * i) 1 (by omega), g1 6 _ (by omega)] at e46
      have nx0 : zccb F3 b i ≠ true → ∀ g, zsw F3 g → (∀ y, g 1114 y = 0) → zFR (zK L) 175 95 [some (.inr (.inr 2)), some (.inl x), some (.inl y), some (.inl w), some (.inl h), some (.inl b), some (.inr (.inl (zsts (zccb F3 b) i))), none, some (.inl (i : Int))] [] (zwI M g) Q9 := fun hz2 g q1 q2 => by
        have o9 := ih g q1 q2
        rw [zsts_s, if_neg hz2, Int.natCast_succ] at o9
        generalize zsts (zccb F3 b) i = z at *
        refine zW_sound 60 [48] ?_
        simp only [ZR175, zW_succ, zE_iload, zE_aload, zE_lload, zE_iinc, zE_istore, zE_astore, zE_lstore, zE_iconst, zE_ldc2, zE_iadd, zE_isub, zE_imul, zE_idiv, zE_irem, zE_ineg, zE_iand, zE_ior, zE_ixor, zE_ishl, zE_ishr, zE_land, zE_lor, zE_lxor, zE_lshl, zE_lshr, zE_i2l, zE_lcmp, zE_dup_i, zE_dup_a, zE_dup2_ia, zE_pop_i, zE_pop_a, zE_pop2, zE_goto, zE_if_eq, zE_icmp_eq, zE_if_ne, zE_icmp_ne, zE_if_lt, zE_icmp_lt, zE_if_ge, zE_icmp_ge, zE_if_gt, zE_icmp_gt, zE_if_le, zE_icmp_le, zE_iaload, zE_baload, zE_laload, zE_aaload, zE_iastore, zE_bastore, zE_lastore, zE_aastore, zE_alen, zE_getf0, zE_getf1, zE_getf2, zE_getf3, zE_putf0, zE_putf1, zE_putf2, zE_putf3, zE_new, zE_newa, zE_newq, zE_ireturn, zE_lreturn, zE_areturn, zE_return, zE_athrow, zE_st0, zE_vi0, zE_st1, zE_vi1, zE_st2, zE_vi2, zE_st3, zE_vi3, zE_st4, zE_vi4, zE_st5, zE_vi5, zE_st6, zE_vi6, zE_st7, zE_vi7, zE_st8, zE_vi8, zSt_0, zSL_0, zSt_1n, zSt_1i, zSt_1a, zSt_1l, zSt_2n, zSt_2i, zSt_2a, zSt_2l, zSt_3n, zSt_3i, zSt_3a, zSt_3l, zSt_4n, zSt_4i, zSt_4a, zSt_4l, zSt_5n, zSt_5i, zSt_5a, zSt_5l, zSt_6n, zSt_6i, zSt_6a, zSt_6l, zSt_7n, zSt_7i, zSt_7a, zSt_7l, zSt_8n, zSt_8i, zSt_8a, zSt_8l, zSt_9n, zSt_9i, zSt_9a, zSt_9l, zSt_10n, zSt_10i, zSt_10a, zSt_10l, zSt_11n, zSt_11i, zSt_11a, zSt_11l, zSt_12n, zSt_12i, zSt_12a, zSt_12l, zSt_13n, zSt_13i, zSt_13a, zSt_13l, zSL_1n, zSL_1i, zSL_1a, zSL_1l, zSL_2n, zSL_2i, zSL_2a, zSL_2l, zSL_3n, zSL_3i, zSL_3a, zSL_3l, zSL_4n, zSL_4i, zSL_4a, zSL_4l, zSL_5n, zSL_5i, zSL_5a, zSL_5l, zSL_6n, zSL_6i, zSL_6a, zSL_6l, zSL_7n, zSL_7i, zSL_7a, zSL_7l, zSL_8n, zSL_8i, zSL_8a, zSL_8l, zSL_9n, zSL_9i, zSL_9a, zSL_9l, zSL_10n, zSL_10i, zSL_10a, zSL_10l, zSL_11n, zSL_11i, zSL_11a, zSL_11l, zSL_12n, zSL_12i, zSL_12a, zSL_12l, zLI_0, zLL_0, zLA_0, zLI_1, zLL_1, zLA_1, zLI_2, zLL_2, zLA_2, zLI_3, zLL_3, zLA_3, zLI_4, zLL_4, zLA_4, zLI_5, zLL_5, zLA_5, zLI_6, zLL_6, zLA_6, zLI_7, zLL_7, zLA_7, zLI_8, zLL_8, zLA_8, zLI_9, zLL_9, zLA_9, zLI_10, zLL_10, zLA_10, zLI_11, zLL_11, zLA_11, zLI_12, zLL_12, zLA_12, zLI_13, zLL_13, zLA_13, zst_0, zst_1n, zst_1i, zst_1a, zst_2n, zst_2i, zst_2a, zst_3n, zst_3i, zst_3a, zst_4n, zst_4i, zst_4a, zst_5n, zst_5i, zst_5a, zst_6n, zst_6i, zst_6a, zst_7n, zst_7i, zst_7a, zst_8n, zst_8i, zst_8a, zst_9n, zst_9i, zst_9a, zst_10n, zst_10i, zst_10a, zst_11n, zst_11i, zst_11a, zst_12n, zst_12i, zst_12a, zst_13n, zst_13i, zst_13a, zst_14n, zst_14i, zst_14a, zst_15n, zst_15i, zst_15a, zR1_n, zR1_v, zsum_n, zsum_i, zsum_l, zsum_a, zlen_n, zlen_i, zlen_l, zlen_a, List.not_mem_nil, List.mem_cons, or_false, false_or, or_self, ↓reduceIte, if_false, if_true, Nat.reduceEqDiff, Nat.reduceAdd, Nat.reduceLeDiff, true_and, and_true, reduceCtorEq, ne_eq, Int.toNat_natCast, not_true_eq_false, not_false_eq_true, true_implies, false_implies, implies_true, Int.reduceToNat, Int.toNat_zero, Int.reduceLT, Int.reduceLE, Int.reduceEq, Int.reduceAdd, Int.reduceMul, Int.reduceNeg]
        (repeat' (first | with_reducible refine And.intro ?_ ?_ | with_reducible intro _)) <;> try first | with_reducible rfl | with_reducible assumption | omega | (unfold zr32; omega) | contradiction | (exact absurd (by omega) (by assumption)) | rfl | (simp only [Sum.inl.injEq, Option.some.injEq]; omega)
      have nx1 : zccb F3 b i = true → ∀ g, zsw F3 g → (∀ y, g 1114 y = 0) → zFR (zK L) 175 86 [some (.inr (.inr 2)), some (.inl x), some (.inl y), some (.inl w), some (.inl h), some (.inl b), some (.inr (.inl (zsts (zccb F3 b) i))), none, some (.inl (i : Int))] [] (zwI M g) Q9 := fun hz2 g q1 q2 => by
        have o9 := ih g q1 q2
        rw [zsts_s, if_pos hz2, Int.natCast_succ] at o9
        generalize zsts (zccb F3 b) i = z at *
        refine zW_sound 60 [48] ?_
        simp only [ZR175, zW_succ, zE_iload, zE_aload, zE_lload, zE_iinc, zE_istore, zE_astore, zE_lstore, zE_iconst, zE_ldc2, zE_iadd, zE_isub, zE_imul, zE_idiv, zE_irem, zE_ineg, zE_iand, zE_ior, zE_ixor, zE_ishl, zE_ishr, zE_land, zE_lor, zE_lxor, zE_lshl, zE_lshr, zE_i2l, zE_lcmp, zE_dup_i, zE_dup_a, zE_dup2_ia, zE_pop_i, zE_pop_a, zE_pop2, zE_goto, zE_if_eq, zE_icmp_eq, zE_if_ne, zE_icmp_ne, zE_if_lt, zE_icmp_lt, zE_if_ge, zE_icmp_ge, zE_if_gt, zE_icmp_gt, zE_if_le, zE_icmp_le, zE_iaload, zE_baload, zE_laload, zE_aaload, zE_iastore, zE_bastore, zE_lastore, zE_aastore, zE_alen, zE_getf0, zE_getf1, zE_getf2, zE_getf3, zE_putf0, zE_putf1, zE_putf2, zE_putf3, zE_new, zE_newa, zE_newq, zE_ireturn, zE_lreturn, zE_areturn, zE_return, zE_athrow, zE_st0, zE_vi0, zE_st1, zE_vi1, zE_st2, zE_vi2, zE_st3, zE_vi3, zE_st4, zE_vi4, zE_st5, zE_vi5, zE_st6, zE_vi6, zE_st7, zE_vi7, zE_st8, zE_vi8, zSt_0, zSL_0, zSt_1n, zSt_1i, zSt_1a, zSt_1l, zSt_2n, zSt_2i, zSt_2a, zSt_2l, zSt_3n, zSt_3i, zSt_3a, zSt_3l, zSt_4n, zSt_4i, zSt_4a, zSt_4l, zSt_5n, zSt_5i, zSt_5a, zSt_5l, zSt_6n, zSt_6i, zSt_6a, zSt_6l, zSt_7n, zSt_7i, zSt_7a, zSt_7l, zSt_8n, zSt_8i, zSt_8a, zSt_8l, zSt_9n, zSt_9i, zSt_9a, zSt_9l, zSt_10n, zSt_10i, zSt_10a, zSt_10l, zSt_11n, zSt_11i, zSt_11a, zSt_11l, zSt_12n, zSt_12i, zSt_12a, zSt_12l, zSt_13n, zSt_13i, zSt_13a, zSt_13l, zSL_1n, zSL_1i, zSL_1a, zSL_1l, zSL_2n, zSL_2i, zSL_2a, zSL_2l, zSL_3n, zSL_3i, zSL_3a, zSL_3l, zSL_4n, zSL_4i, zSL_4a, zSL_4l, zSL_5n, zSL_5i, zSL_5a, zSL_5l, zSL_6n, zSL_6i, zSL_6a, zSL_6l, zSL_7n, zSL_7i, zSL_7a, zSL_7l, zSL_8n, zSL_8i, zSL_8a, zSL_8l, zSL_9n, zSL_9i, zSL_9a, zSL_9l, zSL_10n, zSL_10i, zSL_10a, zSL_10l, zSL_11n, zSL_11i, zSL_11a, zSL_11l, zSL_12n, zSL_12i, zSL_12a, zSL_12l, zLI_0, zLL_0, zLA_0, zLI_1, zLL_1, zLA_1, zLI_2, zLL_2, zLA_2, zLI_3, zLL_3, zLA_3, zLI_4, zLL_4, zLA_4, zLI_5, zLL_5, zLA_5, zLI_6, zLL_6, zLA_6, zLI_7, zLL_7, zLA_7, zLI_8, zLL_8, zLA_8, zLI_9, zLL_9, zLA_9, zLI_10, zLL_10, zLA_10, zLI_11, zLL_11, zLA_11, zLI_12, zLL_12, zLA_12, zLI_13, zLL_13, zLA_13, zst_0, zst_1n, zst_1i, zst_1a, zst_2n, zst_2i, zst_2a, zst_3n, zst_3i, zst_3a, zst_4n, zst_4i, zst_4a, zst_5n, zst_5i, zst_5a, zst_6n, zst_6i, zst_6a, zst_7n, zst_7i, zst_7a, zst_8n, zst_8i, zst_8a, zst_9n, zst_9i, zst_9a, zst_10n, zst_10i, zst_10a, zst_11n, zst_11i, zst_11a, zst_12n, zst_12i, zst_12a, zst_13n, zst_13i, zst_13a, zst_14n, zst_14i, zst_14a, zst_15n, zst_15i, zst_15a, zR1_n, zR1_v, zsum_n, zsum_i, zsum_l, zsum_a, zlen_n, zlen_i, zlen_l, zlen_a, List.not_mem_nil, List.mem_cons, or_false, false_or, or_self, ↓reduceIte, if_false, if_true, Nat.reduceEqDiff, Nat.reduceAdd, Nat.reduceLeDiff, true_and, and_true, reduceCtorEq, ne_eq, Int.toNat_natCast, not_true_eq_false, not_false_eq_true, true_implies, false_implies, implies_true, Int.reduceToNat, Int.toNat_zero, Int.reduceLT, Int.reduceLE, Int.reduceEq, Int.reduceAdd, Int.reduceMul, Int.reduceNeg]
        (repeat' (first | with_reducible refine And.intro ?_ ?_ | with_reducible intro _)) <;> try first | with_reducible rfl | with_reducible assumption | omega | (unfold zr32; omega) | contradiction | (exact absurd (by omega) (by assumption)) | rfl | (simp only [Sum.inl.injEq, Option.some.injEq]; omega)
      by_cases cs : F3 (14 + 14 * i) 0 = 1 ∧ F3 6 (F3 (14 + 14 * i) 1).toNat = 0
      · have e46' := fun Q => (e46 Q).trans (zyes cs)
        have se : zsee F3 i = true := decide_eq_true cs
        obtain ⟨ws, ps⟩ := hS i hi cs.1
        by_cases hb : b ≠ 0
        · by_cases hc : zcfwq F3 i
          · have o9 := nx1 (zccb_i.mpr ⟨se, Or.inl ⟨hb, hc⟩⟩) g hg hg0
            unfold zcfwq at hc
            have e176 := fun Q => c176_1 (L := L) (M := zwI M g) (Q := Q) (b := b) (zShA_i hi) hR hb (by
              rw [zwI_I, g1 1124 _ (by omega), g1 1124 _ (by omega), g1 1124 _ (by omega), g1 1124 _ (by omega), g1 _ 11 (by omega), g1 _ 12 (by omega), g1 _ 13 (by omega), g1 _ 14 (by omega)]
              exact hc)
            refine zW_sound 60 [86, 95, 101] ?_
            simp only [ZR175, zk_2, zk_3, zk_4, hF, (hR.2.2.2 i hi).1, zwI_I, zwI_2, Int.toNat_natCast, ZF46.1, ZF46.2.1, ZF46.2.2.1, e46', ZF176.1, ZF176.2.1, ZF176.2.2.1, e176, zW_succ, zE_iload, zE_aload, zE_lload, zE_iinc, zE_istore, zE_astore, zE_lstore, zE_iconst, zE_ldc2, zE_iadd, zE_isub, zE_imul, zE_idiv, zE_irem, zE_ineg, zE_iand, zE_ior, zE_ixor, zE_ishl, zE_ishr, zE_land, zE_lor, zE_lxor, zE_lshl, zE_lshr, zE_i2l, zE_lcmp, zE_dup_i, zE_dup_a, zE_dup2_ia, zE_pop_i, zE_pop_a, zE_pop2, zE_goto, zE_if_eq, zE_icmp_eq, zE_if_ne, zE_icmp_ne, zE_if_lt, zE_icmp_lt, zE_if_ge, zE_icmp_ge, zE_if_gt, zE_icmp_gt, zE_if_le, zE_icmp_le, zE_iaload, zE_baload, zE_laload, zE_aaload, zE_iastore, zE_bastore, zE_lastore, zE_aastore, zE_alen, zE_getf0, zE_getf1, zE_getf2, zE_getf3, zE_putf0, zE_putf1, zE_putf2, zE_putf3, zE_new, zE_newa, zE_newq, zE_ireturn, zE_lreturn, zE_areturn, zE_return, zE_athrow, zE_st0, zE_vi0, zE_st1, zE_vi1, zE_st2, zE_vi2, zE_st3, zE_vi3, zE_st4, zE_vi4, zE_st5, zE_vi5, zE_st6, zE_vi6, zE_st7, zE_vi7, zE_st8, zE_vi8, zSt_0, zSL_0, zSt_1n, zSt_1i, zSt_1a, zSt_1l, zSt_2n, zSt_2i, zSt_2a, zSt_2l, zSt_3n, zSt_3i, zSt_3a, zSt_3l, zSt_4n, zSt_4i, zSt_4a, zSt_4l, zSt_5n, zSt_5i, zSt_5a, zSt_5l, zSt_6n, zSt_6i, zSt_6a, zSt_6l, zSt_7n, zSt_7i, zSt_7a, zSt_7l, zSt_8n, zSt_8i, zSt_8a, zSt_8l, zSt_9n, zSt_9i, zSt_9a, zSt_9l, zSt_10n, zSt_10i, zSt_10a, zSt_10l, zSt_11n, zSt_11i, zSt_11a, zSt_11l, zSt_12n, zSt_12i, zSt_12a, zSt_12l, zSt_13n, zSt_13i, zSt_13a, zSt_13l, zSL_1n, zSL_1i, zSL_1a, zSL_1l, zSL_2n, zSL_2i, zSL_2a, zSL_2l, zSL_3n, zSL_3i, zSL_3a, zSL_3l, zSL_4n, zSL_4i, zSL_4a, zSL_4l, zSL_5n, zSL_5i, zSL_5a, zSL_5l, zSL_6n, zSL_6i, zSL_6a, zSL_6l, zSL_7n, zSL_7i, zSL_7a, zSL_7l, zSL_8n, zSL_8i, zSL_8a, zSL_8l, zSL_9n, zSL_9i, zSL_9a, zSL_9l, zSL_10n, zSL_10i, zSL_10a, zSL_10l, zSL_11n, zSL_11i, zSL_11a, zSL_11l, zSL_12n, zSL_12i, zSL_12a, zSL_12l, zLI_0, zLL_0, zLA_0, zLI_1, zLL_1, zLA_1, zLI_2, zLL_2, zLA_2, zLI_3, zLL_3, zLA_3, zLI_4, zLL_4, zLA_4, zLI_5, zLL_5, zLA_5, zLI_6, zLL_6, zLA_6, zLI_7, zLL_7, zLA_7, zLI_8, zLL_8, zLA_8, zLI_9, zLL_9, zLA_9, zLI_10, zLL_10, zLA_10, zLI_11, zLL_11, zLA_11, zLI_12, zLL_12, zLA_12, zLI_13, zLL_13, zLA_13, zst_0, zst_1n, zst_1i, zst_1a, zst_2n, zst_2i, zst_2a, zst_3n, zst_3i, zst_3a, zst_4n, zst_4i, zst_4a, zst_5n, zst_5i, zst_5a, zst_6n, zst_6i, zst_6a, zst_7n, zst_7i, zst_7a, zst_8n, zst_8i, zst_8a, zst_9n, zst_9i, zst_9a, zst_10n, zst_10i, zst_10a, zst_11n, zst_11i, zst_11a, zst_12n, zst_12i, zst_12a, zst_13n, zst_13i, zst_13a, zst_14n, zst_14i, zst_14a, zst_15n, zst_15i, zst_15a, zR1_n, zR1_v, zsum_n, zsum_i, zsum_l, zsum_a, zlen_n, zlen_i, zlen_l, zlen_a, List.not_mem_nil, List.mem_cons, or_false, false_or, or_self, ↓reduceIte, if_false, if_true, Nat.reduceEqDiff, Nat.reduceAdd, Nat.reduceLeDiff, true_and, and_true, reduceCtorEq, ne_eq, Int.toNat_natCast, not_true_eq_false, not_false_eq_true, true_implies, false_implies, implies_true, Int.reduceToNat, Int.toNat_zero, Int.reduceLT, Int.reduceLE, Int.reduceEq, Int.reduceAdd, Int.reduceMul, Int.reduceNeg]
            (repeat' (first | with_reducible refine And.intro ?_ ?_ | with_reducible intro _)) <;> try first | with_reducible rfl | with_reducible assumption | omega | (unfold zr32; omega) | contradiction | (exact absurd (by omega) (by assumption)) | rfl | (simp only [Sum.inl.injEq, Option.some.injEq]; omega)
          · have o9 := nx0 (fun hh => (zccb_i.mp hh).2.elim (fun q => hc q.2) (fun q => hb q.1)) g hg hg0
            unfold zcfwq at hc
            have e176 := fun Q => c176_0 (L := L) (M := zwI M g) (Q := Q) (b := b) (zShA_i hi) hR hb (by
              rw [zwI_I, g1 1124 _ (by omega), g1 1124 _ (by omega), g1 1124 _ (by omega), g1 1124 _ (by omega), g1 _ 11 (by omega), g1 _ 12 (by omega), g1 _ 13 (by omega), g1 _ 14 (by omega)]
              exact hc)
            refine zW_sound 60 [86, 95, 101] ?_
            simp only [ZR175, zk_2, zk_3, zk_4, hF, (hR.2.2.2 i hi).1, zwI_I, zwI_2, Int.toNat_natCast, ZF46.1, ZF46.2.1, ZF46.2.2.1, e46', ZF176.1, ZF176.2.1, ZF176.2.2.1, e176, zW_succ, zE_iload, zE_aload, zE_lload, zE_iinc, zE_istore, zE_astore, zE_lstore, zE_iconst, zE_ldc2, zE_iadd, zE_isub, zE_imul, zE_idiv, zE_irem, zE_ineg, zE_iand, zE_ior, zE_ixor, zE_ishl, zE_ishr, zE_land, zE_lor, zE_lxor, zE_lshl, zE_lshr, zE_i2l, zE_lcmp, zE_dup_i, zE_dup_a, zE_dup2_ia, zE_pop_i, zE_pop_a, zE_pop2, zE_goto, zE_if_eq, zE_icmp_eq, zE_if_ne, zE_icmp_ne, zE_if_lt, zE_icmp_lt, zE_if_ge, zE_icmp_ge, zE_if_gt, zE_icmp_gt, zE_if_le, zE_icmp_le, zE_iaload, zE_baload, zE_laload, zE_aaload, zE_iastore, zE_bastore, zE_lastore, zE_aastore, zE_alen, zE_getf0, zE_getf1, zE_getf2, zE_getf3, zE_putf0, zE_putf1, zE_putf2, zE_putf3, zE_new, zE_newa, zE_newq, zE_ireturn, zE_lreturn, zE_areturn, zE_return, zE_athrow, zE_st0, zE_vi0, zE_st1, zE_vi1, zE_st2, zE_vi2, zE_st3, zE_vi3, zE_st4, zE_vi4, zE_st5, zE_vi5, zE_st6, zE_vi6, zE_st7, zE_vi7, zE_st8, zE_vi8, zSt_0, zSL_0, zSt_1n, zSt_1i, zSt_1a, zSt_1l, zSt_2n, zSt_2i, zSt_2a, zSt_2l, zSt_3n, zSt_3i, zSt_3a, zSt_3l, zSt_4n, zSt_4i, zSt_4a, zSt_4l, zSt_5n, zSt_5i, zSt_5a, zSt_5l, zSt_6n, zSt_6i, zSt_6a, zSt_6l, zSt_7n, zSt_7i, zSt_7a, zSt_7l, zSt_8n, zSt_8i, zSt_8a, zSt_8l, zSt_9n, zSt_9i, zSt_9a, zSt_9l, zSt_10n, zSt_10i, zSt_10a, zSt_10l, zSt_11n, zSt_11i, zSt_11a, zSt_11l, zSt_12n, zSt_12i, zSt_12a, zSt_12l, zSt_13n, zSt_13i, zSt_13a, zSt_13l, zSL_1n, zSL_1i, zSL_1a, zSL_1l, zSL_2n, zSL_2i, zSL_2a, zSL_2l, zSL_3n, zSL_3i, zSL_3a, zSL_3l, zSL_4n, zSL_4i, zSL_4a, zSL_4l, zSL_5n, zSL_5i, zSL_5a, zSL_5l, zSL_6n, zSL_6i, zSL_6a, zSL_6l, zSL_7n, zSL_7i, zSL_7a, zSL_7l, zSL_8n, zSL_8i, zSL_8a, zSL_8l, zSL_9n, zSL_9i, zSL_9a, zSL_9l, zSL_10n, zSL_10i, zSL_10a, zSL_10l, zSL_11n, zSL_11i, zSL_11a, zSL_11l, zSL_12n, zSL_12i, zSL_12a, zSL_12l, zLI_0, zLL_0, zLA_0, zLI_1, zLL_1, zLA_1, zLI_2, zLL_2, zLA_2, zLI_3, zLL_3, zLA_3, zLI_4, zLL_4, zLA_4, zLI_5, zLL_5, zLA_5, zLI_6, zLL_6, zLA_6, zLI_7, zLL_7, zLA_7, zLI_8, zLL_8, zLA_8, zLI_9, zLL_9, zLA_9, zLI_10, zLL_10, zLA_10, zLI_11, zLL_11, zLA_11, zLI_12, zLL_12, zLA_12, zLI_13, zLL_13, zLA_13, zst_0, zst_1n, zst_1i, zst_1a, zst_2n, zst_2i, zst_2a, zst_3n, zst_3i, zst_3a, zst_4n, zst_4i, zst_4a, zst_5n, zst_5i, zst_5a, zst_6n, zst_6i, zst_6a, zst_7n, zst_7i, zst_7a, zst_8n, zst_8i, zst_8a, zst_9n, zst_9i, zst_9a, zst_10n, zst_10i, zst_10a, zst_11n, zst_11i, zst_11a, zst_12n, zst_12i, zst_12a, zst_13n, zst_13i, zst_13a, zst_14n, zst_14i, zst_14a, zst_15n, zst_15i, zst_15a, zR1_n, zR1_v, zsum_n, zsum_i, zsum_l, zsum_a, zlen_n, zlen_i, zlen_l, zlen_a, List.not_mem_nil, List.mem_cons, or_false, false_or, or_self, ↓reduceIte, if_false, if_true, Nat.reduceEqDiff, Nat.reduceAdd, Nat.reduceLeDiff, true_and, and_true, reduceCtorEq, ne_eq, Int.toNat_natCast, not_true_eq_false, not_false_eq_true, true_implies, false_implies, implies_true, Int.reduceToNat, Int.toNat_zero, Int.reduceLT, Int.reduceLE, Int.reduceEq, Int.reduceAdd, Int.reduceMul, Int.reduceNeg]
            (repeat' (first | with_reducible refine And.intro ?_ ?_ | with_reducible intro _)) <;> try first | with_reducible rfl | with_reducible assumption | omega | (unfold zr32; omega) | contradiction | (exact absurd (by omega) (by assumption)) | rfl | (simp only [Sum.inl.injEq, Option.some.injEq]; omega)
        · have hb0 : b = 0 := by omega
          have c4 := ws.1
          have hs4 := zShA_i hi
          obtain ⟨r, M2, ⟨f', hr, hM, tot, z14, sw⟩, e105⟩ := zFRx (c105 (L := L) (M := M) (s := 14 + 14 * i) (t := 1124) (c1 := (F3 (14 + 14 * i) 10).toNat) (c2 := 1) (f := g) hR hs4 sc (zSw_g (fun b j q1 q2 => g1 b j (by omega)) ws) (zSw_g (fun b j q1 q2 => g1 b j (by omega)) wt) (by rw [g1 _ _ (by omega)]; omega) (by rw [g1 _ _ (by omega)]; exact e10) (zSP_sw hg hs4 (by omega) ps) (zSP_sw hg sc (by omega) p60) hg0)
          subst hr hM
          have t1 := tot 1 (by omega)
          rw [zE2_sw hg hs4 sc (by omega) (by omega) ps p60, g1 _ 9 (by omega), g1 1124 9 (by omega)] at t1
          have t2 : f' 1106 1 = zcca F3 i := t1
          have sw2 : zsw F3 f' := fun a ha => (sw a ha).trans (hg a ha)
          have e176 := fun Q => c176_a (L := L) (M := zwI M g) (Q := Q) (s := 14 + 14 * i) hR e105 t2
          simp only [zwI_w] at e176
          by_cases hc : 0 < zcca F3 i
          · have o9 := nx1 (zccb_i.mpr ⟨se, Or.inr ⟨hb0, hc⟩⟩) f' sw2 z14
            have e5 := fun Q => (e176 Q).trans (zyes hc)
            rw [hb0] at o9 ⊢
            refine zW_sound 60 [86, 95, 101] ?_
            simp only [ZR175, zk_2, zk_3, zk_4, hF, (hR.2.2.2 i hi).1, zwI_I, zwI_2, Int.toNat_natCast, ZF46.1, ZF46.2.1, ZF46.2.2.1, e46', ZF176.1, ZF176.2.1, ZF176.2.2.1, e5, zW_succ, zE_iload, zE_aload, zE_lload, zE_iinc, zE_istore, zE_astore, zE_lstore, zE_iconst, zE_ldc2, zE_iadd, zE_isub, zE_imul, zE_idiv, zE_irem, zE_ineg, zE_iand, zE_ior, zE_ixor, zE_ishl, zE_ishr, zE_land, zE_lor, zE_lxor, zE_lshl, zE_lshr, zE_i2l, zE_lcmp, zE_dup_i, zE_dup_a, zE_dup2_ia, zE_pop_i, zE_pop_a, zE_pop2, zE_goto, zE_if_eq, zE_icmp_eq, zE_if_ne, zE_icmp_ne, zE_if_lt, zE_icmp_lt, zE_if_ge, zE_icmp_ge, zE_if_gt, zE_icmp_gt, zE_if_le, zE_icmp_le, zE_iaload, zE_baload, zE_laload, zE_aaload, zE_iastore, zE_bastore, zE_lastore, zE_aastore, zE_alen, zE_getf0, zE_getf1, zE_getf2, zE_getf3, zE_putf0, zE_putf1, zE_putf2, zE_putf3, zE_new, zE_newa, zE_newq, zE_ireturn, zE_lreturn, zE_areturn, zE_return, zE_athrow, zE_st0, zE_vi0, zE_st1, zE_vi1, zE_st2, zE_vi2, zE_st3, zE_vi3, zE_st4, zE_vi4, zE_st5, zE_vi5, zE_st6, zE_vi6, zE_st7, zE_vi7, zE_st8, zE_vi8, zSt_0, zSL_0, zSt_1n, zSt_1i, zSt_1a, zSt_1l, zSt_2n, zSt_2i, zSt_2a, zSt_2l, zSt_3n, zSt_3i, zSt_3a, zSt_3l, zSt_4n, zSt_4i, zSt_4a, zSt_4l, zSt_5n, zSt_5i, zSt_5a, zSt_5l, zSt_6n, zSt_6i, zSt_6a, zSt_6l, zSt_7n, zSt_7i, zSt_7a, zSt_7l, zSt_8n, zSt_8i, zSt_8a, zSt_8l, zSt_9n, zSt_9i, zSt_9a, zSt_9l, zSt_10n, zSt_10i, zSt_10a, zSt_10l, zSt_11n, zSt_11i, zSt_11a, zSt_11l, zSt_12n, zSt_12i, zSt_12a, zSt_12l, zSt_13n, zSt_13i, zSt_13a, zSt_13l, zSL_1n, zSL_1i, zSL_1a, zSL_1l, zSL_2n, zSL_2i, zSL_2a, zSL_2l, zSL_3n, zSL_3i, zSL_3a, zSL_3l, zSL_4n, zSL_4i, zSL_4a, zSL_4l, zSL_5n, zSL_5i, zSL_5a, zSL_5l, zSL_6n, zSL_6i, zSL_6a, zSL_6l, zSL_7n, zSL_7i, zSL_7a, zSL_7l, zSL_8n, zSL_8i, zSL_8a, zSL_8l, zSL_9n, zSL_9i, zSL_9a, zSL_9l, zSL_10n, zSL_10i, zSL_10a, zSL_10l, zSL_11n, zSL_11i, zSL_11a, zSL_11l, zSL_12n, zSL_12i, zSL_12a, zSL_12l, zLI_0, zLL_0, zLA_0, zLI_1, zLL_1, zLA_1, zLI_2, zLL_2, zLA_2, zLI_3, zLL_3, zLA_3, zLI_4, zLL_4, zLA_4, zLI_5, zLL_5, zLA_5, zLI_6, zLL_6, zLA_6, zLI_7, zLL_7, zLA_7, zLI_8, zLL_8, zLA_8, zLI_9, zLL_9, zLA_9, zLI_10, zLL_10, zLA_10, zLI_11, zLL_11, zLA_11, zLI_12, zLL_12, zLA_12, zLI_13, zLL_13, zLA_13, zst_0, zst_1n, zst_1i, zst_1a, zst_2n, zst_2i, zst_2a, zst_3n, zst_3i, zst_3a, zst_4n, zst_4i, zst_4a, zst_5n, zst_5i, zst_5a, zst_6n, zst_6i, zst_6a, zst_7n, zst_7i, zst_7a, zst_8n, zst_8i, zst_8a, zst_9n, zst_9i, zst_9a, zst_10n, zst_10i, zst_10a, zst_11n, zst_11i, zst_11a, zst_12n, zst_12i, zst_12a, zst_13n, zst_13i, zst_13a, zst_14n, zst_14i, zst_14a, zst_15n, zst_15i, zst_15a, zR1_n, zR1_v, zsum_n, zsum_i, zsum_l, zsum_a, zlen_n, zlen_i, zlen_l, zlen_a, List.not_mem_nil, List.mem_cons, or_false, false_or, or_self, ↓reduceIte, if_false, if_true, Nat.reduceEqDiff, Nat.reduceAdd, Nat.reduceLeDiff, true_and, and_true, reduceCtorEq, ne_eq, Int.toNat_natCast, not_true_eq_false, not_false_eq_true, true_implies, false_implies, implies_true, Int.reduceToNat, Int.toNat_zero, Int.reduceLT, Int.reduceLE, Int.reduceEq, Int.reduceAdd, Int.reduceMul, Int.reduceNeg]
            (repeat' (first | with_reducible refine And.intro ?_ ?_ | with_reducible intro _)) <;> try first | with_reducible rfl | with_reducible assumption | omega | (unfold zr32; omega) | contradiction | (exact absurd (by omega) (by assumption)) | rfl | (simp only [Sum.inl.injEq, Option.some.injEq]; omega)
          · have o9 := nx0 (fun hh => (zccb_i.mp hh).2.elim (fun q => q.1 hb0) (fun q => hc q.2)) f' sw2 z14
            have e5 := fun Q => (e176 Q).trans (znot hc)
            rw [hb0] at o9 ⊢
            refine zW_sound 60 [86, 95, 101] ?_
            simp only [ZR175, zk_2, zk_3, zk_4, hF, (hR.2.2.2 i hi).1, zwI_I, zwI_2, Int.toNat_natCast, ZF46.1, ZF46.2.1, ZF46.2.2.1, e46', ZF176.1, ZF176.2.1, ZF176.2.2.1, e5, zW_succ, zE_iload, zE_aload, zE_lload, zE_iinc, zE_istore, zE_astore, zE_lstore, zE_iconst, zE_ldc2, zE_iadd, zE_isub, zE_imul, zE_idiv, zE_irem, zE_ineg, zE_iand, zE_ior, zE_ixor, zE_ishl, zE_ishr, zE_land, zE_lor, zE_lxor, zE_lshl, zE_lshr, zE_i2l, zE_lcmp, zE_dup_i, zE_dup_a, zE_dup2_ia, zE_pop_i, zE_pop_a, zE_pop2, zE_goto, zE_if_eq, zE_icmp_eq, zE_if_ne, zE_icmp_ne, zE_if_lt, zE_icmp_lt, zE_if_ge, zE_icmp_ge, zE_if_gt, zE_icmp_gt, zE_if_le, zE_icmp_le, zE_iaload, zE_baload, zE_laload, zE_aaload, zE_iastore, zE_bastore, zE_lastore, zE_aastore, zE_alen, zE_getf0, zE_getf1, zE_getf2, zE_getf3, zE_putf0, zE_putf1, zE_putf2, zE_putf3, zE_new, zE_newa, zE_newq, zE_ireturn, zE_lreturn, zE_areturn, zE_return, zE_athrow, zE_st0, zE_vi0, zE_st1, zE_vi1, zE_st2, zE_vi2, zE_st3, zE_vi3, zE_st4, zE_vi4, zE_st5, zE_vi5, zE_st6, zE_vi6, zE_st7, zE_vi7, zE_st8, zE_vi8, zSt_0, zSL_0, zSt_1n, zSt_1i, zSt_1a, zSt_1l, zSt_2n, zSt_2i, zSt_2a, zSt_2l, zSt_3n, zSt_3i, zSt_3a, zSt_3l, zSt_4n, zSt_4i, zSt_4a, zSt_4l, zSt_5n, zSt_5i, zSt_5a, zSt_5l, zSt_6n, zSt_6i, zSt_6a, zSt_6l, zSt_7n, zSt_7i, zSt_7a, zSt_7l, zSt_8n, zSt_8i, zSt_8a, zSt_8l, zSt_9n, zSt_9i, zSt_9a, zSt_9l, zSt_10n, zSt_10i, zSt_10a, zSt_10l, zSt_11n, zSt_11i, zSt_11a, zSt_11l, zSt_12n, zSt_12i, zSt_12a, zSt_12l, zSt_13n, zSt_13i, zSt_13a, zSt_13l, zSL_1n, zSL_1i, zSL_1a, zSL_1l, zSL_2n, zSL_2i, zSL_2a, zSL_2l, zSL_3n, zSL_3i, zSL_3a, zSL_3l, zSL_4n, zSL_4i, zSL_4a, zSL_4l, zSL_5n, zSL_5i, zSL_5a, zSL_5l, zSL_6n, zSL_6i, zSL_6a, zSL_6l, zSL_7n, zSL_7i, zSL_7a, zSL_7l, zSL_8n, zSL_8i, zSL_8a, zSL_8l, zSL_9n, zSL_9i, zSL_9a, zSL_9l, zSL_10n, zSL_10i, zSL_10a, zSL_10l, zSL_11n, zSL_11i, zSL_11a, zSL_11l, zSL_12n, zSL_12i, zSL_12a, zSL_12l, zLI_0, zLL_0, zLA_0, zLI_1, zLL_1, zLA_1, zLI_2, zLL_2, zLA_2, zLI_3, zLL_3, zLA_3, zLI_4, zLL_4, zLA_4, zLI_5, zLL_5, zLA_5, zLI_6, zLL_6, zLA_6, zLI_7, zLL_7, zLA_7, zLI_8, zLL_8, zLA_8, zLI_9, zLL_9, zLA_9, zLI_10, zLL_10, zLA_10, zLI_11, zLL_11, zLA_11, zLI_12, zLL_12, zLA_12, zLI_13, zLL_13, zLA_13, zst_0, zst_1n, zst_1i, zst_1a, zst_2n, zst_2i, zst_2a, zst_3n, zst_3i, zst_3a, zst_4n, zst_4i, zst_4a, zst_5n, zst_5i, zst_5a, zst_6n, zst_6i, zst_6a, zst_7n, zst_7i, zst_7a, zst_8n, zst_8i, zst_8a, zst_9n, zst_9i, zst_9a, zst_10n, zst_10i, zst_10a, zst_11n, zst_11i, zst_11a, zst_12n, zst_12i, zst_12a, zst_13n, zst_13i, zst_13a, zst_14n, zst_14i, zst_14a, zst_15n, zst_15i, zst_15a, zR1_n, zR1_v, zsum_n, zsum_i, zsum_l, zsum_a, zlen_n, zlen_i, zlen_l, zlen_a, List.not_mem_nil, List.mem_cons, or_false, false_or, or_self, ↓reduceIte, if_false, if_true, Nat.reduceEqDiff, Nat.reduceAdd, Nat.reduceLeDiff, true_and, and_true, reduceCtorEq, ne_eq, Int.toNat_natCast, not_true_eq_false, not_false_eq_true, true_implies, false_implies, implies_true, Int.reduceToNat, Int.toNat_zero, Int.reduceLT, Int.reduceLE, Int.reduceEq, Int.reduceAdd, Int.reduceMul, Int.reduceNeg]
            (repeat' (first | with_reducible refine And.intro ?_ ?_ | with_reducible intro _)) <;> try first | with_reducible rfl | with_reducible assumption | omega | (unfold zr32; omega) | contradiction | (exact absurd (by omega) (by assumption)) | rfl | (simp only [Sum.inl.injEq, Option.some.injEq]; omega)
      · have e46' := fun Q => (e46 Q).trans (znot cs)
        have o9 := nx0 (fun hh => cs (of_decide_eq_true (zccb_i.mp hh).1)) g hg hg0
        refine zW_sound 60 [95, 101] ?_
        simp only [ZR175, zk_2, zk_3, hF, zwI_I, zwI_2, ZF46.1, ZF46.2.1, ZF46.2.2.1, e46', zW_succ, zE_iload, zE_aload, zE_lload, zE_iinc, zE_istore, zE_astore, zE_lstore, zE_iconst, zE_ldc2, zE_iadd, zE_isub, zE_imul, zE_idiv, zE_irem, zE_ineg, zE_iand, zE_ior, zE_ixor, zE_ishl, zE_ishr, zE_land, zE_lor, zE_lxor, zE_lshl, zE_lshr, zE_i2l, zE_lcmp, zE_dup_i, zE_dup_a, zE_dup2_ia, zE_pop_i, zE_pop_a, zE_pop2, zE_goto, zE_if_eq, zE_icmp_eq, zE_if_ne, zE_icmp_ne, zE_if_lt, zE_icmp_lt, zE_if_ge, zE_icmp_ge, zE_if_gt, zE_icmp_gt, zE_if_le, zE_icmp_le, zE_iaload, zE_baload, zE_laload, zE_aaload, zE_iastore, zE_bastore, zE_lastore, zE_aastore, zE_alen, zE_getf0, zE_getf1, zE_getf2, zE_getf3, zE_putf0, zE_putf1, zE_putf2, zE_putf3, zE_new, zE_newa, zE_newq, zE_ireturn, zE_lreturn, zE_areturn, zE_return, zE_athrow, zE_st0, zE_vi0, zE_st1, zE_vi1, zE_st2, zE_vi2, zE_st3, zE_vi3, zE_st4, zE_vi4, zE_st5, zE_vi5, zE_st6, zE_vi6, zE_st7, zE_vi7, zE_st8, zE_vi8, zSt_0, zSL_0, zSt_1n, zSt_1i, zSt_1a, zSt_1l, zSt_2n, zSt_2i, zSt_2a, zSt_2l, zSt_3n, zSt_3i, zSt_3a, zSt_3l, zSt_4n, zSt_4i, zSt_4a, zSt_4l, zSt_5n, zSt_5i, zSt_5a, zSt_5l, zSt_6n, zSt_6i, zSt_6a, zSt_6l, zSt_7n, zSt_7i, zSt_7a, zSt_7l, zSt_8n, zSt_8i, zSt_8a, zSt_8l, zSt_9n, zSt_9i, zSt_9a, zSt_9l, zSt_10n, zSt_10i, zSt_10a, zSt_10l, zSt_11n, zSt_11i, zSt_11a, zSt_11l, zSt_12n, zSt_12i, zSt_12a, zSt_12l, zSt_13n, zSt_13i, zSt_13a, zSt_13l, zSL_1n, zSL_1i, zSL_1a, zSL_1l, zSL_2n, zSL_2i, zSL_2a, zSL_2l, zSL_3n, zSL_3i, zSL_3a, zSL_3l, zSL_4n, zSL_4i, zSL_4a, zSL_4l, zSL_5n, zSL_5i, zSL_5a, zSL_5l, zSL_6n, zSL_6i, zSL_6a, zSL_6l, zSL_7n, zSL_7i, zSL_7a, zSL_7l, zSL_8n, zSL_8i, zSL_8a, zSL_8l, zSL_9n, zSL_9i, zSL_9a, zSL_9l, zSL_10n, zSL_10i, zSL_10a, zSL_10l, zSL_11n, zSL_11i, zSL_11a, zSL_11l, zSL_12n, zSL_12i, zSL_12a, zSL_12l, zLI_0, zLL_0, zLA_0, zLI_1, zLL_1, zLA_1, zLI_2, zLL_2, zLA_2, zLI_3, zLL_3, zLA_3, zLI_4, zLL_4, zLA_4, zLI_5, zLL_5, zLA_5, zLI_6, zLL_6, zLA_6, zLI_7, zLL_7, zLA_7, zLI_8, zLL_8, zLA_8, zLI_9, zLL_9, zLA_9, zLI_10, zLL_10, zLA_10, zLI_11, zLL_11, zLA_11, zLI_12, zLL_12, zLA_12, zLI_13, zLL_13, zLA_13, zst_0, zst_1n, zst_1i, zst_1a, zst_2n, zst_2i, zst_2a, zst_3n, zst_3i, zst_3a, zst_4n, zst_4i, zst_4a, zst_5n, zst_5i, zst_5a, zst_6n, zst_6i, zst_6a, zst_7n, zst_7i, zst_7a, zst_8n, zst_8i, zst_8a, zst_9n, zst_9i, zst_9a, zst_10n, zst_10i, zst_10a, zst_11n, zst_11i, zst_11a, zst_12n, zst_12i, zst_12a, zst_13n, zst_13i, zst_13a, zst_14n, zst_14i, zst_14a, zst_15n, zst_15i, zst_15a, zR1_n, zR1_v, zsum_n, zsum_i, zsum_l, zsum_a, zlen_n, zlen_i, zlen_l, zlen_a, List.not_mem_nil, List.mem_cons, or_false, false_or, or_self, ↓reduceIte, if_false, if_true, Nat.reduceEqDiff, Nat.reduceAdd, Nat.reduceLeDiff, true_and, and_true, reduceCtorEq, ne_eq, Int.toNat_natCast, not_true_eq_false, not_false_eq_true, true_implies, false_implies, implies_true, Int.reduceToNat, Int.toNat_zero, Int.reduceLT, Int.reduceLE, Int.reduceEq, Int.reduceAdd, Int.reduceMul, Int.reduceNeg]
        (repeat' (first | with_reducible refine And.intro ?_ ?_ | with_reducible intro _)) <;> try first | with_reducible rfl | with_reducible assumption | omega | (unfold zr32; omega) | contradiction | (exact absurd (by omega) (by assumption)) | rfl | (simp only [Sum.inl.injEq, Option.some.injEq]; omega)
  exact loop 0 (Nat.zero_le _) F3 (fun a _ => rfl) hz
theorem c175_0 {b : Int} (hx : zr32 x) (hy : zr32 y) (hn : ¬ zrec x y w h) : zFR (zK L) 175 0 (zcall 175 [.inr (.inr 2), .inl x, .inl y, .inl w, .inl h, .inl b]) [] M Q = Q (.inr 0) (zthrown M) := by
  have e1 := fun Q => (c141 (L := L) (M := M) (Q := Q) (w := w) (h := h) hx hy).trans (znot hn)
  refine zFR_det (zW_sound 60 [] ?_) Q
  simp only [ZF175, ZR175, zk_2, ZF141.1, ZF141.2.1, ZF141.2.2.1, e1, zR1_p ZF175.2.2.1, zW_succ, zE_iload, zE_aload, zE_lload, zE_iinc, zE_istore, zE_astore, zE_lstore, zE_iconst, zE_ldc2, zE_iadd, zE_isub, zE_imul, zE_idiv, zE_irem, zE_ineg, zE_iand, zE_ior, zE_ixor, zE_ishl, zE_ishr, zE_land, zE_lor, zE_lxor, zE_lshl, zE_lshr, zE_i2l, zE_lcmp, zE_dup_i, zE_dup_a, zE_dup2_ia, zE_pop_i, zE_pop_a, zE_pop2, zE_goto, zE_if_eq, zE_icmp_eq, zE_if_ne, zE_icmp_ne, zE_if_lt, zE_icmp_lt, zE_if_ge, zE_icmp_ge, zE_if_gt, zE_icmp_gt, zE_if_le, zE_icmp_le, zE_iaload, zE_baload, zE_laload, zE_aaload, zE_iastore, zE_bastore, zE_lastore, zE_aastore, zE_alen, zE_getf0, zE_getf1, zE_getf2, zE_getf3, zE_putf0, zE_putf1, zE_putf2, zE_putf3, zE_new, zE_newa, zE_newq, zE_ireturn, zE_lreturn, zE_areturn, zE_return, zE_athrow, zE_st0, zE_vi0, zE_st1, zE_vi1, zE_st2, zE_vi2, zE_st3, zE_vi3, zE_st4, zE_vi4, zE_st5, zE_vi5, zE_st6, zE_vi6, zE_st7, zE_vi7, zE_st8, zE_vi8, zSt_0, zSL_0, zSt_1n, zSt_1i, zSt_1a, zSt_1l, zSt_2n, zSt_2i, zSt_2a, zSt_2l, zSt_3n, zSt_3i, zSt_3a, zSt_3l, zSt_4n, zSt_4i, zSt_4a, zSt_4l, zSt_5n, zSt_5i, zSt_5a, zSt_5l, zSt_6n, zSt_6i, zSt_6a, zSt_6l, zSt_7n, zSt_7i, zSt_7a, zSt_7l, zSt_8n, zSt_8i, zSt_8a, zSt_8l, zSt_9n, zSt_9i, zSt_9a, zSt_9l, zSt_10n, zSt_10i, zSt_10a, zSt_10l, zSt_11n, zSt_11i, zSt_11a, zSt_11l, zSt_12n, zSt_12i, zSt_12a, zSt_12l, zSt_13n, zSt_13i, zSt_13a, zSt_13l, zSL_1n, zSL_1i, zSL_1a, zSL_1l, zSL_2n, zSL_2i, zSL_2a, zSL_2l, zSL_3n, zSL_3i, zSL_3a, zSL_3l, zSL_4n, zSL_4i, zSL_4a, zSL_4l, zSL_5n, zSL_5i, zSL_5a, zSL_5l, zSL_6n, zSL_6i, zSL_6a, zSL_6l, zSL_7n, zSL_7i, zSL_7a, zSL_7l, zSL_8n, zSL_8i, zSL_8a, zSL_8l, zSL_9n, zSL_9i, zSL_9a, zSL_9l, zSL_10n, zSL_10i, zSL_10a, zSL_10l, zSL_11n, zSL_11i, zSL_11a, zSL_11l, zSL_12n, zSL_12i, zSL_12a, zSL_12l, zLI_0, zLL_0, zLA_0, zLI_1, zLL_1, zLA_1, zLI_2, zLL_2, zLA_2, zLI_3, zLL_3, zLA_3, zLI_4, zLL_4, zLA_4, zLI_5, zLL_5, zLA_5, zLI_6, zLL_6, zLA_6, zLI_7, zLL_7, zLA_7, zLI_8, zLL_8, zLA_8, zLI_9, zLL_9, zLA_9, zLI_10, zLL_10, zLA_10, zLI_11, zLL_11, zLA_11, zLI_12, zLL_12, zLA_12, zLI_13, zLL_13, zLA_13, zst_0, zst_1n, zst_1i, zst_1a, zst_2n, zst_2i, zst_2a, zst_3n, zst_3i, zst_3a, zst_4n, zst_4i, zst_4a, zst_5n, zst_5i, zst_5a, zst_6n, zst_6i, zst_6a, zst_7n, zst_7i, zst_7a, zst_8n, zst_8i, zst_8a, zst_9n, zst_9i, zst_9a, zst_10n, zst_10i, zst_10a, zst_11n, zst_11i, zst_11a, zst_12n, zst_12i, zst_12a, zst_13n, zst_13i, zst_13a, zst_14n, zst_14i, zst_14a, zst_15n, zst_15i, zst_15a, zR1_n, zR1_v, zsum_n, zsum_i, zsum_l, zsum_a, zlen_n, zlen_i, zlen_l, zlen_a, List.not_mem_nil, List.mem_cons, or_false, false_or, or_self, ↓reduceIte, if_false, if_true, Nat.reduceEqDiff, Nat.reduceAdd, Nat.reduceLeDiff, true_and, and_true, reduceCtorEq, ne_eq, Int.toNat_natCast, not_true_eq_false, not_false_eq_true, true_implies, false_implies, implies_true, Int.reduceToNat, Int.toNat_zero, Int.reduceLT, Int.reduceLE, Int.reduceEq, Int.reduceAdd, Int.reduceMul, Int.reduceNeg]
set_option maxRecDepth 8000 in
theorem c175_g {b : Int} (hR : zLay M.2.2.2) (hx : zr32 x) (hy : zr32 y) (hr : zrec x y w h) {P : zO → zM → Prop} (lp : zFR (zK L) 175 48 [some (.inr (.inr 2)), some (.inl x), some (.inl y), some (.inl w), some (.inl h), some (.inl b), some (.inr (.inl (Int64.ofInt 0))), none, some (.inl 0)] [] (zwI M (zctr M.2.1 x y w h)) P) : zFR (zK L) 175 0 (zcall 175 [.inr (.inr 2), .inl x, .inl y, .inl w, .inl h, .inl b]) [] M P := by
  have hF := hR.1
  unfold zLayF at hF
  have sc : zShA 1124 := Or.inr (Or.inl rfl)
  obtain ⟨k1, k2⟩ := zK_sh (L := L) sc
  obtain ⟨r1, r2⟩ := hR.2.2.1 _ sc
  have r20 := r2 0 (by omega)
  unfold zrec at hr
  have e1 := fun Q => (c141 (L := L) (M := M) (Q := Q) (w := w) (h := h) hx hy).trans (zyes hr)
  have e93 := fun Q => c93 (L := L) (M := M) (Q := Q) (s := 1124) (h := -1) (c := 1) sc
  have e85 := fun Q => c85 (L := L) (M := zwI M (zccl M.2.1)) (Q := Q) (a := 1126) (x := x) (y := y) (w := w) (h := h) (zPoA_sh sc (show 0 < 4 by omega)) hR (by unfold zr32; omega) (by unfold zr32; omega)
  have e94 := fun Q => c94 (L := L) (M := zwI M (zcpl M.2.1 x y w h)) (Q := Q) (s := 1124) sc hR (fun p hp => by
    have hp0 : p = 0 := by omega
    subst hp0
    have a1 : zcpl M.2.1 x y w h 1126 0 = 4 := zpset_n _ _ _ _ _
    have a2 : ∀ k, k < 4 → zcpl M.2.1 x y w h 1127 k = zbx x w k := fun k hk => zpset_X _ 1126 hk _ _
    have a3 : ∀ k, k < 4 → zcpl M.2.1 x y w h 1128 k = zby y h k := fun k hk => zpset_Y _ 1126 hk _ _
    have eN : zN (zcpl M.2.1 x y w h) 1124 0 = 4 := a1
    have eX : ∀ k, k < 4 → zX (zcpl M.2.1 x y w h) 1124 0 k = zbx x w k := a2
    have eY : ∀ k, k < 4 → zY (zcpl M.2.1 x y w h) 1124 0 k = zby y h k := a3
    rw [zwI_I, eN]
    refine ⟨by omega, by omega, fun k hk => ?_⟩
    rw [eX k (by omega), eY k (by omega)]
    unfold zbx zby
    split <;> split <;> omega)
  have d1 : zu2 (zu2 (zu2 (zu2 (zu2 (zu2 M.2.1 1124 0 1) 1124 5 (-1)) 1124 2 1) 1124 6 (-1)) 1124 7 (-1)) 1124 8 (-1) = zccl M.2.1 := rfl
  have d2 : zpset (zccl M.2.1) 1126 4 (zbx x w) (zby y h) = zcpl M.2.1 x y w h := rfl
  have d3 : zfnd (zu2 (zu2 (zcpl M.2.1 x y w h) 1124 10 1) 1124 9 2) 1124 = zctr M.2.1 x y w h := rfl
  rw [d1] at e93
  simp only [zwI_I, zwI_w, d2] at e85
  simp only [zwI_I, zwI_w, d3] at e94
  refine zW_sound 60 [48] ?_
  simp only [ZF175, ZR175, zk_2, k1, k2, hF, r1, r20, zwI_2, Nat.mul_zero, Nat.add_zero, ZF141.1, ZF141.2.1, ZF141.2.2.1, ZF93.1, ZF93.2.1, ZF93.2.2.1, ZF85.1, ZF85.2.1, ZF85.2.2.1, ZF94.1, ZF94.2.1, ZF94.2.2.1, e1, e93, e85, e94, zR1_p ZF175.2.2.1, zW_succ, zE_iload, zE_aload, zE_lload, zE_iinc, zE_istore, zE_astore, zE_lstore, zE_iconst, zE_ldc2, zE_iadd, zE_isub, zE_imul, zE_idiv, zE_irem, zE_ineg, zE_iand, zE_ior, zE_ixor, zE_ishl, zE_ishr, zE_land, zE_lor, zE_lxor, zE_lshl, zE_lshr, zE_i2l, zE_lcmp, zE_dup_i, zE_dup_a, zE_dup2_ia, zE_pop_i, zE_pop_a, zE_pop2, zE_goto, zE_if_eq, zE_icmp_eq, zE_if_ne, zE_icmp_ne, zE_if_lt, zE_icmp_lt, zE_if_ge, zE_icmp_ge, zE_if_gt, zE_icmp_gt, zE_if_le, zE_icmp_le, zE_iaload, zE_baload, zE_laload, zE_aaload, zE_iastore, zE_bastore, zE_lastore, zE_aastore, zE_alen, zE_getf0, zE_getf1, zE_getf2, zE_getf3, zE_putf0, zE_putf1, zE_putf2, zE_putf3, zE_new, zE_newa, zE_newq, zE_ireturn, zE_lreturn, zE_areturn, zE_return, zE_athrow, zE_st0, zE_vi0, zE_st1, zE_vi1, zE_st2, zE_vi2, zE_st3, zE_vi3, zE_st4, zE_vi4, zE_st5, zE_vi5, zE_st6, zE_vi6, zE_st7, zE_vi7, zE_st8, zE_vi8, zSt_0, zSL_0, zSt_1n, zSt_1i, zSt_1a, zSt_1l, zSt_2n, zSt_2i, zSt_2a, zSt_2l, zSt_3n, zSt_3i, zSt_3a, zSt_3l, zSt_4n, zSt_4i, zSt_4a, zSt_4l, zSt_5n, zSt_5i, zSt_5a, zSt_5l, zSt_6n, zSt_6i, zSt_6a, zSt_6l, zSt_7n, zSt_7i, zSt_7a, zSt_7l, zSt_8n, zSt_8i, zSt_8a, zSt_8l, zSt_9n, zSt_9i, zSt_9a, zSt_9l, zSt_10n, zSt_10i, zSt_10a, zSt_10l, zSt_11n, zSt_11i, zSt_11a, zSt_11l, zSt_12n, zSt_12i, zSt_12a, zSt_12l, zSt_13n, zSt_13i, zSt_13a, zSt_13l, zSL_1n, zSL_1i, zSL_1a, zSL_1l, zSL_2n, zSL_2i, zSL_2a, zSL_2l, zSL_3n, zSL_3i, zSL_3a, zSL_3l, zSL_4n, zSL_4i, zSL_4a, zSL_4l, zSL_5n, zSL_5i, zSL_5a, zSL_5l, zSL_6n, zSL_6i, zSL_6a, zSL_6l, zSL_7n, zSL_7i, zSL_7a, zSL_7l, zSL_8n, zSL_8i, zSL_8a, zSL_8l, zSL_9n, zSL_9i, zSL_9a, zSL_9l, zSL_10n, zSL_10i, zSL_10a, zSL_10l, zSL_11n, zSL_11i, zSL_11a, zSL_11l, zSL_12n, zSL_12i, zSL_12a, zSL_12l, zLI_0, zLL_0, zLA_0, zLI_1, zLL_1, zLA_1, zLI_2, zLL_2, zLA_2, zLI_3, zLL_3, zLA_3, zLI_4, zLL_4, zLA_4, zLI_5, zLL_5, zLA_5, zLI_6, zLL_6, zLA_6, zLI_7, zLL_7, zLA_7, zLI_8, zLL_8, zLA_8, zLI_9, zLL_9, zLA_9, zLI_10, zLL_10, zLA_10, zLI_11, zLL_11, zLA_11, zLI_12, zLL_12, zLA_12, zLI_13, zLL_13, zLA_13, zst_0, zst_1n, zst_1i, zst_1a, zst_2n, zst_2i, zst_2a, zst_3n, zst_3i, zst_3a, zst_4n, zst_4i, zst_4a, zst_5n, zst_5i, zst_5a, zst_6n, zst_6i, zst_6a, zst_7n, zst_7i, zst_7a, zst_8n, zst_8i, zst_8a, zst_9n, zst_9i, zst_9a, zst_10n, zst_10i, zst_10a, zst_11n, zst_11i, zst_11a, zst_12n, zst_12i, zst_12a, zst_13n, zst_13i, zst_13a, zst_14n, zst_14i, zst_14a, zst_15n, zst_15i, zst_15a, zR1_n, zR1_v, zsum_n, zsum_i, zsum_l, zsum_a, zlen_n, zlen_i, zlen_l, zlen_a, List.not_mem_nil, List.mem_cons, or_false, false_or, or_self, ↓reduceIte, if_false, if_true, Nat.reduceEqDiff, Nat.reduceAdd, Nat.reduceLeDiff, true_and, and_true, reduceCtorEq, ne_eq, Int.toNat_natCast, not_true_eq_false, not_false_eq_true, true_implies, false_implies, implies_true, Int.reduceToNat, Int.toNat_zero, Int.reduceLT, Int.reduceLE, Int.reduceEq, Int.reduceAdd, Int.reduceMul, Int.reduceNeg]
  exact ⟨by omega, by rw [(zK_po (L := L) (zPoA_sh sc (show 0 < 4 by omega))).1], lp⟩
theorem zsts_cg {p q : Nat → Bool} : ∀ n, (∀ i, i < n → p i = q i) → zsts p n = zsts q n
  | 0, _ => rfl
  | n + 1, h => by rw [zsts_s, zsts_s, h n (by omega), zsts_cg n (fun i hi => h i (by omega))]
theorem zqA_175 (hW : zqW m M) (c0 : cc 0 = 1) (hx : zr32 x) (hy : zr32 y) {b : Int} : zqAg L M 175 [.inr (.inr 2), .inl x, .inl y, .inl w, .inl h, .inl b] 298 [.inr (.inr 1153), .inl x, .inl y, .inl w, .inl h, .inl b] cc := by
  have hR := hW.1.1
  have rel := hW.1.2.1
  by_cases hr : zrec x y w h
  · have hr' := hr
    unfold zrec at hr'
    obtain ⟨q1, q2, q3, q4, q5, q6⟩ := hr'
    have h3 : 0 ≤ x ∧ x ≤ 60 - w := by omega
    have h4 : 0 ≤ y ∧ y ≤ 60 - h := by omega
    obtain ⟨F3, hF3⟩ : ∃ F3, zctr M.2.1 x y w h = F3 := ⟨_, rfl⟩
    have f3 : ∀ b j, (b < 1124 ∨ 1128 < b) → F3 b j = M.2.1 b j := fun b j hb => by rw [← hF3]; exact zctr_o hb
    obtain ⟨v1, v2, v3, v4⟩ := zctr_v (f := M.2.1) (x := x) (y := y) (w := w) (h := h)
    obtain ⟨u1, u2, u3, u4⟩ := zctr_f (f := M.2.1) (x := x) (y := y) q1.1 q2.1
    have wt := zctr_s (f := M.2.1) q1 q2 h3 h4
    have p60 := zctr_p (f := M.2.1) q1 q2 h3 h4
    rw [hF3] at v1 v2 v3 v4 u1 u2 u3 u4 wt p60
    have r0 : zqR m F3 M.2.1 := zqR_keep3 (fun b j hb => f3 b j (by omega)) (fun j hj => by rw [f3 8 j (by omega)]; exact zqR_ch rel j hj) (fun _ _ _ => rfl) rfl rel
    have hS : ∀ k, k < 60 → F3 (14 + 14 * k) 0 = 1 → zSw F3 (14 + 14 * k) ∧ zSP (zN F3 (14 + 14 * k)) (zX F3 (14 + 14 * k)) (zY F3 (14 + 14 * k)) (F3 (14 + 14 * k) 10).toNat := fun k hk t => by
      obtain ⟨se, so⟩ := zqR_f r0 hk t
      refine ⟨zqE_sw se so, ?_⟩
      have c14 := so.1
      refine zqSPc se so (c := (F3 (14 + 14 * k) 10).toNat) ?_
      rw [se.2.1]
      omega
    have lp := c175_l (L := L) (M := M) (x := x) (y := y) (w := w) (h := h) (b := b) (F3 := F3) hR (zqR_01 r0) (zqR_ly r0) hS wt v1 p60 (fun y => by rw [f3 _ _ (by omega)]; exact hW.2.2.2.2.2.1 y)
    rw [← hF3] at lp
    obtain ⟨r, M2, ⟨f', hr2, hM, sw, z14⟩, e175⟩ := zFRx (c175_g (L := L) (M := M) (b := b) hR hx hy hr lp)
    rw [hF3] at hr2 sw
    subst hr2 hM
    have k3 : ∀ b j, (b < 1105 ∨ (1114 < b ∧ b < 1124) ∨ 1128 < b) → f' b j = M.2.1 b j := fun b j hb => by rw [sw b (by omega)]; exact f3 b j (by omega)
    refine zqAg_ok (m' := m) e175 rfl rfl rfl (fun B b1 b2 b3 => ?_)
    have b1' : B.2.1 = f' := b1
    have bn : ∀ b j, (b < 1105 ∨ (1114 < b ∧ b < 1124) ∨ 1128 < b) → B.2.1 b j = M.2.1 b j := fun b j q => by rw [b1', k3 b j q]
    have rl := zqR_tw hW (B := B) (fun b j hb => bn b j (by omega)) (fun j => by rw [b2 1162 (by omega)]; rfl) b3 0
    have r1 : zqR m F3 (zrtw B.2.1 0) := zqR_keep3 (fun b j hb => f3 b j (by omega)) (fun j hj => by rw [f3 8 j (by omega)]; exact zqR_ch rl j hj) (fun _ _ _ => rfl) rfl rl
    obtain ⟨G, hG⟩ : ∃ G, zrcat (zrtw B.2.1 0) x y w h 4 = G := ⟨_, rfl⟩
    obtain ⟨n1, n2, n3⟩ := zrcat_n (zrtw B.2.1 0) x y w h 4
    have p6 := zrcat_p (f := zrtw B.2.1 0) q1 q2 h3 h4
    have gX : ∀ k, k < 4 → G 1177 (1920 + k) = zbx x w k := fun k hk => by rw [← hG]; exact zrcat_x (zrtw B.2.1 0) x y w h 4 k hk
    have gY : ∀ k, k < 4 → G 1178 (1920 + k) = zby y h k := fun k hk => by rw [← hG]; exact zrcat_y (zrtw B.2.1 0) x y w h 4 k hk
    have gf : ∀ a j, ((a = 1174 ∨ a = 1175) → j < 60) → (a = 1176 → j < 240) → ((a = 1177 ∨ a = 1178) → j < 1920) → G a j = zrtw B.2.1 0 a j := fun a j g1 g2 g3 => by
      rw [← hG]
      exact zrcat_f (zrtw B.2.1 0) x y w h (fun e => by have := g1 e; omega) (fun e => by have := g2 e; omega) g3 4
    rw [hG] at n1 n2 n3 p6
    have rG : zqR m F3 G := zqR_keep4 (fun _ _ _ => rfl) (zqR_ch r1) (fun b j hb => gf b j (by omega) (by omega) (by omega)) (gf 1153 33 (by omega) (by omega) (by omega)) r1
    obtain ⟨r2, M3, ⟨g', hr3, hM3, fr⟩, e298⟩ := zFRx (c298_g (L := L) (M := B) (f := G) (x := x) (y := y) (w := w) (h := h) (b := b) (by rw [b3]; exact hR) q1 q2 h3 h4 hG (zqR_r01 rG) (fun k hk => (rG.2.2.2.2.2.1.2 k hk).1) (fun k hk t => by
      obtain ⟨se, so⟩ := rG.2.2.2.2.2.2.2.1 k hk t
      have c14 := so.1
      exact ⟨zqO_sw so, zqSP so (by omega)⟩) n1 (by omega) p6)
    subst hr3 hM3
    have ez : zsts (zcgh G x y w h b) 60 = zsts (zccb F3 b) 60 := zsts_cg 60 (fun k hk => by
      have eq : zcgh G x y w h b k = true ↔ zccb F3 b k = true := by
        rw [zcgh_i, zccb_i]
        by_cases t : G 1166 k = 1
        · have t' : F3 (14 + 14 * k) 0 = 1 := by rw [zqR_t rG hk]; exact t
          obtain ⟨se, so⟩ := zqR_f rG hk t'
          obtain ⟨l1, _, _, l4, _⟩ := rG.2.1 k hk t
          have ly := rG.2.2.2.2.2.1.1 (G 1167 k).toNat (by omega)
          have eS : zsee F3 k = true ↔ G 1181 (G 1167 k).toNat ≠ 0 := by
            unfold zsee
            rw [decide_eq_true_iff, l1]
            omega
          have eF : zcfwq F3 k ↔ zfts G x y w h k := by
            unfold zcfwq zfts
            rw [u1, u2, u3, u4, se.2.2.2.1, se.2.2.2.2.1, se.2.2.2.2.2.1, se.2.2.2.2.2.2]
            try omega
          have eA : zcca F3 k = zcga G k := by
            have c14 := so.1
            unfold zcca zcga zE2 zrE2
            rw [se.2.1, se.1, v2, n2, zqeS se so (c := (G 1174 k).toNat) (by omega), if_neg (by omega)]
            have eg : zg3 1 (G 1175 k) 2 (G 1174 k).toNat = zgl 1 (G 1175 k) 2 (G 1174 k).toNat := funext fun st => by
              unfold zg3
              rw [if_neg (by omega)]
            rw [eg]
            have ec : zeS (zN F3 1124) (zX F3 1124) (zY F3 1124) (G 1174 k).toNat 1 = zeS (zrN G 60) (zrX G 60) (zrY G 60) (G 1174 k).toNat 1 := zeS_cg 1 (fun p hp => by
              have hp0 : p = 0 := by omega
              subst hp0
              have eN : zN F3 1124 0 = 4 := v3
              have eN2 : zrN G 60 0 = 4 := n3
              rw [eN, eN2]
              refine ⟨rfl, by omega, fun j hj => ?_⟩
              have eX : zX F3 1124 0 j = zbx x w j := (v4 j (by omega)).1
              have eY : zY F3 1124 0 j = zby y h j := (v4 j (by omega)).2
              rw [eX, eY]
              unfold zrX zrY
              rw [show 32 * 60 + 8 * 0 + j = 1920 + j by omega, gX j (by omega), gY j (by omega)]
              exact ⟨rfl, rfl⟩)
            rw [ec]
          rw [eS, eF, eA]
          exact ⟨fun q => q.2, fun q => ⟨t, q⟩⟩
        · refine ⟨fun q => absurd q.1 t, fun q => absurd ?_ t⟩
          have := (of_decide_eq_true q.1).1
          rw [← zqR_t rG hk]
          exact this
      exact Bool.eq_iff_iff.mpr eq)
    rw [ez] at e298
    refine ⟨zwI B g', e298, rfl, rfl, zqW_q hW b3 (fun b j hb => ?_) (fun j hj => ?_) (fun a j ha => by
      show B.2.2.1 a j = _
      rw [b2 a (by omega)]
      rfl), ?_⟩
    · show g' b j = _
      have hkp := hb
      unfold zqKp zqXs at hkp
      by_cases q14 : b = 1114
      · subst q14
        rw [fr.1 1114 (by omega) (by omega), gf _ _ (by omega) (by omega) (by omega)]
        unfold zrtw
        rw [zu2_sj (by omega), b1', z14 j]
        exact (hW.2.2.2.2.2.1 j).symm
      · by_cases q53 : b = 1153
        · subst q53
          rw [fr.2 j (by omega), gf _ _ (by omega) (by omega) (by omega)]
          unfold zrtw
          rw [zu2_sj (by omega)]
          exact bn _ _ (by omega)
        · rw [fr.1 b q53 (by omega), gf _ _ (by omega) (by omega) (by omega)]
          unfold zrtw
          rw [zu2_sj (by omega)]
          exact bn _ _ (by omega)
    · show g' 8 j = 0 ∨ g' 8 j = 1
      rw [fr.1 8 (by omega) (by omega), gf _ _ (by omega) (by omega) (by omega)]
      unfold zrtw
      rw [zu2_sj (by omega), bn _ _ (by omega)]
      exact zqR_ch rel j hj
    · show g' 1153 0 = 0
      rw [fr.2 0 (by omega), gf _ _ (by omega) (by omega) (by omega)]
      exact zu2_eq _ _ _ _
  · refine zqAg_no (e := 0) (d := 1) hW (by omega) (fun Q => c175_0 hx hy hr) (.inr (.inl (Int64.ofInt 0))) (fun B b1 b2 Q => c298_1 (fun q => hr ?_)) c0
    unfold zrec
    omega
end ZCAUGHTQ
