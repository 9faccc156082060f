/-! the law's first shapes -/
section ZPSAMPLE
variable {L m : Nat} {C C2 : zM} {s : Nat → zM}
/-- a drawing noted in what is only thought of -/
def zpH (g : Nat → Nat → Int) (m n : Nat) (X Y : Nat → Int) : Nat → Nat → Int := fun b j => if b = 1163 ∧ j = m then (n : Int) else if b = 1164 ∧ 8 * m ≤ j then X (j - 8 * m) else if b = 1165 ∧ 8 * m ≤ j then Y (j - 8 * m) else g b j
theorem zpH_E {g : Nat → Nat → Int} {m n : Nat} {X Y : Nat → Int} {k h a b c d : Int} : zpE (zrtl (zpH g m n X Y) m k h a b c d) g := by
  refine ⟨fun x j hx => ?_, ?_⟩
  · unfold zrtl
    rw [zu2_sj (by omega), zu2_sj (by omega), zu2_sj (by omega), zu2_sj (by omega), zu2_sj (by omega), zu2_sj (by omega)]
    unfold zpH
    rw [if_neg (by omega), if_neg (by omega), if_neg (by omega)]
  · unfold zrtl
    rw [zu2_sj (by omega), zu2_sj (by omega), zu2_sj (by omega), zu2_sj (by omega), zu2_sj (by omega), zu2_sj (by omega)]
    unfold zpH
    rw [if_neg (by omega), if_neg (by omega), if_neg (by omega)]
set_option maxRecDepth 4000 in
theorem zpsm {h : Int} {many : Nat} (hm7 : many ≤ 6) (hm1 : 1 ≤ many) (hh : 0 ≤ h ∧ h ≤ 2) : ∀ (d k m : Nat) (C : zM) (s : Nat → zM), k + d = many → m + d ≤ 60 → zpW L m C s → (0 ≤ C.2.1 1152 0 ∧ C.2.1 1152 0 ≤ 65535) → ∀ e0 last : Int, (k = 0 ∨ last = (m : Int) - 1) → ∃ (Ce : zM) (s' : Nat → zM), (∀ Q : zO → zM → Prop, zFR (zK L) 143 71 [some (.inr (.inr 2)), some (.inl h), some (.inl e0), some (.inl (many : Int)), some (.inl last), some (.inl (k : Int))] [] C Q = Q (.inl (some (.inl ((m : Int) + (d : Int) - 1)))) Ce) ∧ zpW L (m + d) Ce s' ∧ Ce.1 = C.1 ∧ zpK C.2.1 Ce.2.1 ∧ (∀ q, m ≤ q → q < m + d → Ce.2.1 (14 + 14 * q) 0 = 1) ∧ Ce.2.1 11 0 = C.2.1 11 0 := by
  intro d
  induction d with
  | zero =>
    intro k m C s hk hm hW he e0 last hl
    have hl2 : last = (m : Int) - 1 := by omega
    have hkm : k = many := by omega
    refine ⟨C, s, fun Q => ?_, hW, rfl, zpK_i _, fun q h1 h2 => absurd h2 (by omega), rfl⟩
    have ev : (m : Int) + ((0 : Nat) : Int) - 1 = last := by omega
    rw [ev]
    refine zFR_det (zW_sound 60 [77] ?_) Q
    simp only [ZR143, zW_succ, zE_iload, zE_aload, zE_lload, zE_iinc, zE_istore, zE_astore, zE_lstore, zE_iconst, zE_ldc2, zE_iadd, zE_isub, zE_imul, zE_idiv, zE_irem, zE_ineg, zE_iand, zE_ior, zE_ixor, zE_ishl, zE_ishr, zE_land, zE_lor, zE_lxor, zE_lshl, zE_lshr, zE_i2l, zE_lcmp, zE_dup_i, zE_dup_a, zE_dup2_ia, zE_pop_i, zE_pop_a, zE_pop2, zE_goto, zE_if_eq, zE_icmp_eq, zE_if_ne, zE_icmp_ne, zE_if_lt, zE_icmp_lt, zE_if_ge, zE_icmp_ge, zE_if_gt, zE_icmp_gt, zE_if_le, zE_icmp_le, zE_iaload, zE_baload, zE_laload, zE_aaload, zE_iastore, zE_bastore, zE_lastore, zE_aastore, zE_alen, zE_getf0, zE_getf1, zE_getf2, zE_getf3, zE_putf0, zE_putf1, zE_putf2, zE_putf3, zE_new, zE_newa, zE_newq, zE_ireturn, zE_lreturn, zE_areturn, zE_return, zE_athrow, zE_st0, zE_vi0, zE_st1, zE_vi1, zE_st2, zE_vi2, zE_st3, zE_vi3, zE_st4, zE_vi4, zE_st5, zE_vi5, zE_st6, zE_vi6, zE_st7, zE_vi7, zE_st8, zE_vi8, zSt_0, zSL_0, zSt_1n, zSt_1i, zSt_1a, zSt_1l, zSt_2n, zSt_2i, zSt_2a, zSt_2l, zSt_3n, zSt_3i, zSt_3a, zSt_3l, zSt_4n, zSt_4i, zSt_4a, zSt_4l, zSt_5n, zSt_5i, zSt_5a, zSt_5l, zSt_6n, zSt_6i, zSt_6a, zSt_6l, zSt_7n, zSt_7i, zSt_7a, zSt_7l, zSt_8n, zSt_8i, zSt_8a, zSt_8l, zSt_9n, zSt_9i, zSt_9a, zSt_9l, zSt_10n, zSt_10i, zSt_10a, zSt_10l, zSt_11n, zSt_11i, zSt_11a, zSt_11l, zSt_12n, zSt_12i, zSt_12a, zSt_12l, zSt_13n, zSt_13i, zSt_13a, zSt_13l, zSL_1n, zSL_1i, zSL_1a, zSL_1l, zSL_2n, zSL_2i, zSL_2a, zSL_2l, zSL_3n, zSL_3i, zSL_3a, zSL_3l, zSL_4n, zSL_4i, zSL_4a, zSL_4l, zSL_5n, zSL_5i, zSL_5a, zSL_5l, zSL_6n, zSL_6i, zSL_6a, zSL_6l, zSL_7n, zSL_7i, zSL_7a, zSL_7l, zSL_8n, zSL_8i, zSL_8a, zSL_8l, zSL_9n, zSL_9i, zSL_9a, zSL_9l, zSL_10n, zSL_10i, zSL_10a, zSL_10l, zSL_11n, zSL_11i, zSL_11a, zSL_11l, zSL_12n, zSL_12i, zSL_12a, zSL_12l, zLI_0, zLL_0, zLA_0, zLI_1, zLL_1, zLA_1, zLI_2, zLL_2, zLA_2, zLI_3, zLL_3, zLA_3, zLI_4, zLL_4, zLA_4, zLI_5, zLL_5, zLA_5, zLI_6, zLL_6, zLA_6, zLI_7, zLL_7, zLA_7, zLI_8, zLL_8, zLA_8, zLI_9, zLL_9, zLA_9, zLI_10, zLL_10, zLA_10, zLI_11, zLL_11, zLA_11, zLI_12, zLL_12, zLA_12, zLI_13, zLL_13, zLA_13, zst_0, zst_1n, zst_1i, zst_1a, zst_2n, zst_2i, zst_2a, zst_3n, zst_3i, zst_3a, zst_4n, zst_4i, zst_4a, zst_5n, zst_5i, zst_5a, zst_6n, zst_6i, zst_6a, zst_7n, zst_7i, zst_7a, zst_8n, zst_8i, zst_8a, zst_9n, zst_9i, zst_9a, zst_10n, zst_10i, zst_10a, zst_11n, zst_11i, zst_11a, zst_12n, zst_12i, zst_12a, zst_13n, zst_13i, zst_13a, zst_14n, zst_14i, zst_14a, zst_15n, zst_15i, zst_15a, zR1_n, zR1_v, zsum_n, zsum_i, zsum_l, zsum_a, zlen_n, zlen_i, zlen_l, zlen_a, List.not_mem_nil, List.mem_cons, or_false, false_or, or_self, ↓reduceIte, if_false, if_true, Nat.reduceEqDiff, Nat.reduceAdd, Nat.reduceLeDiff, true_and, and_true, reduceCtorEq, ne_eq, Int.toNat_natCast, not_true_eq_false, not_false_eq_true, true_implies, false_implies, implies_true, Int.reduceToNat, Int.toNat_zero, Int.reduceLT, Int.reduceLE, Int.reduceEq, Int.reduceAdd, Int.reduceMul, Int.reduceNeg]
    (repeat' (first | with_reducible refine And.intro ?_ ?_ | with_reducible intro _)) <;> try first | with_reducible rfl | with_reducible assumption | omega | (unfold zr32; omega) | contradiction | (exact absurd (by omega) (by assumption)) | rfl | (simp only [Sum.inl.injEq, Option.some.injEq]; omega)
  | succ d ih =>
    intro k m C s hk hm hW he e0 last hl
    have hm6 : m < 60 := by omega
    have hR : zLay C.2.2.2 := hW.1
    have hmd : zmd C.2.1 m := ⟨hW.2.1.2, by omega⟩
    obtain ⟨e, ee⟩ : ∃ e, C.2.1 1152 0 = e := ⟨_, rfl⟩
    rw [ee] at he
    have e144 := fun Q => c144 (L := L) (M := C) (Q := Q) (m := m) (h := h) hR hmd hm6 ee he
    have b1 : 0 ≤ zltq e 1 / 16 % 4 ∧ zltq e 1 / 16 % 4 < 4 := by omega
    have b2 : 0 ≤ zltq e 2 / 16 % 4 ∧ zltq e 2 / 16 % 4 < 4 := by omega
    have b3 : 1 ≤ zltq e 3 / 16 % 9 + 1 ∧ zltq e 3 / 16 % 9 + 1 ≤ 9 := by omega
    have b4 : 0 ≤ zltq e 4 / 16 % 40 ∧ zltq e 4 / 16 % 40 < 40 := by omega
    have b5 : 0 ≤ zltq e 5 / 16 % 40 ∧ zltq e 5 / 16 % 40 < 40 := by omega
    have b6 : 0 ≤ zltq e 6 / 16 % 10 ∧ zltq e 6 / 16 % 10 < 10 := by omega
    obtain ⟨z1, z2, z3⟩ := zsm_f (kd := zltq e 1 / 16 % 4) (x := zltq e 4 / 16 % 40) (y := zltq e 5 / 16 % 40) (n := zltq e 6 / 16 % 10 + 1) b1 b4 b5 (by omega)
    have sb := zltq_b he 6
    generalize zsmN (zltq e 1 / 16 % 4) = nn at *
    generalize zsmX (zltq e 1 / 16 % 4) (zltq e 4 / 16 % 40) (zltq e 6 / 16 % 10 + 1) = X at *
    generalize zsmY (zltq e 1 / 16 % 4) (zltq e 5 / 16 % 40) (zltq e 6 / 16 % 10 + 1) = Y at *
    generalize zltq e 2 / 16 % 4 = l at *
    generalize zltq e 3 / 16 % 9 + 1 = c at *
    generalize zltq e 6 = s6 at *
    obtain ⟨M6, hM6⟩ : ∃ M6, zwI C (zu2 C.2.1 1152 0 s6) = M6 := ⟨_, rfl⟩
    rw [hM6] at e144
    have m61 : ∀ b j, b ≠ 1152 → M6.2.1 b j = C.2.1 b j := fun b j hb => by
      rw [← hM6]
      exact zu2_a hb _ _ _ _
    have m6s : M6.2.1 1152 0 = s6 := by
      rw [← hM6]
      show zu2 C.2.1 1152 0 s6 1152 0 = s6
      exact zu2_eq _ _ _ _
    have m60 : M6.1 = C.1 := by rw [← hM6]; rfl
    have hW6 : zpW L m M6 s := by
      rw [← hM6]
      exact zpW_a hW (fun b j hb => zu2_a (by omega) _ _ _ _) (fun j hj => by rw [zu2_a (by omega)]; exact zpW_ch hW j hj)
    have hJ : zqJe (zpnM M6 m h l c nn X Y) (zwI (s m) (zrtl (zpH (s m).2.1 m nn X Y) m 0 h l c 0 0)) m := zpn_J hh (by omega) (by omega) z1 z2 z3 (by unfold zpH; rw [if_pos ⟨rfl, rfl⟩]) (fun j hj => by
      unfold zpH
      rw [if_neg (by omega), if_pos ⟨rfl, by omega⟩, show 8 * m + j - 8 * m = j by omega]) (fun j hj => by
      unfold zpH
      rw [if_neg (by omega), if_neg (by omega), if_pos ⟨rfl, by omega⟩, show 8 * m + j - 8 * m = j by omega])
    obtain ⟨F, v, e10, F22, f1, r⟩ := zp_make hW6 hm6 zpn_cw (N2 := zwI (s m) (zrtl (zpH (s m).2.1 m nn X Y) m 0 h l c 0 0)) rfl zpH_E hJ
    have r2 := zpc2_R hW6 (zpn_cw (m := m) (M := M6) (h := h) (l := l) (c := c) (n := nn) (X := X) (Y := Y))
    have lC2 : zLay (zpnM M6 m h l c nn X Y).2.2.2 := zpc2_L hW6 zpn_cw
    have j0 := zqJe_0 hJ (show zrtl (zpH (s m).2.1 m nn X Y) m 0 h l c 0 0 1158 m = 0 from zrtl_v.1)
    have vm : v = (m : Int) := zqnv lC2 r2 hm6 j0 e10
    have eF : F = zdrw (zpnM M6 m h l c nn X Y).2.1 m m := by
      obtain ⟨⟨q0, q1⟩, ⟨q2, q3⟩, jh, ⟨j4, j4b⟩, ⟨j5, j5b⟩, ⟨j6, j6b⟩, j7, j8⟩ := j0
      have ec := fun Q9 => c11 (L := L) (M := zpnM M6 m h l c nn X Y) (c := m) (num := m) (Q := Q9) lC2 (zqR_bk r2) hm6 hm6 (r2.2.2.2.2.2.2.2.2.1 m hm6) ⟨by omega, by omega, fun j hj => by
        obtain ⟨a, b, c, d⟩ := j7 j (by omega)
        rw [a, b]
        exact ⟨c.1, c.2, d.1, d.2⟩⟩
      have e0 := fun Q9 => c10_0 (L := L) (M := zpnM M6 m h l c nn X Y) (Q := Q9) (c := m) (num := m) lC2 (zqR_01 r2) hm6 hm6 ⟨Or.inl q2, Or.inl q3⟩ q0 ec
      obtain ⟨_, u2⟩ := zFR_uq e0 e10
      exact congrArg (fun X : zM => X.2.1) u2
    rcases r with ⟨q, _⟩ | ⟨_, s', w, _, _, _⟩
    · omega
    obtain ⟨C1, hC1⟩ : ∃ C1, zwI (zpnM M6 m h l c nn X Y) (zu2 (zu2 F (855 + 4 * m) 11 1) 2 2 ((m : Int) + 1)) = C1 := ⟨_, rfl⟩
    have e138 : ∀ Q : zO → zM → Prop, zFR (zK L) 138 0 (zcall 138 [.inr (.inr 2), .inr (.inr (855 + 4 * m))]) [] (zpnM M6 m h l c nn X Y) Q = Q (.inl (some (.inl (m : Int)))) C1 := fun Q => by
      have hh := (c138 (L := L) (M := zpnM M6 m h l c nn X Y) (Q := Q) (m := m) (v := v) (M9 := zwI (zpnM M6 m h l c nn X Y) F) lC2 rfl ((zpn_cw.1 2 2 (by omega)).trans ((m61 2 2 (by omega)).trans hmd.1)) F22 hm6 e10).trans (znot (by omega))
      rw [zwI_I, zwI_w, hC1, vm] at hh
      exact hh
    rw [hC1] at w
    have c1o : ∀ b j, (b < 854 ∧ 2 < b) → C1.2.1 b j = F b j := fun b j hb => by
      rw [← hC1]
      show zu2 (zu2 F (855 + 4 * m) 11 1) 2 2 ((m : Int) + 1) b j = _
      rw [zu2_sj (by omega), zu2_sj (by omega)]
    have Fo : ∀ b j, (2 < b ∧ b < 854) → (b < 14 + 14 * m ∨ 14 + 14 * m + 14 ≤ b) → F b j = C.2.1 b j := fun b j hb hb2 => by
      rw [eF]
      unfold zdrw zlay
      rw [zu2_sj (by omega), zu2_sj (by omega), zu2_sj (by omega), zdrf_o (by omega), zpn_cw.1 b j (by omega), m61 b j (by omega)]
    have F0 : F (14 + 14 * m) 0 = 1 := by
      rw [eF]
      unfold zdrw zlay
      rw [zu2_sj (by omega), zu2_sj (by omega), zu2_sj (by omega)]
      exact zdrf_0
    have c1s : C1.2.1 1152 0 = s6 := by
      rw [← hC1]
      show zu2 (zu2 F (855 + 4 * m) 11 1) 2 2 ((m : Int) + 1) 1152 0 = s6
      rw [zu2_sj (by omega), zu2_sj (by omega), f1 1152 0 (by omega), zpn_cw.1 1152 0 (by omega)]
      exact m6s
    have c10 : C1.1 = C.1 := by
      rw [← hC1]
      exact m60
    have kC : zpK C.2.1 C1.2.1 := ⟨fun l hl => (c1o _ _ (by omega)).trans (Fo _ _ (by omega) (by omega)), fun i hi t => by
      rw [c1o _ _ (by omega)]
      by_cases q : i = m
      · subst q; exact F0
      · rw [Fo _ _ (by omega) (by omega)]; exact t⟩
    obtain ⟨Ce, s9, ec, w9, x1, x2, x3, x4⟩ := ih (k + 1) (m + 1) C1 s' (by omega) (by omega) w (by rw [c1s]; exact sb) e0 (m : Int) (Or.inr (by omega))
    refine ⟨Ce, s9, fun Q => ?_, by rw [show m + (d + 1) = m + 1 + d by omega]; exact w9, x1.trans c10, zpK_t kC x2, fun q h1 h2 => ?_, x4.trans ((c1o _ _ (by omega)).trans (Fo _ _ (by omega) (by omega)))⟩
    · have ev : ((m + 1 : Nat) : Int) + (d : Int) - 1 = (m : Int) + ((d + 1 : Nat) : Int) - 1 := by omega
      have o9 := (ec (fun r M2 => r = (.inl (some (.inl ((m : Int) + ((d + 1 : Nat) : Int) - 1))) : zO) ∧ M2 = Ce)).mpr ⟨by rw [ev], rfl⟩
      rw [Int.natCast_succ] at o9
      refine zFR_det (zW_sound 60 [71, 94] ?_) Q
      simp only [ZR143, zk_2, ZF144.1, ZF144.2.1, ZF144.2.2.1, e144, ZF138.1, ZF138.2.1, ZF138.2.2.1, e138, zW_succ, zE_iload, zE_aload, zE_lload, zE_iinc, zE_istore, zE_astore, zE_lstore, zE_iconst, zE_ldc2, zE_iadd, zE_isub, zE_imul, zE_idiv, zE_irem, zE_ineg, zE_iand, zE_ior, zE_ixor, zE_ishl, zE_ishr, zE_land, zE_lor, zE_lxor, zE_lshl, zE_lshr, zE_i2l, zE_lcmp, zE_dup_i, zE_dup_a, zE_dup2_ia, zE_pop_i, zE_pop_a, zE_pop2, zE_goto, zE_if_eq, zE_icmp_eq, zE_if_ne, zE_icmp_ne, zE_if_lt, zE_icmp_lt, zE_if_ge, zE_icmp_ge, zE_if_gt, zE_icmp_gt, zE_if_le, zE_icmp_le, zE_iaload, zE_baload, zE_laload, zE_aaload, zE_iastore, zE_bastore, zE_lastore, zE_aastore, zE_alen, zE_getf0, zE_getf1, zE_getf2, zE_getf3, zE_putf0, zE_putf1, zE_putf2, zE_putf3, zE_new, zE_newa, zE_newq, zE_ireturn, zE_lreturn, zE_areturn, zE_return, zE_athrow, zE_st0, zE_vi0, zE_st1, zE_vi1, zE_st2, zE_vi2, zE_st3, zE_vi3, zE_st4, zE_vi4, zE_st5, zE_vi5, zE_st6, zE_vi6, zE_st7, zE_vi7, zE_st8, zE_vi8, zSt_0, zSL_0, zSt_1n, zSt_1i, zSt_1a, zSt_1l, zSt_2n, zSt_2i, zSt_2a, zSt_2l, zSt_3n, zSt_3i, zSt_3a, zSt_3l, zSt_4n, zSt_4i, zSt_4a, zSt_4l, zSt_5n, zSt_5i, zSt_5a, zSt_5l, zSt_6n, zSt_6i, zSt_6a, zSt_6l, zSt_7n, zSt_7i, zSt_7a, zSt_7l, zSt_8n, zSt_8i, zSt_8a, zSt_8l, zSt_9n, zSt_9i, zSt_9a, zSt_9l, zSt_10n, zSt_10i, zSt_10a, zSt_10l, zSt_11n, zSt_11i, zSt_11a, zSt_11l, zSt_12n, zSt_12i, zSt_12a, zSt_12l, zSt_13n, zSt_13i, zSt_13a, zSt_13l, zSL_1n, zSL_1i, zSL_1a, zSL_1l, zSL_2n, zSL_2i, zSL_2a, zSL_2l, zSL_3n, zSL_3i, zSL_3a, zSL_3l, zSL_4n, zSL_4i, zSL_4a, zSL_4l, zSL_5n, zSL_5i, zSL_5a, zSL_5l, zSL_6n, zSL_6i, zSL_6a, zSL_6l, zSL_7n, zSL_7i, zSL_7a, zSL_7l, zSL_8n, zSL_8i, zSL_8a, zSL_8l, zSL_9n, zSL_9i, zSL_9a, zSL_9l, zSL_10n, zSL_10i, zSL_10a, zSL_10l, zSL_11n, zSL_11i, zSL_11a, zSL_11l, zSL_12n, zSL_12i, zSL_12a, zSL_12l, zLI_0, zLL_0, zLA_0, zLI_1, zLL_1, zLA_1, zLI_2, zLL_2, zLA_2, zLI_3, zLL_3, zLA_3, zLI_4, zLL_4, zLA_4, zLI_5, zLL_5, zLA_5, zLI_6, zLL_6, zLA_6, zLI_7, zLL_7, zLA_7, zLI_8, zLL_8, zLA_8, zLI_9, zLL_9, zLA_9, zLI_10, zLL_10, zLA_10, zLI_11, zLL_11, zLA_11, zLI_12, zLL_12, zLA_12, zLI_13, zLL_13, zLA_13, zst_0, zst_1n, zst_1i, zst_1a, zst_2n, zst_2i, zst_2a, zst_3n, zst_3i, zst_3a, zst_4n, zst_4i, zst_4a, zst_5n, zst_5i, zst_5a, zst_6n, zst_6i, zst_6a, zst_7n, zst_7i, zst_7a, zst_8n, zst_8i, zst_8a, zst_9n, zst_9i, zst_9a, zst_10n, zst_10i, zst_10a, zst_11n, zst_11i, zst_11a, zst_12n, zst_12i, zst_12a, zst_13n, zst_13i, zst_13a, zst_14n, zst_14i, zst_14a, zst_15n, zst_15i, zst_15a, zR1_n, zR1_v, zsum_n, zsum_i, zsum_l, zsum_a, zlen_n, zlen_i, zlen_l, zlen_a, List.not_mem_nil, List.mem_cons, or_false, false_or, or_self, ↓reduceIte, if_false, if_true, Nat.reduceEqDiff, Nat.reduceAdd, Nat.reduceLeDiff, true_and, and_true, reduceCtorEq, ne_eq, Int.toNat_natCast, not_true_eq_false, not_false_eq_true, true_implies, false_implies, implies_true, Int.reduceToNat, Int.toNat_zero, Int.reduceLT, Int.reduceLE, Int.reduceEq, Int.reduceAdd, Int.reduceMul, Int.reduceNeg]
      (repeat' (first | with_reducible refine And.intro ?_ ?_ | with_reducible intro _)) <;> try first | with_reducible rfl | with_reducible assumption | omega | (unfold zr32; omega) | contradiction | (exact absurd (by omega) (by assumption)) | rfl | (simp only [Sum.inl.injEq, Option.some.injEq]; omega)
    · by_cases q0 : q = m
      · subst q0
        exact x2.2 q hm6 ((c1o _ _ (by omega)).trans F0)
      · exact x3 q (by omega) (by omega)
/-- the call -/
theorem pk_143 (hw : zpW L m C s) {h e : Int} {n : Nat} (hh : 0 ≤ h ∧ h ≤ 2) (he : 0 ≤ e ∧ e ≤ 65535) (hn : 1 ≤ n ∧ n ≤ 6) (h60 : m + n ≤ 60) : ∃ (Ce : zM) (s' : Nat → zM), (∀ Q : zO → zM → Prop, zFR (zK L) 143 0 (zcall 143 [.inr (.inr 2), .inl h, .inl e, .inl (n : Int)]) [] C Q = Q (.inl (some (.inl ((m : Int) + (n : Int) - 1)))) Ce) ∧ zpW L (m + n) Ce s' ∧ Ce.1 = C.1 ∧ zpK C.2.1 Ce.2.1 ∧ (∀ q, m ≤ q → q < m + n → Ce.2.1 (14 + 14 * q) 0 = 1) ∧ Ce.2.1 11 0 = C.2.1 11 0 := by
  have hw2 : zpW L m (zwI C (zu2 C.2.1 1152 0 e)) s := zpW_a hw (fun b j hb => zu2_a (by omega) _ _ _ _) (fun j hj => by rw [zu2_a (by omega)]; exact zpW_ch hw j hj)
  obtain ⟨Ce, s', e1, w, x1, x2, x3, x4⟩ := zpsm (L := L) hn.2 hn.1 hh n 0 m (zwI C (zu2 C.2.1 1152 0 e)) s (by omega) h60 hw2 (by
    show 0 ≤ zu2 C.2.1 1152 0 e 1152 0 ∧ zu2 C.2.1 1152 0 e 1152 0 ≤ 65535
    rw [zu2_eq]
    exact he) e (-1) (Or.inl rfl)
  refine ⟨Ce, s', fun Q => c143_g hw.1 ⟨hw.2.1.2, hw.2.1.1⟩ (by omega) ⟨he, by omega⟩ h60 e1, w, x1, zpK_t (zpK_e (fun b j hb => ?_)) x2, x3, x4.trans ?_⟩
  · show zu2 C.2.1 1152 0 e b j = _
    exact zu2_a (by omega) _ _ _ _
  · show zu2 C.2.1 1152 0 e 11 0 = _
    exact zu2_a (by omega) _ _ _ _
end ZPSAMPLE
