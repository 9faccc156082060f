/-! a key between two others; the keys of a layer anew -/
section ZBETWEEN
variable {L : Nat} {M : zM} {s : Nat} {Q : zO → zM → Prop}
theorem zu2_if (f : Nat → Nat → Int) (a i : Nat) (x : Int) (b j : Nat) : zu2 f a i x b j = if b = a ∧ j = i then x else f b j := rfl
def zrnk (f : Nat → Nat → Int) (l : Int) (o : Nat → Int) : Nat → Nat := zcnt (fun j => decide (f (14 + 14 * (o j).toNat) 1 = l))
def zrnm (f : Nat → Nat → Int) (l : Int) (o : Nat → Int) : Nat → Nat → Nat → Int
  | 0 => f
  | i + 1 => if f (14 + 14 * (o i).toNat) 1 = l then zu2 (zu2 (zrnm f l o i) (14 + 14 * (o i).toNat) 3 (zrnk f l o (i + 1) : Int)) (14 + 14 * (o i).toNat) 4 1 else zrnm f l o i
theorem zrnm_s (f : Nat → Nat → Int) (l : Int) (o : Nat → Int) (i : Nat) : zrnm f l o (i + 1) = if f (14 + 14 * (o i).toNat) 1 = l then zu2 (zu2 (zrnm f l o i) (14 + 14 * (o i).toNat) 3 (zrnk f l o (i + 1) : Int)) (14 + 14 * (o i).toNat) 4 1 else zrnm f l o i := rfl
theorem zrnk_s (f : Nat → Nat → Int) (l : Int) (o : Nat → Int) (i : Nat) : zrnk f l o (i + 1) = if f (14 + 14 * (o i).toNat) 1 = l then zrnk f l o i + 1 else zrnk f l o i := by
  unfold zrnk
  rw [zcnt_s]
  by_cases h : f (14 + 14 * (o i).toNat) 1 = l
  · rw [if_pos h, if_pos (decide_eq_true h)]
  · rw [if_neg h, if_neg (fun h2 => h (of_decide_eq_true h2))]
theorem zrnm_o (f : Nat → Nat → Int) (l : Int) (o : Nat → Int) {a j : Nat} (h : a < 14 ∨ (j ≠ 3 ∧ j ≠ 4)) : ∀ i, zrnm f l o i a j = f a j
  | 0 => rfl
  | i + 1 => by
    have ih := zrnm_o f l o h i
    rw [zrnm_s]
    split
    · rw [zu2_if, zu2_if, if_neg (by omega), if_neg (by omega), ih]
    · exact ih
theorem zrnm_k (f : Nat → Nat → Int) (l : Int) (o : Nat → Int) (a : Nat) : ∀ i, (zrnm f l o i a 3 = f a 3 ∧ zrnm f l o i a 4 = f a 4) ∨ (1 ≤ zrnm f l o i a 3 ∧ zrnm f l o i a 3 ≤ (i : Int) ∧ zrnm f l o i a 4 = 1)
  | 0 => Or.inl ⟨rfl, rfl⟩
  | i + 1 => by
    have ih := zrnm_k f l o a i
    have hk : zrnk f l o (i + 1) ≤ i + 1 := zcnt_le _ _
    have hs := zrnk_s f l o i
    rw [zrnm_s]
    by_cases h : f (14 + 14 * (o i).toNat) 1 = l
    · rw [if_pos h]
      rw [if_pos h] at hs
      by_cases ha : a = 14 + 14 * (o i).toNat
      · right
        rw [zu2_if, zu2_if, zu2_if, if_neg (by omega), if_pos ⟨ha, rfl⟩, if_pos ⟨ha, rfl⟩]
        omega
      · rw [zu2_if, zu2_if, zu2_if, zu2_if, if_neg (by omega), if_neg (by omega), if_neg (by omega), if_neg (by omega)]
        omega
    · rw [if_neg h]
      omega
theorem zrnm_y {f : Nat → Nat → Int} {l : Int} {o : Nat → Int} {a i : Nat} (hi : i ≤ 60) (h : zKy f a) : zKy (zrnm f l o i) a := by
  have hk := zrnm_k f l o a i
  unfold zKy at h ⊢
  omega
/-- the board with its layer numbered anew -/
def zrnw (f : Nat → Nat → Int) (s : Nat) : Nat → Nat → Int := zrnm (zua f 5 (zord (zclt f) (zcth f) (f 5) 60)) (f (14 + 14 * s) 1) (zord (zclt f) (zcth f) (f 5) 60) (zcnt (zcth f) 60)
def zfkw (f : Nat → Nat → Int) (s : Nat) (lo : Int) (hi : Nat) : Nat → Nat → Int := if zfkn f lo hi = 0 then f else zu2 (zu2 f (14 + 14 * s) 3 (zlt3 f lo * (zfkn f lo hi : Int) / zlt4 f lo + 1)) (14 + 14 * s) 4 (zfkn f lo hi : Int)
def zput (f : Nat → Nat → Int) (s : Nat) (lo : Int) (hi : Nat) : Nat → Nat → Int := if zfkn f lo hi = 0 then zfkw (zrnw f s) s lo hi else zfkw f s lo hi
theorem c28 {lo : Int} {hi : Nat} (hR : zLay M.2.2.2) (hb : zBk M.2.1) (hs : s < 60) (hl : -1 ≤ lo ∧ lo < 60) (hlt : lo = -1 ∨ M.2.1 (14 + 14 * lo.toNat) 0 = 1) (hh : hi < 60) (hht : M.2.1 (14 + 14 * hi) 0 = 1) : zFR (zK L) 28 0 (zcall 28 [.inr (.inr 3), .inl (s : Int), .inl lo, .inl (hi : Int)]) [] M Q = Q (.inl none) (zwI M (zput M.2.1 s lo hi)) := by
  have hF := hR.1
  unfold zLayF at hF
  have ky : ∀ v : Nat, v < 60 → M.2.1 (14 + 14 * v) 0 = 1 → zKy M.2.1 (14 + 14 * v) := fun v hv ht => (hb v hv).2 ht
  have hlk : lo = -1 ∨ zKy M.2.1 (14 + 14 * lo.toNat) := hlt.imp id (fun h => ky _ (by by_cases h0 : lo = -1 <;> omega) h)
  have e29 := fun Q => c29 (L := L) (M := M) (Q := Q) (lo := lo) (hi := hi) hR hs hl hlk hh (ky hi hh hht)
  have e3 := fun Q => c3 (L := L) (M := M) (Q := Q) hR (fun i hi => (hb i hi).1) (fun i hi => (hb i hi).2)
  refine zFR_det ?_ Q
  generalize hQ : (fun r M2 => r = (Sum.inl none : zO) ∧ M2 = zwI M (zput M.2.1 s lo hi)) = Q9
  by_cases hz : zfkn M.2.1 lo hi = 0
  · have hput : zput M.2.1 s lo hi = zfkw (zrnw M.2.1 s) s lo hi := if_pos hz
    have ho : ∀ j, j < zcnt (zcth M.2.1) 60 → ∃ k : Nat, k < 60 ∧ zord (zclt M.2.1) (zcth M.2.1) (M.2.1 5) 60 j = (k : Int) := by
      intro j hj
      obtain ⟨k, h1, h2, h3⟩ := zord_v (zclt M.2.1) (zcth M.2.1) (M.2.1 5) 60 j hj
      exact ⟨k, h1, h3⟩
    have hw : zrnw M.2.1 s = zrnm (zua M.2.1 5 (zord (zclt M.2.1) (zcth M.2.1) (M.2.1 5) 60)) (M.2.1 (14 + 14 * s) 1) (zord (zclt M.2.1) (zcth M.2.1) (M.2.1 5) 60) (zcnt (zcth M.2.1) 60) := rfl
    have hn60 : zcnt (zcth M.2.1) 60 ≤ 60 := zcnt_le _ _
    generalize zord (zclt M.2.1) (zcth M.2.1) (M.2.1 5) 60 = o at *
    generalize zcnt (zcth M.2.1) 60 = n at *
    obtain ⟨k1, k2⟩ := zK_sh (L := L) (zShA_i hs)
    have gk : ∀ v : Nat, zKy M.2.1 (14 + 14 * v) → zKy (zrnw M.2.1 s) (14 + 14 * v) := by
      intro v h
      rw [hw]
      refine zrnm_y hn60 ?_
      unfold zKy at h ⊢
      rw [zua_o (by omega), zua_o (by omega)]
      exact h
    have e29b := fun Q => c29 (L := L) (M := zwI M (zrnw M.2.1 s)) (Q := Q) (s := s) (lo := lo) (hi := hi) hR hs hl (hlk.imp id (gk _)) hh (gk _ (ky hi hh hht))
    simp only [zwI_I, zwI_w] at e29b
    have last : ∀ x y z w, zFR (zK L) 28 88 [some (.inr (.inr 3)), some (.inl (s : Int)), some (.inl lo), some (.inl (hi : Int)), x, y, z, w] [] (zwI M (zrnw M.2.1 s)) Q9 := by
      intro x y z w
      refine zW_sound 60 [] ?_
      simp only [ZR28, ZF29.1, ZF29.2.1, ZF29.2.2.1, zk_3, e29b, zW_succ, zE_iload, zE_aload, zE_lload, zE_iinc, zE_istore, zE_astore, zE_lstore, zE_iconst, zE_ldc2, zE_iadd, zE_isub, zE_imul, zE_idiv, zE_irem, zE_ineg, zE_iand, zE_ior, zE_ixor, zE_ishl, zE_ishr, zE_land, zE_lor, zE_lxor, zE_lshl, zE_lshr, zE_i2l, zE_lcmp, zE_dup_i, zE_dup_a, zE_dup2_ia, zE_pop_i, zE_pop_a, zE_pop2, zE_goto, zE_if_eq, zE_icmp_eq, zE_if_ne, zE_icmp_ne, zE_if_lt, zE_icmp_lt, zE_if_ge, zE_icmp_ge, zE_if_gt, zE_icmp_gt, zE_if_le, zE_icmp_le, zE_iaload, zE_baload, zE_laload, zE_aaload, zE_iastore, zE_bastore, zE_lastore, zE_aastore, zE_alen, zE_getf0, zE_getf1, zE_getf2, zE_getf3, zE_putf0, zE_putf1, zE_putf2, zE_putf3, zE_new, zE_newa, zE_newq, zE_ireturn, zE_lreturn, zE_areturn, zE_return, zE_athrow, zE_st0, zE_vi0, zE_st1, zE_vi1, zE_st2, zE_vi2, zE_st3, zE_vi3, zE_st4, zE_vi4, zE_st5, zE_vi5, zE_st6, zE_vi6, zE_st7, zE_vi7, zE_st8, zE_vi8, zSt_0, zSL_0, zSt_1n, zSt_1i, zSt_1a, zSt_1l, zSt_2n, zSt_2i, zSt_2a, zSt_2l, zSt_3n, zSt_3i, zSt_3a, zSt_3l, zSt_4n, zSt_4i, zSt_4a, zSt_4l, zSt_5n, zSt_5i, zSt_5a, zSt_5l, zSt_6n, zSt_6i, zSt_6a, zSt_6l, zSt_7n, zSt_7i, zSt_7a, zSt_7l, zSt_8n, zSt_8i, zSt_8a, zSt_8l, zSt_9n, zSt_9i, zSt_9a, zSt_9l, zSt_10n, zSt_10i, zSt_10a, zSt_10l, zSt_11n, zSt_11i, zSt_11a, zSt_11l, zSt_12n, zSt_12i, zSt_12a, zSt_12l, zSt_13n, zSt_13i, zSt_13a, zSt_13l, zSL_1n, zSL_1i, zSL_1a, zSL_1l, zSL_2n, zSL_2i, zSL_2a, zSL_2l, zSL_3n, zSL_3i, zSL_3a, zSL_3l, zSL_4n, zSL_4i, zSL_4a, zSL_4l, zSL_5n, zSL_5i, zSL_5a, zSL_5l, zSL_6n, zSL_6i, zSL_6a, zSL_6l, zSL_7n, zSL_7i, zSL_7a, zSL_7l, zSL_8n, zSL_8i, zSL_8a, zSL_8l, zSL_9n, zSL_9i, zSL_9a, zSL_9l, zSL_10n, zSL_10i, zSL_10a, zSL_10l, zSL_11n, zSL_11i, zSL_11a, zSL_11l, zSL_12n, zSL_12i, zSL_12a, zSL_12l, zLI_0, zLL_0, zLA_0, zLI_1, zLL_1, zLA_1, zLI_2, zLL_2, zLA_2, zLI_3, zLL_3, zLA_3, zLI_4, zLL_4, zLA_4, zLI_5, zLL_5, zLA_5, zLI_6, zLL_6, zLA_6, zLI_7, zLL_7, zLA_7, zLI_8, zLL_8, zLA_8, zLI_9, zLL_9, zLA_9, zLI_10, zLL_10, zLA_10, zLI_11, zLL_11, zLA_11, zLI_12, zLL_12, zLA_12, zLI_13, zLL_13, zLA_13, zst_0, zst_1n, zst_1i, zst_1a, zst_2n, zst_2i, zst_2a, zst_3n, zst_3i, zst_3a, zst_4n, zst_4i, zst_4a, zst_5n, zst_5i, zst_5a, zst_6n, zst_6i, zst_6a, zst_7n, zst_7i, zst_7a, zst_8n, zst_8i, zst_8a, zst_9n, zst_9i, zst_9a, zst_10n, zst_10i, zst_10a, zst_11n, zst_11i, zst_11a, zst_12n, zst_12i, zst_12a, zst_13n, zst_13i, zst_13a, zst_14n, zst_14i, zst_14a, zst_15n, zst_15i, zst_15a, zR1_n, zR1_v, zsum_n, zsum_i, zsum_l, zsum_a, zlen_n, zlen_i, zlen_l, zlen_a, List.not_mem_nil, List.mem_cons, or_false, false_or, or_self, ↓reduceIte, if_false, if_true, Nat.reduceEqDiff, Nat.reduceAdd, Nat.reduceLeDiff, true_and, and_true, reduceCtorEq, ne_eq, Int.toNat_natCast, not_true_eq_false, not_false_eq_true, true_implies, false_implies, implies_true, Int.reduceToNat, Int.toNat_zero, Int.reduceLT, Int.reduceLE, Int.reduceEq, Int.reduceAdd, Int.reduceMul, Int.reduceNeg]
      subst hQ
      rw [hput]
      unfold zfkw
      exact ⟨fun h => ⟨rfl, by rw [if_pos h]⟩, fun h => ⟨rfl, by rw [if_neg h]⟩⟩
    have loop : ∀ i, i ≤ n → ∀ y, zFR (zK L) 28 28 [some (.inr (.inr 3)), some (.inl (s : Int)), some (.inl lo), some (.inl (hi : Int)), some (.inl (n : Int)), some (.inl (zrnk (zua M.2.1 5 o) (M.2.1 (14 + 14 * s) 1) o i : Int)), some (.inl (i : Int)), y] [] (zwI M (zrnm (zua M.2.1 5 o) (M.2.1 (14 + 14 * s) 1) o i)) Q9 := by
      refine zloop ?_ ?_
      · intro y
        rw [← hw]
        refine zW_sound 60 [88] ?_
        simp only [ZR28, zW_succ, zE_iload, zE_aload, zE_lload, zE_iinc, zE_istore, zE_astore, zE_lstore, zE_iconst, zE_ldc2, zE_iadd, zE_isub, zE_imul, zE_idiv, zE_irem, zE_ineg, zE_iand, zE_ior, zE_ixor, zE_ishl, zE_ishr, zE_land, zE_lor, zE_lxor, zE_lshl, zE_lshr, zE_i2l, zE_lcmp, zE_dup_i, zE_dup_a, zE_dup2_ia, zE_pop_i, zE_pop_a, zE_pop2, zE_goto, zE_if_eq, zE_icmp_eq, zE_if_ne, zE_icmp_ne, zE_if_lt, zE_icmp_lt, zE_if_ge, zE_icmp_ge, zE_if_gt, zE_icmp_gt, zE_if_le, zE_icmp_le, zE_iaload, zE_baload, zE_laload, zE_aaload, zE_iastore, zE_bastore, zE_lastore, zE_aastore, zE_alen, zE_getf0, zE_getf1, zE_getf2, zE_getf3, zE_putf0, zE_putf1, zE_putf2, zE_putf3, zE_new, zE_newa, zE_newq, zE_ireturn, zE_lreturn, zE_areturn, zE_return, zE_athrow, zE_st0, zE_vi0, zE_st1, zE_vi1, zE_st2, zE_vi2, zE_st3, zE_vi3, zE_st4, zE_vi4, zE_st5, zE_vi5, zE_st6, zE_vi6, zE_st7, zE_vi7, zE_st8, zE_vi8, zSt_0, zSL_0, zSt_1n, zSt_1i, zSt_1a, zSt_1l, zSt_2n, zSt_2i, zSt_2a, zSt_2l, zSt_3n, zSt_3i, zSt_3a, zSt_3l, zSt_4n, zSt_4i, zSt_4a, zSt_4l, zSt_5n, zSt_5i, zSt_5a, zSt_5l, zSt_6n, zSt_6i, zSt_6a, zSt_6l, zSt_7n, zSt_7i, zSt_7a, zSt_7l, zSt_8n, zSt_8i, zSt_8a, zSt_8l, zSt_9n, zSt_9i, zSt_9a, zSt_9l, zSt_10n, zSt_10i, zSt_10a, zSt_10l, zSt_11n, zSt_11i, zSt_11a, zSt_11l, zSt_12n, zSt_12i, zSt_12a, zSt_12l, zSt_13n, zSt_13i, zSt_13a, zSt_13l, zSL_1n, zSL_1i, zSL_1a, zSL_1l, zSL_2n, zSL_2i, zSL_2a, zSL_2l, zSL_3n, zSL_3i, zSL_3a, zSL_3l, zSL_4n, zSL_4i, zSL_4a, zSL_4l, zSL_5n, zSL_5i, zSL_5a, zSL_5l, zSL_6n, zSL_6i, zSL_6a, zSL_6l, zSL_7n, zSL_7i, zSL_7a, zSL_7l, zSL_8n, zSL_8i, zSL_8a, zSL_8l, zSL_9n, zSL_9i, zSL_9a, zSL_9l, zSL_10n, zSL_10i, zSL_10a, zSL_10l, zSL_11n, zSL_11i, zSL_11a, zSL_11l, zSL_12n, zSL_12i, zSL_12a, zSL_12l, zLI_0, zLL_0, zLA_0, zLI_1, zLL_1, zLA_1, zLI_2, zLL_2, zLA_2, zLI_3, zLL_3, zLA_3, zLI_4, zLL_4, zLA_4, zLI_5, zLL_5, zLA_5, zLI_6, zLL_6, zLA_6, zLI_7, zLL_7, zLA_7, zLI_8, zLL_8, zLA_8, zLI_9, zLL_9, zLA_9, zLI_10, zLL_10, zLA_10, zLI_11, zLL_11, zLA_11, zLI_12, zLL_12, zLA_12, zLI_13, zLL_13, zLA_13, zst_0, zst_1n, zst_1i, zst_1a, zst_2n, zst_2i, zst_2a, zst_3n, zst_3i, zst_3a, zst_4n, zst_4i, zst_4a, zst_5n, zst_5i, zst_5a, zst_6n, zst_6i, zst_6a, zst_7n, zst_7i, zst_7a, zst_8n, zst_8i, zst_8a, zst_9n, zst_9i, zst_9a, zst_10n, zst_10i, zst_10a, zst_11n, zst_11i, zst_11a, zst_12n, zst_12i, zst_12a, zst_13n, zst_13i, zst_13a, zst_14n, zst_14i, zst_14a, zst_15n, zst_15i, zst_15a, zR1_n, zR1_v, zsum_n, zsum_i, zsum_l, zsum_a, zlen_n, zlen_i, zlen_l, zlen_a, List.not_mem_nil, List.mem_cons, or_false, false_or, or_self, ↓reduceIte, if_false, if_true, Nat.reduceEqDiff, Nat.reduceAdd, Nat.reduceLeDiff, true_and, and_true, reduceCtorEq, ne_eq, Int.toNat_natCast, not_true_eq_false, not_false_eq_true, true_implies, false_implies, implies_true, Int.reduceToNat, Int.toNat_zero, Int.reduceLT, Int.reduceLE, Int.reduceEq, Int.reduceAdd, Int.reduceMul, Int.reduceNeg]
        exact ⟨fun _ => last _ _ _ _, fun h => absurd (by omega) h⟩
      · intro i hi ih y
        obtain ⟨v, hv, ov⟩ := ho i hi
        obtain ⟨p1, p2⟩ := zK_sh (L := L) (zShA_i hv)
        have hk : zrnk (zua M.2.1 5 o) (M.2.1 (14 + 14 * s) 1) o i ≤ i := zcnt_le _ _
        have hks := zrnk_s (zua M.2.1 5 o) (M.2.1 (14 + 14 * s) 1) o i
        have hms := zrnm_s (zua M.2.1 5 o) (M.2.1 (14 + 14 * s) 1) o i
        have r5 : zrnm (zua M.2.1 5 o) (M.2.1 (14 + 14 * s) 1) o i 5 i = (v : Int) := by rw [zrnm_o _ _ _ (Or.inl (by omega)), zua_a, ov]
        have r1 : ∀ u : Nat, zrnm (zua M.2.1 5 o) (M.2.1 (14 + 14 * s) 1) o i (14 + 14 * u) 1 = M.2.1 (14 + 14 * u) 1 := by
          intro u
          rw [zrnm_o _ _ _ (Or.inr (by omega)), zua_o (by omega)]
        rw [ov, Int.toNat_natCast, zua_o (by omega)] at hks hms
        generalize zrnm (zua M.2.1 5 o) (M.2.1 (14 + 14 * s) 1) o i = m at *
        generalize zrnk (zua M.2.1 5 o) (M.2.1 (14 + 14 * s) 1) o i = k at *
        refine zW_sound 60 [28] ?_
        simp only [ZR28, zk_3, zk_4, zk_5, k1, p1, hF, r5, r1, (hR.2.2.2 v hv).1, (hR.2.2.2 s hs).1, zwI_I, zwI_2, zsI_wI, zwI_w, zW_succ, zE_iload, zE_aload, zE_lload, zE_iinc, zE_istore, zE_astore, zE_lstore, zE_iconst, zE_ldc2, zE_iadd, zE_isub, zE_imul, zE_idiv, zE_irem, zE_ineg, zE_iand, zE_ior, zE_ixor, zE_ishl, zE_ishr, zE_land, zE_lor, zE_lxor, zE_lshl, zE_lshr, zE_i2l, zE_lcmp, zE_dup_i, zE_dup_a, zE_dup2_ia, zE_pop_i, zE_pop_a, zE_pop2, zE_goto, zE_if_eq, zE_icmp_eq, zE_if_ne, zE_icmp_ne, zE_if_lt, zE_icmp_lt, zE_if_ge, zE_icmp_ge, zE_if_gt, zE_icmp_gt, zE_if_le, zE_icmp_le, zE_iaload, zE_baload, zE_laload, zE_aaload, zE_iastore, zE_bastore, zE_lastore, zE_aastore, zE_alen, zE_getf0, zE_getf1, zE_getf2, zE_getf3, zE_putf0, zE_putf1, zE_putf2, zE_putf3, zE_new, zE_newa, zE_newq, zE_ireturn, zE_lreturn, zE_areturn, zE_return, zE_athrow, zE_st0, zE_vi0, zE_st1, zE_vi1, zE_st2, zE_vi2, zE_st3, zE_vi3, zE_st4, zE_vi4, zE_st5, zE_vi5, zE_st6, zE_vi6, zE_st7, zE_vi7, zE_st8, zE_vi8, zSt_0, zSL_0, zSt_1n, zSt_1i, zSt_1a, zSt_1l, zSt_2n, zSt_2i, zSt_2a, zSt_2l, zSt_3n, zSt_3i, zSt_3a, zSt_3l, zSt_4n, zSt_4i, zSt_4a, zSt_4l, zSt_5n, zSt_5i, zSt_5a, zSt_5l, zSt_6n, zSt_6i, zSt_6a, zSt_6l, zSt_7n, zSt_7i, zSt_7a, zSt_7l, zSt_8n, zSt_8i, zSt_8a, zSt_8l, zSt_9n, zSt_9i, zSt_9a, zSt_9l, zSt_10n, zSt_10i, zSt_10a, zSt_10l, zSt_11n, zSt_11i, zSt_11a, zSt_11l, zSt_12n, zSt_12i, zSt_12a, zSt_12l, zSt_13n, zSt_13i, zSt_13a, zSt_13l, zSL_1n, zSL_1i, zSL_1a, zSL_1l, zSL_2n, zSL_2i, zSL_2a, zSL_2l, zSL_3n, zSL_3i, zSL_3a, zSL_3l, zSL_4n, zSL_4i, zSL_4a, zSL_4l, zSL_5n, zSL_5i, zSL_5a, zSL_5l, zSL_6n, zSL_6i, zSL_6a, zSL_6l, zSL_7n, zSL_7i, zSL_7a, zSL_7l, zSL_8n, zSL_8i, zSL_8a, zSL_8l, zSL_9n, zSL_9i, zSL_9a, zSL_9l, zSL_10n, zSL_10i, zSL_10a, zSL_10l, zSL_11n, zSL_11i, zSL_11a, zSL_11l, zSL_12n, zSL_12i, zSL_12a, zSL_12l, zLI_0, zLL_0, zLA_0, zLI_1, zLL_1, zLA_1, zLI_2, zLL_2, zLA_2, zLI_3, zLL_3, zLA_3, zLI_4, zLL_4, zLA_4, zLI_5, zLL_5, zLA_5, zLI_6, zLL_6, zLA_6, zLI_7, zLL_7, zLA_7, zLI_8, zLL_8, zLA_8, zLI_9, zLL_9, zLA_9, zLI_10, zLL_10, zLA_10, zLI_11, zLL_11, zLA_11, zLI_12, zLL_12, zLA_12, zLI_13, zLL_13, zLA_13, zst_0, zst_1n, zst_1i, zst_1a, zst_2n, zst_2i, zst_2a, zst_3n, zst_3i, zst_3a, zst_4n, zst_4i, zst_4a, zst_5n, zst_5i, zst_5a, zst_6n, zst_6i, zst_6a, zst_7n, zst_7i, zst_7a, zst_8n, zst_8i, zst_8a, zst_9n, zst_9i, zst_9a, zst_10n, zst_10i, zst_10a, zst_11n, zst_11i, zst_11a, zst_12n, zst_12i, zst_12a, zst_13n, zst_13i, zst_13a, zst_14n, zst_14i, zst_14a, zst_15n, zst_15i, zst_15a, zR1_n, zR1_v, zsum_n, zsum_i, zsum_l, zsum_a, zlen_n, zlen_i, zlen_l, zlen_a, List.not_mem_nil, List.mem_cons, or_false, false_or, or_self, ↓reduceIte, if_false, if_true, Nat.reduceEqDiff, Nat.reduceAdd, Nat.reduceLeDiff, true_and, and_true, reduceCtorEq, ne_eq, Int.toNat_natCast, not_true_eq_false, not_false_eq_true, true_implies, false_implies, implies_true, Int.reduceToNat, Int.toNat_zero, Int.reduceLT, Int.reduceLE, Int.reduceEq, Int.reduceAdd, Int.reduceMul, Int.reduceNeg]
        have ih2 := ih (some (.inr (.inr (14 + 14 * v))))
        rw [hms, hks] at ih2
        refine ⟨fun h => absurd h (by omega), fun _ => ⟨by omega, by omega, by omega, fun h => ⟨by unfold zr32; omega, ?_⟩, fun h => ⟨by unfold zr32; omega, by unfold zr32; omega, ?_⟩⟩⟩
        · rw [if_neg h, if_neg h] at ih2
          exact ih2
        · rw [if_pos (by omega), if_pos (by omega)] at ih2
          exact ih2
    refine zW_sound 60 [28] ?_
    simp only [ZF28, ZR28, ZF29.1, ZF29.2.1, ZF29.2.2.1, ZF3.1, ZF3.2.1, ZF3.2.2.1, zk_3, e29, e3, zW_succ, zE_iload, zE_aload, zE_lload, zE_iinc, zE_istore, zE_astore, zE_lstore, zE_iconst, zE_ldc2, zE_iadd, zE_isub, zE_imul, zE_idiv, zE_irem, zE_ineg, zE_iand, zE_ior, zE_ixor, zE_ishl, zE_ishr, zE_land, zE_lor, zE_lxor, zE_lshl, zE_lshr, zE_i2l, zE_lcmp, zE_dup_i, zE_dup_a, zE_dup2_ia, zE_pop_i, zE_pop_a, zE_pop2, zE_goto, zE_if_eq, zE_icmp_eq, zE_if_ne, zE_icmp_ne, zE_if_lt, zE_icmp_lt, zE_if_ge, zE_icmp_ge, zE_if_gt, zE_icmp_gt, zE_if_le, zE_icmp_le, zE_iaload, zE_baload, zE_laload, zE_aaload, zE_iastore, zE_bastore, zE_lastore, zE_aastore, zE_alen, zE_getf0, zE_getf1, zE_getf2, zE_getf3, zE_putf0, zE_putf1, zE_putf2, zE_putf3, zE_new, zE_newa, zE_newq, zE_ireturn, zE_lreturn, zE_areturn, zE_return, zE_athrow, zE_st0, zE_vi0, zE_st1, zE_vi1, zE_st2, zE_vi2, zE_st3, zE_vi3, zE_st4, zE_vi4, zE_st5, zE_vi5, zE_st6, zE_vi6, zE_st7, zE_vi7, zE_st8, zE_vi8, zSt_0, zSL_0, zSt_1n, zSt_1i, zSt_1a, zSt_1l, zSt_2n, zSt_2i, zSt_2a, zSt_2l, zSt_3n, zSt_3i, zSt_3a, zSt_3l, zSt_4n, zSt_4i, zSt_4a, zSt_4l, zSt_5n, zSt_5i, zSt_5a, zSt_5l, zSt_6n, zSt_6i, zSt_6a, zSt_6l, zSt_7n, zSt_7i, zSt_7a, zSt_7l, zSt_8n, zSt_8i, zSt_8a, zSt_8l, zSt_9n, zSt_9i, zSt_9a, zSt_9l, zSt_10n, zSt_10i, zSt_10a, zSt_10l, zSt_11n, zSt_11i, zSt_11a, zSt_11l, zSt_12n, zSt_12i, zSt_12a, zSt_12l, zSt_13n, zSt_13i, zSt_13a, zSt_13l, zSL_1n, zSL_1i, zSL_1a, zSL_1l, zSL_2n, zSL_2i, zSL_2a, zSL_2l, zSL_3n, zSL_3i, zSL_3a, zSL_3l, zSL_4n, zSL_4i, zSL_4a, zSL_4l, zSL_5n, zSL_5i, zSL_5a, zSL_5l, zSL_6n, zSL_6i, zSL_6a, zSL_6l, zSL_7n, zSL_7i, zSL_7a, zSL_7l, zSL_8n, zSL_8i, zSL_8a, zSL_8l, zSL_9n, zSL_9i, zSL_9a, zSL_9l, zSL_10n, zSL_10i, zSL_10a, zSL_10l, zSL_11n, zSL_11i, zSL_11a, zSL_11l, zSL_12n, zSL_12i, zSL_12a, zSL_12l, zLI_0, zLL_0, zLA_0, zLI_1, zLL_1, zLA_1, zLI_2, zLL_2, zLA_2, zLI_3, zLL_3, zLA_3, zLI_4, zLL_4, zLA_4, zLI_5, zLL_5, zLA_5, zLI_6, zLL_6, zLA_6, zLI_7, zLL_7, zLA_7, zLI_8, zLL_8, zLA_8, zLI_9, zLL_9, zLA_9, zLI_10, zLL_10, zLA_10, zLI_11, zLL_11, zLA_11, zLI_12, zLL_12, zLA_12, zLI_13, zLL_13, zLA_13, zst_0, zst_1n, zst_1i, zst_1a, zst_2n, zst_2i, zst_2a, zst_3n, zst_3i, zst_3a, zst_4n, zst_4i, zst_4a, zst_5n, zst_5i, zst_5a, zst_6n, zst_6i, zst_6a, zst_7n, zst_7i, zst_7a, zst_8n, zst_8i, zst_8a, zst_9n, zst_9i, zst_9a, zst_10n, zst_10i, zst_10a, zst_11n, zst_11i, zst_11a, zst_12n, zst_12i, zst_12a, zst_13n, zst_13i, zst_13a, zst_14n, zst_14i, zst_14a, zst_15n, zst_15i, zst_15a, zR1_n, zR1_v, zsum_n, zsum_i, zsum_l, zsum_a, zlen_n, zlen_i, zlen_l, zlen_a, List.not_mem_nil, List.mem_cons, or_false, false_or, or_self, ↓reduceIte, if_false, if_true, Nat.reduceEqDiff, Nat.reduceAdd, Nat.reduceLeDiff, true_and, and_true, reduceCtorEq, ne_eq, Int.toNat_natCast, not_true_eq_false, not_false_eq_true, true_implies, false_implies, implies_true, Int.reduceToNat, Int.toNat_zero, Int.reduceLT, Int.reduceLE, Int.reduceEq, Int.reduceAdd, Int.reduceMul, Int.reduceNeg]
    exact ⟨fun _ => loop 0 (Nat.zero_le _) _, fun h => absurd hz h⟩
  · have hput : zput M.2.1 s lo hi = zfkw M.2.1 s lo hi := if_neg hz
    refine zW_sound 60 [] ?_
    simp only [ZF28, ZR28, ZF29.1, ZF29.2.1, ZF29.2.2.1, zk_3, e29, zW_succ, zE_iload, zE_aload, zE_lload, zE_iinc, zE_istore, zE_astore, zE_lstore, zE_iconst, zE_ldc2, zE_iadd, zE_isub, zE_imul, zE_idiv, zE_irem, zE_ineg, zE_iand, zE_ior, zE_ixor, zE_ishl, zE_ishr, zE_land, zE_lor, zE_lxor, zE_lshl, zE_lshr, zE_i2l, zE_lcmp, zE_dup_i, zE_dup_a, zE_dup2_ia, zE_pop_i, zE_pop_a, zE_pop2, zE_goto, zE_if_eq, zE_icmp_eq, zE_if_ne, zE_icmp_ne, zE_if_lt, zE_icmp_lt, zE_if_ge, zE_icmp_ge, zE_if_gt, zE_icmp_gt, zE_if_le, zE_icmp_le, zE_iaload, zE_baload, zE_laload, zE_aaload, zE_iastore, zE_bastore, zE_lastore, zE_aastore, zE_alen, zE_getf0, zE_getf1, zE_getf2, zE_getf3, zE_putf0, zE_putf1, zE_putf2, zE_putf3, zE_new, zE_newa, zE_newq, zE_ireturn, zE_lreturn, zE_areturn, zE_return, zE_athrow, zE_st0, zE_vi0, zE_st1, zE_vi1, zE_st2, zE_vi2, zE_st3, zE_vi3, zE_st4, zE_vi4, zE_st5, zE_vi5, zE_st6, zE_vi6, zE_st7, zE_vi7, zE_st8, zE_vi8, zSt_0, zSL_0, zSt_1n, zSt_1i, zSt_1a, zSt_1l, zSt_2n, zSt_2i, zSt_2a, zSt_2l, zSt_3n, zSt_3i, zSt_3a, zSt_3l, zSt_4n, zSt_4i, zSt_4a, zSt_4l, zSt_5n, zSt_5i, zSt_5a, zSt_5l, zSt_6n, zSt_6i, zSt_6a, zSt_6l, zSt_7n, zSt_7i, zSt_7a, zSt_7l, zSt_8n, zSt_8i, zSt_8a, zSt_8l, zSt_9n, zSt_9i, zSt_9a, zSt_9l, zSt_10n, zSt_10i, zSt_10a, zSt_10l, zSt_11n, zSt_11i, zSt_11a, zSt_11l, zSt_12n, zSt_12i, zSt_12a, zSt_12l, zSt_13n, zSt_13i, zSt_13a, zSt_13l, zSL_1n, zSL_1i, zSL_1a, zSL_1l, zSL_2n, zSL_2i, zSL_2a, zSL_2l, zSL_3n, zSL_3i, zSL_3a, zSL_3l, zSL_4n, zSL_4i, zSL_4a, zSL_4l, zSL_5n, zSL_5i, zSL_5a, zSL_5l, zSL_6n, zSL_6i, zSL_6a, zSL_6l, zSL_7n, zSL_7i, zSL_7a, zSL_7l, zSL_8n, zSL_8i, zSL_8a, zSL_8l, zSL_9n, zSL_9i, zSL_9a, zSL_9l, zSL_10n, zSL_10i, zSL_10a, zSL_10l, zSL_11n, zSL_11i, zSL_11a, zSL_11l, zSL_12n, zSL_12i, zSL_12a, zSL_12l, zLI_0, zLL_0, zLA_0, zLI_1, zLL_1, zLA_1, zLI_2, zLL_2, zLA_2, zLI_3, zLL_3, zLA_3, zLI_4, zLL_4, zLA_4, zLI_5, zLL_5, zLA_5, zLI_6, zLL_6, zLA_6, zLI_7, zLL_7, zLA_7, zLI_8, zLL_8, zLA_8, zLI_9, zLL_9, zLA_9, zLI_10, zLL_10, zLA_10, zLI_11, zLL_11, zLA_11, zLI_12, zLL_12, zLA_12, zLI_13, zLL_13, zLA_13, zst_0, zst_1n, zst_1i, zst_1a, zst_2n, zst_2i, zst_2a, zst_3n, zst_3i, zst_3a, zst_4n, zst_4i, zst_4a, zst_5n, zst_5i, zst_5a, zst_6n, zst_6i, zst_6a, zst_7n, zst_7i, zst_7a, zst_8n, zst_8i, zst_8a, zst_9n, zst_9i, zst_9a, zst_10n, zst_10i, zst_10a, zst_11n, zst_11i, zst_11a, zst_12n, zst_12i, zst_12a, zst_13n, zst_13i, zst_13a, zst_14n, zst_14i, zst_14a, zst_15n, zst_15i, zst_15a, zR1_n, zR1_v, zsum_n, zsum_i, zsum_l, zsum_a, zlen_n, zlen_i, zlen_l, zlen_a, List.not_mem_nil, List.mem_cons, or_false, false_or, or_self, ↓reduceIte, if_false, if_true, Nat.reduceEqDiff, Nat.reduceAdd, Nat.reduceLeDiff, true_and, and_true, reduceCtorEq, ne_eq, Int.toNat_natCast, not_true_eq_false, not_false_eq_true, true_implies, false_implies, implies_true, Int.reduceToNat, Int.toNat_zero, Int.reduceLT, Int.reduceLE, Int.reduceEq, Int.reduceAdd, Int.reduceMul, Int.reduceNeg]
    subst hQ
    rw [hput]
    unfold zfkw
    exact ⟨fun h => absurd h hz, fun _ => ⟨rfl, by rw [if_neg hz]⟩⟩
end ZBETWEEN
