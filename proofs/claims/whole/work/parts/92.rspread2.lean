/-! the reference: spread out, the method -/
section ZRSPREADB
variable {L : Nat} {M : zM} {s : Nat} {Q : zO → zM → Prop}
theorem zrfv_ok {f : Nat → Nat → Int} {o : Nat → Int} {n : Nat} (h1 : ∀ j, j < n → ∃ v : Nat, v < 60 ∧ zrFm f v ∧ o j = (v : Int)) (h2 : ∀ i j, i < n → j < n → o i = o j → i = j) : zsok (zrfv f) o n := by
  refine ⟨fun j hj => ?_, h2, fun j hj => ?_⟩
  · obtain ⟨v, a, b, c⟩ := h1 j hj
    exact ⟨v, a, c⟩
  · obtain ⟨v, a, ⟨⟨b1, b2, b3⟩, b4⟩, c⟩ := h1 j hj
    rw [c, Int.toNat_natCast]
    have e9 : ∀ s, zrfv f s 9 = 0 := fun s => rfl
    have e10 : ∀ s, zrfv f s 10 = 0 := fun s => rfl
    have e12 : ∀ s, zrfv f s 12 = 0 := fun s => rfl
    have e14 : ∀ s, zrfv f s 14 = 0 := fun s => rfl
    refine ⟨⟨by rw [e10]; omega, by rw [e9]; omega, fun p hp => ?_⟩, ?_, ?_⟩
    · rw [e10] at hp; omega
    · unfold zFm
      rw [zrfv_l, zrfv_r, e12, e14]
      omega
    · rw [zrfv_l, zrfv_r]
      exact b2
theorem zrgm_r {f0 f : Nat → Nat → Int} {o : Nat → Int} {q r : Int} {n : Nat} (hr : 0 ≤ r) (he : ∀ u, zrEq f f0 u) (h1 : ∀ j, j < n → ∃ v : Nat, v < 60 ∧ zrSw f0 v ∧ zrFm f0 v ∧ o j = (v : Int)) (h2 : ∀ i j, i < n → j < n → o i = o j → i = j) (hq : 0 ≤ q ∧ q ≤ 60) (B : ∀ i : Nat, i + 1 < n → 0 ≤ zspe (zrfv f0) o q r i ∧ zspe (zrfv f0) o q r i ≤ 60) : ∀ i : Nat, i + 1 < n → zrSw (zrgm f (zrfv f0) o q r i) (o i).toNat ∧ zrsd (zrgm f (zrfv f0) o q r i) (o i).toNat 2 = zspe (zrfv f0) o q r i := by
  intro i hi
  cases i with
  | zero =>
    obtain ⟨v, a, b, c, d⟩ := h1 0 (by omega)
    have e : zspe (zrfv f0) o q r 0 = zrfv f0 (14 + 14 * v) 13 := by
      unfold zspe zspw
      rw [d, Int.toNat_natCast]
      have : ((0 : Nat) : Int) * q = 0 := Int.zero_mul q
      omega
    rw [e, zrfv_r, d, Int.toNat_natCast]
    exact ⟨zrEq_w (he v) b, zrEq_d (he v) b 2⟩
  | succ i =>
    obtain ⟨v, a, b, c, d⟩ := h1 (i + 1) (by omega)
    have dst : ∀ k, k < i → v ≠ (o (k + 1)).toNat := by
      intro k hk e
      obtain ⟨u, a2, _, _, d2⟩ := h1 (k + 1) (by omega)
      have := h2 (k + 1) (i + 1) (by omega) (by omega) (by rw [d, d2]; rw [d2, Int.toNat_natCast] at e; omega)
      omega
    have eq : zrEq (zrgm f (zrfv f0) o q r i) f0 v := zrEq_t (zrgm_e i dst) (he v)
    have s1 := zspe_s (zrfv f0) o q r i
    have b1 := B i (by omega)
    have b2 := B (i + 1) (by omega)
    have sd : zspd (zrfv f0) o q r i = zspe (zrfv f0) o q r i + q + (if (i : Int) + 1 ≤ r then 1 else 0) - zrsd f0 v 0 := by
      unfold zspd
      rw [d, Int.toNat_natCast, zrfv_l]
    rw [d, Int.toNat_natCast, zrfv_r] at s1
    rw [zrgm_s, d, Int.toNat_natCast]
    obtain ⟨⟨c1, c2, c3⟩, c4, c5, c6⟩ := c
    have D := zrEq_d eq b
    have if1 : 0 ≤ (if (i : Int) + 1 ≤ r then (1 : Int) else 0) ∧ (if (i : Int) + 1 ≤ r then (1 : Int) else 0) ≤ 1 := by split <;> omega
    generalize (if (i : Int) + 1 ≤ r then (1 : Int) else 0) = w at *
    have fm : zrFm (zrgm f (zrfv f0) o q r i) v := ⟨by rw [D, D]; exact ⟨c1, c2, c3⟩, by rw [D, D]; exact ⟨c4, c5, c6⟩⟩
    have z := zrsh_d (dx := zspd (zrfv f0) o q r i) (dy := 0) (zrEq_w eq b) fm (by omega) (by rw [D, D]; omega) (by rw [D, D]; omega)
    refine ⟨zrsh_w (zrEq_w eq b) fm (by omega) (by omega), ?_⟩
    rw [z.2.2.1, D, s1]
    exact Int.add_comm _ _
def zrso (f : Nat → Nat → Int) (x : Int64) : Nat → Nat → Int := zua f 1188 (zrwo f x)
def zrsn (x : Int64) : Nat := zcnt (zbt x) 60
def zrsF (f : Nat → Nat → Int) (x : Int64) : Int := zsfr (zrfv f) (zrwo f x) (zrsn x)
def zrsq (f : Nat → Nat → Int) (x : Int64) : Int := zrsF f x / ((zrsn x : Int) - 1)
def zrsr (f : Nat → Nat → Int) (x : Int64) : Int := zrsF f x % ((zrsn x : Int) - 1)
theorem c231 {x : Int64} (hR : zLay M.2.2.2) (hw : ∀ i, i < 60 → zbt x i = true → zrSw M.2.1 i ∧ zrFm M.2.1 i) : zFR (zK L) 231 0 (zcall 231 [.inr (.inr 1153), .inr (.inl x)]) [] M Q = (((3 ≤ zrsn x ∧ 0 ≤ zrsF M.2.1 x) → Q (.inl (some (.inl (zspn (zrfv M.2.1) (zrwo M.2.1 x) (zrsq M.2.1 x) (zrsr M.2.1 x) (zrsn x - 2) : Int)))) (zwI M (zrgm (zrso M.2.1 x) (zrfv M.2.1) (zrwo M.2.1 x) (zrsq M.2.1 x) (zrsr M.2.1 x) (zrsn x - 2)))) ∧ (¬ (3 ≤ zrsn x ∧ 0 ≤ zrsF M.2.1 x) → Q (.inl (some (.inl (-1)))) (zwI M (zrso M.2.1 x)))) := by
  have hF := hR.1
  unfold zLayF at hF
  have e232 := fun Q => c232 (L := L) (M := M) (Q := Q) (x := x) hR (fun i hi hb => (hw i hi hb).1)
  have n60 : zrsn x ≤ 60 := zcnt_le (zbt x) 60
  have hov : ∀ j, j < zrsn x → ∃ v : Nat, v < 60 ∧ zbt x v = true ∧ zrwo M.2.1 x j = (v : Int) := fun j hj => zord_v (zrwl M.2.1) (zbt x) (M.2.1 1188) 60 j hj
  have hinj : ∀ i j, i < zrsn x → j < zrsn x → zrwo M.2.1 x i = zrwo M.2.1 x j → i = j := zord_inj (zrwl M.2.1) (zbt x) (M.2.1 1188) 60
  have hec : zcnt (zbt x) 60 = zrsn x := rfl
  have hua : zua M.2.1 1188 (zrwo M.2.1 x) = zrso M.2.1 x := rfl
  rw [hec, hua] at e232
  have so1 : ∀ j, zrso M.2.1 x 1188 j = zrwo M.2.1 x j := fun j => zua_a
  have heq : ∀ u, zrEq (zrso M.2.1 x) M.2.1 u := fun u => zrEq_ua (by omega)
  have hnn : ∀ j, j < zrsn x → ∃ v : Nat, v < 60 ∧ zrSw M.2.1 v ∧ zrFm M.2.1 v ∧ zrwo M.2.1 x j = (v : Int) := fun j hj => by
    obtain ⟨v, a, b, c⟩ := hov j hj
    exact ⟨v, a, (hw v a b).1, (hw v a b).2, c⟩
  have hok : zsok (zrfv M.2.1) (zrwo M.2.1 x) (zrsn x) := zrfv_ok (fun j hj => by
    obtain ⟨v, a, b, c, d⟩ := hnn j hj
    exact ⟨v, a, c, d⟩) hinj
  have eq9 : zrsq M.2.1 x = zrsF M.2.1 x / ((zrsn x : Int) - 1) := rfl
  have er9 : zrsr M.2.1 x = zrsF M.2.1 x % ((zrsn x : Int) - 1) := rfl
  have eF9 : zrsF M.2.1 x = zsfr (zrfv M.2.1) (zrwo M.2.1 x) (zrsn x) := rfl
  generalize zrso M.2.1 x = g0 at *
  generalize zrwo M.2.1 x = o at *
  generalize zrsn x = n at *
  generalize zrsq M.2.1 x = q at *
  generalize zrsr M.2.1 x = r at *
  generalize zrsF M.2.1 x = F at *
  have e216 : ∀ (v w : Nat) (Q : zO → zM → Prop), v < 60 → w < 4 → zrSw M.2.1 v → ∀ g : Nat → Nat → Int, zrEq g M.2.1 v → zFR (zK L) 216 0 (zcall 216 [.inr (.inr 1153), .inl (v : Int), .inl (w : Int)]) [] (zwI M g) Q = Q (.inl (some (.inl (zrsd M.2.1 v w)))) (zwI M g) := by
    intro v w Q hv hw4 hs g hg
    have h := c216 (L := L) (M := zwI M g) (Q := Q) (s := v) (w := w) hR (by omega) hw4 (zrEq_w hg hs)
    rw [zwI_I, zrEq_d hg hs] at h
    exact h
  have pre : 3 ≤ n → ∀ Q9 : zO → zM → Prop, zFR (zK L) 231 87 [some (.inr (.inr 1153)), some (.inr (.inl x)), none, some (.inl (n : Int)), some (.inl F), some (.inl ((n : Int) - 1)), none, none, none] [] (zwI M g0) Q9 → zFR (zK L) 231 0 (zcall 231 [.inr (.inr 1153), .inr (.inl x)]) [] M Q9 := by
    intro h3 Q9 hend
    obtain ⟨v0, a0, b0, c0, d0⟩ := hnn 0 (by omega)
    obtain ⟨v1, a1, b1, c1, d1⟩ := hnn (n - 1) (by omega)
    have eF8 : F = zrsd M.2.1 v1 0 - zrsd M.2.1 v0 2 - zspw (zrfv M.2.1) o (n - 2) := by
      rw [eF9]
      unfold zsfr
      rw [d0, d1, Int.toNat_natCast, Int.toNat_natCast, zrfv_l, zrfv_r]
    have wb : ∀ i : Nat, i + 1 < n → 0 ≤ zspw (zrfv M.2.1) o i ∧ zspw (zrfv M.2.1) o i ≤ 60 * (i : Int) := by
      intro i hi
      refine ⟨zspw_0 hok hi, ?_⟩
      induction i with
      | zero => exact Int.le_refl _
      | succ i ih =>
        have := ih (by omega)
        obtain ⟨v, a, b, ⟨⟨c1, c2, c3⟩, c4⟩, d⟩ := hnn (i + 1) (by omega)
        rw [zspw_s, d, Int.toNat_natCast, zrfv_l, zrfv_r]
        omega
    obtain ⟨⟨c01, c02, c03⟩, c04⟩ := c0
    obtain ⟨⟨c11, c12, c13⟩, c14⟩ := c1
    have lp : ∀ i : Nat, i ≤ n - 2 → zFR (zK L) 231 43 [some (.inr (.inr 1153)), some (.inr (.inl x)), none, some (.inl (n : Int)), some (.inl (zrsd M.2.1 v1 0 - zrsd M.2.1 v0 2 - zspw (zrfv M.2.1) o i)), some (.inl ((i : Int) + 1)), none, none, none] [] (zwI M g0) Q9 := by
      refine zloop ?_ ?_
      · rw [← eF8, show ((n - 2 : Nat) : Int) + 1 = (n : Int) - 1 by omega]
        refine zW_sound 60 [51, 87] ?_
        simp only [ZR231, zW_succ, zE_iload, zE_aload, zE_lload, zE_iinc, zE_istore, zE_astore, zE_lstore, zE_iconst, zE_ldc2, zE_iadd, zE_isub, zE_imul, zE_idiv, zE_irem, zE_ineg, zE_iand, zE_ior, zE_ixor, zE_ishl, zE_ishr, zE_land, zE_lor, zE_lxor, zE_lshl, zE_lshr, zE_i2l, zE_lcmp, zE_dup_i, zE_dup_a, zE_dup2_ia, zE_pop_i, zE_pop_a, zE_pop2, zE_goto, zE_if_eq, zE_icmp_eq, zE_if_ne, zE_icmp_ne, zE_if_lt, zE_icmp_lt, zE_if_ge, zE_icmp_ge, zE_if_gt, zE_icmp_gt, zE_if_le, zE_icmp_le, zE_iaload, zE_baload, zE_laload, zE_aaload, zE_iastore, zE_bastore, zE_lastore, zE_aastore, zE_alen, zE_getf0, zE_getf1, zE_getf2, zE_getf3, zE_putf0, zE_putf1, zE_putf2, zE_putf3, zE_new, zE_newa, zE_newq, zE_ireturn, zE_lreturn, zE_areturn, zE_return, zE_athrow, zE_st0, zE_vi0, zE_st1, zE_vi1, zE_st2, zE_vi2, zE_st3, zE_vi3, zE_st4, zE_vi4, zE_st5, zE_vi5, zE_st6, zE_vi6, zE_st7, zE_vi7, zE_st8, zE_vi8, zSt_0, zSL_0, zSt_1n, zSt_1i, zSt_1a, zSt_1l, zSt_2n, zSt_2i, zSt_2a, zSt_2l, zSt_3n, zSt_3i, zSt_3a, zSt_3l, zSt_4n, zSt_4i, zSt_4a, zSt_4l, zSt_5n, zSt_5i, zSt_5a, zSt_5l, zSt_6n, zSt_6i, zSt_6a, zSt_6l, zSt_7n, zSt_7i, zSt_7a, zSt_7l, zSt_8n, zSt_8i, zSt_8a, zSt_8l, zSt_9n, zSt_9i, zSt_9a, zSt_9l, zSt_10n, zSt_10i, zSt_10a, zSt_10l, zSt_11n, zSt_11i, zSt_11a, zSt_11l, zSt_12n, zSt_12i, zSt_12a, zSt_12l, zSt_13n, zSt_13i, zSt_13a, zSt_13l, zSL_1n, zSL_1i, zSL_1a, zSL_1l, zSL_2n, zSL_2i, zSL_2a, zSL_2l, zSL_3n, zSL_3i, zSL_3a, zSL_3l, zSL_4n, zSL_4i, zSL_4a, zSL_4l, zSL_5n, zSL_5i, zSL_5a, zSL_5l, zSL_6n, zSL_6i, zSL_6a, zSL_6l, zSL_7n, zSL_7i, zSL_7a, zSL_7l, zSL_8n, zSL_8i, zSL_8a, zSL_8l, zSL_9n, zSL_9i, zSL_9a, zSL_9l, zSL_10n, zSL_10i, zSL_10a, zSL_10l, zSL_11n, zSL_11i, zSL_11a, zSL_11l, zSL_12n, zSL_12i, zSL_12a, zSL_12l, zLI_0, zLL_0, zLA_0, zLI_1, zLL_1, zLA_1, zLI_2, zLL_2, zLA_2, zLI_3, zLL_3, zLA_3, zLI_4, zLL_4, zLA_4, zLI_5, zLL_5, zLA_5, zLI_6, zLL_6, zLA_6, zLI_7, zLL_7, zLA_7, zLI_8, zLL_8, zLA_8, zLI_9, zLL_9, zLA_9, zLI_10, zLL_10, zLA_10, zLI_11, zLL_11, zLA_11, zLI_12, zLL_12, zLA_12, zLI_13, zLL_13, zLA_13, zst_0, zst_1n, zst_1i, zst_1a, zst_2n, zst_2i, zst_2a, zst_3n, zst_3i, zst_3a, zst_4n, zst_4i, zst_4a, zst_5n, zst_5i, zst_5a, zst_6n, zst_6i, zst_6a, zst_7n, zst_7i, zst_7a, zst_8n, zst_8i, zst_8a, zst_9n, zst_9i, zst_9a, zst_10n, zst_10i, zst_10a, zst_11n, zst_11i, zst_11a, zst_12n, zst_12i, zst_12a, zst_13n, zst_13i, zst_13a, zst_14n, zst_14i, zst_14a, zst_15n, zst_15i, zst_15a, zR1_n, zR1_v, zsum_n, zsum_i, zsum_l, zsum_a, zlen_n, zlen_i, zlen_l, zlen_a, List.not_mem_nil, List.mem_cons, or_false, false_or, or_self, ↓reduceIte, if_false, if_true, Nat.reduceEqDiff, Nat.reduceAdd, Nat.reduceLeDiff, true_and, and_true, reduceCtorEq, ne_eq, Int.toNat_natCast, not_true_eq_false, not_false_eq_true, true_implies, false_implies, implies_true, Int.reduceToNat, Int.toNat_zero, Int.reduceLT, Int.reduceLE, Int.reduceEq, Int.reduceAdd, Int.reduceMul, Int.reduceNeg]
        exact ⟨by unfold zr32; omega, fun _ => hend, fun h => absurd (by omega) h⟩
      · intro i hi ih
        obtain ⟨v, a, b, ⟨⟨c1, c2, c3⟩, c4⟩, d⟩ := hnn (i + 1) (by omega)
        have w1 := wb i (by omega)
        have s1 := zspw_s (zrfv M.2.1) o i
        rw [d, Int.toNat_natCast, zrfv_l, zrfv_r] at s1
        have eT : ((i : Int) + 1).toNat = i + 1 := by omega
        have x0 := fun Q => e216 v 0 Q a (by omega) b g0 (heq v)
        have x2 := fun Q => e216 v 2 Q a (by omega) b g0 (heq v)
        rw [show ((0 : Nat) : Int) = 0 from rfl] at x0
        rw [show ((2 : Nat) : Int) = 2 from rfl] at x2
        generalize zspw (zrfv M.2.1) o i = W at *
        generalize zspw (zrfv M.2.1) o (i + 1) = W' at *
        rw [show zrsd M.2.1 v1 0 - zrsd M.2.1 v0 2 - W' = zrsd M.2.1 v1 0 - zrsd M.2.1 v0 2 - W - (zrsd M.2.1 v 2 - zrsd M.2.1 v 0) by omega] at ih
        refine zW_sound 60 [43, 87] ?_
        simp only [ZR231, zk_1153, zk_1188, hF, zwI_I, zwI_2, so1, eT, d, ZF216.1, ZF216.2.1, ZF216.2.2.1, x0, x2, zW_succ, zE_iload, zE_aload, zE_lload, zE_iinc, zE_istore, zE_astore, zE_lstore, zE_iconst, zE_ldc2, zE_iadd, zE_isub, zE_imul, zE_idiv, zE_irem, zE_ineg, zE_iand, zE_ior, zE_ixor, zE_ishl, zE_ishr, zE_land, zE_lor, zE_lxor, zE_lshl, zE_lshr, zE_i2l, zE_lcmp, zE_dup_i, zE_dup_a, zE_dup2_ia, zE_pop_i, zE_pop_a, zE_pop2, zE_goto, zE_if_eq, zE_icmp_eq, zE_if_ne, zE_icmp_ne, zE_if_lt, zE_icmp_lt, zE_if_ge, zE_icmp_ge, zE_if_gt, zE_icmp_gt, zE_if_le, zE_icmp_le, zE_iaload, zE_baload, zE_laload, zE_aaload, zE_iastore, zE_bastore, zE_lastore, zE_aastore, zE_alen, zE_getf0, zE_getf1, zE_getf2, zE_getf3, zE_putf0, zE_putf1, zE_putf2, zE_putf3, zE_new, zE_newa, zE_newq, zE_ireturn, zE_lreturn, zE_areturn, zE_return, zE_athrow, zE_st0, zE_vi0, zE_st1, zE_vi1, zE_st2, zE_vi2, zE_st3, zE_vi3, zE_st4, zE_vi4, zE_st5, zE_vi5, zE_st6, zE_vi6, zE_st7, zE_vi7, zE_st8, zE_vi8, zSt_0, zSL_0, zSt_1n, zSt_1i, zSt_1a, zSt_1l, zSt_2n, zSt_2i, zSt_2a, zSt_2l, zSt_3n, zSt_3i, zSt_3a, zSt_3l, zSt_4n, zSt_4i, zSt_4a, zSt_4l, zSt_5n, zSt_5i, zSt_5a, zSt_5l, zSt_6n, zSt_6i, zSt_6a, zSt_6l, zSt_7n, zSt_7i, zSt_7a, zSt_7l, zSt_8n, zSt_8i, zSt_8a, zSt_8l, zSt_9n, zSt_9i, zSt_9a, zSt_9l, zSt_10n, zSt_10i, zSt_10a, zSt_10l, zSt_11n, zSt_11i, zSt_11a, zSt_11l, zSt_12n, zSt_12i, zSt_12a, zSt_12l, zSt_13n, zSt_13i, zSt_13a, zSt_13l, zSL_1n, zSL_1i, zSL_1a, zSL_1l, zSL_2n, zSL_2i, zSL_2a, zSL_2l, zSL_3n, zSL_3i, zSL_3a, zSL_3l, zSL_4n, zSL_4i, zSL_4a, zSL_4l, zSL_5n, zSL_5i, zSL_5a, zSL_5l, zSL_6n, zSL_6i, zSL_6a, zSL_6l, zSL_7n, zSL_7i, zSL_7a, zSL_7l, zSL_8n, zSL_8i, zSL_8a, zSL_8l, zSL_9n, zSL_9i, zSL_9a, zSL_9l, zSL_10n, zSL_10i, zSL_10a, zSL_10l, zSL_11n, zSL_11i, zSL_11a, zSL_11l, zSL_12n, zSL_12i, zSL_12a, zSL_12l, zLI_0, zLL_0, zLA_0, zLI_1, zLL_1, zLA_1, zLI_2, zLL_2, zLA_2, zLI_3, zLL_3, zLA_3, zLI_4, zLL_4, zLA_4, zLI_5, zLL_5, zLA_5, zLI_6, zLL_6, zLA_6, zLI_7, zLL_7, zLA_7, zLI_8, zLL_8, zLA_8, zLI_9, zLL_9, zLA_9, zLI_10, zLL_10, zLA_10, zLI_11, zLL_11, zLA_11, zLI_12, zLL_12, zLA_12, zLI_13, zLL_13, zLA_13, zst_0, zst_1n, zst_1i, zst_1a, zst_2n, zst_2i, zst_2a, zst_3n, zst_3i, zst_3a, zst_4n, zst_4i, zst_4a, zst_5n, zst_5i, zst_5a, zst_6n, zst_6i, zst_6a, zst_7n, zst_7i, zst_7a, zst_8n, zst_8i, zst_8a, zst_9n, zst_9i, zst_9a, zst_10n, zst_10i, zst_10a, zst_11n, zst_11i, zst_11a, zst_12n, zst_12i, zst_12a, zst_13n, zst_13i, zst_13a, zst_14n, zst_14i, zst_14a, zst_15n, zst_15i, zst_15a, zR1_n, zR1_v, zsum_n, zsum_i, zsum_l, zsum_a, zlen_n, zlen_i, zlen_l, zlen_a, List.not_mem_nil, List.mem_cons, or_false, false_or, or_self, ↓reduceIte, if_false, if_true, Nat.reduceEqDiff, Nat.reduceAdd, Nat.reduceLeDiff, true_and, and_true, reduceCtorEq, ne_eq, Int.toNat_natCast, not_true_eq_false, not_false_eq_true, true_implies, false_implies, implies_true, Int.reduceToNat, Int.toNat_zero, Int.reduceLT, Int.reduceLE, Int.reduceEq, Int.reduceAdd, Int.reduceMul, Int.reduceNeg]
        exact ⟨by unfold zr32; omega, fun h => absurd h (by omega), fun _ => ⟨by omega, by omega, by unfold zr32; omega, by unfold zr32; omega, by unfold zr32; omega, ih⟩⟩
    have x0 := fun Q => e216 v1 0 Q a1 (by omega) b1 g0 (heq v1)
    have x2 := fun Q => e216 v0 2 Q a0 (by omega) b0 g0 (heq v0)
    rw [show ((0 : Nat) : Int) = 0 from rfl] at x0
    rw [show ((2 : Nat) : Int) = 2 from rfl] at x2
    have o9 := lp 0 (Nat.zero_le _)
    have ew : zspw (zrfv M.2.1) o 0 = 0 := rfl
    rw [ew, Int.sub_zero, show ((0 : Nat) : Int) + 1 = 1 from rfl] at o9
    have eT : ((n : Int) - 1).toNat = n - 1 := by omega
    refine zW_sound 60 [43] ?_
    simp only [ZF231, ZR231, ZF232.1, ZF232.2.1, ZF232.2.2.1, e232, zk_1153, zk_1188, hF, zwI_I, zwI_2, so1, eT, d0, d1, ZF216.1, ZF216.2.1, ZF216.2.2.1, x0, x2, zW_succ, zE_iload, zE_aload, zE_lload, zE_iinc, zE_istore, zE_astore, zE_lstore, zE_iconst, zE_ldc2, zE_iadd, zE_isub, zE_imul, zE_idiv, zE_irem, zE_ineg, zE_iand, zE_ior, zE_ixor, zE_ishl, zE_ishr, zE_land, zE_lor, zE_lxor, zE_lshl, zE_lshr, zE_i2l, zE_lcmp, zE_dup_i, zE_dup_a, zE_dup2_ia, zE_pop_i, zE_pop_a, zE_pop2, zE_goto, zE_if_eq, zE_icmp_eq, zE_if_ne, zE_icmp_ne, zE_if_lt, zE_icmp_lt, zE_if_ge, zE_icmp_ge, zE_if_gt, zE_icmp_gt, zE_if_le, zE_icmp_le, zE_iaload, zE_baload, zE_laload, zE_aaload, zE_iastore, zE_bastore, zE_lastore, zE_aastore, zE_alen, zE_getf0, zE_getf1, zE_getf2, zE_getf3, zE_putf0, zE_putf1, zE_putf2, zE_putf3, zE_new, zE_newa, zE_newq, zE_ireturn, zE_lreturn, zE_areturn, zE_return, zE_athrow, zE_st0, zE_vi0, zE_st1, zE_vi1, zE_st2, zE_vi2, zE_st3, zE_vi3, zE_st4, zE_vi4, zE_st5, zE_vi5, zE_st6, zE_vi6, zE_st7, zE_vi7, zE_st8, zE_vi8, zSt_0, zSL_0, zSt_1n, zSt_1i, zSt_1a, zSt_1l, zSt_2n, zSt_2i, zSt_2a, zSt_2l, zSt_3n, zSt_3i, zSt_3a, zSt_3l, zSt_4n, zSt_4i, zSt_4a, zSt_4l, zSt_5n, zSt_5i, zSt_5a, zSt_5l, zSt_6n, zSt_6i, zSt_6a, zSt_6l, zSt_7n, zSt_7i, zSt_7a, zSt_7l, zSt_8n, zSt_8i, zSt_8a, zSt_8l, zSt_9n, zSt_9i, zSt_9a, zSt_9l, zSt_10n, zSt_10i, zSt_10a, zSt_10l, zSt_11n, zSt_11i, zSt_11a, zSt_11l, zSt_12n, zSt_12i, zSt_12a, zSt_12l, zSt_13n, zSt_13i, zSt_13a, zSt_13l, zSL_1n, zSL_1i, zSL_1a, zSL_1l, zSL_2n, zSL_2i, zSL_2a, zSL_2l, zSL_3n, zSL_3i, zSL_3a, zSL_3l, zSL_4n, zSL_4i, zSL_4a, zSL_4l, zSL_5n, zSL_5i, zSL_5a, zSL_5l, zSL_6n, zSL_6i, zSL_6a, zSL_6l, zSL_7n, zSL_7i, zSL_7a, zSL_7l, zSL_8n, zSL_8i, zSL_8a, zSL_8l, zSL_9n, zSL_9i, zSL_9a, zSL_9l, zSL_10n, zSL_10i, zSL_10a, zSL_10l, zSL_11n, zSL_11i, zSL_11a, zSL_11l, zSL_12n, zSL_12i, zSL_12a, zSL_12l, zLI_0, zLL_0, zLA_0, zLI_1, zLL_1, zLA_1, zLI_2, zLL_2, zLA_2, zLI_3, zLL_3, zLA_3, zLI_4, zLL_4, zLA_4, zLI_5, zLL_5, zLA_5, zLI_6, zLL_6, zLA_6, zLI_7, zLL_7, zLA_7, zLI_8, zLL_8, zLA_8, zLI_9, zLL_9, zLA_9, zLI_10, zLL_10, zLA_10, zLI_11, zLL_11, zLA_11, zLI_12, zLL_12, zLA_12, zLI_13, zLL_13, zLA_13, zst_0, zst_1n, zst_1i, zst_1a, zst_2n, zst_2i, zst_2a, zst_3n, zst_3i, zst_3a, zst_4n, zst_4i, zst_4a, zst_5n, zst_5i, zst_5a, zst_6n, zst_6i, zst_6a, zst_7n, zst_7i, zst_7a, zst_8n, zst_8i, zst_8a, zst_9n, zst_9i, zst_9a, zst_10n, zst_10i, zst_10a, zst_11n, zst_11i, zst_11a, zst_12n, zst_12i, zst_12a, zst_13n, zst_13i, zst_13a, zst_14n, zst_14i, zst_14a, zst_15n, zst_15i, zst_15a, zR1_n, zR1_v, zsum_n, zsum_i, zsum_l, zsum_a, zlen_n, zlen_i, zlen_l, zlen_a, List.not_mem_nil, List.mem_cons, or_false, false_or, or_self, ↓reduceIte, if_false, if_true, Nat.reduceEqDiff, Nat.reduceAdd, Nat.reduceLeDiff, true_and, and_true, reduceCtorEq, ne_eq, Int.toNat_natCast, not_true_eq_false, not_false_eq_true, true_implies, false_implies, implies_true, Int.reduceToNat, Int.toNat_zero, Int.reduceLT, Int.reduceLE, Int.reduceEq, Int.reduceAdd, Int.reduceMul, Int.reduceNeg]
    refine ⟨fun _ => ?_, fun h => absurd (by omega) h⟩
    repeat (first | refine ⟨by unfold zr32; omega, ?_⟩ | refine ⟨by omega, ?_⟩ | refine ⟨?_, by omega⟩ | intro _)
    exact o9
  by_cases h3 : 3 ≤ n
  · by_cases h0 : 0 ≤ F
    · have run : zFR (zK L) 231 0 (zcall 231 [.inr (.inr 1153), .inr (.inl x)]) [] M (fun rr M2 => rr = .inl (some (.inl (zspn (zrfv M.2.1) o q r (n - 2) : Int))) ∧ M2 = zwI M (zrgm g0 (zrfv M.2.1) o q r (n - 2))) := by
        generalize hQ : (fun (rr : zO) M2 => rr = .inl (some (.inl (zspn (zrfv M.2.1) o q r (n - 2) : Int))) ∧ M2 = zwI M (zrgm g0 (zrfv M.2.1) o q r (n - 2))) = Q9
        refine pre h3 Q9 ?_
        have B : ∀ i : Nat, i + 1 < n → 0 ≤ zspe (zrfv M.2.1) o q r i ∧ zspe (zrfv M.2.1) o q r i ≤ 60 := by
          intro i hi
          have h := zspe_b hok h3 hi (by rw [← eF9]; exact h0)
          rw [← eF9, ← eq9, ← er9] at h
          exact h
        have F60 : F ≤ 60 := by
          obtain ⟨v0, a0, b0, ⟨⟨c01, c02, c03⟩, c04⟩, d0⟩ := hnn 0 (by omega)
          obtain ⟨v1, a1, b1, ⟨⟨c11, c12, c13⟩, c14⟩, d1⟩ := hnn (n - 1) (by omega)
          have w0 := zspw_0 (i := n - 2) hok (by omega)
          rw [eF9]
          unfold zsfr
          rw [d0, d1, Int.toNat_natCast, Int.toNat_natCast, zrfv_l, zrfv_r]
          omega
        have eq1 : F.tdiv ((n : Int) - 1) = q := by rw [eq9]; exact Int.tdiv_eq_ediv_of_nonneg h0
        have eq2 : F.tmod ((n : Int) - 1) = r := by rw [er9]; exact Int.tmod_eq_emod_of_nonneg h0
        have hq : 0 ≤ q := by rw [eq9]; exact Int.ediv_nonneg h0 (by omega)
        have hq2 : q ≤ F := by rw [eq9]; exact Int.ediv_le_self _ h0
        have hr : 0 ≤ r := by rw [er9]; exact Int.emod_nonneg F (by omega)
        have R := zrgm_r (q := q) hr heq hnn hinj ⟨hq, by omega⟩ B
        have loop : ∀ i : Nat, i ≤ n - 2 → ∀ y7 y8, zFR (zK L) 231 100 [some (.inr (.inr 1153)), some (.inr (.inl x)), none, some (.inl (n : Int)), some (.inl F), some (.inl (zspn (zrfv M.2.1) o q r i : Int)), some (.inl ((i : Int) + 1)), y7, y8] [] (zwI M (zrgm g0 (zrfv M.2.1) o q r i)) Q9 := by
          refine zloop ?_ ?_
          · intro y7 y8
            refine zW_sound 60 [108] ?_
            simp only [ZR231, zW_succ, zE_iload, zE_aload, zE_lload, zE_iinc, zE_istore, zE_astore, zE_lstore, zE_iconst, zE_ldc2, zE_iadd, zE_isub, zE_imul, zE_idiv, zE_irem, zE_ineg, zE_iand, zE_ior, zE_ixor, zE_ishl, zE_ishr, zE_land, zE_lor, zE_lxor, zE_lshl, zE_lshr, zE_i2l, zE_lcmp, zE_dup_i, zE_dup_a, zE_dup2_ia, zE_pop_i, zE_pop_a, zE_pop2, zE_goto, zE_if_eq, zE_icmp_eq, zE_if_ne, zE_icmp_ne, zE_if_lt, zE_icmp_lt, zE_if_ge, zE_icmp_ge, zE_if_gt, zE_icmp_gt, zE_if_le, zE_icmp_le, zE_iaload, zE_baload, zE_laload, zE_aaload, zE_iastore, zE_bastore, zE_lastore, zE_aastore, zE_alen, zE_getf0, zE_getf1, zE_getf2, zE_getf3, zE_putf0, zE_putf1, zE_putf2, zE_putf3, zE_new, zE_newa, zE_newq, zE_ireturn, zE_lreturn, zE_areturn, zE_return, zE_athrow, zE_st0, zE_vi0, zE_st1, zE_vi1, zE_st2, zE_vi2, zE_st3, zE_vi3, zE_st4, zE_vi4, zE_st5, zE_vi5, zE_st6, zE_vi6, zE_st7, zE_vi7, zE_st8, zE_vi8, zSt_0, zSL_0, zSt_1n, zSt_1i, zSt_1a, zSt_1l, zSt_2n, zSt_2i, zSt_2a, zSt_2l, zSt_3n, zSt_3i, zSt_3a, zSt_3l, zSt_4n, zSt_4i, zSt_4a, zSt_4l, zSt_5n, zSt_5i, zSt_5a, zSt_5l, zSt_6n, zSt_6i, zSt_6a, zSt_6l, zSt_7n, zSt_7i, zSt_7a, zSt_7l, zSt_8n, zSt_8i, zSt_8a, zSt_8l, zSt_9n, zSt_9i, zSt_9a, zSt_9l, zSt_10n, zSt_10i, zSt_10a, zSt_10l, zSt_11n, zSt_11i, zSt_11a, zSt_11l, zSt_12n, zSt_12i, zSt_12a, zSt_12l, zSt_13n, zSt_13i, zSt_13a, zSt_13l, zSL_1n, zSL_1i, zSL_1a, zSL_1l, zSL_2n, zSL_2i, zSL_2a, zSL_2l, zSL_3n, zSL_3i, zSL_3a, zSL_3l, zSL_4n, zSL_4i, zSL_4a, zSL_4l, zSL_5n, zSL_5i, zSL_5a, zSL_5l, zSL_6n, zSL_6i, zSL_6a, zSL_6l, zSL_7n, zSL_7i, zSL_7a, zSL_7l, zSL_8n, zSL_8i, zSL_8a, zSL_8l, zSL_9n, zSL_9i, zSL_9a, zSL_9l, zSL_10n, zSL_10i, zSL_10a, zSL_10l, zSL_11n, zSL_11i, zSL_11a, zSL_11l, zSL_12n, zSL_12i, zSL_12a, zSL_12l, zLI_0, zLL_0, zLA_0, zLI_1, zLL_1, zLA_1, zLI_2, zLL_2, zLA_2, zLI_3, zLL_3, zLA_3, zLI_4, zLL_4, zLA_4, zLI_5, zLL_5, zLA_5, zLI_6, zLL_6, zLA_6, zLI_7, zLL_7, zLA_7, zLI_8, zLL_8, zLA_8, zLI_9, zLL_9, zLA_9, zLI_10, zLL_10, zLA_10, zLI_11, zLL_11, zLA_11, zLI_12, zLL_12, zLA_12, zLI_13, zLL_13, zLA_13, zst_0, zst_1n, zst_1i, zst_1a, zst_2n, zst_2i, zst_2a, zst_3n, zst_3i, zst_3a, zst_4n, zst_4i, zst_4a, zst_5n, zst_5i, zst_5a, zst_6n, zst_6i, zst_6a, zst_7n, zst_7i, zst_7a, zst_8n, zst_8i, zst_8a, zst_9n, zst_9i, zst_9a, zst_10n, zst_10i, zst_10a, zst_11n, zst_11i, zst_11a, zst_12n, zst_12i, zst_12a, zst_13n, zst_13i, zst_13a, zst_14n, zst_14i, zst_14a, zst_15n, zst_15i, zst_15a, zR1_n, zR1_v, zsum_n, zsum_i, zsum_l, zsum_a, zlen_n, zlen_i, zlen_l, zlen_a, List.not_mem_nil, List.mem_cons, or_false, false_or, or_self, ↓reduceIte, if_false, if_true, Nat.reduceEqDiff, Nat.reduceAdd, Nat.reduceLeDiff, true_and, and_true, reduceCtorEq, ne_eq, Int.toNat_natCast, not_true_eq_false, not_false_eq_true, true_implies, false_implies, implies_true, Int.reduceToNat, Int.toNat_zero, Int.reduceLT, Int.reduceLE, Int.reduceEq, Int.reduceAdd, Int.reduceMul, Int.reduceNeg]
            subst hQ
            exact ⟨by unfold zr32; omega, fun _ => ⟨rfl, rfl⟩, fun h => absurd (by omega) h⟩
          · intro i hi ih y7 y8
            obtain ⟨v, a, b, c, d⟩ := hnn (i + 1) (by omega)
            obtain ⟨u, au, bu, cu, du⟩ := hnn i (by omega)
            have dst : ∀ k, k < i → v ≠ (o (k + 1)).toNat := by
              intro k hk e
              obtain ⟨w, a2, _, _, d2⟩ := hnn (k + 1) (by omega)
              have := hinj (k + 1) (i + 1) (by omega) (by omega) (by rw [d, d2]; rw [d2, Int.toNat_natCast] at e; omega)
              omega
            have eqv : zrEq (zrgm g0 (zrfv M.2.1) o q r i) M.2.1 v := zrEq_t (zrgm_e i dst) (heq v)
            have Ri := R i (by omega)
            have s1 := zspe_s (zrfv M.2.1) o q r i
            have b1 := B i (by omega)
            have b2 := B (i + 1) (by omega)
            have hns := zspn_s (zrfv M.2.1) o q r i
            have on : zspn (zrfv M.2.1) o q r i ≤ i := zcnt_le _ i
            have sd : zspd (zrfv M.2.1) o q r i = zspe (zrfv M.2.1) o q r i + q + (if (i : Int) + 1 ≤ r then 1 else 0) - zrsd M.2.1 v 0 := by
              unfold zspd
              rw [d, Int.toNat_natCast, zrfv_l]
            obtain ⟨ug, Ri⟩ := Ri
            rw [du, Int.toNat_natCast] at ug Ri
            have vg : zrSw (zrgm g0 (zrfv M.2.1) o q r i) v := zrEq_w eqv b
            have dv0 : zrsd (zrgm g0 (zrfv M.2.1) o q r i) v 0 = zrsd M.2.1 v 0 := zrEq_d eqv b 0
            have eg : ∀ j, zrgm g0 (zrfv M.2.1) o q r i 1188 j = o j := fun j => (zrgm_o (by omega) i).trans (so1 j)
            have hms := zrgm_s g0 (zrfv M.2.1) o q r i
            rw [d, Int.toNat_natCast] at hms
            rw [d, Int.toNat_natCast, zrfv_r] at s1
            obtain ⟨⟨cv1, cv2, cv3⟩, cv4⟩ := c
            generalize zrgm g0 (zrfv M.2.1) o q r i = m at *
            generalize zspe (zrfv M.2.1) o q r i = E at *
            generalize zspe (zrfv M.2.1) o q r (i + 1) = E' at *
            generalize zspn (zrfv M.2.1) o q r i = cc at *
            generalize zspd (zrfv M.2.1) o q r i = dd at *
            have x2 := fun Q => c216 (L := L) (M := zwI M m) (Q := Q) (s := u) (w := 2) hR (by omega) (by omega) ug
            have x0 := fun Q => c216 (L := L) (M := zwI M m) (Q := Q) (s := v) (w := 0) hR (by omega) (by omega) vg
            rw [zwI_I, Ri, show ((2 : Nat) : Int) = 2 from rfl] at x2
            rw [zwI_I, dv0, show ((0 : Nat) : Int) = 0 from rfl] at x0
            have dB : -1000 ≤ dd ∧ dd ≤ 1000 := by
              rw [sd]
              split <;> omega
            have x7 : ∀ Q : zO → zM → Prop, zFR (zK L) 217 0 (zcall 217 [.inr (.inr 1153), .inl (v : Int), .inl dd, .inl 0]) [] (zwI M m) Q = Q (.inl none) (zwI M (zrsh m v dd 0)) := fun Q => c217 (M := zwI M m) hR (by omega) vg dB (by omega)
            have eT : ((i : Int) + 1).toNat = i + 1 := by omega
            have eU : ((i : Int) + 1 - 1).toNat = i := by omega
            have next : ∀ (c' : Nat), c' = zspn (zrfv M.2.1) o q r (i + 1) → ∀ y, zFR (zK L) 231 194 [some (.inr (.inr 1153)), some (.inr (.inl x)), none, some (.inl (n : Int)), some (.inl F), some (.inl (c' : Int)), some (.inl ((i : Int) + 1)), y, some (.inl dd)] [] (zwI M (zrsh m v dd 0)) Q9 := by
              intro c' hc y
              refine zW_sound 60 [100] ?_
              simp only [ZR231, zW_succ, zE_iload, zE_aload, zE_lload, zE_iinc, zE_istore, zE_astore, zE_lstore, zE_iconst, zE_ldc2, zE_iadd, zE_isub, zE_imul, zE_idiv, zE_irem, zE_ineg, zE_iand, zE_ior, zE_ixor, zE_ishl, zE_ishr, zE_land, zE_lor, zE_lxor, zE_lshl, zE_lshr, zE_i2l, zE_lcmp, zE_dup_i, zE_dup_a, zE_dup2_ia, zE_pop_i, zE_pop_a, zE_pop2, zE_goto, zE_if_eq, zE_icmp_eq, zE_if_ne, zE_icmp_ne, zE_if_lt, zE_icmp_lt, zE_if_ge, zE_icmp_ge, zE_if_gt, zE_icmp_gt, zE_if_le, zE_icmp_le, zE_iaload, zE_baload, zE_laload, zE_aaload, zE_iastore, zE_bastore, zE_lastore, zE_aastore, zE_alen, zE_getf0, zE_getf1, zE_getf2, zE_getf3, zE_putf0, zE_putf1, zE_putf2, zE_putf3, zE_new, zE_newa, zE_newq, zE_ireturn, zE_lreturn, zE_areturn, zE_return, zE_athrow, zE_st0, zE_vi0, zE_st1, zE_vi1, zE_st2, zE_vi2, zE_st3, zE_vi3, zE_st4, zE_vi4, zE_st5, zE_vi5, zE_st6, zE_vi6, zE_st7, zE_vi7, zE_st8, zE_vi8, zSt_0, zSL_0, zSt_1n, zSt_1i, zSt_1a, zSt_1l, zSt_2n, zSt_2i, zSt_2a, zSt_2l, zSt_3n, zSt_3i, zSt_3a, zSt_3l, zSt_4n, zSt_4i, zSt_4a, zSt_4l, zSt_5n, zSt_5i, zSt_5a, zSt_5l, zSt_6n, zSt_6i, zSt_6a, zSt_6l, zSt_7n, zSt_7i, zSt_7a, zSt_7l, zSt_8n, zSt_8i, zSt_8a, zSt_8l, zSt_9n, zSt_9i, zSt_9a, zSt_9l, zSt_10n, zSt_10i, zSt_10a, zSt_10l, zSt_11n, zSt_11i, zSt_11a, zSt_11l, zSt_12n, zSt_12i, zSt_12a, zSt_12l, zSt_13n, zSt_13i, zSt_13a, zSt_13l, zSL_1n, zSL_1i, zSL_1a, zSL_1l, zSL_2n, zSL_2i, zSL_2a, zSL_2l, zSL_3n, zSL_3i, zSL_3a, zSL_3l, zSL_4n, zSL_4i, zSL_4a, zSL_4l, zSL_5n, zSL_5i, zSL_5a, zSL_5l, zSL_6n, zSL_6i, zSL_6a, zSL_6l, zSL_7n, zSL_7i, zSL_7a, zSL_7l, zSL_8n, zSL_8i, zSL_8a, zSL_8l, zSL_9n, zSL_9i, zSL_9a, zSL_9l, zSL_10n, zSL_10i, zSL_10a, zSL_10l, zSL_11n, zSL_11i, zSL_11a, zSL_11l, zSL_12n, zSL_12i, zSL_12a, zSL_12l, zLI_0, zLL_0, zLA_0, zLI_1, zLL_1, zLA_1, zLI_2, zLL_2, zLA_2, zLI_3, zLL_3, zLA_3, zLI_4, zLL_4, zLA_4, zLI_5, zLL_5, zLA_5, zLI_6, zLL_6, zLA_6, zLI_7, zLL_7, zLA_7, zLI_8, zLL_8, zLA_8, zLI_9, zLL_9, zLA_9, zLI_10, zLL_10, zLA_10, zLI_11, zLL_11, zLA_11, zLI_12, zLL_12, zLA_12, zLI_13, zLL_13, zLA_13, zst_0, zst_1n, zst_1i, zst_1a, zst_2n, zst_2i, zst_2a, zst_3n, zst_3i, zst_3a, zst_4n, zst_4i, zst_4a, zst_5n, zst_5i, zst_5a, zst_6n, zst_6i, zst_6a, zst_7n, zst_7i, zst_7a, zst_8n, zst_8i, zst_8a, zst_9n, zst_9i, zst_9a, zst_10n, zst_10i, zst_10a, zst_11n, zst_11i, zst_11a, zst_12n, zst_12i, zst_12a, zst_13n, zst_13i, zst_13a, zst_14n, zst_14i, zst_14a, zst_15n, zst_15i, zst_15a, zR1_n, zR1_v, zsum_n, zsum_i, zsum_l, zsum_a, zlen_n, zlen_i, zlen_l, zlen_a, List.not_mem_nil, List.mem_cons, or_false, false_or, or_self, ↓reduceIte, if_false, if_true, Nat.reduceEqDiff, Nat.reduceAdd, Nat.reduceLeDiff, true_and, and_true, reduceCtorEq, ne_eq, Int.toNat_natCast, not_true_eq_false, not_false_eq_true, true_implies, false_implies, implies_true, Int.reduceToNat, Int.toNat_zero, Int.reduceLT, Int.reduceLE, Int.reduceEq, Int.reduceAdd, Int.reduceMul, Int.reduceNeg]
              refine ⟨by unfold zr32; omega, ?_⟩
              rw [hc, ← hms]
              exact ih _ _
            have stp : ∀ g : Int, E + g - zrsd M.2.1 v 0 = dd → 0 ≤ g ∧ g ≤ 61 → zFR (zK L) 231 133 [some (.inr (.inr 1153)), some (.inr (.inl x)), none, some (.inl (n : Int)), some (.inl F), some (.inl (cc : Int)), some (.inl ((i : Int) + 1)), some (.inl g), y8] [] (zwI M m) Q9 := by
              intro g hg hg2
              refine zW_sound 60 [194] ?_
              simp only [ZR231, zk_1153, zk_1188, hF, zwI_I, zwI_2, eg, eT, eU, d, du, ZF216.1, ZF216.2.1, ZF216.2.2.1, x0, x2, hg, ZF217.1, ZF217.2.1, ZF217.2.2.1, x7, Int.add_zero, zW_succ, zE_iload, zE_aload, zE_lload, zE_iinc, zE_istore, zE_astore, zE_lstore, zE_iconst, zE_ldc2, zE_iadd, zE_isub, zE_imul, zE_idiv, zE_irem, zE_ineg, zE_iand, zE_ior, zE_ixor, zE_ishl, zE_ishr, zE_land, zE_lor, zE_lxor, zE_lshl, zE_lshr, zE_i2l, zE_lcmp, zE_dup_i, zE_dup_a, zE_dup2_ia, zE_pop_i, zE_pop_a, zE_pop2, zE_goto, zE_if_eq, zE_icmp_eq, zE_if_ne, zE_icmp_ne, zE_if_lt, zE_icmp_lt, zE_if_ge, zE_icmp_ge, zE_if_gt, zE_icmp_gt, zE_if_le, zE_icmp_le, zE_iaload, zE_baload, zE_laload, zE_aaload, zE_iastore, zE_bastore, zE_lastore, zE_aastore, zE_alen, zE_getf0, zE_getf1, zE_getf2, zE_getf3, zE_putf0, zE_putf1, zE_putf2, zE_putf3, zE_new, zE_newa, zE_newq, zE_ireturn, zE_lreturn, zE_areturn, zE_return, zE_athrow, zE_st0, zE_vi0, zE_st1, zE_vi1, zE_st2, zE_vi2, zE_st3, zE_vi3, zE_st4, zE_vi4, zE_st5, zE_vi5, zE_st6, zE_vi6, zE_st7, zE_vi7, zE_st8, zE_vi8, zSt_0, zSL_0, zSt_1n, zSt_1i, zSt_1a, zSt_1l, zSt_2n, zSt_2i, zSt_2a, zSt_2l, zSt_3n, zSt_3i, zSt_3a, zSt_3l, zSt_4n, zSt_4i, zSt_4a, zSt_4l, zSt_5n, zSt_5i, zSt_5a, zSt_5l, zSt_6n, zSt_6i, zSt_6a, zSt_6l, zSt_7n, zSt_7i, zSt_7a, zSt_7l, zSt_8n, zSt_8i, zSt_8a, zSt_8l, zSt_9n, zSt_9i, zSt_9a, zSt_9l, zSt_10n, zSt_10i, zSt_10a, zSt_10l, zSt_11n, zSt_11i, zSt_11a, zSt_11l, zSt_12n, zSt_12i, zSt_12a, zSt_12l, zSt_13n, zSt_13i, zSt_13a, zSt_13l, zSL_1n, zSL_1i, zSL_1a, zSL_1l, zSL_2n, zSL_2i, zSL_2a, zSL_2l, zSL_3n, zSL_3i, zSL_3a, zSL_3l, zSL_4n, zSL_4i, zSL_4a, zSL_4l, zSL_5n, zSL_5i, zSL_5a, zSL_5l, zSL_6n, zSL_6i, zSL_6a, zSL_6l, zSL_7n, zSL_7i, zSL_7a, zSL_7l, zSL_8n, zSL_8i, zSL_8a, zSL_8l, zSL_9n, zSL_9i, zSL_9a, zSL_9l, zSL_10n, zSL_10i, zSL_10a, zSL_10l, zSL_11n, zSL_11i, zSL_11a, zSL_11l, zSL_12n, zSL_12i, zSL_12a, zSL_12l, zLI_0, zLL_0, zLA_0, zLI_1, zLL_1, zLA_1, zLI_2, zLL_2, zLA_2, zLI_3, zLL_3, zLA_3, zLI_4, zLL_4, zLA_4, zLI_5, zLL_5, zLA_5, zLI_6, zLL_6, zLA_6, zLI_7, zLL_7, zLA_7, zLI_8, zLL_8, zLA_8, zLI_9, zLL_9, zLA_9, zLI_10, zLL_10, zLA_10, zLI_11, zLL_11, zLA_11, zLI_12, zLL_12, zLA_12, zLI_13, zLL_13, zLA_13, zst_0, zst_1n, zst_1i, zst_1a, zst_2n, zst_2i, zst_2a, zst_3n, zst_3i, zst_3a, zst_4n, zst_4i, zst_4a, zst_5n, zst_5i, zst_5a, zst_6n, zst_6i, zst_6a, zst_7n, zst_7i, zst_7a, zst_8n, zst_8i, zst_8a, zst_9n, zst_9i, zst_9a, zst_10n, zst_10i, zst_10a, zst_11n, zst_11i, zst_11a, zst_12n, zst_12i, zst_12a, zst_13n, zst_13i, zst_13a, zst_14n, zst_14i, zst_14a, zst_15n, zst_15i, zst_15a, zR1_n, zR1_v, zsum_n, zsum_i, zsum_l, zsum_a, zlen_n, zlen_i, zlen_l, zlen_a, List.not_mem_nil, List.mem_cons, or_false, false_or, or_self, ↓reduceIte, if_false, if_true, Nat.reduceEqDiff, Nat.reduceAdd, Nat.reduceLeDiff, true_and, and_true, reduceCtorEq, ne_eq, Int.toNat_natCast, not_true_eq_false, not_false_eq_true, true_implies, false_implies, implies_true, Int.reduceToNat, Int.toNat_zero, Int.reduceLT, Int.reduceLE, Int.reduceEq, Int.reduceAdd, Int.reduceMul, Int.reduceNeg]
              refine ⟨by unfold zr32; omega, by omega, by unfold zr32; omega, by omega, by unfold zr32; omega, by omega, fun h => ⟨by unfold zr32; omega, ?_⟩, fun h => ⟨by unfold zr32; omega, ?_⟩⟩
              · rw [if_neg (by omega)] at hns; exact next (cc + 1) hns.symm _
              · rw [if_pos (by omega)] at hns; exact next cc hns.symm _
            refine zW_sound 60 [133, 200] ?_
            simp only [ZR231, eq1, eq2, zW_succ, zE_iload, zE_aload, zE_lload, zE_iinc, zE_istore, zE_astore, zE_lstore, zE_iconst, zE_ldc2, zE_iadd, zE_isub, zE_imul, zE_idiv, zE_irem, zE_ineg, zE_iand, zE_ior, zE_ixor, zE_ishl, zE_ishr, zE_land, zE_lor, zE_lxor, zE_lshl, zE_lshr, zE_i2l, zE_lcmp, zE_dup_i, zE_dup_a, zE_dup2_ia, zE_pop_i, zE_pop_a, zE_pop2, zE_goto, zE_if_eq, zE_icmp_eq, zE_if_ne, zE_icmp_ne, zE_if_lt, zE_icmp_lt, zE_if_ge, zE_icmp_ge, zE_if_gt, zE_icmp_gt, zE_if_le, zE_icmp_le, zE_iaload, zE_baload, zE_laload, zE_aaload, zE_iastore, zE_bastore, zE_lastore, zE_aastore, zE_alen, zE_getf0, zE_getf1, zE_getf2, zE_getf3, zE_putf0, zE_putf1, zE_putf2, zE_putf3, zE_new, zE_newa, zE_newq, zE_ireturn, zE_lreturn, zE_areturn, zE_return, zE_athrow, zE_st0, zE_vi0, zE_st1, zE_vi1, zE_st2, zE_vi2, zE_st3, zE_vi3, zE_st4, zE_vi4, zE_st5, zE_vi5, zE_st6, zE_vi6, zE_st7, zE_vi7, zE_st8, zE_vi8, zSt_0, zSL_0, zSt_1n, zSt_1i, zSt_1a, zSt_1l, zSt_2n, zSt_2i, zSt_2a, zSt_2l, zSt_3n, zSt_3i, zSt_3a, zSt_3l, zSt_4n, zSt_4i, zSt_4a, zSt_4l, zSt_5n, zSt_5i, zSt_5a, zSt_5l, zSt_6n, zSt_6i, zSt_6a, zSt_6l, zSt_7n, zSt_7i, zSt_7a, zSt_7l, zSt_8n, zSt_8i, zSt_8a, zSt_8l, zSt_9n, zSt_9i, zSt_9a, zSt_9l, zSt_10n, zSt_10i, zSt_10a, zSt_10l, zSt_11n, zSt_11i, zSt_11a, zSt_11l, zSt_12n, zSt_12i, zSt_12a, zSt_12l, zSt_13n, zSt_13i, zSt_13a, zSt_13l, zSL_1n, zSL_1i, zSL_1a, zSL_1l, zSL_2n, zSL_2i, zSL_2a, zSL_2l, zSL_3n, zSL_3i, zSL_3a, zSL_3l, zSL_4n, zSL_4i, zSL_4a, zSL_4l, zSL_5n, zSL_5i, zSL_5a, zSL_5l, zSL_6n, zSL_6i, zSL_6a, zSL_6l, zSL_7n, zSL_7i, zSL_7a, zSL_7l, zSL_8n, zSL_8i, zSL_8a, zSL_8l, zSL_9n, zSL_9i, zSL_9a, zSL_9l, zSL_10n, zSL_10i, zSL_10a, zSL_10l, zSL_11n, zSL_11i, zSL_11a, zSL_11l, zSL_12n, zSL_12i, zSL_12a, zSL_12l, zLI_0, zLL_0, zLA_0, zLI_1, zLL_1, zLA_1, zLI_2, zLL_2, zLA_2, zLI_3, zLL_3, zLA_3, zLI_4, zLL_4, zLA_4, zLI_5, zLL_5, zLA_5, zLI_6, zLL_6, zLA_6, zLI_7, zLL_7, zLA_7, zLI_8, zLL_8, zLA_8, zLI_9, zLL_9, zLA_9, zLI_10, zLL_10, zLA_10, zLI_11, zLL_11, zLA_11, zLI_12, zLL_12, zLA_12, zLI_13, zLL_13, zLA_13, zst_0, zst_1n, zst_1i, zst_1a, zst_2n, zst_2i, zst_2a, zst_3n, zst_3i, zst_3a, zst_4n, zst_4i, zst_4a, zst_5n, zst_5i, zst_5a, zst_6n, zst_6i, zst_6a, zst_7n, zst_7i, zst_7a, zst_8n, zst_8i, zst_8a, zst_9n, zst_9i, zst_9a, zst_10n, zst_10i, zst_10a, zst_11n, zst_11i, zst_11a, zst_12n, zst_12i, zst_12a, zst_13n, zst_13i, zst_13a, zst_14n, zst_14i, zst_14a, zst_15n, zst_15i, zst_15a, zR1_n, zR1_v, zsum_n, zsum_i, zsum_l, zsum_a, zlen_n, zlen_i, zlen_l, zlen_a, List.not_mem_nil, List.mem_cons, or_false, false_or, or_self, ↓reduceIte, if_false, if_true, Nat.reduceEqDiff, Nat.reduceAdd, Nat.reduceLeDiff, true_and, and_true, reduceCtorEq, ne_eq, Int.toNat_natCast, not_true_eq_false, not_false_eq_true, true_implies, false_implies, implies_true, Int.reduceToNat, Int.toNat_zero, Int.reduceLT, Int.reduceLE, Int.reduceEq, Int.reduceAdd, Int.reduceMul, Int.reduceNeg]
            refine ⟨by unfold zr32; omega, fun h => absurd h (by omega), fun _ => ⟨by unfold zr32; omega, ⟨by omega, fun h => by omega⟩, by unfold zr32; omega, ⟨by omega, fun h => by omega⟩, fun h => ⟨by unfold zr32; omega, ?_⟩, fun h => ⟨by unfold zr32; omega, ?_⟩⟩⟩
            · exact stp (q + 0) (by rw [sd, if_neg (by omega)]; omega) (by omega)
            · exact stp (q + 1) (by rw [sd, if_pos (by omega)]; omega) (by omega)
        have o9 := loop 0 (Nat.zero_le _)
        have e0 : zspn (zrfv M.2.1) o q r 0 = 0 := rfl
        have em : zrgm g0 (zrfv M.2.1) o q r 0 = g0 := rfl
        rw [e0, em, show ((0 : Nat) : Int) + 1 = 1 from rfl, show ((0 : Nat) : Int) = 0 from rfl] at o9
        refine zW_sound 60 [100] ?_
        simp only [ZR231, zW_succ, zE_iload, zE_aload, zE_lload, zE_iinc, zE_istore, zE_astore, zE_lstore, zE_iconst, zE_ldc2, zE_iadd, zE_isub, zE_imul, zE_idiv, zE_irem, zE_ineg, zE_iand, zE_ior, zE_ixor, zE_ishl, zE_ishr, zE_land, zE_lor, zE_lxor, zE_lshl, zE_lshr, zE_i2l, zE_lcmp, zE_dup_i, zE_dup_a, zE_dup2_ia, zE_pop_i, zE_pop_a, zE_pop2, zE_goto, zE_if_eq, zE_icmp_eq, zE_if_ne, zE_icmp_ne, zE_if_lt, zE_icmp_lt, zE_if_ge, zE_icmp_ge, zE_if_gt, zE_icmp_gt, zE_if_le, zE_icmp_le, zE_iaload, zE_baload, zE_laload, zE_aaload, zE_iastore, zE_bastore, zE_lastore, zE_aastore, zE_alen, zE_getf0, zE_getf1, zE_getf2, zE_getf3, zE_putf0, zE_putf1, zE_putf2, zE_putf3, zE_new, zE_newa, zE_newq, zE_ireturn, zE_lreturn, zE_areturn, zE_return, zE_athrow, zE_st0, zE_vi0, zE_st1, zE_vi1, zE_st2, zE_vi2, zE_st3, zE_vi3, zE_st4, zE_vi4, zE_st5, zE_vi5, zE_st6, zE_vi6, zE_st7, zE_vi7, zE_st8, zE_vi8, zSt_0, zSL_0, zSt_1n, zSt_1i, zSt_1a, zSt_1l, zSt_2n, zSt_2i, zSt_2a, zSt_2l, zSt_3n, zSt_3i, zSt_3a, zSt_3l, zSt_4n, zSt_4i, zSt_4a, zSt_4l, zSt_5n, zSt_5i, zSt_5a, zSt_5l, zSt_6n, zSt_6i, zSt_6a, zSt_6l, zSt_7n, zSt_7i, zSt_7a, zSt_7l, zSt_8n, zSt_8i, zSt_8a, zSt_8l, zSt_9n, zSt_9i, zSt_9a, zSt_9l, zSt_10n, zSt_10i, zSt_10a, zSt_10l, zSt_11n, zSt_11i, zSt_11a, zSt_11l, zSt_12n, zSt_12i, zSt_12a, zSt_12l, zSt_13n, zSt_13i, zSt_13a, zSt_13l, zSL_1n, zSL_1i, zSL_1a, zSL_1l, zSL_2n, zSL_2i, zSL_2a, zSL_2l, zSL_3n, zSL_3i, zSL_3a, zSL_3l, zSL_4n, zSL_4i, zSL_4a, zSL_4l, zSL_5n, zSL_5i, zSL_5a, zSL_5l, zSL_6n, zSL_6i, zSL_6a, zSL_6l, zSL_7n, zSL_7i, zSL_7a, zSL_7l, zSL_8n, zSL_8i, zSL_8a, zSL_8l, zSL_9n, zSL_9i, zSL_9a, zSL_9l, zSL_10n, zSL_10i, zSL_10a, zSL_10l, zSL_11n, zSL_11i, zSL_11a, zSL_11l, zSL_12n, zSL_12i, zSL_12a, zSL_12l, zLI_0, zLL_0, zLA_0, zLI_1, zLL_1, zLA_1, zLI_2, zLL_2, zLA_2, zLI_3, zLL_3, zLA_3, zLI_4, zLL_4, zLA_4, zLI_5, zLL_5, zLA_5, zLI_6, zLL_6, zLA_6, zLI_7, zLL_7, zLA_7, zLI_8, zLL_8, zLA_8, zLI_9, zLL_9, zLA_9, zLI_10, zLL_10, zLA_10, zLI_11, zLL_11, zLA_11, zLI_12, zLL_12, zLA_12, zLI_13, zLL_13, zLA_13, zst_0, zst_1n, zst_1i, zst_1a, zst_2n, zst_2i, zst_2a, zst_3n, zst_3i, zst_3a, zst_4n, zst_4i, zst_4a, zst_5n, zst_5i, zst_5a, zst_6n, zst_6i, zst_6a, zst_7n, zst_7i, zst_7a, zst_8n, zst_8i, zst_8a, zst_9n, zst_9i, zst_9a, zst_10n, zst_10i, zst_10a, zst_11n, zst_11i, zst_11a, zst_12n, zst_12i, zst_12a, zst_13n, zst_13i, zst_13a, zst_14n, zst_14i, zst_14a, zst_15n, zst_15i, zst_15a, zR1_n, zR1_v, zsum_n, zsum_i, zsum_l, zsum_a, zlen_n, zlen_i, zlen_l, zlen_a, List.not_mem_nil, List.mem_cons, or_false, false_or, or_self, ↓reduceIte, if_false, if_true, Nat.reduceEqDiff, Nat.reduceAdd, Nat.reduceLeDiff, true_and, and_true, reduceCtorEq, ne_eq, Int.toNat_natCast, not_true_eq_false, not_false_eq_true, true_implies, false_implies, implies_true, Int.reduceToNat, Int.toNat_zero, Int.reduceLT, Int.reduceLE, Int.reduceEq, Int.reduceAdd, Int.reduceMul, Int.reduceNeg]
        exact ⟨fun _ => o9 _ _, fun h => absurd h0 h⟩
      rw [zFR_det run Q]
      exact propext ⟨fun h => ⟨fun _ => h, fun h2 => absurd ⟨h3, h0⟩ h2⟩, fun h => h.1 ⟨h3, h0⟩⟩
    · have run : zFR (zK L) 231 0 (zcall 231 [.inr (.inr 1153), .inr (.inl x)]) [] M (fun rr M2 => rr = .inl (some (.inl (-1))) ∧ M2 = zwI M g0) := by
        refine pre h3 _ (zW_sound 60 [94] ?_)
        simp only [ZR231, zW_succ, zE_iload, zE_aload, zE_lload, zE_iinc, zE_istore, zE_astore, zE_lstore, zE_iconst, zE_ldc2, zE_iadd, zE_isub, zE_imul, zE_idiv, zE_irem, zE_ineg, zE_iand, zE_ior, zE_ixor, zE_ishl, zE_ishr, zE_land, zE_lor, zE_lxor, zE_lshl, zE_lshr, zE_i2l, zE_lcmp, zE_dup_i, zE_dup_a, zE_dup2_ia, zE_pop_i, zE_pop_a, zE_pop2, zE_goto, zE_if_eq, zE_icmp_eq, zE_if_ne, zE_icmp_ne, zE_if_lt, zE_icmp_lt, zE_if_ge, zE_icmp_ge, zE_if_gt, zE_icmp_gt, zE_if_le, zE_icmp_le, zE_iaload, zE_baload, zE_laload, zE_aaload, zE_iastore, zE_bastore, zE_lastore, zE_aastore, zE_alen, zE_getf0, zE_getf1, zE_getf2, zE_getf3, zE_putf0, zE_putf1, zE_putf2, zE_putf3, zE_new, zE_newa, zE_newq, zE_ireturn, zE_lreturn, zE_areturn, zE_return, zE_athrow, zE_st0, zE_vi0, zE_st1, zE_vi1, zE_st2, zE_vi2, zE_st3, zE_vi3, zE_st4, zE_vi4, zE_st5, zE_vi5, zE_st6, zE_vi6, zE_st7, zE_vi7, zE_st8, zE_vi8, zSt_0, zSL_0, zSt_1n, zSt_1i, zSt_1a, zSt_1l, zSt_2n, zSt_2i, zSt_2a, zSt_2l, zSt_3n, zSt_3i, zSt_3a, zSt_3l, zSt_4n, zSt_4i, zSt_4a, zSt_4l, zSt_5n, zSt_5i, zSt_5a, zSt_5l, zSt_6n, zSt_6i, zSt_6a, zSt_6l, zSt_7n, zSt_7i, zSt_7a, zSt_7l, zSt_8n, zSt_8i, zSt_8a, zSt_8l, zSt_9n, zSt_9i, zSt_9a, zSt_9l, zSt_10n, zSt_10i, zSt_10a, zSt_10l, zSt_11n, zSt_11i, zSt_11a, zSt_11l, zSt_12n, zSt_12i, zSt_12a, zSt_12l, zSt_13n, zSt_13i, zSt_13a, zSt_13l, zSL_1n, zSL_1i, zSL_1a, zSL_1l, zSL_2n, zSL_2i, zSL_2a, zSL_2l, zSL_3n, zSL_3i, zSL_3a, zSL_3l, zSL_4n, zSL_4i, zSL_4a, zSL_4l, zSL_5n, zSL_5i, zSL_5a, zSL_5l, zSL_6n, zSL_6i, zSL_6a, zSL_6l, zSL_7n, zSL_7i, zSL_7a, zSL_7l, zSL_8n, zSL_8i, zSL_8a, zSL_8l, zSL_9n, zSL_9i, zSL_9a, zSL_9l, zSL_10n, zSL_10i, zSL_10a, zSL_10l, zSL_11n, zSL_11i, zSL_11a, zSL_11l, zSL_12n, zSL_12i, zSL_12a, zSL_12l, zLI_0, zLL_0, zLA_0, zLI_1, zLL_1, zLA_1, zLI_2, zLL_2, zLA_2, zLI_3, zLL_3, zLA_3, zLI_4, zLL_4, zLA_4, zLI_5, zLL_5, zLA_5, zLI_6, zLL_6, zLA_6, zLI_7, zLL_7, zLA_7, zLI_8, zLL_8, zLA_8, zLI_9, zLL_9, zLA_9, zLI_10, zLL_10, zLA_10, zLI_11, zLL_11, zLA_11, zLI_12, zLL_12, zLA_12, zLI_13, zLL_13, zLA_13, zst_0, zst_1n, zst_1i, zst_1a, zst_2n, zst_2i, zst_2a, zst_3n, zst_3i, zst_3a, zst_4n, zst_4i, zst_4a, zst_5n, zst_5i, zst_5a, zst_6n, zst_6i, zst_6a, zst_7n, zst_7i, zst_7a, zst_8n, zst_8i, zst_8a, zst_9n, zst_9i, zst_9a, zst_10n, zst_10i, zst_10a, zst_11n, zst_11i, zst_11a, zst_12n, zst_12i, zst_12a, zst_13n, zst_13i, zst_13a, zst_14n, zst_14i, zst_14a, zst_15n, zst_15i, zst_15a, zR1_n, zR1_v, zsum_n, zsum_i, zsum_l, zsum_a, zlen_n, zlen_i, zlen_l, zlen_a, List.not_mem_nil, List.mem_cons, or_false, false_or, or_self, ↓reduceIte, if_false, if_true, Nat.reduceEqDiff, Nat.reduceAdd, Nat.reduceLeDiff, true_and, and_true, reduceCtorEq, ne_eq, Int.toNat_natCast, not_true_eq_false, not_false_eq_true, true_implies, false_implies, implies_true, Int.reduceToNat, Int.toNat_zero, Int.reduceLT, Int.reduceLE, Int.reduceEq, Int.reduceAdd, Int.reduceMul, Int.reduceNeg]
        exact fun h => absurd h h0
      rw [zFR_det run Q]
      exact propext ⟨fun h => ⟨fun h2 => absurd h2.2 h0, fun _ => h⟩, fun h => h.2 (fun h2 => h0 h2.2)⟩
  · have run : zFR (zK L) 231 0 (zcall 231 [.inr (.inr 1153), .inr (.inl x)]) [] M (fun rr M2 => rr = .inl (some (.inl (-1))) ∧ M2 = zwI M g0) := by
      refine zW_sound 60 [13] ?_
      simp only [ZF231, ZR231, ZF232.1, ZF232.2.1, ZF232.2.2.1, e232, zk_1153, zW_succ, zE_iload, zE_aload, zE_lload, zE_iinc, zE_istore, zE_astore, zE_lstore, zE_iconst, zE_ldc2, zE_iadd, zE_isub, zE_imul, zE_idiv, zE_irem, zE_ineg, zE_iand, zE_ior, zE_ixor, zE_ishl, zE_ishr, zE_land, zE_lor, zE_lxor, zE_lshl, zE_lshr, zE_i2l, zE_lcmp, zE_dup_i, zE_dup_a, zE_dup2_ia, zE_pop_i, zE_pop_a, zE_pop2, zE_goto, zE_if_eq, zE_icmp_eq, zE_if_ne, zE_icmp_ne, zE_if_lt, zE_icmp_lt, zE_if_ge, zE_icmp_ge, zE_if_gt, zE_icmp_gt, zE_if_le, zE_icmp_le, zE_iaload, zE_baload, zE_laload, zE_aaload, zE_iastore, zE_bastore, zE_lastore, zE_aastore, zE_alen, zE_getf0, zE_getf1, zE_getf2, zE_getf3, zE_putf0, zE_putf1, zE_putf2, zE_putf3, zE_new, zE_newa, zE_newq, zE_ireturn, zE_lreturn, zE_areturn, zE_return, zE_athrow, zE_st0, zE_vi0, zE_st1, zE_vi1, zE_st2, zE_vi2, zE_st3, zE_vi3, zE_st4, zE_vi4, zE_st5, zE_vi5, zE_st6, zE_vi6, zE_st7, zE_vi7, zE_st8, zE_vi8, zSt_0, zSL_0, zSt_1n, zSt_1i, zSt_1a, zSt_1l, zSt_2n, zSt_2i, zSt_2a, zSt_2l, zSt_3n, zSt_3i, zSt_3a, zSt_3l, zSt_4n, zSt_4i, zSt_4a, zSt_4l, zSt_5n, zSt_5i, zSt_5a, zSt_5l, zSt_6n, zSt_6i, zSt_6a, zSt_6l, zSt_7n, zSt_7i, zSt_7a, zSt_7l, zSt_8n, zSt_8i, zSt_8a, zSt_8l, zSt_9n, zSt_9i, zSt_9a, zSt_9l, zSt_10n, zSt_10i, zSt_10a, zSt_10l, zSt_11n, zSt_11i, zSt_11a, zSt_11l, zSt_12n, zSt_12i, zSt_12a, zSt_12l, zSt_13n, zSt_13i, zSt_13a, zSt_13l, zSL_1n, zSL_1i, zSL_1a, zSL_1l, zSL_2n, zSL_2i, zSL_2a, zSL_2l, zSL_3n, zSL_3i, zSL_3a, zSL_3l, zSL_4n, zSL_4i, zSL_4a, zSL_4l, zSL_5n, zSL_5i, zSL_5a, zSL_5l, zSL_6n, zSL_6i, zSL_6a, zSL_6l, zSL_7n, zSL_7i, zSL_7a, zSL_7l, zSL_8n, zSL_8i, zSL_8a, zSL_8l, zSL_9n, zSL_9i, zSL_9a, zSL_9l, zSL_10n, zSL_10i, zSL_10a, zSL_10l, zSL_11n, zSL_11i, zSL_11a, zSL_11l, zSL_12n, zSL_12i, zSL_12a, zSL_12l, zLI_0, zLL_0, zLA_0, zLI_1, zLL_1, zLA_1, zLI_2, zLL_2, zLA_2, zLI_3, zLL_3, zLA_3, zLI_4, zLL_4, zLA_4, zLI_5, zLL_5, zLA_5, zLI_6, zLL_6, zLA_6, zLI_7, zLL_7, zLA_7, zLI_8, zLL_8, zLA_8, zLI_9, zLL_9, zLA_9, zLI_10, zLL_10, zLA_10, zLI_11, zLL_11, zLA_11, zLI_12, zLL_12, zLA_12, zLI_13, zLL_13, zLA_13, zst_0, zst_1n, zst_1i, zst_1a, zst_2n, zst_2i, zst_2a, zst_3n, zst_3i, zst_3a, zst_4n, zst_4i, zst_4a, zst_5n, zst_5i, zst_5a, zst_6n, zst_6i, zst_6a, zst_7n, zst_7i, zst_7a, zst_8n, zst_8i, zst_8a, zst_9n, zst_9i, zst_9a, zst_10n, zst_10i, zst_10a, zst_11n, zst_11i, zst_11a, zst_12n, zst_12i, zst_12a, zst_13n, zst_13i, zst_13a, zst_14n, zst_14i, zst_14a, zst_15n, zst_15i, zst_15a, zR1_n, zR1_v, zsum_n, zsum_i, zsum_l, zsum_a, zlen_n, zlen_i, zlen_l, zlen_a, List.not_mem_nil, List.mem_cons, or_false, false_or, or_self, ↓reduceIte, if_false, if_true, Nat.reduceEqDiff, Nat.reduceAdd, Nat.reduceLeDiff, true_and, and_true, reduceCtorEq, ne_eq, Int.toNat_natCast, not_true_eq_false, not_false_eq_true, true_implies, false_implies, implies_true, Int.reduceToNat, Int.toNat_zero, Int.reduceLT, Int.reduceLE, Int.reduceEq, Int.reduceAdd, Int.reduceMul, Int.reduceNeg]
      exact fun h => absurd h (by omega)
    rw [zFR_det run Q]
    exact propext ⟨fun h => ⟨fun h2 => absurd h2.1 h3, fun _ => h⟩, fun h => h.2 (fun h2 => h3 h2.1)⟩
end ZRSPREADB
