/-! the points in which shapes meet: a row in order -/
section ZPOINTS
variable {L : Nat} {M : zM} {s : Nat} {Q : zO → zM → Prop}
def zinp (o : Nat → Int) (v : Int) (k n : Nat) : Nat → Int := fun j => if j < k then o j else if j = k then v else if j ≤ n then o (j - 1) else o j
def zplc (o : Nat → Int) (v : Int) (n : Nat) : Nat := zcnt (fun j => decide (o j < v)) n
theorem zcnt_k {p : Nat → Bool} {k : Nat} : ∀ n, k ≤ n → (∀ j, j < k → p j = true) → (∀ j, k ≤ j → j < n → p j = false) → zcnt p n = k
  | 0, hk, _, _ => by
    have : k = 0 := by omega
    subst this; rfl
  | n + 1, hk, h1, h2 => by
    rw [zcnt_s]
    by_cases e : k = n + 1
    · rw [h1 n (by omega), if_pos rfl]
      have : zcnt p n = n := by
        have h3 := zcnt_k (p := p) (k := n) n (Nat.le_refl n) (fun j hj => h1 j (by omega)) (fun j h4 h5 => by omega)
        exact h3
      omega
    · rw [h2 n (by omega) (by omega), if_neg (by decide)]
      exact zcnt_k n (by omega) h1 (fun j h3 h4 => h2 j h3 (by omega))
/-- the row of points: in order, so many -/
def zPt (f : Nat → Nat → Int) (n : Nat) : Prop := f 1115 0 = (n : Int) ∧ ∀ i j, i < j → j < n → f 1116 i < f 1116 j
def zpnt (f : Nat → Nat → Int) (v : Int) : Nat → Nat → Int := if zcnt (fun j => decide (f 1116 j = v)) (f 1115 0).toNat = 0 then zu2 (zua f 1116 (zinp (f 1116) v (zplc (f 1116) v (f 1115 0).toNat) (f 1115 0).toNat)) 1115 0 (f 1115 0 + 1) else f
theorem c54 {n : Nat} {v : Int} (hR : zLay M.2.2.2) (hp : zPt M.2.1 n) (hn : n < 1024) : zFR (zK L) 54 0 (zcall 54 [.inr (.inr 1115), .inl v]) [] M Q = Q (.inl none) (zwI M (zpnt M.2.1 v)) := by
  have hF := hR.1
  unfold zLayF at hF
  obtain ⟨hc, hs⟩ := hp
  have hpn : zpnt M.2.1 v = zpnt M.2.1 v := rfl
  conv at hpn => rhs; unfold zpnt
  rw [hc, Int.toNat_natCast] at hpn
  refine zFR_det ?_ Q
  generalize hQ : (fun r M2 => r = (Sum.inl none : zO) ∧ M2 = zwI M (zpnt M.2.1 v)) = Q9
  have ho : M.2.1 1116 = M.2.1 1116 := rfl
  generalize hO : M.2.1 1116 = o at *
  have oj : ∀ j, M.2.1 1116 j = o j := fun j => by rw [hO]
  -- moving up
  have shift : ∀ k : Nat, k ≤ n → (∀ j, j < k → o j < v) → (∀ j, k ≤ j → j < n → v < o j) → zFR (zK L) 54 59 [some (.inr (.inr 1115)), some (.inl v), some (.inl (k : Int)), some (.inl (n : Int))] [] M Q9 := by
    intro k hk h1 h2
    have e0 : zcnt (fun j => decide (o j = v)) n = 0 := zcnt_k n (Nat.zero_le n) (fun j hj => absurd hj (Nat.not_lt_zero j)) (fun j _ hj => decide_eq_false (fun h => by
      by_cases h3 : j < k
      · have := h1 j h3; omega
      · have := h2 j (by omega) hj; omega))
    have ep : zplc o v n = k := zcnt_k n hk (fun j hj => decide_eq_true (h1 j hj)) (fun j h3 h4 => decide_eq_false (by have := h2 j h3 h4; omega))
    rw [if_pos e0, ep] at hpn
    have main : ∀ d : Nat, k + d ≤ n → zFR (zK L) 54 59 [some (.inr (.inr 1115)), some (.inl v), some (.inl (k : Int)), some (.inl ((k + d : Nat) : Int))] [] (zwI M (zua M.2.1 1116 (fun j => if k + d < j ∧ j ≤ n then o (j - 1) else o j))) Q9 := by
      intro d
      induction d with
      | zero =>
        intro _
        have ez : zu2 (zua M.2.1 1116 (fun j => if k + 0 < j ∧ j ≤ n then o (j - 1) else o j)) 1116 k v = zua M.2.1 1116 (zinp o v k n) := by
          rw [zua_s]
          congr 1
          funext j
          rw [zup_if]
          unfold zinp
          by_cases h3 : j = k
          · rw [if_pos h3, if_neg (by omega), if_pos h3]
          · rw [if_neg h3]
            by_cases h4 : j < k
            · rw [if_pos h4, if_neg (by omega)]
            · rw [if_neg h4, if_neg h3]
              by_cases h5 : j ≤ n
              · rw [if_pos h5, if_pos (by omega)]
              · rw [if_neg h5, if_neg (by omega)]
        refine zW_sound 60 [64] ?_
        simp only [ZR54, zk_1115, zk_1116, hF, zwI_I, zwI_2, zsI_wI, zwI_w, ez, zua_o (show (1115 : Nat) ≠ 1116 by omega), hc, zW_succ, zE_iload, zE_aload, zE_lload, zE_iinc, zE_istore, zE_astore, zE_lstore, zE_iconst, zE_ldc2, zE_iadd, zE_isub, zE_imul, zE_idiv, zE_irem, zE_ineg, zE_iand, zE_ior, zE_ixor, zE_ishl, zE_ishr, zE_land, zE_lor, zE_lxor, zE_lshl, zE_lshr, zE_i2l, zE_lcmp, zE_dup_i, zE_dup_a, zE_dup2_ia, zE_pop_i, zE_pop_a, zE_pop2, zE_goto, zE_if_eq, zE_icmp_eq, zE_if_ne, zE_icmp_ne, zE_if_lt, zE_icmp_lt, zE_if_ge, zE_icmp_ge, zE_if_gt, zE_icmp_gt, zE_if_le, zE_icmp_le, zE_iaload, zE_baload, zE_laload, zE_aaload, zE_iastore, zE_bastore, zE_lastore, zE_aastore, zE_alen, zE_getf0, zE_getf1, zE_getf2, zE_getf3, zE_putf0, zE_putf1, zE_putf2, zE_putf3, zE_new, zE_newa, zE_newq, zE_ireturn, zE_lreturn, zE_areturn, zE_return, zE_athrow, zE_st0, zE_vi0, zE_st1, zE_vi1, zE_st2, zE_vi2, zE_st3, zE_vi3, zE_st4, zE_vi4, zE_st5, zE_vi5, zE_st6, zE_vi6, zE_st7, zE_vi7, zE_st8, zE_vi8, zSt_0, zSL_0, zSt_1n, zSt_1i, zSt_1a, zSt_1l, zSt_2n, zSt_2i, zSt_2a, zSt_2l, zSt_3n, zSt_3i, zSt_3a, zSt_3l, zSt_4n, zSt_4i, zSt_4a, zSt_4l, zSt_5n, zSt_5i, zSt_5a, zSt_5l, zSt_6n, zSt_6i, zSt_6a, zSt_6l, zSt_7n, zSt_7i, zSt_7a, zSt_7l, zSt_8n, zSt_8i, zSt_8a, zSt_8l, zSt_9n, zSt_9i, zSt_9a, zSt_9l, zSt_10n, zSt_10i, zSt_10a, zSt_10l, zSt_11n, zSt_11i, zSt_11a, zSt_11l, zSt_12n, zSt_12i, zSt_12a, zSt_12l, zSt_13n, zSt_13i, zSt_13a, zSt_13l, zSL_1n, zSL_1i, zSL_1a, zSL_1l, zSL_2n, zSL_2i, zSL_2a, zSL_2l, zSL_3n, zSL_3i, zSL_3a, zSL_3l, zSL_4n, zSL_4i, zSL_4a, zSL_4l, zSL_5n, zSL_5i, zSL_5a, zSL_5l, zSL_6n, zSL_6i, zSL_6a, zSL_6l, zSL_7n, zSL_7i, zSL_7a, zSL_7l, zSL_8n, zSL_8i, zSL_8a, zSL_8l, zSL_9n, zSL_9i, zSL_9a, zSL_9l, zSL_10n, zSL_10i, zSL_10a, zSL_10l, zSL_11n, zSL_11i, zSL_11a, zSL_11l, zSL_12n, zSL_12i, zSL_12a, zSL_12l, zLI_0, zLL_0, zLA_0, zLI_1, zLL_1, zLA_1, zLI_2, zLL_2, zLA_2, zLI_3, zLL_3, zLA_3, zLI_4, zLL_4, zLA_4, zLI_5, zLL_5, zLA_5, zLI_6, zLL_6, zLA_6, zLI_7, zLL_7, zLA_7, zLI_8, zLL_8, zLA_8, zLI_9, zLL_9, zLA_9, zLI_10, zLL_10, zLA_10, zLI_11, zLL_11, zLA_11, zLI_12, zLL_12, zLA_12, zLI_13, zLL_13, zLA_13, zst_0, zst_1n, zst_1i, zst_1a, zst_2n, zst_2i, zst_2a, zst_3n, zst_3i, zst_3a, zst_4n, zst_4i, zst_4a, zst_5n, zst_5i, zst_5a, zst_6n, zst_6i, zst_6a, zst_7n, zst_7i, zst_7a, zst_8n, zst_8i, zst_8a, zst_9n, zst_9i, zst_9a, zst_10n, zst_10i, zst_10a, zst_11n, zst_11i, zst_11a, zst_12n, zst_12i, zst_12a, zst_13n, zst_13i, zst_13a, zst_14n, zst_14i, zst_14a, zst_15n, zst_15i, zst_15a, zR1_n, zR1_v, zsum_n, zsum_i, zsum_l, zsum_a, zlen_n, zlen_i, zlen_l, zlen_a, List.not_mem_nil, List.mem_cons, or_false, false_or, or_self, ↓reduceIte, if_false, if_true, Nat.reduceEqDiff, Nat.reduceAdd, Nat.reduceLeDiff, true_and, and_true, reduceCtorEq, ne_eq, Int.toNat_natCast, not_true_eq_false, not_false_eq_true, true_implies, false_implies, implies_true, Int.reduceToNat, Int.toNat_zero, Int.reduceLT, Int.reduceLE, Int.reduceEq, Int.reduceAdd, Int.reduceMul, Int.reduceNeg]
        subst hQ
        exact ⟨fun _ => ⟨by omega, by unfold zr32; omega, rfl, by rw [hpn]⟩, fun h => absurd (by omega) h⟩
      | succ d ih =>
        intro hd
        have ih2 := ih (by omega)
        have ev : (zua M.2.1 1116 (fun j => if k + (d + 1) < j ∧ j ≤ n then o (j - 1) else o j)) 1116 (k + d) = o (k + d) := by
          rw [zua_a]
          exact if_neg (by omega)
        have ez : zu2 (zua M.2.1 1116 (fun j => if k + (d + 1) < j ∧ j ≤ n then o (j - 1) else o j)) 1116 (k + (d + 1)) (o (k + d)) = zua M.2.1 1116 (fun j => if k + d < j ∧ j ≤ n then o (j - 1) else o j) := by
          rw [zua_s]
          congr 1
          funext j
          rw [zup_if]
          by_cases h3 : j = k + (d + 1)
          · rw [if_pos h3, if_pos (by omega), h3]; rfl
          · rw [if_neg h3]
            by_cases h5 : k + (d + 1) < j ∧ j ≤ n
            · rw [if_pos h5, if_pos (by omega)]
            · rw [if_neg h5, if_neg (by omega)]
        have eT : ((k + (d + 1) : Nat) : Int) - 1 = ((k + d : Nat) : Int) := by omega
        have eU : ((k + (d + 1) : Nat) : Int) + -1 = ((k + d : Nat) : Int) := by omega
        refine zW_sound 60 [59] ?_
        simp only [ZR54, zk_1115, zk_1116, hF, zwI_I, zwI_2, zsI_wI, zwI_w, eT, eU, ev, ez, zW_succ, zE_iload, zE_aload, zE_lload, zE_iinc, zE_istore, zE_astore, zE_lstore, zE_iconst, zE_ldc2, zE_iadd, zE_isub, zE_imul, zE_idiv, zE_irem, zE_ineg, zE_iand, zE_ior, zE_ixor, zE_ishl, zE_ishr, zE_land, zE_lor, zE_lxor, zE_lshl, zE_lshr, zE_i2l, zE_lcmp, zE_dup_i, zE_dup_a, zE_dup2_ia, zE_pop_i, zE_pop_a, zE_pop2, zE_goto, zE_if_eq, zE_icmp_eq, zE_if_ne, zE_icmp_ne, zE_if_lt, zE_icmp_lt, zE_if_ge, zE_icmp_ge, zE_if_gt, zE_icmp_gt, zE_if_le, zE_icmp_le, zE_iaload, zE_baload, zE_laload, zE_aaload, zE_iastore, zE_bastore, zE_lastore, zE_aastore, zE_alen, zE_getf0, zE_getf1, zE_getf2, zE_getf3, zE_putf0, zE_putf1, zE_putf2, zE_putf3, zE_new, zE_newa, zE_newq, zE_ireturn, zE_lreturn, zE_areturn, zE_return, zE_athrow, zE_st0, zE_vi0, zE_st1, zE_vi1, zE_st2, zE_vi2, zE_st3, zE_vi3, zE_st4, zE_vi4, zE_st5, zE_vi5, zE_st6, zE_vi6, zE_st7, zE_vi7, zE_st8, zE_vi8, zSt_0, zSL_0, zSt_1n, zSt_1i, zSt_1a, zSt_1l, zSt_2n, zSt_2i, zSt_2a, zSt_2l, zSt_3n, zSt_3i, zSt_3a, zSt_3l, zSt_4n, zSt_4i, zSt_4a, zSt_4l, zSt_5n, zSt_5i, zSt_5a, zSt_5l, zSt_6n, zSt_6i, zSt_6a, zSt_6l, zSt_7n, zSt_7i, zSt_7a, zSt_7l, zSt_8n, zSt_8i, zSt_8a, zSt_8l, zSt_9n, zSt_9i, zSt_9a, zSt_9l, zSt_10n, zSt_10i, zSt_10a, zSt_10l, zSt_11n, zSt_11i, zSt_11a, zSt_11l, zSt_12n, zSt_12i, zSt_12a, zSt_12l, zSt_13n, zSt_13i, zSt_13a, zSt_13l, zSL_1n, zSL_1i, zSL_1a, zSL_1l, zSL_2n, zSL_2i, zSL_2a, zSL_2l, zSL_3n, zSL_3i, zSL_3a, zSL_3l, zSL_4n, zSL_4i, zSL_4a, zSL_4l, zSL_5n, zSL_5i, zSL_5a, zSL_5l, zSL_6n, zSL_6i, zSL_6a, zSL_6l, zSL_7n, zSL_7i, zSL_7a, zSL_7l, zSL_8n, zSL_8i, zSL_8a, zSL_8l, zSL_9n, zSL_9i, zSL_9a, zSL_9l, zSL_10n, zSL_10i, zSL_10a, zSL_10l, zSL_11n, zSL_11i, zSL_11a, zSL_11l, zSL_12n, zSL_12i, zSL_12a, zSL_12l, zLI_0, zLL_0, zLA_0, zLI_1, zLL_1, zLA_1, zLI_2, zLL_2, zLA_2, zLI_3, zLL_3, zLA_3, zLI_4, zLL_4, zLA_4, zLI_5, zLL_5, zLA_5, zLI_6, zLL_6, zLA_6, zLI_7, zLL_7, zLA_7, zLI_8, zLL_8, zLA_8, zLI_9, zLL_9, zLA_9, zLI_10, zLL_10, zLA_10, zLI_11, zLL_11, zLA_11, zLI_12, zLL_12, zLA_12, zLI_13, zLL_13, zLA_13, zst_0, zst_1n, zst_1i, zst_1a, zst_2n, zst_2i, zst_2a, zst_3n, zst_3i, zst_3a, zst_4n, zst_4i, zst_4a, zst_5n, zst_5i, zst_5a, zst_6n, zst_6i, zst_6a, zst_7n, zst_7i, zst_7a, zst_8n, zst_8i, zst_8a, zst_9n, zst_9i, zst_9a, zst_10n, zst_10i, zst_10a, zst_11n, zst_11i, zst_11a, zst_12n, zst_12i, zst_12a, zst_13n, zst_13i, zst_13a, zst_14n, zst_14i, zst_14a, zst_15n, zst_15i, zst_15a, zR1_n, zR1_v, zsum_n, zsum_i, zsum_l, zsum_a, zlen_n, zlen_i, zlen_l, zlen_a, List.not_mem_nil, List.mem_cons, or_false, false_or, or_self, ↓reduceIte, if_false, if_true, Nat.reduceEqDiff, Nat.reduceAdd, Nat.reduceLeDiff, true_and, and_true, reduceCtorEq, ne_eq, Int.toNat_natCast, not_true_eq_false, not_false_eq_true, true_implies, false_implies, implies_true, Int.reduceToNat, Int.toNat_zero, Int.reduceLT, Int.reduceLE, Int.reduceEq, Int.reduceAdd, Int.reduceMul, Int.reduceNeg]
        exact ⟨fun h => absurd h (by omega), fun _ => ⟨by unfold zr32; omega, by omega, by omega, by unfold zr32; omega, ih2⟩⟩
    have o9 := main (n - k) (by omega)
    have em : zua M.2.1 1116 (fun j => if k + (n - k) < j ∧ j ≤ n then o (j - 1) else o j) = M.2.1 := by
      have e : (fun j => if k + (n - k) < j ∧ j ≤ n then o (j - 1) else o j) = M.2.1 1116 := by
        funext j
        rw [if_neg (by omega), oj]
      rw [e, zua_0]
    rw [em, show ((k + (n - k) : Nat) : Int) = (n : Int) by omega] at o9
    exact o9
  have down : ∀ k : Nat, k ≤ n → (∀ j, k ≤ j → j < n → v < o j) → zFR (zK L) 54 5 [some (.inr (.inr 1115)), some (.inl v), some (.inl (k : Int)), none] [] M Q9 := by
    intro k
    induction k with
    | zero =>
      intro _ h
      have o9 := shift 0 (Nat.zero_le n) (fun j hj => absurd hj (Nat.not_lt_zero j)) h
      refine zW_sound 60 [9, 59] ?_
      simp only [ZR54, zk_1115, hF, hc, zW_succ, zE_iload, zE_aload, zE_lload, zE_iinc, zE_istore, zE_astore, zE_lstore, zE_iconst, zE_ldc2, zE_iadd, zE_isub, zE_imul, zE_idiv, zE_irem, zE_ineg, zE_iand, zE_ior, zE_ixor, zE_ishl, zE_ishr, zE_land, zE_lor, zE_lxor, zE_lshl, zE_lshr, zE_i2l, zE_lcmp, zE_dup_i, zE_dup_a, zE_dup2_ia, zE_pop_i, zE_pop_a, zE_pop2, zE_goto, zE_if_eq, zE_icmp_eq, zE_if_ne, zE_icmp_ne, zE_if_lt, zE_icmp_lt, zE_if_ge, zE_icmp_ge, zE_if_gt, zE_icmp_gt, zE_if_le, zE_icmp_le, zE_iaload, zE_baload, zE_laload, zE_aaload, zE_iastore, zE_bastore, zE_lastore, zE_aastore, zE_alen, zE_getf0, zE_getf1, zE_getf2, zE_getf3, zE_putf0, zE_putf1, zE_putf2, zE_putf3, zE_new, zE_newa, zE_newq, zE_ireturn, zE_lreturn, zE_areturn, zE_return, zE_athrow, zE_st0, zE_vi0, zE_st1, zE_vi1, zE_st2, zE_vi2, zE_st3, zE_vi3, zE_st4, zE_vi4, zE_st5, zE_vi5, zE_st6, zE_vi6, zE_st7, zE_vi7, zE_st8, zE_vi8, zSt_0, zSL_0, zSt_1n, zSt_1i, zSt_1a, zSt_1l, zSt_2n, zSt_2i, zSt_2a, zSt_2l, zSt_3n, zSt_3i, zSt_3a, zSt_3l, zSt_4n, zSt_4i, zSt_4a, zSt_4l, zSt_5n, zSt_5i, zSt_5a, zSt_5l, zSt_6n, zSt_6i, zSt_6a, zSt_6l, zSt_7n, zSt_7i, zSt_7a, zSt_7l, zSt_8n, zSt_8i, zSt_8a, zSt_8l, zSt_9n, zSt_9i, zSt_9a, zSt_9l, zSt_10n, zSt_10i, zSt_10a, zSt_10l, zSt_11n, zSt_11i, zSt_11a, zSt_11l, zSt_12n, zSt_12i, zSt_12a, zSt_12l, zSt_13n, zSt_13i, zSt_13a, zSt_13l, zSL_1n, zSL_1i, zSL_1a, zSL_1l, zSL_2n, zSL_2i, zSL_2a, zSL_2l, zSL_3n, zSL_3i, zSL_3a, zSL_3l, zSL_4n, zSL_4i, zSL_4a, zSL_4l, zSL_5n, zSL_5i, zSL_5a, zSL_5l, zSL_6n, zSL_6i, zSL_6a, zSL_6l, zSL_7n, zSL_7i, zSL_7a, zSL_7l, zSL_8n, zSL_8i, zSL_8a, zSL_8l, zSL_9n, zSL_9i, zSL_9a, zSL_9l, zSL_10n, zSL_10i, zSL_10a, zSL_10l, zSL_11n, zSL_11i, zSL_11a, zSL_11l, zSL_12n, zSL_12i, zSL_12a, zSL_12l, zLI_0, zLL_0, zLA_0, zLI_1, zLL_1, zLA_1, zLI_2, zLL_2, zLA_2, zLI_3, zLL_3, zLA_3, zLI_4, zLL_4, zLA_4, zLI_5, zLL_5, zLA_5, zLI_6, zLL_6, zLA_6, zLI_7, zLL_7, zLA_7, zLI_8, zLL_8, zLA_8, zLI_9, zLL_9, zLA_9, zLI_10, zLL_10, zLA_10, zLI_11, zLL_11, zLA_11, zLI_12, zLL_12, zLA_12, zLI_13, zLL_13, zLA_13, zst_0, zst_1n, zst_1i, zst_1a, zst_2n, zst_2i, zst_2a, zst_3n, zst_3i, zst_3a, zst_4n, zst_4i, zst_4a, zst_5n, zst_5i, zst_5a, zst_6n, zst_6i, zst_6a, zst_7n, zst_7i, zst_7a, zst_8n, zst_8i, zst_8a, zst_9n, zst_9i, zst_9a, zst_10n, zst_10i, zst_10a, zst_11n, zst_11i, zst_11a, zst_12n, zst_12i, zst_12a, zst_13n, zst_13i, zst_13a, zst_14n, zst_14i, zst_14a, zst_15n, zst_15i, zst_15a, zR1_n, zR1_v, zsum_n, zsum_i, zsum_l, zsum_a, zlen_n, zlen_i, zlen_l, zlen_a, List.not_mem_nil, List.mem_cons, or_false, false_or, or_self, ↓reduceIte, if_false, if_true, Nat.reduceEqDiff, Nat.reduceAdd, Nat.reduceLeDiff, true_and, and_true, reduceCtorEq, ne_eq, Int.toNat_natCast, not_true_eq_false, not_false_eq_true, true_implies, false_implies, implies_true, Int.reduceToNat, Int.toNat_zero, Int.reduceLT, Int.reduceLE, Int.reduceEq, Int.reduceAdd, Int.reduceMul, Int.reduceNeg]
      exact ⟨fun _ => ⟨fun _ => ⟨fun _ => o9, fun h => absurd (by omega) h⟩, fun h => absurd (by omega) h⟩, fun h => absurd (by omega) h⟩
    | succ k ih =>
      intro hk h
      have eT : ((k + 1 : Nat) : Int) - 1 = (k : Int) := by omega
      have eU : ((k + 1 : Nat) : Int) + -1 = (k : Int) := by omega
      by_cases h1 : v < o k
      · have o9 := ih (by omega) (fun j h2 h3 => by
          by_cases e : j = k
          · subst e; exact h1
          · exact h j (by omega) h3)
        refine zW_sound 60 [5, 27] ?_
        simp only [ZR54, zk_1115, zk_1116, hF, eT, eU, oj, zW_succ, zE_iload, zE_aload, zE_lload, zE_iinc, zE_istore, zE_astore, zE_lstore, zE_iconst, zE_ldc2, zE_iadd, zE_isub, zE_imul, zE_idiv, zE_irem, zE_ineg, zE_iand, zE_ior, zE_ixor, zE_ishl, zE_ishr, zE_land, zE_lor, zE_lxor, zE_lshl, zE_lshr, zE_i2l, zE_lcmp, zE_dup_i, zE_dup_a, zE_dup2_ia, zE_pop_i, zE_pop_a, zE_pop2, zE_goto, zE_if_eq, zE_icmp_eq, zE_if_ne, zE_icmp_ne, zE_if_lt, zE_icmp_lt, zE_if_ge, zE_icmp_ge, zE_if_gt, zE_icmp_gt, zE_if_le, zE_icmp_le, zE_iaload, zE_baload, zE_laload, zE_aaload, zE_iastore, zE_bastore, zE_lastore, zE_aastore, zE_alen, zE_getf0, zE_getf1, zE_getf2, zE_getf3, zE_putf0, zE_putf1, zE_putf2, zE_putf3, zE_new, zE_newa, zE_newq, zE_ireturn, zE_lreturn, zE_areturn, zE_return, zE_athrow, zE_st0, zE_vi0, zE_st1, zE_vi1, zE_st2, zE_vi2, zE_st3, zE_vi3, zE_st4, zE_vi4, zE_st5, zE_vi5, zE_st6, zE_vi6, zE_st7, zE_vi7, zE_st8, zE_vi8, zSt_0, zSL_0, zSt_1n, zSt_1i, zSt_1a, zSt_1l, zSt_2n, zSt_2i, zSt_2a, zSt_2l, zSt_3n, zSt_3i, zSt_3a, zSt_3l, zSt_4n, zSt_4i, zSt_4a, zSt_4l, zSt_5n, zSt_5i, zSt_5a, zSt_5l, zSt_6n, zSt_6i, zSt_6a, zSt_6l, zSt_7n, zSt_7i, zSt_7a, zSt_7l, zSt_8n, zSt_8i, zSt_8a, zSt_8l, zSt_9n, zSt_9i, zSt_9a, zSt_9l, zSt_10n, zSt_10i, zSt_10a, zSt_10l, zSt_11n, zSt_11i, zSt_11a, zSt_11l, zSt_12n, zSt_12i, zSt_12a, zSt_12l, zSt_13n, zSt_13i, zSt_13a, zSt_13l, zSL_1n, zSL_1i, zSL_1a, zSL_1l, zSL_2n, zSL_2i, zSL_2a, zSL_2l, zSL_3n, zSL_3i, zSL_3a, zSL_3l, zSL_4n, zSL_4i, zSL_4a, zSL_4l, zSL_5n, zSL_5i, zSL_5a, zSL_5l, zSL_6n, zSL_6i, zSL_6a, zSL_6l, zSL_7n, zSL_7i, zSL_7a, zSL_7l, zSL_8n, zSL_8i, zSL_8a, zSL_8l, zSL_9n, zSL_9i, zSL_9a, zSL_9l, zSL_10n, zSL_10i, zSL_10a, zSL_10l, zSL_11n, zSL_11i, zSL_11a, zSL_11l, zSL_12n, zSL_12i, zSL_12a, zSL_12l, zLI_0, zLL_0, zLA_0, zLI_1, zLL_1, zLA_1, zLI_2, zLL_2, zLA_2, zLI_3, zLL_3, zLA_3, zLI_4, zLL_4, zLA_4, zLI_5, zLL_5, zLA_5, zLI_6, zLL_6, zLA_6, zLI_7, zLL_7, zLA_7, zLI_8, zLL_8, zLA_8, zLI_9, zLL_9, zLA_9, zLI_10, zLL_10, zLA_10, zLI_11, zLL_11, zLA_11, zLI_12, zLL_12, zLA_12, zLI_13, zLL_13, zLA_13, zst_0, zst_1n, zst_1i, zst_1a, zst_2n, zst_2i, zst_2a, zst_3n, zst_3i, zst_3a, zst_4n, zst_4i, zst_4a, zst_5n, zst_5i, zst_5a, zst_6n, zst_6i, zst_6a, zst_7n, zst_7i, zst_7a, zst_8n, zst_8i, zst_8a, zst_9n, zst_9i, zst_9a, zst_10n, zst_10i, zst_10a, zst_11n, zst_11i, zst_11a, zst_12n, zst_12i, zst_12a, zst_13n, zst_13i, zst_13a, zst_14n, zst_14i, zst_14a, zst_15n, zst_15i, zst_15a, zR1_n, zR1_v, zsum_n, zsum_i, zsum_l, zsum_a, zlen_n, zlen_i, zlen_l, zlen_a, List.not_mem_nil, List.mem_cons, or_false, false_or, or_self, ↓reduceIte, if_false, if_true, Nat.reduceEqDiff, Nat.reduceAdd, Nat.reduceLeDiff, true_and, and_true, reduceCtorEq, ne_eq, Int.toNat_natCast, not_true_eq_false, not_false_eq_true, true_implies, false_implies, implies_true, Int.reduceToNat, Int.toNat_zero, Int.reduceLT, Int.reduceLE, Int.reduceEq, Int.reduceAdd, Int.reduceMul, Int.reduceNeg]
        exact ⟨fun h => absurd h (by omega), fun _ => ⟨by unfold zr32; omega, by omega, fun h => absurd h (by omega), fun _ => ⟨by unfold zr32; omega, o9⟩⟩⟩
      · by_cases h2 : o k = v
        · have e0 : ¬ zcnt (fun j => decide (o j = v)) n = 0 := by
            intro h3
            have : ∀ m, k < m → 0 < zcnt (fun j => decide (o j = v)) m := by
              intro m
              induction m with
              | zero => intro h4; omega
              | succ m ih =>
                intro h4
                rw [zcnt_s]
                by_cases e : k = m
                · subst e
                  rw [if_pos (decide_eq_true h2)]; omega
                · have := ih (by omega)
                  split <;> omega
            have := this n (by omega)
            omega
          rw [if_neg e0] at hpn
          refine zW_sound 60 [21, 43] ?_
          simp only [ZR54, zk_1115, zk_1116, hF, eT, eU, oj, zW_succ, zE_iload, zE_aload, zE_lload, zE_iinc, zE_istore, zE_astore, zE_lstore, zE_iconst, zE_ldc2, zE_iadd, zE_isub, zE_imul, zE_idiv, zE_irem, zE_ineg, zE_iand, zE_ior, zE_ixor, zE_ishl, zE_ishr, zE_land, zE_lor, zE_lxor, zE_lshl, zE_lshr, zE_i2l, zE_lcmp, zE_dup_i, zE_dup_a, zE_dup2_ia, zE_pop_i, zE_pop_a, zE_pop2, zE_goto, zE_if_eq, zE_icmp_eq, zE_if_ne, zE_icmp_ne, zE_if_lt, zE_icmp_lt, zE_if_ge, zE_icmp_ge, zE_if_gt, zE_icmp_gt, zE_if_le, zE_icmp_le, zE_iaload, zE_baload, zE_laload, zE_aaload, zE_iastore, zE_bastore, zE_lastore, zE_aastore, zE_alen, zE_getf0, zE_getf1, zE_getf2, zE_getf3, zE_putf0, zE_putf1, zE_putf2, zE_putf3, zE_new, zE_newa, zE_newq, zE_ireturn, zE_lreturn, zE_areturn, zE_return, zE_athrow, zE_st0, zE_vi0, zE_st1, zE_vi1, zE_st2, zE_vi2, zE_st3, zE_vi3, zE_st4, zE_vi4, zE_st5, zE_vi5, zE_st6, zE_vi6, zE_st7, zE_vi7, zE_st8, zE_vi8, zSt_0, zSL_0, zSt_1n, zSt_1i, zSt_1a, zSt_1l, zSt_2n, zSt_2i, zSt_2a, zSt_2l, zSt_3n, zSt_3i, zSt_3a, zSt_3l, zSt_4n, zSt_4i, zSt_4a, zSt_4l, zSt_5n, zSt_5i, zSt_5a, zSt_5l, zSt_6n, zSt_6i, zSt_6a, zSt_6l, zSt_7n, zSt_7i, zSt_7a, zSt_7l, zSt_8n, zSt_8i, zSt_8a, zSt_8l, zSt_9n, zSt_9i, zSt_9a, zSt_9l, zSt_10n, zSt_10i, zSt_10a, zSt_10l, zSt_11n, zSt_11i, zSt_11a, zSt_11l, zSt_12n, zSt_12i, zSt_12a, zSt_12l, zSt_13n, zSt_13i, zSt_13a, zSt_13l, zSL_1n, zSL_1i, zSL_1a, zSL_1l, zSL_2n, zSL_2i, zSL_2a, zSL_2l, zSL_3n, zSL_3i, zSL_3a, zSL_3l, zSL_4n, zSL_4i, zSL_4a, zSL_4l, zSL_5n, zSL_5i, zSL_5a, zSL_5l, zSL_6n, zSL_6i, zSL_6a, zSL_6l, zSL_7n, zSL_7i, zSL_7a, zSL_7l, zSL_8n, zSL_8i, zSL_8a, zSL_8l, zSL_9n, zSL_9i, zSL_9a, zSL_9l, zSL_10n, zSL_10i, zSL_10a, zSL_10l, zSL_11n, zSL_11i, zSL_11a, zSL_11l, zSL_12n, zSL_12i, zSL_12a, zSL_12l, zLI_0, zLL_0, zLA_0, zLI_1, zLL_1, zLA_1, zLI_2, zLL_2, zLA_2, zLI_3, zLL_3, zLA_3, zLI_4, zLL_4, zLA_4, zLI_5, zLL_5, zLA_5, zLI_6, zLL_6, zLA_6, zLI_7, zLL_7, zLA_7, zLI_8, zLL_8, zLA_8, zLI_9, zLL_9, zLA_9, zLI_10, zLL_10, zLA_10, zLI_11, zLL_11, zLA_11, zLI_12, zLL_12, zLA_12, zLI_13, zLL_13, zLA_13, zst_0, zst_1n, zst_1i, zst_1a, zst_2n, zst_2i, zst_2a, zst_3n, zst_3i, zst_3a, zst_4n, zst_4i, zst_4a, zst_5n, zst_5i, zst_5a, zst_6n, zst_6i, zst_6a, zst_7n, zst_7i, zst_7a, zst_8n, zst_8i, zst_8a, zst_9n, zst_9i, zst_9a, zst_10n, zst_10i, zst_10a, zst_11n, zst_11i, zst_11a, zst_12n, zst_12i, zst_12a, zst_13n, zst_13i, zst_13a, zst_14n, zst_14i, zst_14a, zst_15n, zst_15i, zst_15a, zR1_n, zR1_v, zsum_n, zsum_i, zsum_l, zsum_a, zlen_n, zlen_i, zlen_l, zlen_a, List.not_mem_nil, List.mem_cons, or_false, false_or, or_self, ↓reduceIte, if_false, if_true, Nat.reduceEqDiff, Nat.reduceAdd, Nat.reduceLeDiff, true_and, and_true, reduceCtorEq, ne_eq, Int.toNat_natCast, not_true_eq_false, not_false_eq_true, true_implies, false_implies, implies_true, Int.reduceToNat, Int.toNat_zero, Int.reduceLT, Int.reduceLE, Int.reduceEq, Int.reduceAdd, Int.reduceMul, Int.reduceNeg]
          subst hQ
          refine ⟨fun h => absurd h (by omega), fun _ => ⟨by unfold zr32; omega, by omega, fun _ => ⟨fun h => absurd h (by omega), fun _ => ⟨by unfold zr32; omega, by omega, fun _ => ⟨rfl, by rw [hpn]; rfl⟩, fun h => absurd h2 h⟩⟩, fun h => absurd (by omega) h⟩⟩
        · have o9 := shift (k + 1) hk (fun j hj => by
            by_cases e : j = k
            · subst e; omega
            · have := hs j k (by omega) (by omega)
              omega) h
          refine zW_sound 60 [21, 53, 59] ?_
          simp only [ZR54, zk_1115, zk_1116, hF, eT, eU, oj, hc, zW_succ, zE_iload, zE_aload, zE_lload, zE_iinc, zE_istore, zE_astore, zE_lstore, zE_iconst, zE_ldc2, zE_iadd, zE_isub, zE_imul, zE_idiv, zE_irem, zE_ineg, zE_iand, zE_ior, zE_ixor, zE_ishl, zE_ishr, zE_land, zE_lor, zE_lxor, zE_lshl, zE_lshr, zE_i2l, zE_lcmp, zE_dup_i, zE_dup_a, zE_dup2_ia, zE_pop_i, zE_pop_a, zE_pop2, zE_goto, zE_if_eq, zE_icmp_eq, zE_if_ne, zE_icmp_ne, zE_if_lt, zE_icmp_lt, zE_if_ge, zE_icmp_ge, zE_if_gt, zE_icmp_gt, zE_if_le, zE_icmp_le, zE_iaload, zE_baload, zE_laload, zE_aaload, zE_iastore, zE_bastore, zE_lastore, zE_aastore, zE_alen, zE_getf0, zE_getf1, zE_getf2, zE_getf3, zE_putf0, zE_putf1, zE_putf2, zE_putf3, zE_new, zE_newa, zE_newq, zE_ireturn, zE_lreturn, zE_areturn, zE_return, zE_athrow, zE_st0, zE_vi0, zE_st1, zE_vi1, zE_st2, zE_vi2, zE_st3, zE_vi3, zE_st4, zE_vi4, zE_st5, zE_vi5, zE_st6, zE_vi6, zE_st7, zE_vi7, zE_st8, zE_vi8, zSt_0, zSL_0, zSt_1n, zSt_1i, zSt_1a, zSt_1l, zSt_2n, zSt_2i, zSt_2a, zSt_2l, zSt_3n, zSt_3i, zSt_3a, zSt_3l, zSt_4n, zSt_4i, zSt_4a, zSt_4l, zSt_5n, zSt_5i, zSt_5a, zSt_5l, zSt_6n, zSt_6i, zSt_6a, zSt_6l, zSt_7n, zSt_7i, zSt_7a, zSt_7l, zSt_8n, zSt_8i, zSt_8a, zSt_8l, zSt_9n, zSt_9i, zSt_9a, zSt_9l, zSt_10n, zSt_10i, zSt_10a, zSt_10l, zSt_11n, zSt_11i, zSt_11a, zSt_11l, zSt_12n, zSt_12i, zSt_12a, zSt_12l, zSt_13n, zSt_13i, zSt_13a, zSt_13l, zSL_1n, zSL_1i, zSL_1a, zSL_1l, zSL_2n, zSL_2i, zSL_2a, zSL_2l, zSL_3n, zSL_3i, zSL_3a, zSL_3l, zSL_4n, zSL_4i, zSL_4a, zSL_4l, zSL_5n, zSL_5i, zSL_5a, zSL_5l, zSL_6n, zSL_6i, zSL_6a, zSL_6l, zSL_7n, zSL_7i, zSL_7a, zSL_7l, zSL_8n, zSL_8i, zSL_8a, zSL_8l, zSL_9n, zSL_9i, zSL_9a, zSL_9l, zSL_10n, zSL_10i, zSL_10a, zSL_10l, zSL_11n, zSL_11i, zSL_11a, zSL_11l, zSL_12n, zSL_12i, zSL_12a, zSL_12l, zLI_0, zLL_0, zLA_0, zLI_1, zLL_1, zLA_1, zLI_2, zLL_2, zLA_2, zLI_3, zLL_3, zLA_3, zLI_4, zLL_4, zLA_4, zLI_5, zLL_5, zLA_5, zLI_6, zLL_6, zLA_6, zLI_7, zLL_7, zLA_7, zLI_8, zLL_8, zLA_8, zLI_9, zLL_9, zLA_9, zLI_10, zLL_10, zLA_10, zLI_11, zLL_11, zLA_11, zLI_12, zLL_12, zLA_12, zLI_13, zLL_13, zLA_13, zst_0, zst_1n, zst_1i, zst_1a, zst_2n, zst_2i, zst_2a, zst_3n, zst_3i, zst_3a, zst_4n, zst_4i, zst_4a, zst_5n, zst_5i, zst_5a, zst_6n, zst_6i, zst_6a, zst_7n, zst_7i, zst_7a, zst_8n, zst_8i, zst_8a, zst_9n, zst_9i, zst_9a, zst_10n, zst_10i, zst_10a, zst_11n, zst_11i, zst_11a, zst_12n, zst_12i, zst_12a, zst_13n, zst_13i, zst_13a, zst_14n, zst_14i, zst_14a, zst_15n, zst_15i, zst_15a, zR1_n, zR1_v, zsum_n, zsum_i, zsum_l, zsum_a, zlen_n, zlen_i, zlen_l, zlen_a, List.not_mem_nil, List.mem_cons, or_false, false_or, or_self, ↓reduceIte, if_false, if_true, Nat.reduceEqDiff, Nat.reduceAdd, Nat.reduceLeDiff, true_and, and_true, reduceCtorEq, ne_eq, Int.toNat_natCast, not_true_eq_false, not_false_eq_true, true_implies, false_implies, implies_true, Int.reduceToNat, Int.toNat_zero, Int.reduceLT, Int.reduceLE, Int.reduceEq, Int.reduceAdd, Int.reduceMul, Int.reduceNeg]
          refine ⟨fun h => absurd h (by omega), fun _ => ⟨by unfold zr32; omega, by omega, fun _ => ⟨fun h => absurd h (by omega), fun _ => ⟨by unfold zr32; omega, by omega, fun h => absurd h h2, fun _ => ⟨fun _ => o9, fun h => absurd (by omega) h⟩⟩⟩, fun h => absurd (by omega) h⟩⟩
  have o9 := down n (Nat.le_refl n) (fun j h1 h2 => by omega)
  refine zW_sound 60 [5] ?_
  simp only [ZF54, ZR54, zk_1115, hc, zW_succ, zE_iload, zE_aload, zE_lload, zE_iinc, zE_istore, zE_astore, zE_lstore, zE_iconst, zE_ldc2, zE_iadd, zE_isub, zE_imul, zE_idiv, zE_irem, zE_ineg, zE_iand, zE_ior, zE_ixor, zE_ishl, zE_ishr, zE_land, zE_lor, zE_lxor, zE_lshl, zE_lshr, zE_i2l, zE_lcmp, zE_dup_i, zE_dup_a, zE_dup2_ia, zE_pop_i, zE_pop_a, zE_pop2, zE_goto, zE_if_eq, zE_icmp_eq, zE_if_ne, zE_icmp_ne, zE_if_lt, zE_icmp_lt, zE_if_ge, zE_icmp_ge, zE_if_gt, zE_icmp_gt, zE_if_le, zE_icmp_le, zE_iaload, zE_baload, zE_laload, zE_aaload, zE_iastore, zE_bastore, zE_lastore, zE_aastore, zE_alen, zE_getf0, zE_getf1, zE_getf2, zE_getf3, zE_putf0, zE_putf1, zE_putf2, zE_putf3, zE_new, zE_newa, zE_newq, zE_ireturn, zE_lreturn, zE_areturn, zE_return, zE_athrow, zE_st0, zE_vi0, zE_st1, zE_vi1, zE_st2, zE_vi2, zE_st3, zE_vi3, zE_st4, zE_vi4, zE_st5, zE_vi5, zE_st6, zE_vi6, zE_st7, zE_vi7, zE_st8, zE_vi8, zSt_0, zSL_0, zSt_1n, zSt_1i, zSt_1a, zSt_1l, zSt_2n, zSt_2i, zSt_2a, zSt_2l, zSt_3n, zSt_3i, zSt_3a, zSt_3l, zSt_4n, zSt_4i, zSt_4a, zSt_4l, zSt_5n, zSt_5i, zSt_5a, zSt_5l, zSt_6n, zSt_6i, zSt_6a, zSt_6l, zSt_7n, zSt_7i, zSt_7a, zSt_7l, zSt_8n, zSt_8i, zSt_8a, zSt_8l, zSt_9n, zSt_9i, zSt_9a, zSt_9l, zSt_10n, zSt_10i, zSt_10a, zSt_10l, zSt_11n, zSt_11i, zSt_11a, zSt_11l, zSt_12n, zSt_12i, zSt_12a, zSt_12l, zSt_13n, zSt_13i, zSt_13a, zSt_13l, zSL_1n, zSL_1i, zSL_1a, zSL_1l, zSL_2n, zSL_2i, zSL_2a, zSL_2l, zSL_3n, zSL_3i, zSL_3a, zSL_3l, zSL_4n, zSL_4i, zSL_4a, zSL_4l, zSL_5n, zSL_5i, zSL_5a, zSL_5l, zSL_6n, zSL_6i, zSL_6a, zSL_6l, zSL_7n, zSL_7i, zSL_7a, zSL_7l, zSL_8n, zSL_8i, zSL_8a, zSL_8l, zSL_9n, zSL_9i, zSL_9a, zSL_9l, zSL_10n, zSL_10i, zSL_10a, zSL_10l, zSL_11n, zSL_11i, zSL_11a, zSL_11l, zSL_12n, zSL_12i, zSL_12a, zSL_12l, zLI_0, zLL_0, zLA_0, zLI_1, zLL_1, zLA_1, zLI_2, zLL_2, zLA_2, zLI_3, zLL_3, zLA_3, zLI_4, zLL_4, zLA_4, zLI_5, zLL_5, zLA_5, zLI_6, zLL_6, zLA_6, zLI_7, zLL_7, zLA_7, zLI_8, zLL_8, zLA_8, zLI_9, zLL_9, zLA_9, zLI_10, zLL_10, zLA_10, zLI_11, zLL_11, zLA_11, zLI_12, zLL_12, zLA_12, zLI_13, zLL_13, zLA_13, zst_0, zst_1n, zst_1i, zst_1a, zst_2n, zst_2i, zst_2a, zst_3n, zst_3i, zst_3a, zst_4n, zst_4i, zst_4a, zst_5n, zst_5i, zst_5a, zst_6n, zst_6i, zst_6a, zst_7n, zst_7i, zst_7a, zst_8n, zst_8i, zst_8a, zst_9n, zst_9i, zst_9a, zst_10n, zst_10i, zst_10a, zst_11n, zst_11i, zst_11a, zst_12n, zst_12i, zst_12a, zst_13n, zst_13i, zst_13a, zst_14n, zst_14i, zst_14a, zst_15n, zst_15i, zst_15a, zR1_n, zR1_v, zsum_n, zsum_i, zsum_l, zsum_a, zlen_n, zlen_i, zlen_l, zlen_a, List.not_mem_nil, List.mem_cons, or_false, false_or, or_self, ↓reduceIte, if_false, if_true, Nat.reduceEqDiff, Nat.reduceAdd, Nat.reduceLeDiff, true_and, and_true, reduceCtorEq, ne_eq, Int.toNat_natCast, not_true_eq_false, not_false_eq_true, true_implies, false_implies, implies_true, Int.reduceToNat, Int.toNat_zero, Int.reduceLT, Int.reduceLE, Int.reduceEq, Int.reduceAdd, Int.reduceMul, Int.reduceNeg]
  exact o9
end ZPOINTS
