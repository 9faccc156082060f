/-! the reference: turned several times, reshaped -/
section ZRTURNED
variable {L : Nat} {M : zM} {s : Nat} {Q : zO → zM → Prop}
theorem zfo_bB {op : Int → Int → Int} (ho : ∀ x y, op x y = x ∨ op x y = y) {g : Nat → Int} {b B : Int} (hb : -B ≤ b ∧ b ≤ B) : ∀ k : Nat, (∀ i, i < k → -B ≤ g i ∧ g i ≤ B) → -B ≤ zfo op g b k ∧ zfo op g b k ≤ B
  | 0, _ => hb
  | k + 1, h => by
    have ih := zfo_bB ho (g := g) hb k (fun i hi => h i (by omega))
    have h1 := h k (by omega)
    rw [zfo_s]
    rcases ho (zfo op g b k) (g k) with e | e <;> rw [e] <;> assumption
theorem zf2_bB {op : Int → Int → Int} (ho : ∀ x y, op x y = x ∨ op x y = y) {n : Nat → Int} {X : Nat → Nat → Int} {b B : Int} (hb : -B ≤ b ∧ b ≤ B) : ∀ c : Nat, (∀ p, p < c → ∀ k : Nat, (k : Int) < n p → -B ≤ X p k ∧ X p k ≤ B) → -B ≤ zf2 op n X b c ∧ zf2 op n X b c ≤ B
  | 0, _ => hb
  | c + 1, h => by
    have ih := zf2_bB ho (n := n) (X := X) hb c (fun p hp => h p (by omega))
    rw [zf2_s]
    exact zfo_bB ho ih _ (fun i hi => h c (by omega) i (by omega))
/-- as zrSw, with a bound of the corners -/
def zrSb (f : Nat → Nat → Int) (s : Nat) (B : Int) : Prop := (0 ≤ f 1174 s ∧ f 1174 s ≤ 4) ∧ (0 ≤ f 1175 s ∧ f 1175 s < 65536) ∧ ∀ p : Nat, (p : Int) < f 1174 s → (0 ≤ zrN f s p ∧ zrN f s p ≤ 8) ∧ ∀ k : Nat, (k : Int) < zrN f s p → (-B ≤ zrX f s p k ∧ zrX f s p k ≤ B) ∧ -B ≤ zrY f s p k ∧ zrY f s p k ≤ B
theorem zrSb_w {f : Nat → Nat → Int} {B : Int} (hB : B ≤ 10000) (h : zrSb f s B) : zrSw f s := by
  obtain ⟨h1, h2, h3⟩ := h
  refine ⟨h1, h2, fun p hp => ?_⟩
  obtain ⟨a, b⟩ := h3 p hp
  exact ⟨a.1, a.2, fun k hk => by have := b k hk; omega⟩
theorem zrSb_f {f : Nat → Nat → Int} (hw : zrSw f s) (hf : zrFm f s) : zrSb f s 100 := by
  obtain ⟨h1, h2, h3⟩ := hw
  refine ⟨h1, h2, fun p hp => ?_⟩
  obtain ⟨a, b, c⟩ := h3 p hp
  exact ⟨⟨a, b⟩, fun k hk => by have := zrFm_c hf hp hk; omega⟩
theorem zrSb_d {f : Nat → Nat → Int} {B : Int} {w : Nat} (hB : 100 ≤ B) (h : zrSb f s B) : -B ≤ zrsd f s w ∧ zrsd f s w ≤ B := by
  obtain ⟨h1, h2, h3⟩ := h
  unfold zrsd
  refine zf2_bB ?_ ?_ _ (fun p hp k hk => ?_)
  · intro x y
    split
    · exact zmn_or x y
    · exact zmx_or x y
  · split <;> omega
  · have := (h3 p (by omega)).2 k hk
    split <;> omega
/-- one quarter turn -/
def zrt1 (f : Nat → Nat → Int) (s : Nat) : Nat → Nat → Int := zrmp f s (f 1174 s).toNat 0 (fun _ y => zrsd f s 0 + zrsd f s 3 - y) (fun x _ => zrsd f s 1 + x - zrsd f s 0)
theorem zrt1_o {f : Nat → Nat → Int} {s b j : Nat} (h : b ≠ 1177 ∧ b ≠ 1178) : zrt1 f s b j = f b j := zrmp_o h
theorem zrt1_b {f : Nat → Nat → Int} {B : Int} (hB : 100 ≤ B) (h : zrSb f s B) : zrSb (zrt1 f s) s (3 * B) := by
  have d0 := zrSb_d (w := 0) hB h
  have d1 := zrSb_d (w := 1) hB h
  have d3 := zrSb_d (w := 3) hB h
  obtain ⟨h1, h2, h3⟩ := h
  refine ⟨by rw [zrt1_o (by omega)]; exact h1, by rw [zrt1_o (by omega)]; exact h2, fun p hp => ?_⟩
  rw [zrt1_o (by omega)] at hp
  obtain ⟨a, b⟩ := h3 p hp
  have en : zrN (zrt1 f s) s p = zrN f s p := zrt1_o (by omega)
  refine ⟨by rw [en]; exact a, fun k hk => ?_⟩
  rw [en] at hk
  have c := b k hk
  have ex : zrX (zrt1 f s) s p k = zrsd f s 0 + zrsd f s 3 - zrY f s p k := zrmp_x (by omega) (by omega) hk (by omega)
  have ey : zrY (zrt1 f s) s p k = zrsd f s 1 + zrX f s p k - zrsd f s 0 := zrmp_y (by omega) (by omega) hk (by omega)
  rw [ex, ey]
  omega
def zrtu (f : Nat → Nat → Int) (s : Nat) : Nat → Nat → Nat → Int
  | 0 => f
  | k + 1 => zrt1 (zrtu f s k) s
theorem zrtu_s (f : Nat → Nat → Int) (s k : Nat) : zrtu f s (k + 1) = zrt1 (zrtu f s k) s := rfl
theorem zrtu_o {f : Nat → Nat → Int} {s b j : Nat} (h : b ≠ 1177 ∧ b ≠ 1178) : ∀ k, zrtu f s k b j = f b j
  | 0 => rfl
  | k + 1 => by rw [zrtu_s, zrt1_o h, zrtu_o h k]
theorem zrtu_w {f : Nat → Nat → Int} (hw : zrSw f s) (hf : zrFm f s) {k : Nat} (hk : k ≤ 3) : zrSw (zrtu f s k) s := by
  have b0 := zrSb_f hw hf
  have b1 := zrt1_b (by omega) b0
  have b2 := zrt1_b (by omega) b1
  have b3 := zrt1_b (by omega) b2
  match k, hk with
  | 0, _ => exact hw
  | 1, _ => exact zrSb_w (by omega) b1
  | 2, _ => exact zrSb_w (by omega) b2
  | 3, _ => exact zrSb_w (by omega) b3
theorem c241x {n : Int} (hR : zLay M.2.2.2) (hs : s ≤ 60) (h : zrSw M.2.1 s) (hn : 2 ≤ n ∧ n ≤ 4) (hg : ¬ (zrsd M.2.1 s 0 + n * (zrsd M.2.1 s 2 - zrsd M.2.1 s 0) ≤ 60 ∧ zrsd M.2.1 s 1 + n * (zrsd M.2.1 s 3 - zrsd M.2.1 s 1) ≤ 60)) : zFR (zK L) 241 0 (zcall 241 [.inr (.inr 1153), .inl (s : Int), .inl 5, .inl n]) [] M Q = Q (.inl (some (.inl 0))) M := by
  have e0 : ∀ Q : zO → zM → Prop, zFR (zK L) 216 0 (zcall 216 [.inr (.inr 1153), .inl (s : Int), .inl 0]) [] M Q = Q (.inl (some (.inl (zrsd M.2.1 s 0)))) M := fun Q => c216 (w := 0) hR hs (by omega) h
  have e1 : ∀ Q : zO → zM → Prop, zFR (zK L) 216 0 (zcall 216 [.inr (.inr 1153), .inl (s : Int), .inl 1]) [] M Q = Q (.inl (some (.inl (zrsd M.2.1 s 1)))) M := fun Q => c216 (w := 1) hR hs (by omega) h
  have e2 : ∀ Q : zO → zM → Prop, zFR (zK L) 216 0 (zcall 216 [.inr (.inr 1153), .inl (s : Int), .inl 2]) [] M Q = Q (.inl (some (.inl (zrsd M.2.1 s 2)))) M := fun Q => c216 (w := 2) hR hs (by omega) h
  have e3 : ∀ Q : zO → zM → Prop, zFR (zK L) 216 0 (zcall 216 [.inr (.inr 1153), .inl (s : Int), .inl 3]) [] M Q = Q (.inl (some (.inl (zrsd M.2.1 s 3)))) M := fun Q => c216 (w := 3) hR hs (by omega) h
  have b0 := zrsd_b (w := 0) h
  have b1 := zrsd_b (w := 1) h
  have b2 := zrsd_b (w := 2) h
  have b3 := zrsd_b (w := 3) h
  generalize zrsd M.2.1 s 0 = x0 at *
  generalize zrsd M.2.1 s 1 = x1 at *
  generalize zrsd M.2.1 s 2 = x2 at *
  generalize zrsd M.2.1 s 3 = x3 at *
  have cs : n = 2 ∨ n = 3 ∨ n = 4 := by omega
  refine zFR_det (zW_sound 60 [] ?_) Q
  simp only [ZF241, ZR241, zk_1153, ZF216.1, ZF216.2.1, ZF216.2.2.1, e0, e1, e2, e3, zW_succ, zE_iload, zE_aload, zE_lload, zE_iinc, zE_istore, zE_astore, zE_lstore, zE_iconst, zE_ldc2, zE_iadd, zE_isub, zE_imul, zE_idiv, zE_irem, zE_ineg, zE_iand, zE_ior, zE_ixor, zE_ishl, zE_ishr, zE_land, zE_lor, zE_lxor, zE_lshl, zE_lshr, zE_i2l, zE_lcmp, zE_dup_i, zE_dup_a, zE_dup2_ia, zE_pop_i, zE_pop_a, zE_pop2, zE_goto, zE_if_eq, zE_icmp_eq, zE_if_ne, zE_icmp_ne, zE_if_lt, zE_icmp_lt, zE_if_ge, zE_icmp_ge, zE_if_gt, zE_icmp_gt, zE_if_le, zE_icmp_le, zE_iaload, zE_baload, zE_laload, zE_aaload, zE_iastore, zE_bastore, zE_lastore, zE_aastore, zE_alen, zE_getf0, zE_getf1, zE_getf2, zE_getf3, zE_putf0, zE_putf1, zE_putf2, zE_putf3, zE_new, zE_newa, zE_newq, zE_ireturn, zE_lreturn, zE_areturn, zE_return, zE_athrow, zE_st0, zE_vi0, zE_st1, zE_vi1, zE_st2, zE_vi2, zE_st3, zE_vi3, zE_st4, zE_vi4, zE_st5, zE_vi5, zE_st6, zE_vi6, zE_st7, zE_vi7, zE_st8, zE_vi8, zSt_0, zSL_0, zSt_1n, zSt_1i, zSt_1a, zSt_1l, zSt_2n, zSt_2i, zSt_2a, zSt_2l, zSt_3n, zSt_3i, zSt_3a, zSt_3l, zSt_4n, zSt_4i, zSt_4a, zSt_4l, zSt_5n, zSt_5i, zSt_5a, zSt_5l, zSt_6n, zSt_6i, zSt_6a, zSt_6l, zSt_7n, zSt_7i, zSt_7a, zSt_7l, zSt_8n, zSt_8i, zSt_8a, zSt_8l, zSt_9n, zSt_9i, zSt_9a, zSt_9l, zSt_10n, zSt_10i, zSt_10a, zSt_10l, zSt_11n, zSt_11i, zSt_11a, zSt_11l, zSt_12n, zSt_12i, zSt_12a, zSt_12l, zSt_13n, zSt_13i, zSt_13a, zSt_13l, zSL_1n, zSL_1i, zSL_1a, zSL_1l, zSL_2n, zSL_2i, zSL_2a, zSL_2l, zSL_3n, zSL_3i, zSL_3a, zSL_3l, zSL_4n, zSL_4i, zSL_4a, zSL_4l, zSL_5n, zSL_5i, zSL_5a, zSL_5l, zSL_6n, zSL_6i, zSL_6a, zSL_6l, zSL_7n, zSL_7i, zSL_7a, zSL_7l, zSL_8n, zSL_8i, zSL_8a, zSL_8l, zSL_9n, zSL_9i, zSL_9a, zSL_9l, zSL_10n, zSL_10i, zSL_10a, zSL_10l, zSL_11n, zSL_11i, zSL_11a, zSL_11l, zSL_12n, zSL_12i, zSL_12a, zSL_12l, zLI_0, zLL_0, zLA_0, zLI_1, zLL_1, zLA_1, zLI_2, zLL_2, zLA_2, zLI_3, zLL_3, zLA_3, zLI_4, zLL_4, zLA_4, zLI_5, zLL_5, zLA_5, zLI_6, zLL_6, zLA_6, zLI_7, zLL_7, zLA_7, zLI_8, zLL_8, zLA_8, zLI_9, zLL_9, zLA_9, zLI_10, zLL_10, zLA_10, zLI_11, zLL_11, zLA_11, zLI_12, zLL_12, zLA_12, zLI_13, zLL_13, zLA_13, zst_0, zst_1n, zst_1i, zst_1a, zst_2n, zst_2i, zst_2a, zst_3n, zst_3i, zst_3a, zst_4n, zst_4i, zst_4a, zst_5n, zst_5i, zst_5a, zst_6n, zst_6i, zst_6a, zst_7n, zst_7i, zst_7a, zst_8n, zst_8i, zst_8a, zst_9n, zst_9i, zst_9a, zst_10n, zst_10i, zst_10a, zst_11n, zst_11i, zst_11a, zst_12n, zst_12i, zst_12a, zst_13n, zst_13i, zst_13a, zst_14n, zst_14i, zst_14a, zst_15n, zst_15i, zst_15a, zR1_n, zR1_v, zsum_n, zsum_i, zsum_l, zsum_a, zlen_n, zlen_i, zlen_l, zlen_a, List.not_mem_nil, List.mem_cons, or_false, false_or, or_self, ↓reduceIte, if_false, if_true, Nat.reduceEqDiff, Nat.reduceAdd, Nat.reduceLeDiff, true_and, and_true, reduceCtorEq, ne_eq, Int.toNat_natCast, not_true_eq_false, not_false_eq_true, true_implies, false_implies, implies_true, Int.reduceToNat, Int.toNat_zero, Int.reduceLT, Int.reduceLE, Int.reduceEq, Int.reduceAdd, Int.reduceMul, Int.reduceNeg]
  rcases cs with rfl | rfl | rfl <;> exact ⟨by unfold zr32; omega, by unfold zr32; omega, by unfold zr32; omega, fun h3 => ⟨by unfold zr32; omega, by unfold zr32; omega, by unfold zr32; omega, fun h4 => absurd ⟨by omega, by omega⟩ hg⟩⟩
theorem c238 {n : Nat} (hR : zLay M.2.2.2) (hs : s ≤ 60) (h : zrSw M.2.1 s) (hf : zrFm M.2.1 s) (hn : n ≤ 3) : zFR (zK L) 238 0 (zcall 238 [.inr (.inr 1153), .inl (s : Int), .inl (n : Int)]) [] M Q = (((n = 2 ∨ zrit M.2.1 s) → Q (.inl (some (.inl 1))) (zwI M (zrtu M.2.1 s n))) ∧ (¬ (n = 2 ∨ zrit M.2.1 s) → Q (.inl (some (.inl 0))) M)) := by
  have e239 := fun Q => c239 (L := L) (M := M) (Q := Q) hR hs h
  by_cases hc : n = 2 ∨ zrit M.2.1 s
  · have run : zFR (zK L) 238 0 (zcall 238 [.inr (.inr 1153), .inl (s : Int), .inl (n : Int)]) [] M (fun rr M2 => rr = .inl (some (.inl 1)) ∧ M2 = zwI M (zrtu M.2.1 s n)) := by
      generalize hQ : (fun (rr : zO) M2 => rr = .inl (some (.inl 1)) ∧ M2 = zwI M (zrtu M.2.1 s n)) = Q9
      have loop : ∀ i : Nat, i ≤ n → zFR (zK L) 238 22 [some (.inr (.inr 1153)), some (.inl (s : Int)), some (.inl (n : Int)), some (.inl 1), some (.inl (i : Int))] [] (zwI M (zrtu M.2.1 s i)) Q9 := by
        refine zloop ?_ ?_
        · refine zW_sound 60 [28] ?_
          simp only [ZR238, zW_succ, zE_iload, zE_aload, zE_lload, zE_iinc, zE_istore, zE_astore, zE_lstore, zE_iconst, zE_ldc2, zE_iadd, zE_isub, zE_imul, zE_idiv, zE_irem, zE_ineg, zE_iand, zE_ior, zE_ixor, zE_ishl, zE_ishr, zE_land, zE_lor, zE_lxor, zE_lshl, zE_lshr, zE_i2l, zE_lcmp, zE_dup_i, zE_dup_a, zE_dup2_ia, zE_pop_i, zE_pop_a, zE_pop2, zE_goto, zE_if_eq, zE_icmp_eq, zE_if_ne, zE_icmp_ne, zE_if_lt, zE_icmp_lt, zE_if_ge, zE_icmp_ge, zE_if_gt, zE_icmp_gt, zE_if_le, zE_icmp_le, zE_iaload, zE_baload, zE_laload, zE_aaload, zE_iastore, zE_bastore, zE_lastore, zE_aastore, zE_alen, zE_getf0, zE_getf1, zE_getf2, zE_getf3, zE_putf0, zE_putf1, zE_putf2, zE_putf3, zE_new, zE_newa, zE_newq, zE_ireturn, zE_lreturn, zE_areturn, zE_return, zE_athrow, zE_st0, zE_vi0, zE_st1, zE_vi1, zE_st2, zE_vi2, zE_st3, zE_vi3, zE_st4, zE_vi4, zE_st5, zE_vi5, zE_st6, zE_vi6, zE_st7, zE_vi7, zE_st8, zE_vi8, zSt_0, zSL_0, zSt_1n, zSt_1i, zSt_1a, zSt_1l, zSt_2n, zSt_2i, zSt_2a, zSt_2l, zSt_3n, zSt_3i, zSt_3a, zSt_3l, zSt_4n, zSt_4i, zSt_4a, zSt_4l, zSt_5n, zSt_5i, zSt_5a, zSt_5l, zSt_6n, zSt_6i, zSt_6a, zSt_6l, zSt_7n, zSt_7i, zSt_7a, zSt_7l, zSt_8n, zSt_8i, zSt_8a, zSt_8l, zSt_9n, zSt_9i, zSt_9a, zSt_9l, zSt_10n, zSt_10i, zSt_10a, zSt_10l, zSt_11n, zSt_11i, zSt_11a, zSt_11l, zSt_12n, zSt_12i, zSt_12a, zSt_12l, zSt_13n, zSt_13i, zSt_13a, zSt_13l, zSL_1n, zSL_1i, zSL_1a, zSL_1l, zSL_2n, zSL_2i, zSL_2a, zSL_2l, zSL_3n, zSL_3i, zSL_3a, zSL_3l, zSL_4n, zSL_4i, zSL_4a, zSL_4l, zSL_5n, zSL_5i, zSL_5a, zSL_5l, zSL_6n, zSL_6i, zSL_6a, zSL_6l, zSL_7n, zSL_7i, zSL_7a, zSL_7l, zSL_8n, zSL_8i, zSL_8a, zSL_8l, zSL_9n, zSL_9i, zSL_9a, zSL_9l, zSL_10n, zSL_10i, zSL_10a, zSL_10l, zSL_11n, zSL_11i, zSL_11a, zSL_11l, zSL_12n, zSL_12i, zSL_12a, zSL_12l, zLI_0, zLL_0, zLA_0, zLI_1, zLL_1, zLA_1, zLI_2, zLL_2, zLA_2, zLI_3, zLL_3, zLA_3, zLI_4, zLL_4, zLA_4, zLI_5, zLL_5, zLA_5, zLI_6, zLL_6, zLA_6, zLI_7, zLL_7, zLA_7, zLI_8, zLL_8, zLA_8, zLI_9, zLL_9, zLA_9, zLI_10, zLL_10, zLA_10, zLI_11, zLL_11, zLA_11, zLI_12, zLL_12, zLA_12, zLI_13, zLL_13, zLA_13, zst_0, zst_1n, zst_1i, zst_1a, zst_2n, zst_2i, zst_2a, zst_3n, zst_3i, zst_3a, zst_4n, zst_4i, zst_4a, zst_5n, zst_5i, zst_5a, zst_6n, zst_6i, zst_6a, zst_7n, zst_7i, zst_7a, zst_8n, zst_8i, zst_8a, zst_9n, zst_9i, zst_9a, zst_10n, zst_10i, zst_10a, zst_11n, zst_11i, zst_11a, zst_12n, zst_12i, zst_12a, zst_13n, zst_13i, zst_13a, zst_14n, zst_14i, zst_14a, zst_15n, zst_15i, zst_15a, zR1_n, zR1_v, zsum_n, zsum_i, zsum_l, zsum_a, zlen_n, zlen_i, zlen_l, zlen_a, List.not_mem_nil, List.mem_cons, or_false, false_or, or_self, ↓reduceIte, if_false, if_true, Nat.reduceEqDiff, Nat.reduceAdd, Nat.reduceLeDiff, true_and, and_true, reduceCtorEq, ne_eq, Int.toNat_natCast, not_true_eq_false, not_false_eq_true, true_implies, false_implies, implies_true, Int.reduceToNat, Int.toNat_zero, Int.reduceLT, Int.reduceLE, Int.reduceEq, Int.reduceAdd, Int.reduceMul, Int.reduceNeg]
          subst hQ
          exact ⟨fun _ => ⟨rfl, rfl⟩, fun h => absurd (by omega) h⟩
        · intro i hi ih
          have e240 : ∀ Q : zO → zM → Prop, zFR (zK L) 240 0 (zcall 240 [.inr (.inr 1153), .inl (s : Int)]) [] (zwI M (zrtu M.2.1 s i)) Q = Q (.inl none) (zwI M (zrt1 (zrtu M.2.1 s i) s)) := fun Q => c240 (M := zwI M (zrtu M.2.1 s i)) hR hs (zrtu_w h hf (by omega))
          refine zW_sound 60 [22] ?_
          simp only [ZR238, zk_1153, ZF240.1, ZF240.2.1, ZF240.2.2.1, e240, zW_succ, zE_iload, zE_aload, zE_lload, zE_iinc, zE_istore, zE_astore, zE_lstore, zE_iconst, zE_ldc2, zE_iadd, zE_isub, zE_imul, zE_idiv, zE_irem, zE_ineg, zE_iand, zE_ior, zE_ixor, zE_ishl, zE_ishr, zE_land, zE_lor, zE_lxor, zE_lshl, zE_lshr, zE_i2l, zE_lcmp, zE_dup_i, zE_dup_a, zE_dup2_ia, zE_pop_i, zE_pop_a, zE_pop2, zE_goto, zE_if_eq, zE_icmp_eq, zE_if_ne, zE_icmp_ne, zE_if_lt, zE_icmp_lt, zE_if_ge, zE_icmp_ge, zE_if_gt, zE_icmp_gt, zE_if_le, zE_icmp_le, zE_iaload, zE_baload, zE_laload, zE_aaload, zE_iastore, zE_bastore, zE_lastore, zE_aastore, zE_alen, zE_getf0, zE_getf1, zE_getf2, zE_getf3, zE_putf0, zE_putf1, zE_putf2, zE_putf3, zE_new, zE_newa, zE_newq, zE_ireturn, zE_lreturn, zE_areturn, zE_return, zE_athrow, zE_st0, zE_vi0, zE_st1, zE_vi1, zE_st2, zE_vi2, zE_st3, zE_vi3, zE_st4, zE_vi4, zE_st5, zE_vi5, zE_st6, zE_vi6, zE_st7, zE_vi7, zE_st8, zE_vi8, zSt_0, zSL_0, zSt_1n, zSt_1i, zSt_1a, zSt_1l, zSt_2n, zSt_2i, zSt_2a, zSt_2l, zSt_3n, zSt_3i, zSt_3a, zSt_3l, zSt_4n, zSt_4i, zSt_4a, zSt_4l, zSt_5n, zSt_5i, zSt_5a, zSt_5l, zSt_6n, zSt_6i, zSt_6a, zSt_6l, zSt_7n, zSt_7i, zSt_7a, zSt_7l, zSt_8n, zSt_8i, zSt_8a, zSt_8l, zSt_9n, zSt_9i, zSt_9a, zSt_9l, zSt_10n, zSt_10i, zSt_10a, zSt_10l, zSt_11n, zSt_11i, zSt_11a, zSt_11l, zSt_12n, zSt_12i, zSt_12a, zSt_12l, zSt_13n, zSt_13i, zSt_13a, zSt_13l, zSL_1n, zSL_1i, zSL_1a, zSL_1l, zSL_2n, zSL_2i, zSL_2a, zSL_2l, zSL_3n, zSL_3i, zSL_3a, zSL_3l, zSL_4n, zSL_4i, zSL_4a, zSL_4l, zSL_5n, zSL_5i, zSL_5a, zSL_5l, zSL_6n, zSL_6i, zSL_6a, zSL_6l, zSL_7n, zSL_7i, zSL_7a, zSL_7l, zSL_8n, zSL_8i, zSL_8a, zSL_8l, zSL_9n, zSL_9i, zSL_9a, zSL_9l, zSL_10n, zSL_10i, zSL_10a, zSL_10l, zSL_11n, zSL_11i, zSL_11a, zSL_11l, zSL_12n, zSL_12i, zSL_12a, zSL_12l, zLI_0, zLL_0, zLA_0, zLI_1, zLL_1, zLA_1, zLI_2, zLL_2, zLA_2, zLI_3, zLL_3, zLA_3, zLI_4, zLL_4, zLA_4, zLI_5, zLL_5, zLA_5, zLI_6, zLL_6, zLA_6, zLI_7, zLL_7, zLA_7, zLI_8, zLL_8, zLA_8, zLI_9, zLL_9, zLA_9, zLI_10, zLL_10, zLA_10, zLI_11, zLL_11, zLA_11, zLI_12, zLL_12, zLA_12, zLI_13, zLL_13, zLA_13, zst_0, zst_1n, zst_1i, zst_1a, zst_2n, zst_2i, zst_2a, zst_3n, zst_3i, zst_3a, zst_4n, zst_4i, zst_4a, zst_5n, zst_5i, zst_5a, zst_6n, zst_6i, zst_6a, zst_7n, zst_7i, zst_7a, zst_8n, zst_8i, zst_8a, zst_9n, zst_9i, zst_9a, zst_10n, zst_10i, zst_10a, zst_11n, zst_11i, zst_11a, zst_12n, zst_12i, zst_12a, zst_13n, zst_13i, zst_13a, zst_14n, zst_14i, zst_14a, zst_15n, zst_15i, zst_15a, zR1_n, zR1_v, zsum_n, zsum_i, zsum_l, zsum_a, zlen_n, zlen_i, zlen_l, zlen_a, List.not_mem_nil, List.mem_cons, or_false, false_or, or_self, ↓reduceIte, if_false, if_true, Nat.reduceEqDiff, Nat.reduceAdd, Nat.reduceLeDiff, true_and, and_true, reduceCtorEq, ne_eq, Int.toNat_natCast, not_true_eq_false, not_false_eq_true, true_implies, false_implies, implies_true, Int.reduceToNat, Int.toNat_zero, Int.reduceLT, Int.reduceLE, Int.reduceEq, Int.reduceAdd, Int.reduceMul, Int.reduceNeg]
          exact ⟨fun h => absurd h (by omega), fun _ => ⟨by unfold zr32; omega, ih⟩⟩
      have l0 := loop 0 (Nat.zero_le _)
      refine zW_sound 60 [22] ?_
      simp only [ZF238, ZR238, zk_1153, ZF239.1, ZF239.2.1, ZF239.2.2.1, e239, zW_succ, zE_iload, zE_aload, zE_lload, zE_iinc, zE_istore, zE_astore, zE_lstore, zE_iconst, zE_ldc2, zE_iadd, zE_isub, zE_imul, zE_idiv, zE_irem, zE_ineg, zE_iand, zE_ior, zE_ixor, zE_ishl, zE_ishr, zE_land, zE_lor, zE_lxor, zE_lshl, zE_lshr, zE_i2l, zE_lcmp, zE_dup_i, zE_dup_a, zE_dup2_ia, zE_pop_i, zE_pop_a, zE_pop2, zE_goto, zE_if_eq, zE_icmp_eq, zE_if_ne, zE_icmp_ne, zE_if_lt, zE_icmp_lt, zE_if_ge, zE_icmp_ge, zE_if_gt, zE_icmp_gt, zE_if_le, zE_icmp_le, zE_iaload, zE_baload, zE_laload, zE_aaload, zE_iastore, zE_bastore, zE_lastore, zE_aastore, zE_alen, zE_getf0, zE_getf1, zE_getf2, zE_getf3, zE_putf0, zE_putf1, zE_putf2, zE_putf3, zE_new, zE_newa, zE_newq, zE_ireturn, zE_lreturn, zE_areturn, zE_return, zE_athrow, zE_st0, zE_vi0, zE_st1, zE_vi1, zE_st2, zE_vi2, zE_st3, zE_vi3, zE_st4, zE_vi4, zE_st5, zE_vi5, zE_st6, zE_vi6, zE_st7, zE_vi7, zE_st8, zE_vi8, zSt_0, zSL_0, zSt_1n, zSt_1i, zSt_1a, zSt_1l, zSt_2n, zSt_2i, zSt_2a, zSt_2l, zSt_3n, zSt_3i, zSt_3a, zSt_3l, zSt_4n, zSt_4i, zSt_4a, zSt_4l, zSt_5n, zSt_5i, zSt_5a, zSt_5l, zSt_6n, zSt_6i, zSt_6a, zSt_6l, zSt_7n, zSt_7i, zSt_7a, zSt_7l, zSt_8n, zSt_8i, zSt_8a, zSt_8l, zSt_9n, zSt_9i, zSt_9a, zSt_9l, zSt_10n, zSt_10i, zSt_10a, zSt_10l, zSt_11n, zSt_11i, zSt_11a, zSt_11l, zSt_12n, zSt_12i, zSt_12a, zSt_12l, zSt_13n, zSt_13i, zSt_13a, zSt_13l, zSL_1n, zSL_1i, zSL_1a, zSL_1l, zSL_2n, zSL_2i, zSL_2a, zSL_2l, zSL_3n, zSL_3i, zSL_3a, zSL_3l, zSL_4n, zSL_4i, zSL_4a, zSL_4l, zSL_5n, zSL_5i, zSL_5a, zSL_5l, zSL_6n, zSL_6i, zSL_6a, zSL_6l, zSL_7n, zSL_7i, zSL_7a, zSL_7l, zSL_8n, zSL_8i, zSL_8a, zSL_8l, zSL_9n, zSL_9i, zSL_9a, zSL_9l, zSL_10n, zSL_10i, zSL_10a, zSL_10l, zSL_11n, zSL_11i, zSL_11a, zSL_11l, zSL_12n, zSL_12i, zSL_12a, zSL_12l, zLI_0, zLL_0, zLA_0, zLI_1, zLL_1, zLA_1, zLI_2, zLL_2, zLA_2, zLI_3, zLL_3, zLA_3, zLI_4, zLL_4, zLA_4, zLI_5, zLL_5, zLA_5, zLI_6, zLL_6, zLA_6, zLI_7, zLL_7, zLA_7, zLI_8, zLL_8, zLA_8, zLI_9, zLL_9, zLA_9, zLI_10, zLL_10, zLA_10, zLI_11, zLL_11, zLA_11, zLI_12, zLL_12, zLA_12, zLI_13, zLL_13, zLA_13, zst_0, zst_1n, zst_1i, zst_1a, zst_2n, zst_2i, zst_2a, zst_3n, zst_3i, zst_3a, zst_4n, zst_4i, zst_4a, zst_5n, zst_5i, zst_5a, zst_6n, zst_6i, zst_6a, zst_7n, zst_7i, zst_7a, zst_8n, zst_8i, zst_8a, zst_9n, zst_9i, zst_9a, zst_10n, zst_10i, zst_10a, zst_11n, zst_11i, zst_11a, zst_12n, zst_12i, zst_12a, zst_13n, zst_13i, zst_13a, zst_14n, zst_14i, zst_14a, zst_15n, zst_15i, zst_15a, zR1_n, zR1_v, zsum_n, zsum_i, zsum_l, zsum_a, zlen_n, zlen_i, zlen_l, zlen_a, List.not_mem_nil, List.mem_cons, or_false, false_or, or_self, ↓reduceIte, if_false, if_true, Nat.reduceEqDiff, Nat.reduceAdd, Nat.reduceLeDiff, true_and, and_true, reduceCtorEq, ne_eq, Int.toNat_natCast, not_true_eq_false, not_false_eq_true, true_implies, false_implies, implies_true, Int.reduceToNat, Int.toNat_zero, Int.reduceLT, Int.reduceLE, Int.reduceEq, Int.reduceAdd, Int.reduceMul, Int.reduceNeg]
      exact ⟨fun _ => l0, fun h => ⟨fun _ => l0, fun h2 => absurd hc (by rintro (h3 | h3); exact h (by omega); exact h2 h3)⟩⟩
    rw [zFR_det run Q]
    exact propext ⟨fun h => ⟨fun _ => h, fun h2 => absurd hc h2⟩, fun h => h.1 hc⟩
  · have run : zFR (zK L) 238 0 (zcall 238 [.inr (.inr 1153), .inl (s : Int), .inl (n : Int)]) [] M (fun rr M2 => rr = .inl (some (.inl 0)) ∧ M2 = M) := by
      refine zW_sound 60 [] ?_
      simp only [ZF238, ZR238, zk_1153, ZF239.1, ZF239.2.1, ZF239.2.2.1, e239, zW_succ, zE_iload, zE_aload, zE_lload, zE_iinc, zE_istore, zE_astore, zE_lstore, zE_iconst, zE_ldc2, zE_iadd, zE_isub, zE_imul, zE_idiv, zE_irem, zE_ineg, zE_iand, zE_ior, zE_ixor, zE_ishl, zE_ishr, zE_land, zE_lor, zE_lxor, zE_lshl, zE_lshr, zE_i2l, zE_lcmp, zE_dup_i, zE_dup_a, zE_dup2_ia, zE_pop_i, zE_pop_a, zE_pop2, zE_goto, zE_if_eq, zE_icmp_eq, zE_if_ne, zE_icmp_ne, zE_if_lt, zE_icmp_lt, zE_if_ge, zE_icmp_ge, zE_if_gt, zE_icmp_gt, zE_if_le, zE_icmp_le, zE_iaload, zE_baload, zE_laload, zE_aaload, zE_iastore, zE_bastore, zE_lastore, zE_aastore, zE_alen, zE_getf0, zE_getf1, zE_getf2, zE_getf3, zE_putf0, zE_putf1, zE_putf2, zE_putf3, zE_new, zE_newa, zE_newq, zE_ireturn, zE_lreturn, zE_areturn, zE_return, zE_athrow, zE_st0, zE_vi0, zE_st1, zE_vi1, zE_st2, zE_vi2, zE_st3, zE_vi3, zE_st4, zE_vi4, zE_st5, zE_vi5, zE_st6, zE_vi6, zE_st7, zE_vi7, zE_st8, zE_vi8, zSt_0, zSL_0, zSt_1n, zSt_1i, zSt_1a, zSt_1l, zSt_2n, zSt_2i, zSt_2a, zSt_2l, zSt_3n, zSt_3i, zSt_3a, zSt_3l, zSt_4n, zSt_4i, zSt_4a, zSt_4l, zSt_5n, zSt_5i, zSt_5a, zSt_5l, zSt_6n, zSt_6i, zSt_6a, zSt_6l, zSt_7n, zSt_7i, zSt_7a, zSt_7l, zSt_8n, zSt_8i, zSt_8a, zSt_8l, zSt_9n, zSt_9i, zSt_9a, zSt_9l, zSt_10n, zSt_10i, zSt_10a, zSt_10l, zSt_11n, zSt_11i, zSt_11a, zSt_11l, zSt_12n, zSt_12i, zSt_12a, zSt_12l, zSt_13n, zSt_13i, zSt_13a, zSt_13l, zSL_1n, zSL_1i, zSL_1a, zSL_1l, zSL_2n, zSL_2i, zSL_2a, zSL_2l, zSL_3n, zSL_3i, zSL_3a, zSL_3l, zSL_4n, zSL_4i, zSL_4a, zSL_4l, zSL_5n, zSL_5i, zSL_5a, zSL_5l, zSL_6n, zSL_6i, zSL_6a, zSL_6l, zSL_7n, zSL_7i, zSL_7a, zSL_7l, zSL_8n, zSL_8i, zSL_8a, zSL_8l, zSL_9n, zSL_9i, zSL_9a, zSL_9l, zSL_10n, zSL_10i, zSL_10a, zSL_10l, zSL_11n, zSL_11i, zSL_11a, zSL_11l, zSL_12n, zSL_12i, zSL_12a, zSL_12l, zLI_0, zLL_0, zLA_0, zLI_1, zLL_1, zLA_1, zLI_2, zLL_2, zLA_2, zLI_3, zLL_3, zLA_3, zLI_4, zLL_4, zLA_4, zLI_5, zLL_5, zLA_5, zLI_6, zLL_6, zLA_6, zLI_7, zLL_7, zLA_7, zLI_8, zLL_8, zLA_8, zLI_9, zLL_9, zLA_9, zLI_10, zLL_10, zLA_10, zLI_11, zLL_11, zLA_11, zLI_12, zLL_12, zLA_12, zLI_13, zLL_13, zLA_13, zst_0, zst_1n, zst_1i, zst_1a, zst_2n, zst_2i, zst_2a, zst_3n, zst_3i, zst_3a, zst_4n, zst_4i, zst_4a, zst_5n, zst_5i, zst_5a, zst_6n, zst_6i, zst_6a, zst_7n, zst_7i, zst_7a, zst_8n, zst_8i, zst_8a, zst_9n, zst_9i, zst_9a, zst_10n, zst_10i, zst_10a, zst_11n, zst_11i, zst_11a, zst_12n, zst_12i, zst_12a, zst_13n, zst_13i, zst_13a, zst_14n, zst_14i, zst_14a, zst_15n, zst_15i, zst_15a, zR1_n, zR1_v, zsum_n, zsum_i, zsum_l, zsum_a, zlen_n, zlen_i, zlen_l, zlen_a, List.not_mem_nil, List.mem_cons, or_false, false_or, or_self, ↓reduceIte, if_false, if_true, Nat.reduceEqDiff, Nat.reduceAdd, Nat.reduceLeDiff, true_and, and_true, reduceCtorEq, ne_eq, Int.toNat_natCast, not_true_eq_false, not_false_eq_true, true_implies, false_implies, implies_true, Int.reduceToNat, Int.toNat_zero, Int.reduceLT, Int.reduceLE, Int.reduceEq, Int.reduceAdd, Int.reduceMul, Int.reduceNeg]
      done
    rw [zFR_det run Q]
    exact propext ⟨fun h => ⟨fun h2 => absurd h2 hc, fun _ => h⟩, fun h => h.2 hc⟩
end ZRTURNED
