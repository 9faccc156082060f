/-! shapes whose corners are all written -/
section ZCORN
/-- the corners before a place, all anew -/
def zmp (f : Nat → Nat → Int) (s c i : Nat) (gx gy : Int → Int → Int) : Nat → Nat → Int := fun b j => if s + 2 ≤ b ∧ b < s + 14 ∧ ((b - s - 2) / 3 < c ∨ (b - s - 2) / 3 = c ∧ j < i) ∧ (j : Int) < f (s + 2 + 3 * ((b - s - 2) / 3)) 0 then (if (b - s - 2) % 3 = 1 then gx (f b j) (f (b + 1) j) else if (b - s - 2) % 3 = 2 then gy (f (b - 1) j) (f b j) else f b j) else f b j
theorem zmp_o (f : Nat → Nat → Int) {s b : Nat} (h : b < s + 2 ∨ s + 14 ≤ b) (c i j : Nat) (gx gy : Int → Int → Int) : zmp f s c i gx gy b j = f b j := by
  unfold zmp
  rw [if_neg (by omega)]
theorem zmp_N (f : Nat → Nat → Int) {s : Nat} (p c i j : Nat) (gx gy : Int → Int → Int) : zmp f s c i gx gy (s + 2 + 3 * p) j = f (s + 2 + 3 * p) j := by
  unfold zmp
  rw [if_neg (show ¬ (s + 2 + 3 * p - s - 2) % 3 = 1 by omega), if_neg (show ¬ (s + 2 + 3 * p - s - 2) % 3 = 2 by omega)]
  split <;> rfl
theorem zmp_X (f : Nat → Nat → Int) {s p : Nat} (hp : p < 4) (c i j : Nat) (gx gy : Int → Int → Int) : zmp f s c i gx gy (s + 2 + 3 * p + 1) j = if (p < c ∨ p = c ∧ j < i) ∧ (j : Int) < f (s + 2 + 3 * p) 0 then gx (f (s + 2 + 3 * p + 1) j) (f (s + 2 + 3 * p + 2) j) else f (s + 2 + 3 * p + 1) j := by
  unfold zmp
  have e : (s + 2 + 3 * p + 1 - s - 2) / 3 = p := by omega
  rw [e, if_pos (show (s + 2 + 3 * p + 1 - s - 2) % 3 = 1 by omega)]
  by_cases h : (p < c ∨ p = c ∧ j < i) ∧ (j : Int) < f (s + 2 + 3 * p) 0
  · rw [if_pos h, if_pos ⟨by omega, by omega, h.1, h.2⟩]
  · rw [if_neg h, if_neg (fun h2 => h h2.2.2)]
theorem zmp_Y (f : Nat → Nat → Int) {s p : Nat} (hp : p < 4) (c i j : Nat) (gx gy : Int → Int → Int) : zmp f s c i gx gy (s + 2 + 3 * p + 2) j = if (p < c ∨ p = c ∧ j < i) ∧ (j : Int) < f (s + 2 + 3 * p) 0 then gy (f (s + 2 + 3 * p + 1) j) (f (s + 2 + 3 * p + 2) j) else f (s + 2 + 3 * p + 2) j := by
  unfold zmp
  have e : (s + 2 + 3 * p + 2 - s - 2) / 3 = p := by omega
  rw [e, if_neg (show ¬ (s + 2 + 3 * p + 2 - s - 2) % 3 = 1 by omega), if_pos (show (s + 2 + 3 * p + 2 - s - 2) % 3 = 2 by omega)]
  by_cases h : (p < c ∨ p = c ∧ j < i) ∧ (j : Int) < f (s + 2 + 3 * p) 0
  · rw [if_pos h, if_pos ⟨by omega, by omega, h.1, h.2⟩]
    rfl
  · rw [if_neg h, if_neg (fun h2 => h h2.2.2)]
theorem zmp_0 (f : Nat → Nat → Int) (s : Nat) (gx gy : Int → Int → Int) : zmp f s 0 0 gx gy = f := by
  funext b j
  unfold zmp
  rw [if_neg (by omega)]
theorem zmp_next (f : Nat → Nat → Int) (s c : Nat) {i : Nat} (hi : f (s + 2 + 3 * c) 0 ≤ (i : Int)) (gx gy : Int → Int → Int) : zmp f s c i gx gy = zmp f s (c + 1) 0 gx gy := by
  funext b j
  unfold zmp
  by_cases h : s + 2 ≤ b ∧ b < s + 14 ∧ ((b - s - 2) / 3 < c ∨ (b - s - 2) / 3 = c ∧ j < i) ∧ (j : Int) < f (s + 2 + 3 * ((b - s - 2) / 3)) 0
  · rw [if_pos h]
    refine (if_pos ⟨h.1, h.2.1, by omega, h.2.2.2⟩).symm
  · rw [if_neg h]
    by_cases h2 : s + 2 ≤ b ∧ b < s + 14 ∧ ((b - s - 2) / 3 < c + 1 ∨ (b - s - 2) / 3 = c + 1 ∧ j < 0) ∧ (j : Int) < f (s + 2 + 3 * ((b - s - 2) / 3)) 0
    · exfalso
      refine h ⟨h2.1, h2.2.1, ?_, h2.2.2.2⟩
      rcases h2.2.2.1 with h3 | h3
      · by_cases h4 : (b - s - 2) / 3 = c
        · have h5 := h2.2.2.2
          rw [h4] at h5
          exact Or.inr ⟨h4, by omega⟩
        · exact Or.inl (by omega)
      · omega
    · rw [if_neg h2]
theorem zmp_step (f : Nat → Nat → Int) {s c i : Nat} (hc : c < 4) (hi : (i : Int) < f (s + 2 + 3 * c) 0) (gx gy : Int → Int → Int) {x y : Int} (hx : x = gx (f (s + 2 + 3 * c + 1) i) (f (s + 2 + 3 * c + 2) i)) (hy : y = gy (f (s + 2 + 3 * c + 1) i) (f (s + 2 + 3 * c + 2) i)) : zu2 (zu2 (zmp f s c i gx gy) (s + 2 + 3 * c + 1) i x) (s + 2 + 3 * c + 2) i y = zmp f s c (i + 1) gx gy := by
  funext b j
  by_cases h1 : b = s + 2 + 3 * c + 1
  · subst h1
    rw [zu2_a (by omega), zmp_X f hc]
    by_cases h2 : j = i
    · subst h2
      rw [zu2_eq, if_pos ⟨Or.inr ⟨rfl, by omega⟩, hi⟩, hx]
    · rw [zu2_i h2, zmp_X f hc]
      by_cases h3 : (c < c ∨ c = c ∧ j < i) ∧ (j : Int) < f (s + 2 + 3 * c) 0
      · rw [if_pos h3, if_pos ⟨by omega, h3.2⟩]
      · rw [if_neg h3, if_neg (by omega)]
  · by_cases h2 : b = s + 2 + 3 * c + 2
    · subst h2
      by_cases h2 : j = i
      · subst h2
        rw [zu2_eq, zmp_Y f hc, if_pos ⟨Or.inr ⟨rfl, by omega⟩, hi⟩, hy]
      · rw [zu2_i h2, zu2_a (by omega), zmp_Y f hc, zmp_Y f hc]
        by_cases h3 : (c < c ∨ c = c ∧ j < i) ∧ (j : Int) < f (s + 2 + 3 * c) 0
        · rw [if_pos h3, if_pos ⟨by omega, h3.2⟩]
        · rw [if_neg h3, if_neg (by omega)]
    · rw [zu2_a h2, zu2_a h1]
      unfold zmp
      by_cases h3 : s + 2 ≤ b ∧ b < s + 14 ∧ ((b - s - 2) / 3 < c ∨ (b - s - 2) / 3 = c ∧ j < i) ∧ (j : Int) < f (s + 2 + 3 * ((b - s - 2) / 3)) 0
      · rw [if_pos h3]
        refine (if_pos ⟨h3.1, h3.2.1, by omega, h3.2.2.2⟩).symm
      · rw [if_neg h3]
        by_cases h4 : s + 2 ≤ b ∧ b < s + 14 ∧ ((b - s - 2) / 3 < c ∨ (b - s - 2) / 3 = c ∧ j < i + 1) ∧ (j : Int) < f (s + 2 + 3 * ((b - s - 2) / 3)) 0
        · rw [if_pos h4]
          by_cases h5 : (b - s - 2) / 3 = c
          · rw [if_neg (show ¬ (b - s - 2) % 3 = 1 by omega), if_neg (show ¬ (b - s - 2) % 3 = 2 by omega)]
          · exact absurd ⟨h4.1, h4.2.1, by omega, h4.2.2.2⟩ h3
        · rw [if_neg h4]
variable {L : Nat} {M : zM} {s : Nat} {Q : zO → zM → Prop}
theorem c97 {dx dy : Int} (hs : zShA s) (hR : zLay M.2.2.2) (hw : zSw M.2.1 s) (hx : -1000 ≤ dx ∧ dx ≤ 1000) (hy : -1000 ≤ dy ∧ dy ≤ 1000) (h1 : -1000 ≤ M.2.1 s 11 ∧ M.2.1 s 11 ≤ 1000) (h2 : -1000 ≤ M.2.1 s 12 ∧ M.2.1 s 12 ≤ 1000) (h3 : -1000 ≤ M.2.1 s 13 ∧ M.2.1 s 13 ≤ 1000) (h4 : -1000 ≤ M.2.1 s 14 ∧ M.2.1 s 14 ≤ 1000) : zFR (zK L) 97 0 (zcall 97 [.inr (.inr s), .inl dx, .inl dy]) [] M Q = Q (.inl none) (zwI M (zu2 (zu2 (zu2 (zu2 (zmp M.2.1 s (M.2.1 s 10).toNat 0 (fun x _ => x + dx) (fun _ y => y + dy)) s 11 (M.2.1 s 11 + dx)) s 13 (M.2.1 s 13 + dx)) s 12 (M.2.1 s 12 + dy)) s 14 (M.2.1 s 14 + dy))) := by
  refine zFR_det ?_ Q
  obtain ⟨k1, k2⟩ := zK_sh (L := L) hs
  obtain ⟨r1, r2⟩ := hR.2.2.1 s hs
  obtain ⟨w1, w2, w3⟩ := hw
  generalize hg1 : (fun x (_ : Int) => x + dx) = gx
  generalize hg2 : (fun (_ : Int) y => y + dy) = gy
  generalize hQ : (fun r M2 => r = (Sum.inl none : zO) ∧ M2 = zwI M (zu2 (zu2 (zu2 (zu2 (zmp M.2.1 s (M.2.1 s 10).toNat 0 gx gy) s 11 (M.2.1 s 11 + dx)) s 13 (M.2.1 s 13 + dx)) s 12 (M.2.1 s 12 + dy)) s 14 (M.2.1 s 14 + dy))) = Q9
  have o0 : ∀ c i j, zmp M.2.1 s c i gx gy s j = M.2.1 s j := fun c i j => zmp_o _ (by omega) c i j gx gy
  have z1 : ∀ f x y i, zu2 f s 11 x s 13 = f s 13 ∧ zu2 f s i y s i = y := fun f x y i => ⟨zu2_i (by omega) _ _ _ _, zu2_eq _ _ _ _⟩
  have outer : ∀ c, c ≤ (M.2.1 s 10).toNat → ∀ o4 o5, zFR (zK L) 97 2 [some (.inr (.inr s)), some (.inl dx), some (.inl dy), some (.inl (c : Int)), o4, o5] [] (zwI M (zmp M.2.1 s c 0 gx gy)) Q9 := by
    refine zloop ?_ ?_
    · intro o4 o5
      refine zW_sound 60 [10] ?_
      simp only [ZR97, k1, zwI_I, zwI_2, zsI_wI, zwI_w, o0, zu2_i (show (12 : Nat) ≠ 11 by omega), zu2_i (show (12 : Nat) ≠ 13 by omega), zu2_i (show (13 : Nat) ≠ 11 by omega), zu2_i (show (14 : Nat) ≠ 11 by omega), zu2_i (show (14 : Nat) ≠ 12 by omega), zu2_i (show (14 : Nat) ≠ 13 by omega), zW_succ, zE_iload, zE_aload, zE_lload, zE_iinc, zE_istore, zE_astore, zE_lstore, zE_iconst, zE_ldc2, zE_iadd, zE_isub, zE_imul, zE_idiv, zE_irem, zE_ineg, zE_iand, zE_ior, zE_ixor, zE_ishl, zE_ishr, zE_land, zE_lor, zE_lxor, zE_lshl, zE_lshr, zE_i2l, zE_lcmp, zE_dup_i, zE_dup_a, zE_dup2_ia, zE_pop_i, zE_pop_a, zE_pop2, zE_goto, zE_if_eq, zE_icmp_eq, zE_if_ne, zE_icmp_ne, zE_if_lt, zE_icmp_lt, zE_if_ge, zE_icmp_ge, zE_if_gt, zE_icmp_gt, zE_if_le, zE_icmp_le, zE_iaload, zE_baload, zE_laload, zE_aaload, zE_iastore, zE_bastore, zE_lastore, zE_aastore, zE_alen, zE_getf0, zE_getf1, zE_getf2, zE_getf3, zE_putf0, zE_putf1, zE_putf2, zE_putf3, zE_new, zE_newa, zE_newq, zE_ireturn, zE_lreturn, zE_areturn, zE_return, zE_athrow, zE_st0, zE_vi0, zE_st1, zE_vi1, zE_st2, zE_vi2, zE_st3, zE_vi3, zE_st4, zE_vi4, zE_st5, zE_vi5, zE_st6, zE_vi6, zE_st7, zE_vi7, zE_st8, zE_vi8, zSt_0, zSL_0, zSt_1n, zSt_1i, zSt_1a, zSt_1l, zSt_2n, zSt_2i, zSt_2a, zSt_2l, zSt_3n, zSt_3i, zSt_3a, zSt_3l, zSt_4n, zSt_4i, zSt_4a, zSt_4l, zSt_5n, zSt_5i, zSt_5a, zSt_5l, zSt_6n, zSt_6i, zSt_6a, zSt_6l, zSt_7n, zSt_7i, zSt_7a, zSt_7l, zSt_8n, zSt_8i, zSt_8a, zSt_8l, zSt_9n, zSt_9i, zSt_9a, zSt_9l, zSt_10n, zSt_10i, zSt_10a, zSt_10l, zSt_11n, zSt_11i, zSt_11a, zSt_11l, zSt_12n, zSt_12i, zSt_12a, zSt_12l, zSt_13n, zSt_13i, zSt_13a, zSt_13l, zSL_1n, zSL_1i, zSL_1a, zSL_1l, zSL_2n, zSL_2i, zSL_2a, zSL_2l, zSL_3n, zSL_3i, zSL_3a, zSL_3l, zSL_4n, zSL_4i, zSL_4a, zSL_4l, zSL_5n, zSL_5i, zSL_5a, zSL_5l, zSL_6n, zSL_6i, zSL_6a, zSL_6l, zSL_7n, zSL_7i, zSL_7a, zSL_7l, zSL_8n, zSL_8i, zSL_8a, zSL_8l, zSL_9n, zSL_9i, zSL_9a, zSL_9l, zSL_10n, zSL_10i, zSL_10a, zSL_10l, zSL_11n, zSL_11i, zSL_11a, zSL_11l, zSL_12n, zSL_12i, zSL_12a, zSL_12l, zLI_0, zLL_0, zLA_0, zLI_1, zLL_1, zLA_1, zLI_2, zLL_2, zLA_2, zLI_3, zLL_3, zLA_3, zLI_4, zLL_4, zLA_4, zLI_5, zLL_5, zLA_5, zLI_6, zLL_6, zLA_6, zLI_7, zLL_7, zLA_7, zLI_8, zLL_8, zLA_8, zLI_9, zLL_9, zLA_9, zLI_10, zLL_10, zLA_10, zLI_11, zLL_11, zLA_11, zLI_12, zLL_12, zLA_12, zLI_13, zLL_13, zLA_13, zst_0, zst_1n, zst_1i, zst_1a, zst_2n, zst_2i, zst_2a, zst_3n, zst_3i, zst_3a, zst_4n, zst_4i, zst_4a, zst_5n, zst_5i, zst_5a, zst_6n, zst_6i, zst_6a, zst_7n, zst_7i, zst_7a, zst_8n, zst_8i, zst_8a, zst_9n, zst_9i, zst_9a, zst_10n, zst_10i, zst_10a, zst_11n, zst_11i, zst_11a, zst_12n, zst_12i, zst_12a, zst_13n, zst_13i, zst_13a, zst_14n, zst_14i, zst_14a, zst_15n, zst_15i, zst_15a, zR1_n, zR1_v, zsum_n, zsum_i, zsum_l, zsum_a, zlen_n, zlen_i, zlen_l, zlen_a, List.not_mem_nil, List.mem_cons, or_false, false_or, or_self, ↓reduceIte, if_false, if_true, Nat.reduceEqDiff, Nat.reduceAdd, Nat.reduceLeDiff, true_and, and_true, reduceCtorEq, ne_eq, Int.toNat_natCast, not_true_eq_false, not_false_eq_true, true_implies, false_implies, implies_true, Int.reduceToNat, Int.toNat_zero, Int.reduceLT, Int.reduceLE, Int.reduceEq, Int.reduceAdd, Int.reduceMul, Int.reduceNeg]
      subst hQ
      refine ⟨fun _ => ⟨by unfold zr32; omega, by unfold zr32; omega, by unfold zr32; omega, by unfold zr32; omega, rfl, rfl⟩, fun h => absurd (by omega) h⟩
    · intro c hc ih o4 o5
      have he : (c : Int) < M.2.1 s 10 := by omega
      obtain ⟨q1, q2, q3⟩ := zK_po (L := L) (zPoA_sh hs (show c < 4 by omega))
      obtain ⟨f1, f2⟩ := hR.2.1 _ (zPoA_sh hs (show c < 4 by omega))
      obtain ⟨p1, p2, p3⟩ := w3 c he
      unfold zN at p1 p2 p3
      unfold zX zY at p3
      have inner : ∀ i, i ≤ (M.2.1 (s + 2 + 3 * c) 0).toNat → zFR (zK L) 97 21 [some (.inr (.inr s)), some (.inl dx), some (.inl dy), some (.inl (c : Int)), some (.inr (.inr (s + 2 + 3 * c))), some (.inl (i : Int))] [] (zwI M (zmp M.2.1 s c i gx gy)) Q9 := by
        refine zloop ?_ ?_
        · have hn := zmp_next M.2.1 s c (i := (M.2.1 (s + 2 + 3 * c) 0).toNat) (by omega) gx gy
          have hN := fun i => zmp_N M.2.1 (s := s) c c i 0 gx gy
          refine zW_sound 60 [2, 31] ?_
          simp only [ZR97, k1, q1, zwI_I, zwI_2, hN, zW_succ, zE_iload, zE_aload, zE_lload, zE_iinc, zE_istore, zE_astore, zE_lstore, zE_iconst, zE_ldc2, zE_iadd, zE_isub, zE_imul, zE_idiv, zE_irem, zE_ineg, zE_iand, zE_ior, zE_ixor, zE_ishl, zE_ishr, zE_land, zE_lor, zE_lxor, zE_lshl, zE_lshr, zE_i2l, zE_lcmp, zE_dup_i, zE_dup_a, zE_dup2_ia, zE_pop_i, zE_pop_a, zE_pop2, zE_goto, zE_if_eq, zE_icmp_eq, zE_if_ne, zE_icmp_ne, zE_if_lt, zE_icmp_lt, zE_if_ge, zE_icmp_ge, zE_if_gt, zE_icmp_gt, zE_if_le, zE_icmp_le, zE_iaload, zE_baload, zE_laload, zE_aaload, zE_iastore, zE_bastore, zE_lastore, zE_aastore, zE_alen, zE_getf0, zE_getf1, zE_getf2, zE_getf3, zE_putf0, zE_putf1, zE_putf2, zE_putf3, zE_new, zE_newa, zE_newq, zE_ireturn, zE_lreturn, zE_areturn, zE_return, zE_athrow, zE_st0, zE_vi0, zE_st1, zE_vi1, zE_st2, zE_vi2, zE_st3, zE_vi3, zE_st4, zE_vi4, zE_st5, zE_vi5, zE_st6, zE_vi6, zE_st7, zE_vi7, zE_st8, zE_vi8, zSt_0, zSL_0, zSt_1n, zSt_1i, zSt_1a, zSt_1l, zSt_2n, zSt_2i, zSt_2a, zSt_2l, zSt_3n, zSt_3i, zSt_3a, zSt_3l, zSt_4n, zSt_4i, zSt_4a, zSt_4l, zSt_5n, zSt_5i, zSt_5a, zSt_5l, zSt_6n, zSt_6i, zSt_6a, zSt_6l, zSt_7n, zSt_7i, zSt_7a, zSt_7l, zSt_8n, zSt_8i, zSt_8a, zSt_8l, zSt_9n, zSt_9i, zSt_9a, zSt_9l, zSt_10n, zSt_10i, zSt_10a, zSt_10l, zSt_11n, zSt_11i, zSt_11a, zSt_11l, zSt_12n, zSt_12i, zSt_12a, zSt_12l, zSt_13n, zSt_13i, zSt_13a, zSt_13l, zSL_1n, zSL_1i, zSL_1a, zSL_1l, zSL_2n, zSL_2i, zSL_2a, zSL_2l, zSL_3n, zSL_3i, zSL_3a, zSL_3l, zSL_4n, zSL_4i, zSL_4a, zSL_4l, zSL_5n, zSL_5i, zSL_5a, zSL_5l, zSL_6n, zSL_6i, zSL_6a, zSL_6l, zSL_7n, zSL_7i, zSL_7a, zSL_7l, zSL_8n, zSL_8i, zSL_8a, zSL_8l, zSL_9n, zSL_9i, zSL_9a, zSL_9l, zSL_10n, zSL_10i, zSL_10a, zSL_10l, zSL_11n, zSL_11i, zSL_11a, zSL_11l, zSL_12n, zSL_12i, zSL_12a, zSL_12l, zLI_0, zLL_0, zLA_0, zLI_1, zLL_1, zLA_1, zLI_2, zLL_2, zLA_2, zLI_3, zLL_3, zLA_3, zLI_4, zLL_4, zLA_4, zLI_5, zLL_5, zLA_5, zLI_6, zLL_6, zLA_6, zLI_7, zLL_7, zLA_7, zLI_8, zLL_8, zLA_8, zLI_9, zLL_9, zLA_9, zLI_10, zLL_10, zLA_10, zLI_11, zLL_11, zLA_11, zLI_12, zLL_12, zLA_12, zLI_13, zLL_13, zLA_13, zst_0, zst_1n, zst_1i, zst_1a, zst_2n, zst_2i, zst_2a, zst_3n, zst_3i, zst_3a, zst_4n, zst_4i, zst_4a, zst_5n, zst_5i, zst_5a, zst_6n, zst_6i, zst_6a, zst_7n, zst_7i, zst_7a, zst_8n, zst_8i, zst_8a, zst_9n, zst_9i, zst_9a, zst_10n, zst_10i, zst_10a, zst_11n, zst_11i, zst_11a, zst_12n, zst_12i, zst_12a, zst_13n, zst_13i, zst_13a, zst_14n, zst_14i, zst_14a, zst_15n, zst_15i, zst_15a, zR1_n, zR1_v, zsum_n, zsum_i, zsum_l, zsum_a, zlen_n, zlen_i, zlen_l, zlen_a, List.not_mem_nil, List.mem_cons, or_false, false_or, or_self, ↓reduceIte, if_false, if_true, Nat.reduceEqDiff, Nat.reduceAdd, Nat.reduceLeDiff, true_and, and_true, reduceCtorEq, ne_eq, Int.toNat_natCast, not_true_eq_false, not_false_eq_true, true_implies, false_implies, implies_true, Int.reduceToNat, Int.toNat_zero, Int.reduceLT, Int.reduceLE, Int.reduceEq, Int.reduceAdd, Int.reduceMul, Int.reduceNeg]
          refine ⟨fun _ => ⟨by unfold zr32; omega, ?_⟩, fun h => absurd (by omega) h⟩
          rw [hn]
          exact ih _ _
        · intro i hi ih2
          have hN := fun i => zmp_N M.2.1 (s := s) c c i 0 gx gy
          have hX := zmp_X M.2.1 (s := s) (show c < 4 by omega) c i i gx gy
          have hY := zmp_Y M.2.1 (s := s) (show c < 4 by omega) c i i gx gy
          rw [if_neg (by omega)] at hX hY
          have hS := fun x y => zmp_step M.2.1 (s := s) (i := i) (show c < 4 by omega) (by omega) gx gy (x := x) (y := y)
          have e1 : (s + 2 + 3 * c + 2) ≠ (s + 2 + 3 * c + 1) := by omega
          refine zW_sound 60 [21, 61] ?_
          simp only [ZR97, k1, q1, q2, q3, f1, f2, zwI_I, zwI_2, zsI_wI, zwI_w, hN, hX, hY, zu2_a e1, zW_succ, zE_iload, zE_aload, zE_lload, zE_iinc, zE_istore, zE_astore, zE_lstore, zE_iconst, zE_ldc2, zE_iadd, zE_isub, zE_imul, zE_idiv, zE_irem, zE_ineg, zE_iand, zE_ior, zE_ixor, zE_ishl, zE_ishr, zE_land, zE_lor, zE_lxor, zE_lshl, zE_lshr, zE_i2l, zE_lcmp, zE_dup_i, zE_dup_a, zE_dup2_ia, zE_pop_i, zE_pop_a, zE_pop2, zE_goto, zE_if_eq, zE_icmp_eq, zE_if_ne, zE_icmp_ne, zE_if_lt, zE_icmp_lt, zE_if_ge, zE_icmp_ge, zE_if_gt, zE_icmp_gt, zE_if_le, zE_icmp_le, zE_iaload, zE_baload, zE_laload, zE_aaload, zE_iastore, zE_bastore, zE_lastore, zE_aastore, zE_alen, zE_getf0, zE_getf1, zE_getf2, zE_getf3, zE_putf0, zE_putf1, zE_putf2, zE_putf3, zE_new, zE_newa, zE_newq, zE_ireturn, zE_lreturn, zE_areturn, zE_return, zE_athrow, zE_st0, zE_vi0, zE_st1, zE_vi1, zE_st2, zE_vi2, zE_st3, zE_vi3, zE_st4, zE_vi4, zE_st5, zE_vi5, zE_st6, zE_vi6, zE_st7, zE_vi7, zE_st8, zE_vi8, zSt_0, zSL_0, zSt_1n, zSt_1i, zSt_1a, zSt_1l, zSt_2n, zSt_2i, zSt_2a, zSt_2l, zSt_3n, zSt_3i, zSt_3a, zSt_3l, zSt_4n, zSt_4i, zSt_4a, zSt_4l, zSt_5n, zSt_5i, zSt_5a, zSt_5l, zSt_6n, zSt_6i, zSt_6a, zSt_6l, zSt_7n, zSt_7i, zSt_7a, zSt_7l, zSt_8n, zSt_8i, zSt_8a, zSt_8l, zSt_9n, zSt_9i, zSt_9a, zSt_9l, zSt_10n, zSt_10i, zSt_10a, zSt_10l, zSt_11n, zSt_11i, zSt_11a, zSt_11l, zSt_12n, zSt_12i, zSt_12a, zSt_12l, zSt_13n, zSt_13i, zSt_13a, zSt_13l, zSL_1n, zSL_1i, zSL_1a, zSL_1l, zSL_2n, zSL_2i, zSL_2a, zSL_2l, zSL_3n, zSL_3i, zSL_3a, zSL_3l, zSL_4n, zSL_4i, zSL_4a, zSL_4l, zSL_5n, zSL_5i, zSL_5a, zSL_5l, zSL_6n, zSL_6i, zSL_6a, zSL_6l, zSL_7n, zSL_7i, zSL_7a, zSL_7l, zSL_8n, zSL_8i, zSL_8a, zSL_8l, zSL_9n, zSL_9i, zSL_9a, zSL_9l, zSL_10n, zSL_10i, zSL_10a, zSL_10l, zSL_11n, zSL_11i, zSL_11a, zSL_11l, zSL_12n, zSL_12i, zSL_12a, zSL_12l, zLI_0, zLL_0, zLA_0, zLI_1, zLL_1, zLA_1, zLI_2, zLL_2, zLA_2, zLI_3, zLL_3, zLA_3, zLI_4, zLL_4, zLA_4, zLI_5, zLL_5, zLA_5, zLI_6, zLL_6, zLA_6, zLI_7, zLL_7, zLA_7, zLI_8, zLL_8, zLA_8, zLI_9, zLL_9, zLA_9, zLI_10, zLL_10, zLA_10, zLI_11, zLL_11, zLA_11, zLI_12, zLL_12, zLA_12, zLI_13, zLL_13, zLA_13, zst_0, zst_1n, zst_1i, zst_1a, zst_2n, zst_2i, zst_2a, zst_3n, zst_3i, zst_3a, zst_4n, zst_4i, zst_4a, zst_5n, zst_5i, zst_5a, zst_6n, zst_6i, zst_6a, zst_7n, zst_7i, zst_7a, zst_8n, zst_8i, zst_8a, zst_9n, zst_9i, zst_9a, zst_10n, zst_10i, zst_10a, zst_11n, zst_11i, zst_11a, zst_12n, zst_12i, zst_12a, zst_13n, zst_13i, zst_13a, zst_14n, zst_14i, zst_14a, zst_15n, zst_15i, zst_15a, zR1_n, zR1_v, zsum_n, zsum_i, zsum_l, zsum_a, zlen_n, zlen_i, zlen_l, zlen_a, List.not_mem_nil, List.mem_cons, or_false, false_or, or_self, ↓reduceIte, if_false, if_true, Nat.reduceEqDiff, Nat.reduceAdd, Nat.reduceLeDiff, true_and, and_true, reduceCtorEq, ne_eq, Int.toNat_natCast, not_true_eq_false, not_false_eq_true, true_implies, false_implies, implies_true, Int.reduceToNat, Int.toNat_zero, Int.reduceLT, Int.reduceLE, Int.reduceEq, Int.reduceAdd, Int.reduceMul, Int.reduceNeg]
          have b1 := p3 i (by omega)
          refine ⟨fun h => absurd h (by omega), fun _ => ⟨by omega, by unfold zr32; omega, by omega, by omega, by unfold zr32; omega, by omega, by unfold zr32; omega, ?_⟩⟩
          rw [hS _ _ (by rw [← hg1]) (by rw [← hg2])]
          exact ih2
      refine zW_sound 60 [21, 67] ?_
      simp only [ZR97, k1, k2, r1, r2 c (by omega), zwI_I, zwI_2, o0, zW_succ, zE_iload, zE_aload, zE_lload, zE_iinc, zE_istore, zE_astore, zE_lstore, zE_iconst, zE_ldc2, zE_iadd, zE_isub, zE_imul, zE_idiv, zE_irem, zE_ineg, zE_iand, zE_ior, zE_ixor, zE_ishl, zE_ishr, zE_land, zE_lor, zE_lxor, zE_lshl, zE_lshr, zE_i2l, zE_lcmp, zE_dup_i, zE_dup_a, zE_dup2_ia, zE_pop_i, zE_pop_a, zE_pop2, zE_goto, zE_if_eq, zE_icmp_eq, zE_if_ne, zE_icmp_ne, zE_if_lt, zE_icmp_lt, zE_if_ge, zE_icmp_ge, zE_if_gt, zE_icmp_gt, zE_if_le, zE_icmp_le, zE_iaload, zE_baload, zE_laload, zE_aaload, zE_iastore, zE_bastore, zE_lastore, zE_aastore, zE_alen, zE_getf0, zE_getf1, zE_getf2, zE_getf3, zE_putf0, zE_putf1, zE_putf2, zE_putf3, zE_new, zE_newa, zE_newq, zE_ireturn, zE_lreturn, zE_areturn, zE_return, zE_athrow, zE_st0, zE_vi0, zE_st1, zE_vi1, zE_st2, zE_vi2, zE_st3, zE_vi3, zE_st4, zE_vi4, zE_st5, zE_vi5, zE_st6, zE_vi6, zE_st7, zE_vi7, zE_st8, zE_vi8, zSt_0, zSL_0, zSt_1n, zSt_1i, zSt_1a, zSt_1l, zSt_2n, zSt_2i, zSt_2a, zSt_2l, zSt_3n, zSt_3i, zSt_3a, zSt_3l, zSt_4n, zSt_4i, zSt_4a, zSt_4l, zSt_5n, zSt_5i, zSt_5a, zSt_5l, zSt_6n, zSt_6i, zSt_6a, zSt_6l, zSt_7n, zSt_7i, zSt_7a, zSt_7l, zSt_8n, zSt_8i, zSt_8a, zSt_8l, zSt_9n, zSt_9i, zSt_9a, zSt_9l, zSt_10n, zSt_10i, zSt_10a, zSt_10l, zSt_11n, zSt_11i, zSt_11a, zSt_11l, zSt_12n, zSt_12i, zSt_12a, zSt_12l, zSt_13n, zSt_13i, zSt_13a, zSt_13l, zSL_1n, zSL_1i, zSL_1a, zSL_1l, zSL_2n, zSL_2i, zSL_2a, zSL_2l, zSL_3n, zSL_3i, zSL_3a, zSL_3l, zSL_4n, zSL_4i, zSL_4a, zSL_4l, zSL_5n, zSL_5i, zSL_5a, zSL_5l, zSL_6n, zSL_6i, zSL_6a, zSL_6l, zSL_7n, zSL_7i, zSL_7a, zSL_7l, zSL_8n, zSL_8i, zSL_8a, zSL_8l, zSL_9n, zSL_9i, zSL_9a, zSL_9l, zSL_10n, zSL_10i, zSL_10a, zSL_10l, zSL_11n, zSL_11i, zSL_11a, zSL_11l, zSL_12n, zSL_12i, zSL_12a, zSL_12l, zLI_0, zLL_0, zLA_0, zLI_1, zLL_1, zLA_1, zLI_2, zLL_2, zLA_2, zLI_3, zLL_3, zLA_3, zLI_4, zLL_4, zLA_4, zLI_5, zLL_5, zLA_5, zLI_6, zLL_6, zLA_6, zLI_7, zLL_7, zLA_7, zLI_8, zLL_8, zLA_8, zLI_9, zLL_9, zLA_9, zLI_10, zLL_10, zLA_10, zLI_11, zLL_11, zLA_11, zLI_12, zLL_12, zLA_12, zLI_13, zLL_13, zLA_13, zst_0, zst_1n, zst_1i, zst_1a, zst_2n, zst_2i, zst_2a, zst_3n, zst_3i, zst_3a, zst_4n, zst_4i, zst_4a, zst_5n, zst_5i, zst_5a, zst_6n, zst_6i, zst_6a, zst_7n, zst_7i, zst_7a, zst_8n, zst_8i, zst_8a, zst_9n, zst_9i, zst_9a, zst_10n, zst_10i, zst_10a, zst_11n, zst_11i, zst_11a, zst_12n, zst_12i, zst_12a, zst_13n, zst_13i, zst_13a, zst_14n, zst_14i, zst_14a, zst_15n, zst_15i, zst_15a, zR1_n, zR1_v, zsum_n, zsum_i, zsum_l, zsum_a, zlen_n, zlen_i, zlen_l, zlen_a, List.not_mem_nil, List.mem_cons, or_false, false_or, or_self, ↓reduceIte, if_false, if_true, Nat.reduceEqDiff, Nat.reduceAdd, Nat.reduceLeDiff, true_and, and_true, reduceCtorEq, ne_eq, Int.toNat_natCast, not_true_eq_false, not_false_eq_true, true_implies, false_implies, implies_true, Int.reduceToNat, Int.toNat_zero, Int.reduceLT, Int.reduceLE, Int.reduceEq, Int.reduceAdd, Int.reduceMul, Int.reduceNeg]
      refine ⟨fun h => absurd h (by omega), fun _ => ⟨by omega, inner 0 (Nat.zero_le _)⟩⟩
  have o9 := outer 0 (Nat.zero_le _)
  rw [zmp_0] at o9
  refine zW_sound 60 [2] ?_
  simp only [ZF97, ZR97, k1, zW_succ, zE_iload, zE_aload, zE_lload, zE_iinc, zE_istore, zE_astore, zE_lstore, zE_iconst, zE_ldc2, zE_iadd, zE_isub, zE_imul, zE_idiv, zE_irem, zE_ineg, zE_iand, zE_ior, zE_ixor, zE_ishl, zE_ishr, zE_land, zE_lor, zE_lxor, zE_lshl, zE_lshr, zE_i2l, zE_lcmp, zE_dup_i, zE_dup_a, zE_dup2_ia, zE_pop_i, zE_pop_a, zE_pop2, zE_goto, zE_if_eq, zE_icmp_eq, zE_if_ne, zE_icmp_ne, zE_if_lt, zE_icmp_lt, zE_if_ge, zE_icmp_ge, zE_if_gt, zE_icmp_gt, zE_if_le, zE_icmp_le, zE_iaload, zE_baload, zE_laload, zE_aaload, zE_iastore, zE_bastore, zE_lastore, zE_aastore, zE_alen, zE_getf0, zE_getf1, zE_getf2, zE_getf3, zE_putf0, zE_putf1, zE_putf2, zE_putf3, zE_new, zE_newa, zE_newq, zE_ireturn, zE_lreturn, zE_areturn, zE_return, zE_athrow, zE_st0, zE_vi0, zE_st1, zE_vi1, zE_st2, zE_vi2, zE_st3, zE_vi3, zE_st4, zE_vi4, zE_st5, zE_vi5, zE_st6, zE_vi6, zE_st7, zE_vi7, zE_st8, zE_vi8, zSt_0, zSL_0, zSt_1n, zSt_1i, zSt_1a, zSt_1l, zSt_2n, zSt_2i, zSt_2a, zSt_2l, zSt_3n, zSt_3i, zSt_3a, zSt_3l, zSt_4n, zSt_4i, zSt_4a, zSt_4l, zSt_5n, zSt_5i, zSt_5a, zSt_5l, zSt_6n, zSt_6i, zSt_6a, zSt_6l, zSt_7n, zSt_7i, zSt_7a, zSt_7l, zSt_8n, zSt_8i, zSt_8a, zSt_8l, zSt_9n, zSt_9i, zSt_9a, zSt_9l, zSt_10n, zSt_10i, zSt_10a, zSt_10l, zSt_11n, zSt_11i, zSt_11a, zSt_11l, zSt_12n, zSt_12i, zSt_12a, zSt_12l, zSt_13n, zSt_13i, zSt_13a, zSt_13l, zSL_1n, zSL_1i, zSL_1a, zSL_1l, zSL_2n, zSL_2i, zSL_2a, zSL_2l, zSL_3n, zSL_3i, zSL_3a, zSL_3l, zSL_4n, zSL_4i, zSL_4a, zSL_4l, zSL_5n, zSL_5i, zSL_5a, zSL_5l, zSL_6n, zSL_6i, zSL_6a, zSL_6l, zSL_7n, zSL_7i, zSL_7a, zSL_7l, zSL_8n, zSL_8i, zSL_8a, zSL_8l, zSL_9n, zSL_9i, zSL_9a, zSL_9l, zSL_10n, zSL_10i, zSL_10a, zSL_10l, zSL_11n, zSL_11i, zSL_11a, zSL_11l, zSL_12n, zSL_12i, zSL_12a, zSL_12l, zLI_0, zLL_0, zLA_0, zLI_1, zLL_1, zLA_1, zLI_2, zLL_2, zLA_2, zLI_3, zLL_3, zLA_3, zLI_4, zLL_4, zLA_4, zLI_5, zLL_5, zLA_5, zLI_6, zLL_6, zLA_6, zLI_7, zLL_7, zLA_7, zLI_8, zLL_8, zLA_8, zLI_9, zLL_9, zLA_9, zLI_10, zLL_10, zLA_10, zLI_11, zLL_11, zLA_11, zLI_12, zLL_12, zLA_12, zLI_13, zLL_13, zLA_13, zst_0, zst_1n, zst_1i, zst_1a, zst_2n, zst_2i, zst_2a, zst_3n, zst_3i, zst_3a, zst_4n, zst_4i, zst_4a, zst_5n, zst_5i, zst_5a, zst_6n, zst_6i, zst_6a, zst_7n, zst_7i, zst_7a, zst_8n, zst_8i, zst_8a, zst_9n, zst_9i, zst_9a, zst_10n, zst_10i, zst_10a, zst_11n, zst_11i, zst_11a, zst_12n, zst_12i, zst_12a, zst_13n, zst_13i, zst_13a, zst_14n, zst_14i, zst_14a, zst_15n, zst_15i, zst_15a, zR1_n, zR1_v, zsum_n, zsum_i, zsum_l, zsum_a, zlen_n, zlen_i, zlen_l, zlen_a, List.not_mem_nil, List.mem_cons, or_false, false_or, or_self, ↓reduceIte, if_false, if_true, Nat.reduceEqDiff, Nat.reduceAdd, Nat.reduceLeDiff, true_and, and_true, reduceCtorEq, ne_eq, Int.toNat_natCast, not_true_eq_false, not_false_eq_true, true_implies, false_implies, implies_true, Int.reduceToNat, Int.toNat_zero, Int.reduceLT, Int.reduceLE, Int.reduceEq, Int.reduceAdd, Int.reduceMul, Int.reduceNeg]
  exact o9 _ _
end ZCORN
