/-! drawn and joined -/
section ZDRAWN
variable {L : Nat} {M : zM} {s : Nat} {Q : zO → zM → Prop}
/-- a shape that begins -/
def zsb (f : Nat → Nat → Int) (s : Nat) (h c : Int) : Nat → Nat → Int := zu2 (zu2 (zu2 (zu2 (zu2 (zu2 f s 0 1) s 5 h) s 2 c) s 6 (-1)) s 7 (-1)) s 8 (-1)
theorem zsb_o {f : Nat → Nat → Int} {s : Nat} {h c : Int} {b j : Nat} (hb : b ≠ s ∨ j = 1 ∨ j = 3 ∨ j = 4 ∨ 9 ≤ j) : zsb f s h c b j = f b j := by
  unfold zsb
  simp only [zu2_if]
  rw [if_neg (by omega), if_neg (by omega), if_neg (by omega), if_neg (by omega), if_neg (by omega), if_neg (by omega)]
theorem zpset_ob {f : Nat → Nat → Int} {a n b j : Nat} {X Y : Nat → Int} (h : b < a ∨ a + 3 ≤ b) : zpset f a n X Y b j = f b j := by
  unfold zpset
  rw [if_neg (by omega), if_neg (by omega), if_neg (by omega)]
theorem zfr_9 {f : Nat → Nat → Int} {s : Nat} {l d r u : Int} {b j : Nat} (h : b ≠ s ∨ j < 11 ∨ 15 ≤ j) : zfr f s l d r u b j = f b j := by
  unfold zfr
  rw [if_neg (by omega), if_neg (by omega), if_neg (by omega), if_neg (by omega)]
theorem zfnd_o {f : Nat → Nat → Int} {s b j : Nat} (h : b ≠ s ∨ j < 11 ∨ 15 ≤ j) : zfnd f s b j = f b j := zfr_9 h
def zdrf (f : Nat → Nat → Int) (c num : Nat) : Nat → Nat → Int := zfnd (zu2 (zu2 (zpset (zsb f (14 + 14 * num) (f (855 + 4 * c) 1) (f (855 + 4 * c) 5)) (14 + 14 * num + 2) (f (856 + 4 * c) 0).toNat (f (857 + 4 * c)) (f (858 + 4 * c))) (14 + 14 * num) 10 1) (14 + 14 * num) 9 2) (14 + 14 * num)
def zdrw (f : Nat → Nat → Int) (c num : Nat) : Nat → Nat → Int := zlay (zdrf f c num) num (f (855 + 4 * c) 4)
theorem zdrf_o {f : Nat → Nat → Int} {c num b j : Nat} (h : b < 14 + 14 * num ∨ 14 + 14 * num + 5 ≤ b ∨ (b = 14 + 14 * num ∧ (j = 1 ∨ j = 3 ∨ j = 4))) : zdrf f c num b j = f b j := by
  unfold zdrf
  rw [zfnd_o (by omega), zu2_if, if_neg (by omega), zu2_if, if_neg (by omega), zpset_ob (by omega), zsb_o (by omega)]
theorem zdrf_0 {f : Nat → Nat → Int} {c num : Nat} : zdrf f c num (14 + 14 * num) 0 = 1 := by
  unfold zdrf
  rw [zfnd_o (by omega), zu2_if, if_neg (by omega), zu2_if, if_neg (by omega), zpset_ob (by omega)]
  unfold zsb
  simp [zu2]
theorem zBk_dr {f g : Nat → Nat → Int} {num : Nat} (hb : zBk f) (hk : zKy f (14 + 14 * num)) (h0 : g (14 + 14 * num) 0 = 1) (h : ∀ b j, (j = 0 ∧ b ≠ 14 + 14 * num) ∨ j = 3 ∨ j = 4 → 14 ≤ b → (b - 14) % 14 = 0 → g b j = f b j) : zBk g := by
  intro i hi
  by_cases e : i = num
  · subst e
    refine ⟨Or.inr h0, fun _ => ?_⟩
    unfold zKy at hk ⊢
    rw [h _ 3 (by omega) (by omega) (by omega), h _ 4 (by omega) (by omega) (by omega)]
    exact hk
  · have := hb i hi
    unfold zKy at this ⊢
    rw [h _ 0 (by omega) (by omega) (by omega), h _ 3 (by omega) (by omega) (by omega), h _ 4 (by omega) (by omega) (by omega)]
    exact this
theorem c11 {c num : Nat} (hR : zLay M.2.2.2) (hb : zBk M.2.1) (hc : c < 60) (hn : num < 60) (hk : zKy M.2.1 (14 + 14 * num)) (hp : zPg 0 (M.2.1 (856 + 4 * c) 0) (M.2.1 (857 + 4 * c)) (M.2.1 (858 + 4 * c))) : zFR (zK L) 11 0 (zcall 11 [.inr (.inr 3), .inr (.inr (855 + 4 * c)), .inl (num : Int)]) [] M Q = Q (.inl (some (.inl (num : Int)))) (zwI M (zdrw M.2.1 c num)) := by
  have hF := hR.1
  unfold zLayF at hF
  obtain ⟨k1, k2⟩ := zK_sh (L := L) (zShA_i hn)
  obtain ⟨r1, r2⟩ := hR.2.2.1 _ (zShA_i hn)
  have r20 := r2 0 (by omega)
  rw [show 14 + 14 * num + 2 + 3 * 0 = 14 + 14 * num + 2 by omega] at r20
  have hp9 := hp
  obtain ⟨p1, p2, p3⟩ := hp
  have oc : ∀ b j, 850 ≤ b → b < 1096 → zsb M.2.1 (14 + 14 * num) (M.2.1 (855 + 4 * c) 1) (M.2.1 (855 + 4 * c) 5) b j = M.2.1 b j := fun b j _ _ => zsb_o (by omega)
  have e93 := fun Q => c93 (L := L) (M := M) (Q := Q) (s := 14 + 14 * num) (h := M.2.1 (855 + 4 * c) 1) (c := M.2.1 (855 + 4 * c) 5) (zShA_i hn)
  have ez : zu2 (zu2 (zu2 (zu2 (zu2 (zu2 M.2.1 (14 + 14 * num) 0 1) (14 + 14 * num) 5 (M.2.1 (855 + 4 * c) 1)) (14 + 14 * num) 2 (M.2.1 (855 + 4 * c) 5)) (14 + 14 * num) 6 (-1)) (14 + 14 * num) 7 (-1)) (14 + 14 * num) 8 (-1) = zsb M.2.1 (14 + 14 * num) (M.2.1 (855 + 4 * c) 1) (M.2.1 (855 + 4 * c) 5) := rfl
  rw [ez] at e93
  have e84 := fun Q => c84 (L := L) (M := zwI M (zsb M.2.1 (14 + 14 * num) (M.2.1 (855 + 4 * c) 1) (M.2.1 (855 + 4 * c) 5))) (Q := Q) (a := 14 + 14 * num + 2) (b := 856 + 4 * c) (by have := zPoA_sh (zShA_i hn) (show 0 < 4 by omega); rw [show 14 + 14 * num + 2 + 3 * 0 = 14 + 14 * num + 2 by omega] at this; exact this) (zPoA_ch hc) (by omega) hR (by rw [zwI_I, oc _ _ (by omega) (by omega)]; exact p1) (by rw [zwI_I, oc _ _ (by omega) (by omega)]; exact p2)
  have oX : zsb M.2.1 (14 + 14 * num) (M.2.1 (855 + 4 * c) 1) (M.2.1 (855 + 4 * c) 5) (856 + 4 * c + 1) = M.2.1 (857 + 4 * c) := funext (fun j => by rw [oc _ _ (by omega) (by omega), show 856 + 4 * c + 1 = 857 + 4 * c by omega])
  have oY : zsb M.2.1 (14 + 14 * num) (M.2.1 (855 + 4 * c) 1) (M.2.1 (855 + 4 * c) 5) (856 + 4 * c + 2) = M.2.1 (858 + 4 * c) := funext (fun j => by rw [oc _ _ (by omega) (by omega), show 856 + 4 * c + 2 = 858 + 4 * c by omega])
  simp only [zwI_I, zwI_w, oX, oY, oc (856 + 4 * c) 0 (by omega) (by omega)] at e84
  have e94 := fun Q => c94 (L := L) (M := zwI M (zpset (zsb M.2.1 (14 + 14 * num) (M.2.1 (855 + 4 * c) 1) (M.2.1 (855 + 4 * c) 5)) (14 + 14 * num + 2) (M.2.1 (856 + 4 * c) 0).toNat (M.2.1 (857 + 4 * c)) (M.2.1 (858 + 4 * c)))) (Q := Q) (s := 14 + 14 * num) (zShA_i hn) hR (by
    intro p hp
    have e : p = 0 := by omega
    subst e
    have en : zN (zpset (zsb M.2.1 (14 + 14 * num) (M.2.1 (855 + 4 * c) 1) (M.2.1 (855 + 4 * c) 5)) (14 + 14 * num + 2) (M.2.1 (856 + 4 * c) 0).toNat (M.2.1 (857 + 4 * c)) (M.2.1 (858 + 4 * c))) (14 + 14 * num) 0 = M.2.1 (856 + 4 * c) 0 := by
      unfold zN zpset
      rw [if_pos ⟨by omega, rfl⟩]
      omega
    refine ⟨by rw [zwI_I, en]; exact p1, by rw [zwI_I, en]; exact p2, fun k hk => ?_⟩
    rw [zwI_I, en] at hk
    have ex : zX (zpset (zsb M.2.1 (14 + 14 * num) (M.2.1 (855 + 4 * c) 1) (M.2.1 (855 + 4 * c) 5)) (14 + 14 * num + 2) (M.2.1 (856 + 4 * c) 0).toNat (M.2.1 (857 + 4 * c)) (M.2.1 (858 + 4 * c))) (14 + 14 * num) 0 k = M.2.1 (857 + 4 * c) k := by
      unfold zX zpset
      rw [if_neg (by omega), if_pos ⟨by omega, by omega⟩]
    have ey : zY (zpset (zsb M.2.1 (14 + 14 * num) (M.2.1 (855 + 4 * c) 1) (M.2.1 (855 + 4 * c) 5)) (14 + 14 * num + 2) (M.2.1 (856 + 4 * c) 0).toNat (M.2.1 (857 + 4 * c)) (M.2.1 (858 + 4 * c))) (14 + 14 * num) 0 k = M.2.1 (858 + 4 * c) k := by
      unfold zY zpset
      rw [if_neg (by omega), if_neg (by omega), if_pos ⟨by omega, by omega⟩]
    rw [zwI_I, ex, ey]
    exact p3 k hk)
  have ed : zfnd (zu2 (zu2 (zpset (zsb M.2.1 (14 + 14 * num) (M.2.1 (855 + 4 * c) 1) (M.2.1 (855 + 4 * c) 5)) (14 + 14 * num + 2) (M.2.1 (856 + 4 * c) 0).toNat (M.2.1 (857 + 4 * c)) (M.2.1 (858 + 4 * c))) (14 + 14 * num) 10 1) (14 + 14 * num) 9 2) (14 + 14 * num) = zdrf M.2.1 c num := rfl
  simp only [zwI_I, zwI_w, ed] at e94
  have hb2 : zBk (zdrf M.2.1 c num) := zBk_dr hb hk zdrf_0 (fun b j h1 h2 h3 => zdrf_o (by omega))
  have e12 : ∀ (l : Int) (Q : zO → zM → Prop), zFR (zK L) 12 0 (zcall 12 [.inr (.inr 3), .inl (num : Int), .inl l]) [] (zwI M (zdrf M.2.1 c num)) Q = Q (.inl (some (.inl (zdrf M.2.1 c num (14 + 14 * num) 1)))) (zwI M (zlay (zdrf M.2.1 c num) num l)) := fun l Q => c12 (M := zwI M (zdrf M.2.1 c num)) hR hb2 hn
  have o4 : zdrf M.2.1 c num (855 + 4 * c) 4 = M.2.1 (855 + 4 * c) 4 := zdrf_o (by omega)
  have kk := (zK_po (L := L) (zPoA_sh (zShA_i hn) (show 0 < 4 by omega))).1
  rw [show 14 + 14 * num + 2 + 3 * 0 = 14 + 14 * num + 2 by omega] at kk
  refine zFR_det (zW_sound 60 [] ?_) Q
  simp only [ZF11, ZR11, zk_3, zk_4, zK_ch hc, k1, k2, r1, r20, hF, (hR.2.2.2 num hn).1, (hR.2.2.2 c hc).2.2, zK_po (zPoA_ch hc), ZF93.1, ZF93.2.1, ZF93.2.2.1, ZF84.1, ZF84.2.1, ZF84.2.2.1, ZF94.1, ZF94.2.1, ZF94.2.2.1, ZF12.1, ZF12.2.1, ZF12.2.2.1, e93, e84, e94, e12, o4, zwI_I, zwI_2, zwI_w, zW_succ, zE_iload, zE_aload, zE_lload, zE_iinc, zE_istore, zE_astore, zE_lstore, zE_iconst, zE_ldc2, zE_iadd, zE_isub, zE_imul, zE_idiv, zE_irem, zE_ineg, zE_iand, zE_ior, zE_ixor, zE_ishl, zE_ishr, zE_land, zE_lor, zE_lxor, zE_lshl, zE_lshr, zE_i2l, zE_lcmp, zE_dup_i, zE_dup_a, zE_dup2_ia, zE_pop_i, zE_pop_a, zE_pop2, zE_goto, zE_if_eq, zE_icmp_eq, zE_if_ne, zE_icmp_ne, zE_if_lt, zE_icmp_lt, zE_if_ge, zE_icmp_ge, zE_if_gt, zE_icmp_gt, zE_if_le, zE_icmp_le, zE_iaload, zE_baload, zE_laload, zE_aaload, zE_iastore, zE_bastore, zE_lastore, zE_aastore, zE_alen, zE_getf0, zE_getf1, zE_getf2, zE_getf3, zE_putf0, zE_putf1, zE_putf2, zE_putf3, zE_new, zE_newa, zE_newq, zE_ireturn, zE_lreturn, zE_areturn, zE_return, zE_athrow, zE_st0, zE_vi0, zE_st1, zE_vi1, zE_st2, zE_vi2, zE_st3, zE_vi3, zE_st4, zE_vi4, zE_st5, zE_vi5, zE_st6, zE_vi6, zE_st7, zE_vi7, zE_st8, zE_vi8, zSt_0, zSL_0, zSt_1n, zSt_1i, zSt_1a, zSt_1l, zSt_2n, zSt_2i, zSt_2a, zSt_2l, zSt_3n, zSt_3i, zSt_3a, zSt_3l, zSt_4n, zSt_4i, zSt_4a, zSt_4l, zSt_5n, zSt_5i, zSt_5a, zSt_5l, zSt_6n, zSt_6i, zSt_6a, zSt_6l, zSt_7n, zSt_7i, zSt_7a, zSt_7l, zSt_8n, zSt_8i, zSt_8a, zSt_8l, zSt_9n, zSt_9i, zSt_9a, zSt_9l, zSt_10n, zSt_10i, zSt_10a, zSt_10l, zSt_11n, zSt_11i, zSt_11a, zSt_11l, zSt_12n, zSt_12i, zSt_12a, zSt_12l, zSt_13n, zSt_13i, zSt_13a, zSt_13l, zSL_1n, zSL_1i, zSL_1a, zSL_1l, zSL_2n, zSL_2i, zSL_2a, zSL_2l, zSL_3n, zSL_3i, zSL_3a, zSL_3l, zSL_4n, zSL_4i, zSL_4a, zSL_4l, zSL_5n, zSL_5i, zSL_5a, zSL_5l, zSL_6n, zSL_6i, zSL_6a, zSL_6l, zSL_7n, zSL_7i, zSL_7a, zSL_7l, zSL_8n, zSL_8i, zSL_8a, zSL_8l, zSL_9n, zSL_9i, zSL_9a, zSL_9l, zSL_10n, zSL_10i, zSL_10a, zSL_10l, zSL_11n, zSL_11i, zSL_11a, zSL_11l, zSL_12n, zSL_12i, zSL_12a, zSL_12l, zLI_0, zLL_0, zLA_0, zLI_1, zLL_1, zLA_1, zLI_2, zLL_2, zLA_2, zLI_3, zLL_3, zLA_3, zLI_4, zLL_4, zLA_4, zLI_5, zLL_5, zLA_5, zLI_6, zLL_6, zLA_6, zLI_7, zLL_7, zLA_7, zLI_8, zLL_8, zLA_8, zLI_9, zLL_9, zLA_9, zLI_10, zLL_10, zLA_10, zLI_11, zLL_11, zLA_11, zLI_12, zLL_12, zLA_12, zLI_13, zLL_13, zLA_13, zst_0, zst_1n, zst_1i, zst_1a, zst_2n, zst_2i, zst_2a, zst_3n, zst_3i, zst_3a, zst_4n, zst_4i, zst_4a, zst_5n, zst_5i, zst_5a, zst_6n, zst_6i, zst_6a, zst_7n, zst_7i, zst_7a, zst_8n, zst_8i, zst_8a, zst_9n, zst_9i, zst_9a, zst_10n, zst_10i, zst_10a, zst_11n, zst_11i, zst_11a, zst_12n, zst_12i, zst_12a, zst_13n, zst_13i, zst_13a, zst_14n, zst_14i, zst_14a, zst_15n, zst_15i, zst_15a, zR1_n, zR1_v, zsum_n, zsum_i, zsum_l, zsum_a, zlen_n, zlen_i, zlen_l, zlen_a, List.not_mem_nil, List.mem_cons, or_false, false_or, or_self, ↓reduceIte, if_false, if_true, Nat.reduceEqDiff, Nat.reduceAdd, Nat.reduceLeDiff, true_and, and_true, reduceCtorEq, ne_eq, Int.toNat_natCast, not_true_eq_false, not_false_eq_true, true_implies, false_implies, implies_true, Int.reduceToNat, Int.toNat_zero, Int.reduceLT, Int.reduceLE, Int.reduceEq, Int.reduceAdd, Int.reduceMul, Int.reduceNeg]
  exact ⟨by omega, by omega, by omega, congrArg Prod.fst kk, rfl⟩
/-- joined -/
def zjnf (f : Nat → Nat → Int) (c num i j : Nat) : Nat → Nat → Int := zjoi (zsb f (14 + 14 * num) (f (855 + 4 * c) 1) (f (14 + 14 * i) 2)) (14 + 14 * num) (14 + 14 * i) (14 + 14 * j) (f (855 + 4 * c) 8)
def zjnw (f : Nat → Nat → Int) (c num i j : Nat) : Nat → Nat → Int := zlay (zjnf f c num i j) num (f (14 + 14 * i) 1)
theorem zjoi_o {f : Nat → Nat → Int} {s a b : Nat} {w : Int} {d j : Nat} (h4 : (f a 10).toNat + (f b 10).toNat ≤ 4) (h : d < s ∨ s + 14 ≤ d ∨ (d = s ∧ j < 9)) : zjoi f s a b w d j = f d j := by
  unfold zjoi zjmm
  rw [zfnd_o (by omega), zu2_if, if_neg (by omega), zu2_if, if_neg (by omega), zjm_o _ _ _ _ _ h4 (by omega)]
theorem c42 {c num i j : Nat} (hR : zLay M.2.2.2) (hb : zBk M.2.1) (hc : c < 60) (hn : num < 60) (hk : zKy M.2.1 (14 + 14 * num)) (hi : i < 60) (hj : j < 60) (hni : i ≠ num) (hnj : j ≠ num) (e2 : M.2.1 (855 + 4 * c) 2 = (i : Int)) (e3 : M.2.1 (855 + 4 * c) 3 = (j : Int)) (wi : zSw M.2.1 (14 + 14 * i)) (wj : zSw M.2.1 (14 + 14 * j)) : zFR (zK L) 42 0 (zcall 42 [.inr (.inr 3), .inr (.inr (855 + 4 * c)), .inl (num : Int)]) [] M Q = (((M.2.1 (14 + 14 * i) 10 + M.2.1 (14 + 14 * j) 10 ≤ 4) → Q (.inl (some (.inl (num : Int)))) (zwI M (zjnw M.2.1 c num i j))) ∧ (¬ (M.2.1 (14 + 14 * i) 10 + M.2.1 (14 + 14 * j) 10 ≤ 4) → Q (.inl (some (.inl (-1)))) M)) := by
  have hF := hR.1
  unfold zLayF at hF
  obtain ⟨k1, k2⟩ := zK_sh (L := L) (zShA_i hn)
  obtain ⟨l1, l2⟩ := zK_sh (L := L) (zShA_i hi)
  obtain ⟨p1, p2⟩ := zK_sh (L := L) (zShA_i hj)
  have b1 := wi.1
  have b2 := wj.1
  by_cases h4 : M.2.1 (14 + 14 * i) 10 + M.2.1 (14 + 14 * j) 10 ≤ 4
  · rw [zFR_det (r0 := .inl (some (.inl (num : Int)))) (M0 := zwI M (zjnw M.2.1 c num i j)) ?_ Q]
    · exact propext ⟨fun h => ⟨fun _ => h, fun h2 => absurd h4 h2⟩, fun h => h.1 h4⟩
    · have e93 := fun Q => c93 (L := L) (M := M) (Q := Q) (s := 14 + 14 * num) (h := M.2.1 (855 + 4 * c) 1) (c := M.2.1 (14 + 14 * i) 2) (zShA_i hn)
      have ez : zu2 (zu2 (zu2 (zu2 (zu2 (zu2 M.2.1 (14 + 14 * num) 0 1) (14 + 14 * num) 5 (M.2.1 (855 + 4 * c) 1)) (14 + 14 * num) 2 (M.2.1 (14 + 14 * i) 2)) (14 + 14 * num) 6 (-1)) (14 + 14 * num) 7 (-1)) (14 + 14 * num) 8 (-1) = zsb M.2.1 (14 + 14 * num) (M.2.1 (855 + 4 * c) 1) (M.2.1 (14 + 14 * i) 2) := rfl
      rw [ez] at e93
      have ow : ∀ b j, b ≠ 14 + 14 * num → zsb M.2.1 (14 + 14 * num) (M.2.1 (855 + 4 * c) 1) (M.2.1 (14 + 14 * i) 2) b j = M.2.1 b j := fun b j h => zsb_o (Or.inl h)
      have sw : ∀ v, v < 60 → v ≠ num → zSw M.2.1 (14 + 14 * v) → zSw (zsb M.2.1 (14 + 14 * num) (M.2.1 (855 + 4 * c) 1) (M.2.1 (14 + 14 * i) 2)) (14 + 14 * v) := by
        intro v hv hne ⟨w1, w2, w3⟩
        refine ⟨by rw [ow _ _ (by omega)]; exact w1, by rw [ow _ _ (by omega)]; exact w2, fun p hp => ?_⟩
        rw [ow _ _ (by omega)] at hp
        have e1 : zN (zsb M.2.1 (14 + 14 * num) (M.2.1 (855 + 4 * c) 1) (M.2.1 (14 + 14 * i) 2)) (14 + 14 * v) p = zN M.2.1 (14 + 14 * v) p := ow _ _ (by omega)
        have e2 : zX (zsb M.2.1 (14 + 14 * num) (M.2.1 (855 + 4 * c) 1) (M.2.1 (14 + 14 * i) 2)) (14 + 14 * v) p = zX M.2.1 (14 + 14 * v) p := funext (fun j => ow _ _ (by omega))
        have e3 : zY (zsb M.2.1 (14 + 14 * num) (M.2.1 (855 + 4 * c) 1) (M.2.1 (14 + 14 * i) 2)) (14 + 14 * v) p = zY M.2.1 (14 + 14 * v) p := funext (fun j => ow _ _ (by omega))
        rw [e1, e2, e3]
        exact w3 p hp
      have e101 := fun Q => c101 (L := L) (M := zwI M (zsb M.2.1 (14 + 14 * num) (M.2.1 (855 + 4 * c) 1) (M.2.1 (14 + 14 * i) 2))) (Q := Q) (s := 14 + 14 * num) (a := 14 + 14 * i) (b := 14 + 14 * j) (w := M.2.1 (855 + 4 * c) 8) (zShA_i hn) (zShA_i hi) (zShA_i hj) (by omega) (by omega) hR (sw i hi hni wi) (sw j hj hnj wj) (by rw [zwI_I, ow _ _ (by omega), ow _ _ (by omega)]; exact h4)
      have ej : zjoi (zsb M.2.1 (14 + 14 * num) (M.2.1 (855 + 4 * c) 1) (M.2.1 (14 + 14 * i) 2)) (14 + 14 * num) (14 + 14 * i) (14 + 14 * j) (M.2.1 (855 + 4 * c) 8) = zjnf M.2.1 c num i j := rfl
      simp only [zwI_I, zwI_w, ej] at e101
      have jo : ∀ b' j' : Nat, (b' < 14 + 14 * num ∨ 14 + 14 * num + 14 ≤ b' ∨ (b' = 14 + 14 * num ∧ (j' = 1 ∨ j' = 3 ∨ j' = 4))) → zjnf M.2.1 c num i j b' j' = M.2.1 b' j' := by
        intro b j' h
        unfold zjnf
        refine (zjoi_o ?_ (by omega)).trans (zsb_o (by omega))
        rw [ow _ _ (by omega), ow _ _ (by omega)]
        omega
      have j0 : zjnf M.2.1 c num i j (14 + 14 * num) 0 = 1 := by
        unfold zjnf
        rw [zjoi_o (by rw [ow _ _ (by omega), ow _ _ (by omega)]; omega) (by omega)]
        simp [zsb, zu2]
      have hb2 : zBk (zjnf M.2.1 c num i j) := zBk_dr hb hk j0 (fun b' j' h1 h2 h3 => jo b' j' (by omega))
      have e12 : ∀ (l : Int) (Q : zO → zM → Prop), zFR (zK L) 12 0 (zcall 12 [.inr (.inr 3), .inl (num : Int), .inl l]) [] (zwI M (zjnf M.2.1 c num i j)) Q = Q (.inl (some (.inl (zjnf M.2.1 c num i j (14 + 14 * num) 1)))) (zwI M (zlay (zjnf M.2.1 c num i j) num l)) := fun l Q => c12 (M := zwI M (zjnf M.2.1 c num i j)) hR hb2 hn
      refine zW_sound 60 [] ?_
      simp only [ZF42, ZR42, zk_3, zk_4, zK_ch hc, k1, l1, p1, hF, e2, e3, (hR.2.2.2 num hn).1, (hR.2.2.2 i hi).1, (hR.2.2.2 j hj).1, ZF93.1, ZF93.2.1, ZF93.2.2.1, ZF101.1, ZF101.2.1, ZF101.2.2.1, ZF12.1, ZF12.2.1, ZF12.2.2.1, e93, e101, e12, ow (855 + 4 * c) _ (by omega), ow (14 + 14 * i) _ (by omega), zwI_I, zwI_2, zwI_w, zW_succ, zE_iload, zE_aload, zE_lload, zE_iinc, zE_istore, zE_astore, zE_lstore, zE_iconst, zE_ldc2, zE_iadd, zE_isub, zE_imul, zE_idiv, zE_irem, zE_ineg, zE_iand, zE_ior, zE_ixor, zE_ishl, zE_ishr, zE_land, zE_lor, zE_lxor, zE_lshl, zE_lshr, zE_i2l, zE_lcmp, zE_dup_i, zE_dup_a, zE_dup2_ia, zE_pop_i, zE_pop_a, zE_pop2, zE_goto, zE_if_eq, zE_icmp_eq, zE_if_ne, zE_icmp_ne, zE_if_lt, zE_icmp_lt, zE_if_ge, zE_icmp_ge, zE_if_gt, zE_icmp_gt, zE_if_le, zE_icmp_le, zE_iaload, zE_baload, zE_laload, zE_aaload, zE_iastore, zE_bastore, zE_lastore, zE_aastore, zE_alen, zE_getf0, zE_getf1, zE_getf2, zE_getf3, zE_putf0, zE_putf1, zE_putf2, zE_putf3, zE_new, zE_newa, zE_newq, zE_ireturn, zE_lreturn, zE_areturn, zE_return, zE_athrow, zE_st0, zE_vi0, zE_st1, zE_vi1, zE_st2, zE_vi2, zE_st3, zE_vi3, zE_st4, zE_vi4, zE_st5, zE_vi5, zE_st6, zE_vi6, zE_st7, zE_vi7, zE_st8, zE_vi8, zSt_0, zSL_0, zSt_1n, zSt_1i, zSt_1a, zSt_1l, zSt_2n, zSt_2i, zSt_2a, zSt_2l, zSt_3n, zSt_3i, zSt_3a, zSt_3l, zSt_4n, zSt_4i, zSt_4a, zSt_4l, zSt_5n, zSt_5i, zSt_5a, zSt_5l, zSt_6n, zSt_6i, zSt_6a, zSt_6l, zSt_7n, zSt_7i, zSt_7a, zSt_7l, zSt_8n, zSt_8i, zSt_8a, zSt_8l, zSt_9n, zSt_9i, zSt_9a, zSt_9l, zSt_10n, zSt_10i, zSt_10a, zSt_10l, zSt_11n, zSt_11i, zSt_11a, zSt_11l, zSt_12n, zSt_12i, zSt_12a, zSt_12l, zSt_13n, zSt_13i, zSt_13a, zSt_13l, zSL_1n, zSL_1i, zSL_1a, zSL_1l, zSL_2n, zSL_2i, zSL_2a, zSL_2l, zSL_3n, zSL_3i, zSL_3a, zSL_3l, zSL_4n, zSL_4i, zSL_4a, zSL_4l, zSL_5n, zSL_5i, zSL_5a, zSL_5l, zSL_6n, zSL_6i, zSL_6a, zSL_6l, zSL_7n, zSL_7i, zSL_7a, zSL_7l, zSL_8n, zSL_8i, zSL_8a, zSL_8l, zSL_9n, zSL_9i, zSL_9a, zSL_9l, zSL_10n, zSL_10i, zSL_10a, zSL_10l, zSL_11n, zSL_11i, zSL_11a, zSL_11l, zSL_12n, zSL_12i, zSL_12a, zSL_12l, zLI_0, zLL_0, zLA_0, zLI_1, zLL_1, zLA_1, zLI_2, zLL_2, zLA_2, zLI_3, zLL_3, zLA_3, zLI_4, zLL_4, zLA_4, zLI_5, zLL_5, zLA_5, zLI_6, zLL_6, zLA_6, zLI_7, zLL_7, zLA_7, zLI_8, zLL_8, zLA_8, zLI_9, zLL_9, zLA_9, zLI_10, zLL_10, zLA_10, zLI_11, zLL_11, zLA_11, zLI_12, zLL_12, zLA_12, zLI_13, zLL_13, zLA_13, zst_0, zst_1n, zst_1i, zst_1a, zst_2n, zst_2i, zst_2a, zst_3n, zst_3i, zst_3a, zst_4n, zst_4i, zst_4a, zst_5n, zst_5i, zst_5a, zst_6n, zst_6i, zst_6a, zst_7n, zst_7i, zst_7a, zst_8n, zst_8i, zst_8a, zst_9n, zst_9i, zst_9a, zst_10n, zst_10i, zst_10a, zst_11n, zst_11i, zst_11a, zst_12n, zst_12i, zst_12a, zst_13n, zst_13i, zst_13a, zst_14n, zst_14i, zst_14a, zst_15n, zst_15i, zst_15a, zR1_n, zR1_v, zsum_n, zsum_i, zsum_l, zsum_a, zlen_n, zlen_i, zlen_l, zlen_a, List.not_mem_nil, List.mem_cons, or_false, false_or, or_self, ↓reduceIte, if_false, if_true, Nat.reduceEqDiff, Nat.reduceAdd, Nat.reduceLeDiff, true_and, and_true, reduceCtorEq, ne_eq, Int.toNat_natCast, not_true_eq_false, not_false_eq_true, true_implies, false_implies, implies_true, Int.reduceToNat, Int.toNat_zero, Int.reduceLT, Int.reduceLE, Int.reduceEq, Int.reduceAdd, Int.reduceMul, Int.reduceNeg]
      refine ⟨by omega, by omega, by unfold zr32; omega, fun _ => ⟨by omega, ?_⟩, fun h => absurd h4 h⟩
      rw [jo (14 + 14 * i) 1 (by omega)]
      rfl
  · rw [zFR_det (r0 := .inl (some (.inl (-1)))) (M0 := M) (zW_sound 60 [37] ?_) Q]
    · exact propext ⟨fun h => ⟨fun h2 => absurd h2 h4, fun _ => h⟩, fun h => h.2 h4⟩
    · simp only [ZF42, ZR42, zk_3, zk_4, zK_ch hc, l1, p1, hF, e2, e3, (hR.2.2.2 i hi).1, (hR.2.2.2 j hj).1, zW_succ, zE_iload, zE_aload, zE_lload, zE_iinc, zE_istore, zE_astore, zE_lstore, zE_iconst, zE_ldc2, zE_iadd, zE_isub, zE_imul, zE_idiv, zE_irem, zE_ineg, zE_iand, zE_ior, zE_ixor, zE_ishl, zE_ishr, zE_land, zE_lor, zE_lxor, zE_lshl, zE_lshr, zE_i2l, zE_lcmp, zE_dup_i, zE_dup_a, zE_dup2_ia, zE_pop_i, zE_pop_a, zE_pop2, zE_goto, zE_if_eq, zE_icmp_eq, zE_if_ne, zE_icmp_ne, zE_if_lt, zE_icmp_lt, zE_if_ge, zE_icmp_ge, zE_if_gt, zE_icmp_gt, zE_if_le, zE_icmp_le, zE_iaload, zE_baload, zE_laload, zE_aaload, zE_iastore, zE_bastore, zE_lastore, zE_aastore, zE_alen, zE_getf0, zE_getf1, zE_getf2, zE_getf3, zE_putf0, zE_putf1, zE_putf2, zE_putf3, zE_new, zE_newa, zE_newq, zE_ireturn, zE_lreturn, zE_areturn, zE_return, zE_athrow, zE_st0, zE_vi0, zE_st1, zE_vi1, zE_st2, zE_vi2, zE_st3, zE_vi3, zE_st4, zE_vi4, zE_st5, zE_vi5, zE_st6, zE_vi6, zE_st7, zE_vi7, zE_st8, zE_vi8, zSt_0, zSL_0, zSt_1n, zSt_1i, zSt_1a, zSt_1l, zSt_2n, zSt_2i, zSt_2a, zSt_2l, zSt_3n, zSt_3i, zSt_3a, zSt_3l, zSt_4n, zSt_4i, zSt_4a, zSt_4l, zSt_5n, zSt_5i, zSt_5a, zSt_5l, zSt_6n, zSt_6i, zSt_6a, zSt_6l, zSt_7n, zSt_7i, zSt_7a, zSt_7l, zSt_8n, zSt_8i, zSt_8a, zSt_8l, zSt_9n, zSt_9i, zSt_9a, zSt_9l, zSt_10n, zSt_10i, zSt_10a, zSt_10l, zSt_11n, zSt_11i, zSt_11a, zSt_11l, zSt_12n, zSt_12i, zSt_12a, zSt_12l, zSt_13n, zSt_13i, zSt_13a, zSt_13l, zSL_1n, zSL_1i, zSL_1a, zSL_1l, zSL_2n, zSL_2i, zSL_2a, zSL_2l, zSL_3n, zSL_3i, zSL_3a, zSL_3l, zSL_4n, zSL_4i, zSL_4a, zSL_4l, zSL_5n, zSL_5i, zSL_5a, zSL_5l, zSL_6n, zSL_6i, zSL_6a, zSL_6l, zSL_7n, zSL_7i, zSL_7a, zSL_7l, zSL_8n, zSL_8i, zSL_8a, zSL_8l, zSL_9n, zSL_9i, zSL_9a, zSL_9l, zSL_10n, zSL_10i, zSL_10a, zSL_10l, zSL_11n, zSL_11i, zSL_11a, zSL_11l, zSL_12n, zSL_12i, zSL_12a, zSL_12l, zLI_0, zLL_0, zLA_0, zLI_1, zLL_1, zLA_1, zLI_2, zLL_2, zLA_2, zLI_3, zLL_3, zLA_3, zLI_4, zLL_4, zLA_4, zLI_5, zLL_5, zLA_5, zLI_6, zLL_6, zLA_6, zLI_7, zLL_7, zLA_7, zLI_8, zLL_8, zLA_8, zLI_9, zLL_9, zLA_9, zLI_10, zLL_10, zLA_10, zLI_11, zLL_11, zLA_11, zLI_12, zLL_12, zLA_12, zLI_13, zLL_13, zLA_13, zst_0, zst_1n, zst_1i, zst_1a, zst_2n, zst_2i, zst_2a, zst_3n, zst_3i, zst_3a, zst_4n, zst_4i, zst_4a, zst_5n, zst_5i, zst_5a, zst_6n, zst_6i, zst_6a, zst_7n, zst_7i, zst_7a, zst_8n, zst_8i, zst_8a, zst_9n, zst_9i, zst_9a, zst_10n, zst_10i, zst_10a, zst_11n, zst_11i, zst_11a, zst_12n, zst_12i, zst_12a, zst_13n, zst_13i, zst_13a, zst_14n, zst_14i, zst_14a, zst_15n, zst_15i, zst_15a, zR1_n, zR1_v, zsum_n, zsum_i, zsum_l, zsum_a, zlen_n, zlen_i, zlen_l, zlen_a, List.not_mem_nil, List.mem_cons, or_false, false_or, or_self, ↓reduceIte, if_false, if_true, Nat.reduceEqDiff, Nat.reduceAdd, Nat.reduceLeDiff, true_and, and_true, reduceCtorEq, ne_eq, Int.toNat_natCast, not_true_eq_false, not_false_eq_true, true_implies, false_implies, implies_true, Int.reduceToNat, Int.toNat_zero, Int.reduceLT, Int.reduceLE, Int.reduceEq, Int.reduceAdd, Int.reduceMul, Int.reduceNeg]
      exact ⟨by omega, by omega, by unfold zr32; omega, fun h => absurd h h4⟩
end ZDRAWN
