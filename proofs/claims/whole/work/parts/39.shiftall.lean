/-! the chosen shapes and their followers moved -/
section ZSHIFTALL
/-- a shape moved -/
def zshf (f : Nat → Nat → Int) (s : Nat) (dx dy : Int) : Nat → Nat → Int := zfr (zmp f s (f s 10).toNat 0 (fun x _ => x + dx) (fun _ y => y + dy)) s (f s 11 + dx) (f s 12 + dy) (f s 13 + dx) (f s 14 + dy)
variable {L : Nat} {M : zM} {s : Nat} {Q : zO → zM → Prop}
theorem c97s {dx dy : Int} (hs : zShA s) (hR : zLay M.2.2.2) (hw : zSw M.2.1 s) (hf : zFm M.2.1 s) (hx : -1000 ≤ dx ∧ dx ≤ 1000) (hy : -1000 ≤ dy ∧ dy ≤ 1000) : zFR (zK L) 97 0 (zcall 97 [.inr (.inr s), .inl dx, .inl dy]) [] M Q = Q (.inl none) (zwI M (zshf M.2.1 s dx dy)) := by
  obtain ⟨g1, g2, g3, g4⟩ := hf
  rw [c97 hs hR hw hx hy (by omega) (by omega) (by omega) (by omega), zfr_z]
  rfl
theorem zshf_o {f : Nat → Nat → Int} {s b : Nat} (h : b < s ∨ s + 14 ≤ b) (dx dy : Int) (j : Nat) : zshf f s dx dy b j = f b j := by
  unfold zshf
  rw [zfr_o (by omega), zmp_o _ (by omega)]
def zvx (f : Nat → Nat → Int) (d : Int) (i : Nat) : Int := if f (14 + 14 * i) 0 = 1 then zby1 (zhb f i).1 d else 0
def zvy (f : Nat → Nat → Int) (d : Int) (i : Nat) : Int := if f (14 + 14 * i) 0 = 1 then zby1 (zhb f i).2 d else 0
/-- the shifts of the first k -/
def zvs (f : Nat → Nat → Int) (dx dy : Int) (k : Nat) : Nat → Nat → Int := fun b j => if b = 9 ∧ j < k then zvx f dx j else if b = 10 ∧ j < k then zvy f dy j else f b j
theorem zvs_0 (f : Nat → Nat → Int) (dx dy : Int) : zvs f dx dy 0 = f := by
  funext b j
  unfold zvs
  rw [if_neg (by omega), if_neg (by omega)]
theorem zvs_s (f : Nat → Nat → Int) (dx dy : Int) (k : Nat) : zu2 (zu2 (zvs f dx dy k) 9 k (zvx f dx k)) 10 k (zvy f dy k) = zvs f dx dy (k + 1) := by
  funext b j
  unfold zu2 zvs
  by_cases h : b = 10 ∧ j = k
  · rw [if_pos h, if_neg (by omega), if_pos ⟨h.1, by omega⟩, h.2]
  · rw [if_neg h]
    by_cases h2 : b = 9 ∧ j = k
    · rw [if_pos h2, if_pos ⟨h2.1, by omega⟩, h2.2]
    · rw [if_neg h2]
      by_cases h3 : b = 9 ∧ j < k
      · rw [if_pos h3, if_pos ⟨h3.1, by omega⟩]
      · rw [if_neg h3]
        by_cases h4 : b = 10 ∧ j < k
        · rw [if_pos h4, if_neg (by omega), if_pos ⟨h4.1, by omega⟩]
        · rw [if_neg h4, if_neg (by omega), if_neg (by omega)]
theorem zvs_o {f : Nat → Nat → Int} {b : Nat} (h : b ≠ 9 ∧ b ≠ 10) (dx dy : Int) (k j : Nat) : zvs f dx dy k b j = f b j := by
  unfold zvs
  rw [if_neg (fun h2 => h.1 h2.1), if_neg (fun h2 => h.2 h2.1)]
theorem zhb_cong {f g : Nat → Nat → Int} (h : ∀ b j, b ≠ 9 → b ≠ 10 → f b j = g b j) (i : Nat) : zhb f i = zhb g i := by
  unfold zhb
  have e1 : zld f = zld g := by funext j; exact h _ _ (by omega) (by omega)
  have e2 : zkd f = zkd g := by funext j; exact h _ _ (by omega) (by omega)
  have e3 : f 8 = g 8 := by funext j; exact h _ _ (by omega) (by omega)
  rw [e1, e2, e3]
/-- whether all can go -/
def zgo (f : Nat → Nat → Int) (dx dy : Int) (i : Nat) : Prop := f (14 + 14 * i) 0 = 1 → zcs (f (14 + 14 * i) 11) (f (14 + 14 * i) 12) (f (14 + 14 * i) 13) (f (14 + 14 * i) 14) (zvx f dx i) (zvy f dy i)
/-- the first k moved -/
def zshal (f : Nat → Nat → Int) (v w : Nat → Int) : Nat → Nat → Nat → Int
  | 0 => f
  | k + 1 => if f (14 + 14 * k) 0 = 1 ∧ (v k ≠ 0 ∨ w k ≠ 0) then zshf (zshal f v w k) (14 + 14 * k) (v k) (w k) else zshal f v w k
def zshn (f : Nat → Nat → Int) (v w : Nat → Int) : Nat → Nat
  | 0 => 0
  | k + 1 => if f (14 + 14 * k) 0 = 1 ∧ (v k ≠ 0 ∨ w k ≠ 0) then zshn f v w k + 1 else zshn f v w k
theorem zshal_s (f : Nat → Nat → Int) (v w : Nat → Int) (k : Nat) : zshal f v w (k + 1) = if f (14 + 14 * k) 0 = 1 ∧ (v k ≠ 0 ∨ w k ≠ 0) then zshf (zshal f v w k) (14 + 14 * k) (v k) (w k) else zshal f v w k := rfl
theorem zshn_s (f : Nat → Nat → Int) (v w : Nat → Int) (k : Nat) : zshn f v w (k + 1) = if f (14 + 14 * k) 0 = 1 ∧ (v k ≠ 0 ∨ w k ≠ 0) then zshn f v w k + 1 else zshn f v w k := rfl
theorem zshn_le (f : Nat → Nat → Int) (v w : Nat → Int) : ∀ k, zshn f v w k ≤ k
  | 0 => Nat.le_refl 0
  | k + 1 => by
    have h := zshn_le f v w k
    rw [zshn_s]
    split <;> omega
theorem zshal_o (f : Nat → Nat → Int) (v w : Nat → Int) {b : Nat} : ∀ k : Nat, (b < 14 ∨ 14 + 14 * k ≤ b) → ∀ j, zshal f v w k b j = f b j
  | 0, _, _ => rfl
  | k + 1, h, j => by
    rw [zshal_s]
    split
    · rw [zshf_o (by omega)]
      exact zshal_o f v w k (by omega) j
    · exact zshal_o f v w k (by omega) j
theorem c20a {dx dy : Int} {Q9 : zO → zM → Prop} (hR : zLay M.2.2.2) (hd : zLd M.2.1) (hch : ∀ j, j < 60 → M.2.1 8 j = 0 ∨ M.2.1 8 j = 1) (ht : ∀ i, i < 60 → M.2.1 (14 + 14 * i) 0 = 0 ∨ M.2.1 (14 + 14 * i) 0 = 1) (hf : ∀ i, i < 60 → M.2.1 (14 + 14 * i) 0 = 1 → zFm M.2.1 (14 + 14 * i)) (hx : -1000 ≤ dx ∧ dx ≤ 1000) (hy : -1000 ≤ dy ∧ dy ≤ 1000) (k : Nat) (hk : k < 60) (h1 : zgo M.2.1 dx dy k → zFR (zK L) 20 2 [some (.inr (.inr 3)), some (.inl dx), some (.inl dy), some (.inl ((k : Int) + 1)), none] [] (zwI M (zvs M.2.1 dx dy (k + 1))) Q9) (h0 : ¬ zgo M.2.1 dx dy k → Q9 (.inl (some (.inl (-1)))) (zwI M (zvs M.2.1 dx dy (k + 1)))) : zFR (zK L) 20 2 [some (.inr (.inr 3)), some (.inl dx), some (.inl dy), some (.inl (k : Int)), none] [] (zwI M (zvs M.2.1 dx dy k)) Q9 := by
  have hF := hR.1
  unfold zLayF at hF
  obtain ⟨k1, k2⟩ := zK_sh (L := L) (zShA_i hk)
  have tk := ht k hk
  have o1 : ∀ (j : Nat) (x y : Int), zu2 (zu2 (zvs M.2.1 dx dy k) 9 k x) 10 k y (14 + 14 * k) j = M.2.1 (14 + 14 * k) j := fun j x y => by rw [zu2_a (by omega), zu2_a (by omega), zvs_o (by omega)]
  by_cases hc : M.2.1 (14 + 14 * k) 0 = 1
  · have hfk := hf k hk hc
    have g := hfk
    obtain ⟨g1, g2, g3, g4⟩ := g
    have hz : zhb (zu2 (zu2 (zvs M.2.1 dx dy k) 9 k 0) 10 k 0) k = zhb M.2.1 k := zhb_cong (fun b j h9 h10 => by rw [zu2_a h10, zu2_a h9, zvs_o ⟨h9, h10⟩]) k
    have e1 : zvx M.2.1 dx k = zby1 (zhb M.2.1 k).1 dx := if_pos hc
    have e2 : zvy M.2.1 dy k = zby1 (zhb M.2.1 k).2 dy := if_pos hc
    have b1 : -1000 ≤ zvx M.2.1 dx k ∧ zvx M.2.1 dx k ≤ 1000 := by rw [e1]; unfold zby1; split <;> omega
    have b2 : -1000 ≤ zvy M.2.1 dy k ∧ zvy M.2.1 dy k ≤ 1000 := by rw [e2]; unfold zby1; split <;> omega
    have hm : zu2 (zu2 (zu2 (zu2 (zvs M.2.1 dx dy k) 9 k 0) 10 k 0) 9 k (zvx M.2.1 dx k)) 10 k (zvy M.2.1 dy k) = zvs M.2.1 dx dy (k + 1) := by
      rw [← zvs_s]
      funext b j
      unfold zu2
      by_cases h1 : b = 10 ∧ j = k
      · rw [if_pos h1, if_pos h1]
      · rw [if_neg h1, if_neg h1, if_neg h1]
        by_cases h2 : b = 9 ∧ j = k
        · rw [if_pos h2, if_pos h2]
        · rw [if_neg h2, if_neg h2, if_neg h2]
    have o2 : ∀ j, zvs M.2.1 dx dy (k + 1) (14 + 14 * k) j = M.2.1 (14 + 14 * k) j := fun j => zvs_o (by omega) _ _ _ _
    have v1 : zvs M.2.1 dx dy (k + 1) 9 k = zvx M.2.1 dx k := if_pos ⟨rfl, by omega⟩
    have v2 : zvs M.2.1 dx dy (k + 1) 10 k = zvy M.2.1 dy k := by unfold zvs; rw [if_neg (by omega), if_pos ⟨rfl, by omega⟩]
    have h21 := fun Q => c21 (L := L) (M := zwI M (zu2 (zu2 (zvs M.2.1 dx dy k) 9 k 0) 10 k 0)) (Q := Q) (s := k) (dx := dx) (dy := dy) hR (fun i hi => by
      have e : zld (zwI M (zu2 (zu2 (zvs M.2.1 dx dy k) 9 k 0) 10 k 0)).2.1 i = zld M.2.1 i := by unfold zld; rw [zwI_I, zu2_a (by omega), zu2_a (by omega), zvs_o (by omega)]
      rw [e]; exact hd i hi) hk (fun j hj => by rw [zwI_I, zu2_a (by omega), zu2_a (by omega), zvs_o (by omega)]; exact hch j hj) (by rw [zwI_I, zu2_a (by omega), zu2_eq]) (by rw [zwI_I, zu2_eq])
    simp only [zwI_I, hz, ← e1, ← e2, hm, zwI_w] at h21
    have h96 := fun Q => c96 (L := L) (M := zwI M (zvs M.2.1 dx dy (k + 1))) (Q := Q) (s := 14 + 14 * k) (dx := zvx M.2.1 dx k) (dy := zvy M.2.1 dy k) (zShA_i hk) (by rw [zwI_I, o2]; unfold zr32; omega) (by rw [zwI_I, o2]; unfold zr32; omega) (by rw [zwI_I, o2]; unfold zr32; omega) (by rw [zwI_I, o2]; unfold zr32; omega)
    simp only [zwI_I, o2] at h96
    have eg : zgo M.2.1 dx dy k ↔ zcs (M.2.1 (14 + 14 * k) 11) (M.2.1 (14 + 14 * k) 12) (M.2.1 (14 + 14 * k) 13) (M.2.1 (14 + 14 * k) 14) (zvx M.2.1 dx k) (zvy M.2.1 dy k) := ⟨fun h => h hc, fun h _ => h⟩
    refine zW_sound 60 [2, 73] ?_
    simp only [ZR20, zk_3, zk_4, zk_9, zk_10, ZF21.1, ZF21.2.1, ZF21.2.2.1, ZF96.1, ZF96.2.1, ZF96.2.2.1, k1, hF, (hR.2.2.2 k hk).1, zsI_wI, zwI_I, zwI_2, zwI_w, o1, o2, v1, v2, h21, h96, zW_succ, zE_iload, zE_aload, zE_lload, zE_iinc, zE_istore, zE_astore, zE_lstore, zE_iconst, zE_ldc2, zE_iadd, zE_isub, zE_imul, zE_idiv, zE_irem, zE_ineg, zE_iand, zE_ior, zE_ixor, zE_ishl, zE_ishr, zE_land, zE_lor, zE_lxor, zE_lshl, zE_lshr, zE_i2l, zE_lcmp, zE_dup_i, zE_dup_a, zE_dup2_ia, zE_pop_i, zE_pop_a, zE_pop2, zE_goto, zE_if_eq, zE_icmp_eq, zE_if_ne, zE_icmp_ne, zE_if_lt, zE_icmp_lt, zE_if_ge, zE_icmp_ge, zE_if_gt, zE_icmp_gt, zE_if_le, zE_icmp_le, zE_iaload, zE_baload, zE_laload, zE_aaload, zE_iastore, zE_bastore, zE_lastore, zE_aastore, zE_alen, zE_getf0, zE_getf1, zE_getf2, zE_getf3, zE_putf0, zE_putf1, zE_putf2, zE_putf3, zE_new, zE_newa, zE_newq, zE_ireturn, zE_lreturn, zE_areturn, zE_return, zE_athrow, zE_st0, zE_vi0, zE_st1, zE_vi1, zE_st2, zE_vi2, zE_st3, zE_vi3, zE_st4, zE_vi4, zE_st5, zE_vi5, zE_st6, zE_vi6, zE_st7, zE_vi7, zE_st8, zE_vi8, zSt_0, zSL_0, zSt_1n, zSt_1i, zSt_1a, zSt_1l, zSt_2n, zSt_2i, zSt_2a, zSt_2l, zSt_3n, zSt_3i, zSt_3a, zSt_3l, zSt_4n, zSt_4i, zSt_4a, zSt_4l, zSt_5n, zSt_5i, zSt_5a, zSt_5l, zSt_6n, zSt_6i, zSt_6a, zSt_6l, zSt_7n, zSt_7i, zSt_7a, zSt_7l, zSt_8n, zSt_8i, zSt_8a, zSt_8l, zSt_9n, zSt_9i, zSt_9a, zSt_9l, zSt_10n, zSt_10i, zSt_10a, zSt_10l, zSt_11n, zSt_11i, zSt_11a, zSt_11l, zSt_12n, zSt_12i, zSt_12a, zSt_12l, zSt_13n, zSt_13i, zSt_13a, zSt_13l, zSL_1n, zSL_1i, zSL_1a, zSL_1l, zSL_2n, zSL_2i, zSL_2a, zSL_2l, zSL_3n, zSL_3i, zSL_3a, zSL_3l, zSL_4n, zSL_4i, zSL_4a, zSL_4l, zSL_5n, zSL_5i, zSL_5a, zSL_5l, zSL_6n, zSL_6i, zSL_6a, zSL_6l, zSL_7n, zSL_7i, zSL_7a, zSL_7l, zSL_8n, zSL_8i, zSL_8a, zSL_8l, zSL_9n, zSL_9i, zSL_9a, zSL_9l, zSL_10n, zSL_10i, zSL_10a, zSL_10l, zSL_11n, zSL_11i, zSL_11a, zSL_11l, zSL_12n, zSL_12i, zSL_12a, zSL_12l, zLI_0, zLL_0, zLA_0, zLI_1, zLL_1, zLA_1, zLI_2, zLL_2, zLA_2, zLI_3, zLL_3, zLA_3, zLI_4, zLL_4, zLA_4, zLI_5, zLL_5, zLA_5, zLI_6, zLL_6, zLA_6, zLI_7, zLL_7, zLA_7, zLI_8, zLL_8, zLA_8, zLI_9, zLL_9, zLA_9, zLI_10, zLL_10, zLA_10, zLI_11, zLL_11, zLA_11, zLI_12, zLL_12, zLA_12, zLI_13, zLL_13, zLA_13, zst_0, zst_1n, zst_1i, zst_1a, zst_2n, zst_2i, zst_2a, zst_3n, zst_3i, zst_3a, zst_4n, zst_4i, zst_4a, zst_5n, zst_5i, zst_5a, zst_6n, zst_6i, zst_6a, zst_7n, zst_7i, zst_7a, zst_8n, zst_8i, zst_8a, zst_9n, zst_9i, zst_9a, zst_10n, zst_10i, zst_10a, zst_11n, zst_11i, zst_11a, zst_12n, zst_12i, zst_12a, zst_13n, zst_13i, zst_13a, zst_14n, zst_14i, zst_14a, zst_15n, zst_15i, zst_15a, zR1_n, zR1_v, zsum_n, zsum_i, zsum_l, zsum_a, zlen_n, zlen_i, zlen_l, zlen_a, List.not_mem_nil, List.mem_cons, or_false, false_or, or_self, ↓reduceIte, if_false, if_true, Nat.reduceEqDiff, Nat.reduceAdd, Nat.reduceLeDiff, true_and, and_true, reduceCtorEq, ne_eq, Int.toNat_natCast, not_true_eq_false, not_false_eq_true, true_implies, false_implies, implies_true, Int.reduceToNat, Int.toNat_zero, Int.reduceLT, Int.reduceLE, Int.reduceEq, Int.reduceAdd, Int.reduceMul, Int.reduceNeg]
    exact ⟨fun h => absurd h (by omega), fun _ => ⟨by omega, by omega, by omega, fun h => absurd h (by omega), fun _ => ⟨by omega, by omega, by omega, fun h => ⟨by unfold zr32; omega, h1 (eg.mpr h)⟩, fun h => h0 (fun h2 => h (eg.mp h2))⟩⟩⟩
  · have e1 : zvx M.2.1 dx k = 0 := if_neg hc
    have e2 : zvy M.2.1 dy k = 0 := if_neg hc
    have hm := zvs_s M.2.1 dx dy k
    rw [e1, e2] at hm
    refine zW_sound 60 [2, 73, 34] ?_
    simp only [ZR20, zk_3, zk_4, zk_9, zk_10, k1, hF, (hR.2.2.2 k hk).1, zsI_wI, zwI_I, zwI_2, zwI_w, o1, hm, zW_succ, zE_iload, zE_aload, zE_lload, zE_iinc, zE_istore, zE_astore, zE_lstore, zE_iconst, zE_ldc2, zE_iadd, zE_isub, zE_imul, zE_idiv, zE_irem, zE_ineg, zE_iand, zE_ior, zE_ixor, zE_ishl, zE_ishr, zE_land, zE_lor, zE_lxor, zE_lshl, zE_lshr, zE_i2l, zE_lcmp, zE_dup_i, zE_dup_a, zE_dup2_ia, zE_pop_i, zE_pop_a, zE_pop2, zE_goto, zE_if_eq, zE_icmp_eq, zE_if_ne, zE_icmp_ne, zE_if_lt, zE_icmp_lt, zE_if_ge, zE_icmp_ge, zE_if_gt, zE_icmp_gt, zE_if_le, zE_icmp_le, zE_iaload, zE_baload, zE_laload, zE_aaload, zE_iastore, zE_bastore, zE_lastore, zE_aastore, zE_alen, zE_getf0, zE_getf1, zE_getf2, zE_getf3, zE_putf0, zE_putf1, zE_putf2, zE_putf3, zE_new, zE_newa, zE_newq, zE_ireturn, zE_lreturn, zE_areturn, zE_return, zE_athrow, zE_st0, zE_vi0, zE_st1, zE_vi1, zE_st2, zE_vi2, zE_st3, zE_vi3, zE_st4, zE_vi4, zE_st5, zE_vi5, zE_st6, zE_vi6, zE_st7, zE_vi7, zE_st8, zE_vi8, zSt_0, zSL_0, zSt_1n, zSt_1i, zSt_1a, zSt_1l, zSt_2n, zSt_2i, zSt_2a, zSt_2l, zSt_3n, zSt_3i, zSt_3a, zSt_3l, zSt_4n, zSt_4i, zSt_4a, zSt_4l, zSt_5n, zSt_5i, zSt_5a, zSt_5l, zSt_6n, zSt_6i, zSt_6a, zSt_6l, zSt_7n, zSt_7i, zSt_7a, zSt_7l, zSt_8n, zSt_8i, zSt_8a, zSt_8l, zSt_9n, zSt_9i, zSt_9a, zSt_9l, zSt_10n, zSt_10i, zSt_10a, zSt_10l, zSt_11n, zSt_11i, zSt_11a, zSt_11l, zSt_12n, zSt_12i, zSt_12a, zSt_12l, zSt_13n, zSt_13i, zSt_13a, zSt_13l, zSL_1n, zSL_1i, zSL_1a, zSL_1l, zSL_2n, zSL_2i, zSL_2a, zSL_2l, zSL_3n, zSL_3i, zSL_3a, zSL_3l, zSL_4n, zSL_4i, zSL_4a, zSL_4l, zSL_5n, zSL_5i, zSL_5a, zSL_5l, zSL_6n, zSL_6i, zSL_6a, zSL_6l, zSL_7n, zSL_7i, zSL_7a, zSL_7l, zSL_8n, zSL_8i, zSL_8a, zSL_8l, zSL_9n, zSL_9i, zSL_9a, zSL_9l, zSL_10n, zSL_10i, zSL_10a, zSL_10l, zSL_11n, zSL_11i, zSL_11a, zSL_11l, zSL_12n, zSL_12i, zSL_12a, zSL_12l, zLI_0, zLL_0, zLA_0, zLI_1, zLL_1, zLA_1, zLI_2, zLL_2, zLA_2, zLI_3, zLL_3, zLA_3, zLI_4, zLL_4, zLA_4, zLI_5, zLL_5, zLA_5, zLI_6, zLL_6, zLA_6, zLI_7, zLL_7, zLA_7, zLI_8, zLL_8, zLA_8, zLI_9, zLL_9, zLA_9, zLI_10, zLL_10, zLA_10, zLI_11, zLL_11, zLA_11, zLI_12, zLL_12, zLA_12, zLI_13, zLL_13, zLA_13, zst_0, zst_1n, zst_1i, zst_1a, zst_2n, zst_2i, zst_2a, zst_3n, zst_3i, zst_3a, zst_4n, zst_4i, zst_4a, zst_5n, zst_5i, zst_5a, zst_6n, zst_6i, zst_6a, zst_7n, zst_7i, zst_7a, zst_8n, zst_8i, zst_8a, zst_9n, zst_9i, zst_9a, zst_10n, zst_10i, zst_10a, zst_11n, zst_11i, zst_11a, zst_12n, zst_12i, zst_12a, zst_13n, zst_13i, zst_13a, zst_14n, zst_14i, zst_14a, zst_15n, zst_15i, zst_15a, zR1_n, zR1_v, zsum_n, zsum_i, zsum_l, zsum_a, zlen_n, zlen_i, zlen_l, zlen_a, List.not_mem_nil, List.mem_cons, or_false, false_or, or_self, ↓reduceIte, if_false, if_true, Nat.reduceEqDiff, Nat.reduceAdd, Nat.reduceLeDiff, true_and, and_true, reduceCtorEq, ne_eq, Int.toNat_natCast, not_true_eq_false, not_false_eq_true, true_implies, false_implies, implies_true, Int.reduceToNat, Int.toNat_zero, Int.reduceLT, Int.reduceLE, Int.reduceEq, Int.reduceAdd, Int.reduceMul, Int.reduceNeg]
    exact ⟨fun h => absurd h (by omega), fun _ => ⟨by omega, by omega, by omega, fun _ => ⟨by unfold zr32; omega, h1 (fun h => absurd h hc)⟩, fun h => absurd (by omega) h⟩⟩
end ZSHIFTALL
