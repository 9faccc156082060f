section SG_9M_astrip
/-! the class: a strip added -/
section ZASTRIP
variable {L : Nat} {M : zM} {s t : Nat} {Q : zO → zM → Prop}
/-- what is held of two, by a law -/
def zgl (w t1 t2 : Int) (c1 : Nat) (set : Nat) : Bool := zlawb w (zhsb t1 (set % 2 ^ c1)) (zhsb t2 (set / 2 ^ c1))
theorem zF_b {m : Nat → Int} {b : Nat → Nat} {g : Nat → Bool} {C : Int} : ∀ (r : List Nat) (a acc : Nat), zSo m (a :: r) → (∀ x, x ∈ a :: r → m x ≤ C) → 0 ≤ zF m b g acc (m a) r ∧ zF m b g acc (m a) r ≤ C - m a
  | [], a, acc, _, h => by
    have := h a (List.mem_cons_self ..)
    rw [zF_n]
    omega
  | c :: r, a, acc, hs, h => by
    have h1 := List.pairwise_cons.mp hs
    have h2 := h1.1 c (List.mem_cons_self ..)
    have ih := zF_b (g := g) (b := b) r c (acc ^^^ b c) h1.2 (fun x hx => h x (List.mem_cons_of_mem _ hx))
    rw [zF_s]
    split <;> omega
theorem zFV_b {m : Nat → Int} {b : Nat → Nat} {g : Nat → Bool} {C : Int} {k : List Nat} (hC : 0 ≤ C) (hs : zSo m k) (h : ∀ x, x ∈ k → 0 ≤ m x ∧ m x ≤ C) : 0 ≤ zFV m b g k ∧ zFV m b g k ≤ C := by
  cases k with
  | nil => exact ⟨Int.le_refl _, hC⟩
  | cons a r =>
    have h1 := zF_b (g := g) (b := b) r a (0 ^^^ b a) hs (fun x hx => (h x hx).2)
    have h2 := h a (List.mem_cons_self ..)
    show 0 ≤ zF m b g (0 ^^^ b a) (m a) r ∧ zF m b g (0 ^^^ b a) (m a) r ≤ C
    omega
theorem c110 {f : Nat → Nat → Int} {k : List Nat} {h : Nat} {m : Nat → Int} {b : Nat → Nat} {c1 c2 : Nat} (hR : zLay M.2.2.2) (hs : zShA s) (ht : zShA t) (ws : zSw f s) (wt : zSw f t) (hc1 : f s 10 = (c1 : Int)) (hc2 : f t 10 = (c2 : Int)) (hk : f 1105 9 = (k.length : Int)) (hk6 : k.length ≤ 64) (ho : zAL (f 1113) k) (hm : ∀ e, e ∈ k → e < 64 ∧ f 1112 e = m e ∧ 0 ≤ m e ∧ m e ≤ 14400 ∧ f 1111 e = (b e : Int) ∧ b e < 2 ^ (c1 + c2)) (hso : zSo m k) (hh : h ≤ 3600) (hS : ∀ w, w < 4 → 0 ≤ f 1106 w ∧ f 1106 w ≤ 100000000) : zFR (zK L) 110 0 (zcall 110 [.inr (.inr 1105), .inl (h : Int), .inr (.inr s), .inr (.inr t)]) [] (zwI M f) (fun r M2 => ∃ f', r = .inl none ∧ M2 = zwI M f' ∧ (∀ w : Nat, w < 4 → f' 1106 w = f 1106 w + (h : Int) * zFV m b (zgl (w : Int) (f s 9) (f t 9) c1) k) ∧ ∀ a, a ≠ 1106 → f' a = f a) := by
  have hF := hR.1
  unfold zLayF at hF
  obtain ⟨k1, k2⟩ := zK_sh (L := L) hs
  obtain ⟨l1, l2⟩ := zK_sh (L := L) ht
  have ssw := zShA_sw hs
  have tsw := zShA_sw ht
  obtain ⟨ws1, ws2, -⟩ := ws
  obtain ⟨wt1, wt2, -⟩ := wt
  rw [hc1] at ws1
  rw [hc2] at wt1
  have pc := (zp4 (c := c1) (by omega)).2
  have pc' := (zp4 (c := c1) (by omega)).1
  have pd := (zp4 (c := c2) (by omega)).2
  have pe : 2 ^ (c1 + c2) = 2 ^ c1 * 2 ^ c2 := Nat.pow_add 2 c1 c2
  have p256 : 2 ^ (c1 + c2) ≤ 256 := by
    have : 2 ^ c1 * 2 ^ c2 ≤ 16 * 16 := Nat.mul_le_mul pc pd
    omega
  generalize hT1 : f s 9 = t1 at *
  generalize hT2 : f t 9 = t2 at *
  have hV := fun (w : Nat) => zFV_b (g := zgl (w : Int) t1 t2 c1) (b := b) (C := 14400) (by omega) hso (fun x hx => ⟨(hm x hx).2.2.1, (hm x hx).2.2.2.1⟩)
  generalize hQ : (fun r M2 => ∃ f', r = (Sum.inl none : zO) ∧ M2 = zwI M f' ∧ (∀ w : Nat, w < 4 → f' 1106 w = f 1106 w + (h : Int) * zFV m b (zgl (w : Int) t1 t2 c1) k) ∧ ∀ a, a ≠ 1106 → f' a = f a) = Q9
  have hFb : ∀ w : Nat, w < 4 → f 1106 w + (h : Int) * zFV m b (zgl (w : Int) t1 t2 c1) k ≤ 200000000 := fun w hw => by
    have h1 := hV w
    have h2 := hS w hw
    have h3 : (h : Int) * zFV m b (zgl (w : Int) t1 t2 c1) k ≤ 3600 * 14400 := Int.mul_le_mul (by omega) h1.2 h1.1 (by omega)
    omega
  have exit : ∀ (f' : Nat → Nat → Int) (i acc : Nat) y6 y7 y8 y9, (∀ w : Nat, w < 4 → f' 1106 w = f 1106 w + (h : Int) * zFV m b (zgl (w : Int) t1 t2 c1) k) → (∀ a, a ≠ 1106 → f' a = f a) → k.length ≤ i + 1 → i ≤ 64 → zFR (zK L) 110 6 [some (.inr (.inr 1105)), some (.inl (h : Int)), some (.inr (.inr s)), some (.inr (.inr t)), some (.inl (acc : Int)), some (.inl (i : Int)), y6, y7, y8, y9] [] (zwI M f') Q9 := by
    intro f' i acc y6 y7 y8 y9 h1 h2 h3 h4
    have e9 : f' 1105 9 = (k.length : Int) := by rw [h2 1105 (by omega), hk]
    refine zW_sound 60 [135] ?_
    simp only [ZR110, zk_1105, zwI_I, e9, zW_succ, zE_iload, zE_aload, zE_lload, zE_iinc, zE_istore, zE_astore, zE_lstore, zE_iconst, zE_ldc2, zE_iadd, zE_isub, zE_imul, zE_idiv, zE_irem, zE_ineg, zE_iand, zE_ior, zE_ixor, zE_ishl, zE_ishr, zE_land, zE_lor, zE_lxor, zE_lshl, zE_lshr, zE_i2l, zE_lcmp, zE_dup_i, zE_dup_a, zE_dup2_ia, zE_pop_i, zE_pop_a, zE_pop2, zE_goto, zE_if_eq, zE_icmp_eq, zE_if_ne, zE_icmp_ne, zE_if_lt, zE_icmp_lt, zE_if_ge, zE_icmp_ge, zE_if_gt, zE_icmp_gt, zE_if_le, zE_icmp_le, zE_iaload, zE_baload, zE_laload, zE_aaload, zE_iastore, zE_bastore, zE_lastore, zE_aastore, zE_alen, zE_getf0, zE_getf1, zE_getf2, zE_getf3, zE_putf0, zE_putf1, zE_putf2, zE_putf3, zE_new, zE_newa, zE_newq, zE_ireturn, zE_lreturn, zE_areturn, zE_return, zE_athrow, zE_st0, zE_vi0, zE_st1, zE_vi1, zE_st2, zE_vi2, zE_st3, zE_vi3, zE_st4, zE_vi4, zE_st5, zE_vi5, zE_st6, zE_vi6, zE_st7, zE_vi7, zE_st8, zE_vi8, zSt_0, zSL_0, zSt_1n, zSt_1i, zSt_1a, zSt_1l, zSt_2n, zSt_2i, zSt_2a, zSt_2l, zSt_3n, zSt_3i, zSt_3a, zSt_3l, zSt_4n, zSt_4i, zSt_4a, zSt_4l, zSt_5n, zSt_5i, zSt_5a, zSt_5l, zSt_6n, zSt_6i, zSt_6a, zSt_6l, zSt_7n, zSt_7i, zSt_7a, zSt_7l, zSt_8n, zSt_8i, zSt_8a, zSt_8l, zSt_9n, zSt_9i, zSt_9a, zSt_9l, zSt_10n, zSt_10i, zSt_10a, zSt_10l, zSt_11n, zSt_11i, zSt_11a, zSt_11l, zSt_12n, zSt_12i, zSt_12a, zSt_12l, zSt_13n, zSt_13i, zSt_13a, zSt_13l, zSL_1n, zSL_1i, zSL_1a, zSL_1l, zSL_2n, zSL_2i, zSL_2a, zSL_2l, zSL_3n, zSL_3i, zSL_3a, zSL_3l, zSL_4n, zSL_4i, zSL_4a, zSL_4l, zSL_5n, zSL_5i, zSL_5a, zSL_5l, zSL_6n, zSL_6i, zSL_6a, zSL_6l, zSL_7n, zSL_7i, zSL_7a, zSL_7l, zSL_8n, zSL_8i, zSL_8a, zSL_8l, zSL_9n, zSL_9i, zSL_9a, zSL_9l, zSL_10n, zSL_10i, zSL_10a, zSL_10l, zSL_11n, zSL_11i, zSL_11a, zSL_11l, zSL_12n, zSL_12i, zSL_12a, zSL_12l, zLI_0, zLL_0, zLA_0, zLI_1, zLL_1, zLA_1, zLI_2, zLL_2, zLA_2, zLI_3, zLL_3, zLA_3, zLI_4, zLL_4, zLA_4, zLI_5, zLL_5, zLA_5, zLI_6, zLL_6, zLA_6, zLI_7, zLL_7, zLA_7, zLI_8, zLL_8, zLA_8, zLI_9, zLL_9, zLA_9, zLI_10, zLL_10, zLA_10, zLI_11, zLL_11, zLA_11, zLI_12, zLL_12, zLA_12, zLI_13, zLL_13, zLA_13, zst_0, zst_1n, zst_1i, zst_1a, zst_2n, zst_2i, zst_2a, zst_3n, zst_3i, zst_3a, zst_4n, zst_4i, zst_4a, zst_5n, zst_5i, zst_5a, zst_6n, zst_6i, zst_6a, zst_7n, zst_7i, zst_7a, zst_8n, zst_8i, zst_8a, zst_9n, zst_9i, zst_9a, zst_10n, zst_10i, zst_10a, zst_11n, zst_11i, zst_11a, zst_12n, zst_12i, zst_12a, zst_13n, zst_13i, zst_13a, zst_14n, zst_14i, zst_14a, zst_15n, zst_15i, zst_15a, zR1_n, zR1_v, zsum_n, zsum_i, zsum_l, zsum_a, zlen_n, zlen_i, zlen_l, zlen_a, List.not_mem_nil, List.mem_cons, or_false, false_or, or_self, ↓reduceIte, if_false, if_true, Nat.reduceEqDiff, Nat.reduceAdd, Nat.reduceLeDiff, true_and, and_true, reduceCtorEq, ne_eq, Int.toNat_natCast, not_true_eq_false, not_false_eq_true, true_implies, false_implies, implies_true, Int.reduceToNat, Int.toNat_zero, Int.reduceLT, Int.reduceLE, Int.reduceEq, Int.reduceAdd, Int.reduceMul, Int.reduceNeg]
    refine ⟨by unfold zr32; omega, fun _ => ?_, fun h => absurd (by omega) h⟩
    refine zW_sound 60 [] ?_
    simp only [ZR110, zW_succ, zE_iload, zE_aload, zE_lload, zE_iinc, zE_istore, zE_astore, zE_lstore, zE_iconst, zE_ldc2, zE_iadd, zE_isub, zE_imul, zE_idiv, zE_irem, zE_ineg, zE_iand, zE_ior, zE_ixor, zE_ishl, zE_ishr, zE_land, zE_lor, zE_lxor, zE_lshl, zE_lshr, zE_i2l, zE_lcmp, zE_dup_i, zE_dup_a, zE_dup2_ia, zE_pop_i, zE_pop_a, zE_pop2, zE_goto, zE_if_eq, zE_icmp_eq, zE_if_ne, zE_icmp_ne, zE_if_lt, zE_icmp_lt, zE_if_ge, zE_icmp_ge, zE_if_gt, zE_icmp_gt, zE_if_le, zE_icmp_le, zE_iaload, zE_baload, zE_laload, zE_aaload, zE_iastore, zE_bastore, zE_lastore, zE_aastore, zE_alen, zE_getf0, zE_getf1, zE_getf2, zE_getf3, zE_putf0, zE_putf1, zE_putf2, zE_putf3, zE_new, zE_newa, zE_newq, zE_ireturn, zE_lreturn, zE_areturn, zE_return, zE_athrow, zE_st0, zE_vi0, zE_st1, zE_vi1, zE_st2, zE_vi2, zE_st3, zE_vi3, zE_st4, zE_vi4, zE_st5, zE_vi5, zE_st6, zE_vi6, zE_st7, zE_vi7, zE_st8, zE_vi8, zSt_0, zSL_0, zSt_1n, zSt_1i, zSt_1a, zSt_1l, zSt_2n, zSt_2i, zSt_2a, zSt_2l, zSt_3n, zSt_3i, zSt_3a, zSt_3l, zSt_4n, zSt_4i, zSt_4a, zSt_4l, zSt_5n, zSt_5i, zSt_5a, zSt_5l, zSt_6n, zSt_6i, zSt_6a, zSt_6l, zSt_7n, zSt_7i, zSt_7a, zSt_7l, zSt_8n, zSt_8i, zSt_8a, zSt_8l, zSt_9n, zSt_9i, zSt_9a, zSt_9l, zSt_10n, zSt_10i, zSt_10a, zSt_10l, zSt_11n, zSt_11i, zSt_11a, zSt_11l, zSt_12n, zSt_12i, zSt_12a, zSt_12l, zSt_13n, zSt_13i, zSt_13a, zSt_13l, zSL_1n, zSL_1i, zSL_1a, zSL_1l, zSL_2n, zSL_2i, zSL_2a, zSL_2l, zSL_3n, zSL_3i, zSL_3a, zSL_3l, zSL_4n, zSL_4i, zSL_4a, zSL_4l, zSL_5n, zSL_5i, zSL_5a, zSL_5l, zSL_6n, zSL_6i, zSL_6a, zSL_6l, zSL_7n, zSL_7i, zSL_7a, zSL_7l, zSL_8n, zSL_8i, zSL_8a, zSL_8l, zSL_9n, zSL_9i, zSL_9a, zSL_9l, zSL_10n, zSL_10i, zSL_10a, zSL_10l, zSL_11n, zSL_11i, zSL_11a, zSL_11l, zSL_12n, zSL_12i, zSL_12a, zSL_12l, zLI_0, zLL_0, zLA_0, zLI_1, zLL_1, zLA_1, zLI_2, zLL_2, zLA_2, zLI_3, zLL_3, zLA_3, zLI_4, zLL_4, zLA_4, zLI_5, zLL_5, zLA_5, zLI_6, zLL_6, zLA_6, zLI_7, zLL_7, zLA_7, zLI_8, zLL_8, zLA_8, zLI_9, zLL_9, zLA_9, zLI_10, zLL_10, zLA_10, zLI_11, zLL_11, zLA_11, zLI_12, zLL_12, zLA_12, zLI_13, zLL_13, zLA_13, zst_0, zst_1n, zst_1i, zst_1a, zst_2n, zst_2i, zst_2a, zst_3n, zst_3i, zst_3a, zst_4n, zst_4i, zst_4a, zst_5n, zst_5i, zst_5a, zst_6n, zst_6i, zst_6a, zst_7n, zst_7i, zst_7a, zst_8n, zst_8i, zst_8a, zst_9n, zst_9i, zst_9a, zst_10n, zst_10i, zst_10a, zst_11n, zst_11i, zst_11a, zst_12n, zst_12i, zst_12a, zst_13n, zst_13i, zst_13a, zst_14n, zst_14i, zst_14a, zst_15n, zst_15i, zst_15a, zR1_n, zR1_v, zsum_n, zsum_i, zsum_l, zsum_a, zlen_n, zlen_i, zlen_l, zlen_a, List.not_mem_nil, List.mem_cons, or_false, false_or, or_self, ↓reduceIte, if_false, if_true, Nat.reduceEqDiff, Nat.reduceAdd, Nat.reduceLeDiff, true_and, and_true, reduceCtorEq, ne_eq, Int.toNat_natCast, not_true_eq_false, not_false_eq_true, true_implies, false_implies, implies_true, Int.reduceToNat, Int.toNat_zero, Int.reduceLT, Int.reduceLE, Int.reduceEq, Int.reduceAdd, Int.reduceMul, Int.reduceNeg]
    subst hQ
    exact ⟨f', rfl, rfl, h1, h2⟩
  have loop : ∀ (r : List Nat) (a i acc : Nat) (f' : Nat → Nat → Int) y6 y7 y8 y9, k.drop i = a :: r → acc < 2 ^ (c1 + c2) → (∀ w : Nat, w < 4 → 0 ≤ f' 1106 w ∧ f' 1106 w + (h : Int) * zF m b (zgl (w : Int) t1 t2 c1) (acc ^^^ b a) (m a) r = f 1106 w + (h : Int) * zFV m b (zgl (w : Int) t1 t2 c1) k) → (∀ a, a ≠ 1106 → f' a = f a) → zFR (zK L) 110 6 [some (.inr (.inr 1105)), some (.inl (h : Int)), some (.inr (.inr s)), some (.inr (.inr t)), some (.inl (acc : Int)), some (.inl (i : Int)), y6, y7, y8, y9] [] (zwI M f') Q9 := by
    intro r
    induction r with
    | nil =>
      intro a i acc f' y6 y7 y8 y9 hd hacc h1 h2
      have hl : (k.drop i).length = 1 := by rw [hd]; rfl
      rw [List.length_drop] at hl
      exact exit f' i acc y6 y7 y8 y9 (fun w hw => by
        have h3 := (h1 w hw).2
        rw [zF_n, Int.mul_zero, Int.add_zero] at h3
        exact h3) h2 (by omega) (by omega)
    | cons c r ih =>
      intro a i acc f' y6 y7 y8 y9 hd hacc h1 h2
      have hl : (k.drop i).length = r.length + 2 := by rw [hd]; rfl
      rw [List.length_drop] at hl
      have ga : k[i]? = some a := by
        have h3 : (k.drop i)[0]? = some a := by rw [hd]; rfl
        rw [List.getElem?_drop] at h3
        exact h3
      have gc : k[i + 1]? = some c := by
        have h3 : (k.drop i)[1]? = some c := by rw [hd]; rfl
        rw [List.getElem?_drop] at h3
        exact h3
      have hd2 : k.drop (i + 1) = c :: r := by
        have h3 : k.drop (i + 1) = (k.drop i).drop 1 := by rw [List.drop_drop]
        rw [h3, hd]
        rfl
      have ia := ho i a ga
      have ic := ho (i + 1) c gc
      have ma := List.mem_of_getElem? ga
      have mc := List.mem_of_getElem? gc
      obtain ⟨a1, a2, a3, a4, a5, a6⟩ := hm a ma
      obtain ⟨b1, b2, b3, b4, b5, b6⟩ := hm c mc
      have hsub : zSo m (c :: r) := by
        have h3 : zSo m (k.drop (i + 1)) := hso.sublist (List.drop_sublist _ _)
        rw [hd2] at h3
        exact h3
      have hac : m a ≤ m c := by
        have h3 : zSo m (k.drop i) := hso.sublist (List.drop_sublist _ _)
        rw [hd] at h3
        exact (List.pairwise_cons.mp h3).1 c (List.mem_cons_self ..)
      have hrb : ∀ (w : Nat) (x : Nat), 0 ≤ zF m b (zgl (w : Int) t1 t2 c1) x (m c) r := fun w x => (zF_b (C := 14400) r c x hsub (fun y hy => (hm y (List.mem_of_mem_drop (by rw [hd2]; exact hy))).2.2.2.1)).1
      have hx : acc ^^^ b a < 2 ^ (c1 + c2) := Nat.xor_lt_two_pow hacc a6
      have exor : (Int32.ofInt (acc : Int) ^^^ Int32.ofInt (b a : Int)).toInt = ((acc ^^^ b a : Nat) : Int) := zxor_n (by omega) (by omega)
      generalize hset : acc ^^^ b a = set at *
      have m1 : set % 2 ^ c1 < 32 := by
        have := Nat.mod_lt set (show 0 < 2 ^ c1 by omega)
        omega
      have m2 : set / 2 ^ c1 < 32 := by
        have : set / 2 ^ c1 < 2 ^ c2 := Nat.div_lt_of_lt_mul (by rw [← pe]; exact hx)
        omega
      have e9 : f' 1105 9 = (k.length : Int) := by rw [h2 1105 (by omega), hk]
      have eia : f' 1113 i = (a : Int) := by rw [h2 1113 (by omega)]; exact ia
      have eic : f' 1113 (i + 1) = (c : Int) := by rw [h2 1113 (by omega)]; exact ic
      have ema : f' 1112 a = m a := by rw [h2 1112 (by omega)]; exact a2
      have emc : f' 1112 c = m c := by rw [h2 1112 (by omega)]; exact b2
      have eba : f' 1111 a = (b a : Int) := by rw [h2 1111 (by omega)]; exact a5
      have es10 : f' s 10 = (c1 : Int) := by rw [h2 s (by omega)]; exact hc1
      have es9 : f' s 9 = t1 := by rw [h2 s (by omega)]; exact hT1
      have et9 : f' t 9 = t2 := by rw [h2 t (by omega)]; exact hT2
      have e91 := fun Q => c91 (L := L) (M := zwI M f') (Q := Q) (s := s) (v := set) hs (by omega) (by rw [zwI_I, es10]; exact ws1)
      rw [zwI_I, es10, Int.toNat_natCast] at e91
      have e92a := fun Q => c92 (L := L) (M := zwI M f') (Q := Q) (s := s) (v := set % 2 ^ c1) hs m1 (by rw [zwI_I, es9]; exact ws2)
      have e92b := fun Q => c92 (L := L) (M := zwI M f') (Q := Q) (s := t) (v := set / 2 ^ c1) ht m2 (by rw [zwI_I, et9]; exact wt2)
      rw [zwI_I, es9] at e92a
      rw [zwI_I, et9] at e92b
      have hpart : 0 ≤ (h : Int) * (m c - m a) ∧ (h : Int) * (m c - m a) ≤ 3600 * 14400 := ⟨Int.mul_nonneg (by omega) (by omega), Int.mul_le_mul (by omega) (by omega) (by omega) (by omega)⟩
      have hrem : ∀ w : Nat, w < 4 → (h : Int) * zF m b (zgl (w : Int) t1 t2 c1) set (m a) (c :: r) = (if zgl (w : Int) t1 t2 c1 set = true then (h : Int) * (m c - m a) else 0) + (h : Int) * zF m b (zgl (w : Int) t1 t2 c1) (set ^^^ b c) (m c) r := fun w hw => by
        rw [zF_s, Int.mul_add]
        congr 1
        split
        · rfl
        · exact Int.mul_zero _
      generalize hP : (h : Int) * (m c - m a) = part at *
      have eIN : (i : Int) + 1 = ((i + 1 : Nat) : Int) := by omega
      -- the four laws
      have laws : ∀ (p q : Bool), zhsb t1 (set % 2 ^ c1) = p → zhsb t2 (set / 2 ^ c1) = q → ∀ j : Nat, j ≤ 4 → ∀ (f' : Nat → Nat → Int), (∀ w : Nat, w < 4 → 0 ≤ f' 1106 w) → (∀ w : Nat, w < j → f' 1106 w + (h : Int) * zF m b (zgl (w : Int) t1 t2 c1) (set ^^^ b c) (m c) r = f 1106 w + (h : Int) * zFV m b (zgl (w : Int) t1 t2 c1) k) → (∀ w : Nat, j ≤ w → w < 4 → f' 1106 w + ((if zgl (w : Int) t1 t2 c1 set = true then part else 0) + (h : Int) * zF m b (zgl (w : Int) t1 t2 c1) (set ^^^ b c) (m c) r) = f 1106 w + (h : Int) * zFV m b (zgl (w : Int) t1 t2 c1) k) → (∀ a, a ≠ 1106 → f' a = f a) → zFR (zK L) 110 93 [some (.inr (.inr 1105)), some (.inl (h : Int)), some (.inr (.inr s)), some (.inr (.inr t)), some (.inl (set : Int)), some (.inl (i : Int)), some (.inl part), some (.inl (if p = true then 1 else 0)), some (.inl (if q = true then 1 else 0)), some (.inl (j : Int))] [] (zwI M f') Q9 := by
        intro p q hp hq
        refine zloop ?_ ?_
        · intro f' n0 n1 n2 n3
          have o9 := ih c (i + 1) set f' (some (.inl part)) (some (.inl (if p = true then 1 else 0))) (some (.inl (if q = true then 1 else 0))) (some (.inl ((4 : Nat) : Int))) hd2 hx (fun w hw => ⟨n0 w hw, n1 w hw⟩) n3
          rw [← eIN] at o9
          refine zW_sound 60 [6] ?_
          simp only [ZR110, zW_succ, zE_iload, zE_aload, zE_lload, zE_iinc, zE_istore, zE_astore, zE_lstore, zE_iconst, zE_ldc2, zE_iadd, zE_isub, zE_imul, zE_idiv, zE_irem, zE_ineg, zE_iand, zE_ior, zE_ixor, zE_ishl, zE_ishr, zE_land, zE_lor, zE_lxor, zE_lshl, zE_lshr, zE_i2l, zE_lcmp, zE_dup_i, zE_dup_a, zE_dup2_ia, zE_pop_i, zE_pop_a, zE_pop2, zE_goto, zE_if_eq, zE_icmp_eq, zE_if_ne, zE_icmp_ne, zE_if_lt, zE_icmp_lt, zE_if_ge, zE_icmp_ge, zE_if_gt, zE_icmp_gt, zE_if_le, zE_icmp_le, zE_iaload, zE_baload, zE_laload, zE_aaload, zE_iastore, zE_bastore, zE_lastore, zE_aastore, zE_alen, zE_getf0, zE_getf1, zE_getf2, zE_getf3, zE_putf0, zE_putf1, zE_putf2, zE_putf3, zE_new, zE_newa, zE_newq, zE_ireturn, zE_lreturn, zE_areturn, zE_return, zE_athrow, zE_st0, zE_vi0, zE_st1, zE_vi1, zE_st2, zE_vi2, zE_st3, zE_vi3, zE_st4, zE_vi4, zE_st5, zE_vi5, zE_st6, zE_vi6, zE_st7, zE_vi7, zE_st8, zE_vi8, zSt_0, zSL_0, zSt_1n, zSt_1i, zSt_1a, zSt_1l, zSt_2n, zSt_2i, zSt_2a, zSt_2l, zSt_3n, zSt_3i, zSt_3a, zSt_3l, zSt_4n, zSt_4i, zSt_4a, zSt_4l, zSt_5n, zSt_5i, zSt_5a, zSt_5l, zSt_6n, zSt_6i, zSt_6a, zSt_6l, zSt_7n, zSt_7i, zSt_7a, zSt_7l, zSt_8n, zSt_8i, zSt_8a, zSt_8l, zSt_9n, zSt_9i, zSt_9a, zSt_9l, zSt_10n, zSt_10i, zSt_10a, zSt_10l, zSt_11n, zSt_11i, zSt_11a, zSt_11l, zSt_12n, zSt_12i, zSt_12a, zSt_12l, zSt_13n, zSt_13i, zSt_13a, zSt_13l, zSL_1n, zSL_1i, zSL_1a, zSL_1l, zSL_2n, zSL_2i, zSL_2a, zSL_2l, zSL_3n, zSL_3i, zSL_3a, zSL_3l, zSL_4n, zSL_4i, zSL_4a, zSL_4l, zSL_5n, zSL_5i, zSL_5a, zSL_5l, zSL_6n, zSL_6i, zSL_6a, zSL_6l, zSL_7n, zSL_7i, zSL_7a, zSL_7l, zSL_8n, zSL_8i, zSL_8a, zSL_8l, zSL_9n, zSL_9i, zSL_9a, zSL_9l, zSL_10n, zSL_10i, zSL_10a, zSL_10l, zSL_11n, zSL_11i, zSL_11a, zSL_11l, zSL_12n, zSL_12i, zSL_12a, zSL_12l, zLI_0, zLL_0, zLA_0, zLI_1, zLL_1, zLA_1, zLI_2, zLL_2, zLA_2, zLI_3, zLL_3, zLA_3, zLI_4, zLL_4, zLA_4, zLI_5, zLL_5, zLA_5, zLI_6, zLL_6, zLA_6, zLI_7, zLL_7, zLA_7, zLI_8, zLL_8, zLA_8, zLI_9, zLL_9, zLA_9, zLI_10, zLL_10, zLA_10, zLI_11, zLL_11, zLA_11, zLI_12, zLL_12, zLA_12, zLI_13, zLL_13, zLA_13, zst_0, zst_1n, zst_1i, zst_1a, zst_2n, zst_2i, zst_2a, zst_3n, zst_3i, zst_3a, zst_4n, zst_4i, zst_4a, zst_5n, zst_5i, zst_5a, zst_6n, zst_6i, zst_6a, zst_7n, zst_7i, zst_7a, zst_8n, zst_8i, zst_8a, zst_9n, zst_9i, zst_9a, zst_10n, zst_10i, zst_10a, zst_11n, zst_11i, zst_11a, zst_12n, zst_12i, zst_12a, zst_13n, zst_13i, zst_13a, zst_14n, zst_14i, zst_14a, zst_15n, zst_15i, zst_15a, zR1_n, zR1_v, zsum_n, zsum_i, zsum_l, zsum_a, zlen_n, zlen_i, zlen_l, zlen_a, List.not_mem_nil, List.mem_cons, or_false, false_or, or_self, ↓reduceIte, if_false, if_true, Nat.reduceEqDiff, Nat.reduceAdd, Nat.reduceLeDiff, true_and, and_true, reduceCtorEq, ne_eq, Int.toNat_natCast, not_true_eq_false, not_false_eq_true, true_implies, false_implies, implies_true, Int.reduceToNat, Int.toNat_zero, Int.reduceLT, Int.reduceLE, Int.reduceEq, Int.reduceAdd, Int.reduceMul, Int.reduceNeg]
          exact ⟨fun _ => ⟨by unfold zr32; omega, o9⟩, fun h => absurd (by omega) h⟩
        · intro j hj ihj f' n0 n1 n2 n3
          have e11 := fun Q => c111b (L := L) (M := zwI M f') (Q := Q) (w := (j : Int)) (u := if p = true then 1 else 0) (v := if q = true then 1 else 0) p q rfl rfl
          have hgl : zgl (j : Int) t1 t2 c1 set = zlawb (j : Int) p q := by unfold zgl; rw [hp, hq]
          have n2j := n2 j (Nat.le_refl j) hj
          rw [hgl] at n2j
          have hr := hrb j (set ^^^ b c)
          have hr2 : 0 ≤ (h : Int) * zF m b (zgl (j : Int) t1 t2 c1) (set ^^^ b c) (m c) r := Int.mul_nonneg (by omega) hr
          have hfb := hFb j hj
          have n0j := n0 j hj
          have next : ∀ f' : Nat → Nat → Int, (∀ w : Nat, w < 4 → 0 ≤ f' 1106 w) → (∀ w : Nat, w < j + 1 → f' 1106 w + (h : Int) * zF m b (zgl (w : Int) t1 t2 c1) (set ^^^ b c) (m c) r = f 1106 w + (h : Int) * zFV m b (zgl (w : Int) t1 t2 c1) k) → (∀ w : Nat, j + 1 ≤ w → w < 4 → f' 1106 w + ((if zgl (w : Int) t1 t2 c1 set = true then part else 0) + (h : Int) * zF m b (zgl (w : Int) t1 t2 c1) (set ^^^ b c) (m c) r) = f 1106 w + (h : Int) * zFV m b (zgl (w : Int) t1 t2 c1) k) → (∀ a, a ≠ 1106 → f' a = f a) → zFR (zK L) 110 123 [some (.inr (.inr 1105)), some (.inl (h : Int)), some (.inr (.inr s)), some (.inr (.inr t)), some (.inl (set : Int)), some (.inl (i : Int)), some (.inl part), some (.inl (if p = true then 1 else 0)), some (.inl (if q = true then 1 else 0)), some (.inl (j : Int))] [] (zwI M f') Q9 := by
            intro f' a1 a2 a3 a4
            have o9 := ihj f' a1 a2 a3 a4
            rw [show ((j + 1 : Nat) : Int) = (j : Int) + 1 by omega] at o9
            refine zW_sound 60 [93] ?_
            simp only [ZR110, zW_succ, zE_iload, zE_aload, zE_lload, zE_iinc, zE_istore, zE_astore, zE_lstore, zE_iconst, zE_ldc2, zE_iadd, zE_isub, zE_imul, zE_idiv, zE_irem, zE_ineg, zE_iand, zE_ior, zE_ixor, zE_ishl, zE_ishr, zE_land, zE_lor, zE_lxor, zE_lshl, zE_lshr, zE_i2l, zE_lcmp, zE_dup_i, zE_dup_a, zE_dup2_ia, zE_pop_i, zE_pop_a, zE_pop2, zE_goto, zE_if_eq, zE_icmp_eq, zE_if_ne, zE_icmp_ne, zE_if_lt, zE_icmp_lt, zE_if_ge, zE_icmp_ge, zE_if_gt, zE_icmp_gt, zE_if_le, zE_icmp_le, zE_iaload, zE_baload, zE_laload, zE_aaload, zE_iastore, zE_bastore, zE_lastore, zE_aastore, zE_alen, zE_getf0, zE_getf1, zE_getf2, zE_getf3, zE_putf0, zE_putf1, zE_putf2, zE_putf3, zE_new, zE_newa, zE_newq, zE_ireturn, zE_lreturn, zE_areturn, zE_return, zE_athrow, zE_st0, zE_vi0, zE_st1, zE_vi1, zE_st2, zE_vi2, zE_st3, zE_vi3, zE_st4, zE_vi4, zE_st5, zE_vi5, zE_st6, zE_vi6, zE_st7, zE_vi7, zE_st8, zE_vi8, zSt_0, zSL_0, zSt_1n, zSt_1i, zSt_1a, zSt_1l, zSt_2n, zSt_2i, zSt_2a, zSt_2l, zSt_3n, zSt_3i, zSt_3a, zSt_3l, zSt_4n, zSt_4i, zSt_4a, zSt_4l, zSt_5n, zSt_5i, zSt_5a, zSt_5l, zSt_6n, zSt_6i, zSt_6a, zSt_6l, zSt_7n, zSt_7i, zSt_7a, zSt_7l, zSt_8n, zSt_8i, zSt_8a, zSt_8l, zSt_9n, zSt_9i, zSt_9a, zSt_9l, zSt_10n, zSt_10i, zSt_10a, zSt_10l, zSt_11n, zSt_11i, zSt_11a, zSt_11l, zSt_12n, zSt_12i, zSt_12a, zSt_12l, zSt_13n, zSt_13i, zSt_13a, zSt_13l, zSL_1n, zSL_1i, zSL_1a, zSL_1l, zSL_2n, zSL_2i, zSL_2a, zSL_2l, zSL_3n, zSL_3i, zSL_3a, zSL_3l, zSL_4n, zSL_4i, zSL_4a, zSL_4l, zSL_5n, zSL_5i, zSL_5a, zSL_5l, zSL_6n, zSL_6i, zSL_6a, zSL_6l, zSL_7n, zSL_7i, zSL_7a, zSL_7l, zSL_8n, zSL_8i, zSL_8a, zSL_8l, zSL_9n, zSL_9i, zSL_9a, zSL_9l, zSL_10n, zSL_10i, zSL_10a, zSL_10l, zSL_11n, zSL_11i, zSL_11a, zSL_11l, zSL_12n, zSL_12i, zSL_12a, zSL_12l, zLI_0, zLL_0, zLA_0, zLI_1, zLL_1, zLA_1, zLI_2, zLL_2, zLA_2, zLI_3, zLL_3, zLA_3, zLI_4, zLL_4, zLA_4, zLI_5, zLL_5, zLA_5, zLI_6, zLL_6, zLA_6, zLI_7, zLL_7, zLA_7, zLI_8, zLL_8, zLA_8, zLI_9, zLL_9, zLA_9, zLI_10, zLL_10, zLA_10, zLI_11, zLL_11, zLA_11, zLI_12, zLL_12, zLA_12, zLI_13, zLL_13, zLA_13, zst_0, zst_1n, zst_1i, zst_1a, zst_2n, zst_2i, zst_2a, zst_3n, zst_3i, zst_3a, zst_4n, zst_4i, zst_4a, zst_5n, zst_5i, zst_5a, zst_6n, zst_6i, zst_6a, zst_7n, zst_7i, zst_7a, zst_8n, zst_8i, zst_8a, zst_9n, zst_9i, zst_9a, zst_10n, zst_10i, zst_10a, zst_11n, zst_11i, zst_11a, zst_12n, zst_12i, zst_12a, zst_13n, zst_13i, zst_13a, zst_14n, zst_14i, zst_14a, zst_15n, zst_15i, zst_15a, zR1_n, zR1_v, zsum_n, zsum_i, zsum_l, zsum_a, zlen_n, zlen_i, zlen_l, zlen_a, List.not_mem_nil, List.mem_cons, or_false, false_or, or_self, ↓reduceIte, if_false, if_true, Nat.reduceEqDiff, Nat.reduceAdd, Nat.reduceLeDiff, true_and, and_true, reduceCtorEq, ne_eq, Int.toNat_natCast, not_true_eq_false, not_false_eq_true, true_implies, false_implies, implies_true, Int.reduceToNat, Int.toNat_zero, Int.reduceLT, Int.reduceLE, Int.reduceEq, Int.reduceAdd, Int.reduceMul, Int.reduceNeg]
            exact ⟨by unfold zr32; omega, o9⟩
          have yes : zlawb (j : Int) p q = true → zr32 (f' 1106 j + part) ∧ zFR (zK L) 110 123 [some (.inr (.inr 1105)), some (.inl (h : Int)), some (.inr (.inr s)), some (.inr (.inr t)), some (.inl (set : Int)), some (.inl (i : Int)), some (.inl part), some (.inl (if p = true then 1 else 0)), some (.inl (if q = true then 1 else 0)), some (.inl (j : Int))] [] (zwI M (zu2 f' 1106 j (f' 1106 j + part))) Q9 := by
            intro hy
            rw [if_pos hy] at n2j
            refine ⟨by unfold zr32; omega, next _ (fun w hw => ?_) (fun w hw => ?_) (fun w hw hw4 => ?_) (fun a ha => ?_)⟩
            · rw [zu2_if]
              split
              · omega
              · exact n0 w hw
            · rw [zu2_if]
              by_cases h5 : w = j
              · subst h5
                rw [if_pos ⟨rfl, rfl⟩]
                omega
              · rw [if_neg (fun h => h5 h.2)]
                exact n1 w (by omega)
            · rw [zu2_i (by omega)]
              exact n2 w (by omega) hw4
            · rw [← n3 a ha]
              funext j'
              rw [zu2_a ha]
          have no : ¬ zlawb (j : Int) p q = true → zFR (zK L) 110 123 [some (.inr (.inr 1105)), some (.inl (h : Int)), some (.inr (.inr s)), some (.inr (.inr t)), some (.inl (set : Int)), some (.inl (i : Int)), some (.inl part), some (.inl (if p = true then 1 else 0)), some (.inl (if q = true then 1 else 0)), some (.inl (j : Int))] [] (zwI M f') Q9 := by
            intro hy
            rw [if_neg hy] at n2j
            refine next f' n0 (fun w hw => ?_) (fun w hw hw4 => n2 w (by omega) hw4) n3
            by_cases h5 : w = j
            · subst h5; omega
            · exact n1 w (by omega)
          refine zW_sound 60 [123] ?_
          simp only [ZR110, zk_1105, zk_1106, hF, zwI_I, zwI_2, zsI_wI, ZF111.1, ZF111.2.1, ZF111.2.2.1, e11, zW_succ, zE_iload, zE_aload, zE_lload, zE_iinc, zE_istore, zE_astore, zE_lstore, zE_iconst, zE_ldc2, zE_iadd, zE_isub, zE_imul, zE_idiv, zE_irem, zE_ineg, zE_iand, zE_ior, zE_ixor, zE_ishl, zE_ishr, zE_land, zE_lor, zE_lxor, zE_lshl, zE_lshr, zE_i2l, zE_lcmp, zE_dup_i, zE_dup_a, zE_dup2_ia, zE_pop_i, zE_pop_a, zE_pop2, zE_goto, zE_if_eq, zE_icmp_eq, zE_if_ne, zE_icmp_ne, zE_if_lt, zE_icmp_lt, zE_if_ge, zE_icmp_ge, zE_if_gt, zE_icmp_gt, zE_if_le, zE_icmp_le, zE_iaload, zE_baload, zE_laload, zE_aaload, zE_iastore, zE_bastore, zE_lastore, zE_aastore, zE_alen, zE_getf0, zE_getf1, zE_getf2, zE_getf3, zE_putf0, zE_putf1, zE_putf2, zE_putf3, zE_new, zE_newa, zE_newq, zE_ireturn, zE_lreturn, zE_areturn, zE_return, zE_athrow, zE_st0, zE_vi0, zE_st1, zE_vi1, zE_st2, zE_vi2, zE_st3, zE_vi3, zE_st4, zE_vi4, zE_st5, zE_vi5, zE_st6, zE_vi6, zE_st7, zE_vi7, zE_st8, zE_vi8, zSt_0, zSL_0, zSt_1n, zSt_1i, zSt_1a, zSt_1l, zSt_2n, zSt_2i, zSt_2a, zSt_2l, zSt_3n, zSt_3i, zSt_3a, zSt_3l, zSt_4n, zSt_4i, zSt_4a, zSt_4l, zSt_5n, zSt_5i, zSt_5a, zSt_5l, zSt_6n, zSt_6i, zSt_6a, zSt_6l, zSt_7n, zSt_7i, zSt_7a, zSt_7l, zSt_8n, zSt_8i, zSt_8a, zSt_8l, zSt_9n, zSt_9i, zSt_9a, zSt_9l, zSt_10n, zSt_10i, zSt_10a, zSt_10l, zSt_11n, zSt_11i, zSt_11a, zSt_11l, zSt_12n, zSt_12i, zSt_12a, zSt_12l, zSt_13n, zSt_13i, zSt_13a, zSt_13l, zSL_1n, zSL_1i, zSL_1a, zSL_1l, zSL_2n, zSL_2i, zSL_2a, zSL_2l, zSL_3n, zSL_3i, zSL_3a, zSL_3l, zSL_4n, zSL_4i, zSL_4a, zSL_4l, zSL_5n, zSL_5i, zSL_5a, zSL_5l, zSL_6n, zSL_6i, zSL_6a, zSL_6l, zSL_7n, zSL_7i, zSL_7a, zSL_7l, zSL_8n, zSL_8i, zSL_8a, zSL_8l, zSL_9n, zSL_9i, zSL_9a, zSL_9l, zSL_10n, zSL_10i, zSL_10a, zSL_10l, zSL_11n, zSL_11i, zSL_11a, zSL_11l, zSL_12n, zSL_12i, zSL_12a, zSL_12l, zLI_0, zLL_0, zLA_0, zLI_1, zLL_1, zLA_1, zLI_2, zLL_2, zLA_2, zLI_3, zLL_3, zLA_3, zLI_4, zLL_4, zLA_4, zLI_5, zLL_5, zLA_5, zLI_6, zLL_6, zLA_6, zLI_7, zLL_7, zLA_7, zLI_8, zLL_8, zLA_8, zLI_9, zLL_9, zLA_9, zLI_10, zLL_10, zLA_10, zLI_11, zLL_11, zLA_11, zLI_12, zLL_12, zLA_12, zLI_13, zLL_13, zLA_13, zst_0, zst_1n, zst_1i, zst_1a, zst_2n, zst_2i, zst_2a, zst_3n, zst_3i, zst_3a, zst_4n, zst_4i, zst_4a, zst_5n, zst_5i, zst_5a, zst_6n, zst_6i, zst_6a, zst_7n, zst_7i, zst_7a, zst_8n, zst_8i, zst_8a, zst_9n, zst_9i, zst_9a, zst_10n, zst_10i, zst_10a, zst_11n, zst_11i, zst_11a, zst_12n, zst_12i, zst_12a, zst_13n, zst_13i, zst_13a, zst_14n, zst_14i, zst_14a, zst_15n, zst_15i, zst_15a, zR1_n, zR1_v, zsum_n, zsum_i, zsum_l, zsum_a, zlen_n, zlen_i, zlen_l, zlen_a, List.not_mem_nil, List.mem_cons, or_false, false_or, or_self, ↓reduceIte, if_false, if_true, Nat.reduceEqDiff, Nat.reduceAdd, Nat.reduceLeDiff, true_and, and_true, reduceCtorEq, ne_eq, Int.toNat_natCast, not_true_eq_false, not_false_eq_true, true_implies, false_implies, implies_true, Int.reduceToNat, Int.toNat_zero, Int.reduceLT, Int.reduceLE, Int.reduceEq, Int.reduceAdd, Int.reduceMul, Int.reduceNeg]
          refine ⟨fun h => absurd h (by omega), fun _ => ⟨fun hy => ?_, fun hy => no hy⟩⟩
          have y9 := yes hy
          exact ⟨by omega, y9.1, by omega, y9.2⟩
      have tail : ∀ (p q : Bool), zhsb t1 (set % 2 ^ c1) = p → zhsb t2 (set / 2 ^ c1) = q → ∀ y9, zFR (zK L) 110 90 [some (.inr (.inr 1105)), some (.inl (h : Int)), some (.inr (.inr s)), some (.inr (.inr t)), some (.inl (set : Int)), some (.inl (i : Int)), some (.inl part), some (.inl (if p = true then 1 else 0)), some (.inl (if q = true then 1 else 0)), y9] [] (zwI M f') Q9 := by
        intro p q hp hq y9
        have o9 := laws p q hp hq 0 (Nat.zero_le _) f' (fun w hw => (h1 w hw).1) (fun w hw => absurd hw (Nat.not_lt_zero w)) (fun w _ hw => by
          have h3 := (h1 w hw).2
          rw [hrem w hw] at h3
          exact h3) h2
        refine zW_sound 60 [93] ?_
        simp only [ZR110, zW_succ, zE_iload, zE_aload, zE_lload, zE_iinc, zE_istore, zE_astore, zE_lstore, zE_iconst, zE_ldc2, zE_iadd, zE_isub, zE_imul, zE_idiv, zE_irem, zE_ineg, zE_iand, zE_ior, zE_ixor, zE_ishl, zE_ishr, zE_land, zE_lor, zE_lxor, zE_lshl, zE_lshr, zE_i2l, zE_lcmp, zE_dup_i, zE_dup_a, zE_dup2_ia, zE_pop_i, zE_pop_a, zE_pop2, zE_goto, zE_if_eq, zE_icmp_eq, zE_if_ne, zE_icmp_ne, zE_if_lt, zE_icmp_lt, zE_if_ge, zE_icmp_ge, zE_if_gt, zE_icmp_gt, zE_if_le, zE_icmp_le, zE_iaload, zE_baload, zE_laload, zE_aaload, zE_iastore, zE_bastore, zE_lastore, zE_aastore, zE_alen, zE_getf0, zE_getf1, zE_getf2, zE_getf3, zE_putf0, zE_putf1, zE_putf2, zE_putf3, zE_new, zE_newa, zE_newq, zE_ireturn, zE_lreturn, zE_areturn, zE_return, zE_athrow, zE_st0, zE_vi0, zE_st1, zE_vi1, zE_st2, zE_vi2, zE_st3, zE_vi3, zE_st4, zE_vi4, zE_st5, zE_vi5, zE_st6, zE_vi6, zE_st7, zE_vi7, zE_st8, zE_vi8, zSt_0, zSL_0, zSt_1n, zSt_1i, zSt_1a, zSt_1l, zSt_2n, zSt_2i, zSt_2a, zSt_2l, zSt_3n, zSt_3i, zSt_3a, zSt_3l, zSt_4n, zSt_4i, zSt_4a, zSt_4l, zSt_5n, zSt_5i, zSt_5a, zSt_5l, zSt_6n, zSt_6i, zSt_6a, zSt_6l, zSt_7n, zSt_7i, zSt_7a, zSt_7l, zSt_8n, zSt_8i, zSt_8a, zSt_8l, zSt_9n, zSt_9i, zSt_9a, zSt_9l, zSt_10n, zSt_10i, zSt_10a, zSt_10l, zSt_11n, zSt_11i, zSt_11a, zSt_11l, zSt_12n, zSt_12i, zSt_12a, zSt_12l, zSt_13n, zSt_13i, zSt_13a, zSt_13l, zSL_1n, zSL_1i, zSL_1a, zSL_1l, zSL_2n, zSL_2i, zSL_2a, zSL_2l, zSL_3n, zSL_3i, zSL_3a, zSL_3l, zSL_4n, zSL_4i, zSL_4a, zSL_4l, zSL_5n, zSL_5i, zSL_5a, zSL_5l, zSL_6n, zSL_6i, zSL_6a, zSL_6l, zSL_7n, zSL_7i, zSL_7a, zSL_7l, zSL_8n, zSL_8i, zSL_8a, zSL_8l, zSL_9n, zSL_9i, zSL_9a, zSL_9l, zSL_10n, zSL_10i, zSL_10a, zSL_10l, zSL_11n, zSL_11i, zSL_11a, zSL_11l, zSL_12n, zSL_12i, zSL_12a, zSL_12l, zLI_0, zLL_0, zLA_0, zLI_1, zLL_1, zLA_1, zLI_2, zLL_2, zLA_2, zLI_3, zLL_3, zLA_3, zLI_4, zLL_4, zLA_4, zLI_5, zLL_5, zLA_5, zLI_6, zLL_6, zLA_6, zLI_7, zLL_7, zLA_7, zLI_8, zLL_8, zLA_8, zLI_9, zLL_9, zLA_9, zLI_10, zLL_10, zLA_10, zLI_11, zLL_11, zLA_11, zLI_12, zLL_12, zLA_12, zLI_13, zLL_13, zLA_13, zst_0, zst_1n, zst_1i, zst_1a, zst_2n, zst_2i, zst_2a, zst_3n, zst_3i, zst_3a, zst_4n, zst_4i, zst_4a, zst_5n, zst_5i, zst_5a, zst_6n, zst_6i, zst_6a, zst_7n, zst_7i, zst_7a, zst_8n, zst_8i, zst_8a, zst_9n, zst_9i, zst_9a, zst_10n, zst_10i, zst_10a, zst_11n, zst_11i, zst_11a, zst_12n, zst_12i, zst_12a, zst_13n, zst_13i, zst_13a, zst_14n, zst_14i, zst_14a, zst_15n, zst_15i, zst_15a, zR1_n, zR1_v, zsum_n, zsum_i, zsum_l, zsum_a, zlen_n, zlen_i, zlen_l, zlen_a, List.not_mem_nil, List.mem_cons, or_false, false_or, or_self, ↓reduceIte, if_false, if_true, Nat.reduceEqDiff, Nat.reduceAdd, Nat.reduceLeDiff, true_and, and_true, reduceCtorEq, ne_eq, Int.toNat_natCast, not_true_eq_false, not_false_eq_true, true_implies, false_implies, implies_true, Int.reduceToNat, Int.toNat_zero, Int.reduceLT, Int.reduceLE, Int.reduceEq, Int.reduceAdd, Int.reduceMul, Int.reduceNeg]
        exact o9
      have nf : ∀ {t : Int} {v : Nat}, ¬ zhs t v → zhsb t v = false := fun h => Bool.eq_false_iff.mpr (fun h2 => h (zhsb_iff.mp h2))
      have eT : ((i : Int) + 1).toNat = i + 1 := by omega
      refine zW_sound 60 [90, 135] ?_
      simp only [ZR110, zk_1105, zk_1111, zk_1112, zk_1113, k1, l1, hF, zwI_I, zwI_2, e9, eia, eT, eic, ema, emc, eba, exor, hP, es10, zshr_n (x := set) (k := c1) (by omega) (by omega), ZF91.1, ZF91.2.1, ZF91.2.2.1, e91, ZF92.1, ZF92.2.1, ZF92.2.2.1, e92a, e92b, zW_succ, zE_iload, zE_aload, zE_lload, zE_iinc, zE_istore, zE_astore, zE_lstore, zE_iconst, zE_ldc2, zE_iadd, zE_isub, zE_imul, zE_idiv, zE_irem, zE_ineg, zE_iand, zE_ior, zE_ixor, zE_ishl, zE_ishr, zE_land, zE_lor, zE_lxor, zE_lshl, zE_lshr, zE_i2l, zE_lcmp, zE_dup_i, zE_dup_a, zE_dup2_ia, zE_pop_i, zE_pop_a, zE_pop2, zE_goto, zE_if_eq, zE_icmp_eq, zE_if_ne, zE_icmp_ne, zE_if_lt, zE_icmp_lt, zE_if_ge, zE_icmp_ge, zE_if_gt, zE_icmp_gt, zE_if_le, zE_icmp_le, zE_iaload, zE_baload, zE_laload, zE_aaload, zE_iastore, zE_bastore, zE_lastore, zE_aastore, zE_alen, zE_getf0, zE_getf1, zE_getf2, zE_getf3, zE_putf0, zE_putf1, zE_putf2, zE_putf3, zE_new, zE_newa, zE_newq, zE_ireturn, zE_lreturn, zE_areturn, zE_return, zE_athrow, zE_st0, zE_vi0, zE_st1, zE_vi1, zE_st2, zE_vi2, zE_st3, zE_vi3, zE_st4, zE_vi4, zE_st5, zE_vi5, zE_st6, zE_vi6, zE_st7, zE_vi7, zE_st8, zE_vi8, zSt_0, zSL_0, zSt_1n, zSt_1i, zSt_1a, zSt_1l, zSt_2n, zSt_2i, zSt_2a, zSt_2l, zSt_3n, zSt_3i, zSt_3a, zSt_3l, zSt_4n, zSt_4i, zSt_4a, zSt_4l, zSt_5n, zSt_5i, zSt_5a, zSt_5l, zSt_6n, zSt_6i, zSt_6a, zSt_6l, zSt_7n, zSt_7i, zSt_7a, zSt_7l, zSt_8n, zSt_8i, zSt_8a, zSt_8l, zSt_9n, zSt_9i, zSt_9a, zSt_9l, zSt_10n, zSt_10i, zSt_10a, zSt_10l, zSt_11n, zSt_11i, zSt_11a, zSt_11l, zSt_12n, zSt_12i, zSt_12a, zSt_12l, zSt_13n, zSt_13i, zSt_13a, zSt_13l, zSL_1n, zSL_1i, zSL_1a, zSL_1l, zSL_2n, zSL_2i, zSL_2a, zSL_2l, zSL_3n, zSL_3i, zSL_3a, zSL_3l, zSL_4n, zSL_4i, zSL_4a, zSL_4l, zSL_5n, zSL_5i, zSL_5a, zSL_5l, zSL_6n, zSL_6i, zSL_6a, zSL_6l, zSL_7n, zSL_7i, zSL_7a, zSL_7l, zSL_8n, zSL_8i, zSL_8a, zSL_8l, zSL_9n, zSL_9i, zSL_9a, zSL_9l, zSL_10n, zSL_10i, zSL_10a, zSL_10l, zSL_11n, zSL_11i, zSL_11a, zSL_11l, zSL_12n, zSL_12i, zSL_12a, zSL_12l, zLI_0, zLL_0, zLA_0, zLI_1, zLL_1, zLA_1, zLI_2, zLL_2, zLA_2, zLI_3, zLL_3, zLA_3, zLI_4, zLL_4, zLA_4, zLI_5, zLL_5, zLA_5, zLI_6, zLL_6, zLA_6, zLI_7, zLL_7, zLA_7, zLI_8, zLL_8, zLA_8, zLI_9, zLL_9, zLA_9, zLI_10, zLL_10, zLA_10, zLI_11, zLL_11, zLA_11, zLI_12, zLL_12, zLA_12, zLI_13, zLL_13, zLA_13, zst_0, zst_1n, zst_1i, zst_1a, zst_2n, zst_2i, zst_2a, zst_3n, zst_3i, zst_3a, zst_4n, zst_4i, zst_4a, zst_5n, zst_5i, zst_5a, zst_6n, zst_6i, zst_6a, zst_7n, zst_7i, zst_7a, zst_8n, zst_8i, zst_8a, zst_9n, zst_9i, zst_9a, zst_10n, zst_10i, zst_10a, zst_11n, zst_11i, zst_11a, zst_12n, zst_12i, zst_12a, zst_13n, zst_13i, zst_13a, zst_14n, zst_14i, zst_14a, zst_15n, zst_15i, zst_15a, zR1_n, zR1_v, zsum_n, zsum_i, zsum_l, zsum_a, zlen_n, zlen_i, zlen_l, zlen_a, List.not_mem_nil, List.mem_cons, or_false, false_or, or_self, ↓reduceIte, if_false, if_true, Nat.reduceEqDiff, Nat.reduceAdd, Nat.reduceLeDiff, true_and, and_true, reduceCtorEq, ne_eq, Int.toNat_natCast, not_true_eq_false, not_false_eq_true, true_implies, false_implies, implies_true, Int.reduceToNat, Int.toNat_zero, Int.reduceLT, Int.reduceLE, Int.reduceEq, Int.reduceAdd, Int.reduceMul, Int.reduceNeg]
      refine ⟨by unfold zr32; omega, fun h => absurd h (by omega), fun _ => ?_⟩
      repeat (first | refine ⟨by omega, ?_⟩ | refine ⟨by unfold zr32; omega, ?_⟩)
      exact ⟨fun u1 => ⟨fun u2 => tail true true (zhsb_iff.mpr u1) (zhsb_iff.mpr u2) _, fun u2 => tail true false (zhsb_iff.mpr u1) (nf u2) _⟩, fun u1 => ⟨fun u2 => tail false true (nf u1) (zhsb_iff.mpr u2) _, fun u2 => tail false false (nf u1) (nf u2) _⟩⟩
  cases hkk : k with
  | nil =>
    have o9 := exit f 0 0 none none none none (fun w hw => by rw [hkk]; show f 1106 w = f 1106 w + (h : Int) * 0; omega) (fun a _ => rfl) (by rw [hkk]; exact Nat.zero_le _) (by omega)
    refine zW_sound 60 [6] ?_
    simp only [ZF110, ZR110, zW_succ, zE_iload, zE_aload, zE_lload, zE_iinc, zE_istore, zE_astore, zE_lstore, zE_iconst, zE_ldc2, zE_iadd, zE_isub, zE_imul, zE_idiv, zE_irem, zE_ineg, zE_iand, zE_ior, zE_ixor, zE_ishl, zE_ishr, zE_land, zE_lor, zE_lxor, zE_lshl, zE_lshr, zE_i2l, zE_lcmp, zE_dup_i, zE_dup_a, zE_dup2_ia, zE_pop_i, zE_pop_a, zE_pop2, zE_goto, zE_if_eq, zE_icmp_eq, zE_if_ne, zE_icmp_ne, zE_if_lt, zE_icmp_lt, zE_if_ge, zE_icmp_ge, zE_if_gt, zE_icmp_gt, zE_if_le, zE_icmp_le, zE_iaload, zE_baload, zE_laload, zE_aaload, zE_iastore, zE_bastore, zE_lastore, zE_aastore, zE_alen, zE_getf0, zE_getf1, zE_getf2, zE_getf3, zE_putf0, zE_putf1, zE_putf2, zE_putf3, zE_new, zE_newa, zE_newq, zE_ireturn, zE_lreturn, zE_areturn, zE_return, zE_athrow, zE_st0, zE_vi0, zE_st1, zE_vi1, zE_st2, zE_vi2, zE_st3, zE_vi3, zE_st4, zE_vi4, zE_st5, zE_vi5, zE_st6, zE_vi6, zE_st7, zE_vi7, zE_st8, zE_vi8, zSt_0, zSL_0, zSt_1n, zSt_1i, zSt_1a, zSt_1l, zSt_2n, zSt_2i, zSt_2a, zSt_2l, zSt_3n, zSt_3i, zSt_3a, zSt_3l, zSt_4n, zSt_4i, zSt_4a, zSt_4l, zSt_5n, zSt_5i, zSt_5a, zSt_5l, zSt_6n, zSt_6i, zSt_6a, zSt_6l, zSt_7n, zSt_7i, zSt_7a, zSt_7l, zSt_8n, zSt_8i, zSt_8a, zSt_8l, zSt_9n, zSt_9i, zSt_9a, zSt_9l, zSt_10n, zSt_10i, zSt_10a, zSt_10l, zSt_11n, zSt_11i, zSt_11a, zSt_11l, zSt_12n, zSt_12i, zSt_12a, zSt_12l, zSt_13n, zSt_13i, zSt_13a, zSt_13l, zSL_1n, zSL_1i, zSL_1a, zSL_1l, zSL_2n, zSL_2i, zSL_2a, zSL_2l, zSL_3n, zSL_3i, zSL_3a, zSL_3l, zSL_4n, zSL_4i, zSL_4a, zSL_4l, zSL_5n, zSL_5i, zSL_5a, zSL_5l, zSL_6n, zSL_6i, zSL_6a, zSL_6l, zSL_7n, zSL_7i, zSL_7a, zSL_7l, zSL_8n, zSL_8i, zSL_8a, zSL_8l, zSL_9n, zSL_9i, zSL_9a, zSL_9l, zSL_10n, zSL_10i, zSL_10a, zSL_10l, zSL_11n, zSL_11i, zSL_11a, zSL_11l, zSL_12n, zSL_12i, zSL_12a, zSL_12l, zLI_0, zLL_0, zLA_0, zLI_1, zLL_1, zLA_1, zLI_2, zLL_2, zLA_2, zLI_3, zLL_3, zLA_3, zLI_4, zLL_4, zLA_4, zLI_5, zLL_5, zLA_5, zLI_6, zLL_6, zLA_6, zLI_7, zLL_7, zLA_7, zLI_8, zLL_8, zLA_8, zLI_9, zLL_9, zLA_9, zLI_10, zLL_10, zLA_10, zLI_11, zLL_11, zLA_11, zLI_12, zLL_12, zLA_12, zLI_13, zLL_13, zLA_13, zst_0, zst_1n, zst_1i, zst_1a, zst_2n, zst_2i, zst_2a, zst_3n, zst_3i, zst_3a, zst_4n, zst_4i, zst_4a, zst_5n, zst_5i, zst_5a, zst_6n, zst_6i, zst_6a, zst_7n, zst_7i, zst_7a, zst_8n, zst_8i, zst_8a, zst_9n, zst_9i, zst_9a, zst_10n, zst_10i, zst_10a, zst_11n, zst_11i, zst_11a, zst_12n, zst_12i, zst_12a, zst_13n, zst_13i, zst_13a, zst_14n, zst_14i, zst_14a, zst_15n, zst_15i, zst_15a, zR1_n, zR1_v, zsum_n, zsum_i, zsum_l, zsum_a, zlen_n, zlen_i, zlen_l, zlen_a, List.not_mem_nil, List.mem_cons, or_false, false_or, or_self, ↓reduceIte, if_false, if_true, Nat.reduceEqDiff, Nat.reduceAdd, Nat.reduceLeDiff, true_and, and_true, reduceCtorEq, ne_eq, Int.toNat_natCast, not_true_eq_false, not_false_eq_true, true_implies, false_implies, implies_true, Int.reduceToNat, Int.toNat_zero, Int.reduceLT, Int.reduceLE, Int.reduceEq, Int.reduceAdd, Int.reduceMul, Int.reduceNeg]
    exact o9
  | cons a r =>
    have o9 := loop r a 0 0 f none none none none (by rw [hkk]; rfl) (Nat.two_pow_pos _) (fun w hw => ⟨(hS w hw).1, by rw [hkk]; rfl⟩) (fun a _ => rfl)
    refine zW_sound 60 [6] ?_
    simp only [ZF110, ZR110, zW_succ, zE_iload, zE_aload, zE_lload, zE_iinc, zE_istore, zE_astore, zE_lstore, zE_iconst, zE_ldc2, zE_iadd, zE_isub, zE_imul, zE_idiv, zE_irem, zE_ineg, zE_iand, zE_ior, zE_ixor, zE_ishl, zE_ishr, zE_land, zE_lor, zE_lxor, zE_lshl, zE_lshr, zE_i2l, zE_lcmp, zE_dup_i, zE_dup_a, zE_dup2_ia, zE_pop_i, zE_pop_a, zE_pop2, zE_goto, zE_if_eq, zE_icmp_eq, zE_if_ne, zE_icmp_ne, zE_if_lt, zE_icmp_lt, zE_if_ge, zE_icmp_ge, zE_if_gt, zE_icmp_gt, zE_if_le, zE_icmp_le, zE_iaload, zE_baload, zE_laload, zE_aaload, zE_iastore, zE_bastore, zE_lastore, zE_aastore, zE_alen, zE_getf0, zE_getf1, zE_getf2, zE_getf3, zE_putf0, zE_putf1, zE_putf2, zE_putf3, zE_new, zE_newa, zE_newq, zE_ireturn, zE_lreturn, zE_areturn, zE_return, zE_athrow, zE_st0, zE_vi0, zE_st1, zE_vi1, zE_st2, zE_vi2, zE_st3, zE_vi3, zE_st4, zE_vi4, zE_st5, zE_vi5, zE_st6, zE_vi6, zE_st7, zE_vi7, zE_st8, zE_vi8, zSt_0, zSL_0, zSt_1n, zSt_1i, zSt_1a, zSt_1l, zSt_2n, zSt_2i, zSt_2a, zSt_2l, zSt_3n, zSt_3i, zSt_3a, zSt_3l, zSt_4n, zSt_4i, zSt_4a, zSt_4l, zSt_5n, zSt_5i, zSt_5a, zSt_5l, zSt_6n, zSt_6i, zSt_6a, zSt_6l, zSt_7n, zSt_7i, zSt_7a, zSt_7l, zSt_8n, zSt_8i, zSt_8a, zSt_8l, zSt_9n, zSt_9i, zSt_9a, zSt_9l, zSt_10n, zSt_10i, zSt_10a, zSt_10l, zSt_11n, zSt_11i, zSt_11a, zSt_11l, zSt_12n, zSt_12i, zSt_12a, zSt_12l, zSt_13n, zSt_13i, zSt_13a, zSt_13l, zSL_1n, zSL_1i, zSL_1a, zSL_1l, zSL_2n, zSL_2i, zSL_2a, zSL_2l, zSL_3n, zSL_3i, zSL_3a, zSL_3l, zSL_4n, zSL_4i, zSL_4a, zSL_4l, zSL_5n, zSL_5i, zSL_5a, zSL_5l, zSL_6n, zSL_6i, zSL_6a, zSL_6l, zSL_7n, zSL_7i, zSL_7a, zSL_7l, zSL_8n, zSL_8i, zSL_8a, zSL_8l, zSL_9n, zSL_9i, zSL_9a, zSL_9l, zSL_10n, zSL_10i, zSL_10a, zSL_10l, zSL_11n, zSL_11i, zSL_11a, zSL_11l, zSL_12n, zSL_12i, zSL_12a, zSL_12l, zLI_0, zLL_0, zLA_0, zLI_1, zLL_1, zLA_1, zLI_2, zLL_2, zLA_2, zLI_3, zLL_3, zLA_3, zLI_4, zLL_4, zLA_4, zLI_5, zLL_5, zLA_5, zLI_6, zLL_6, zLA_6, zLI_7, zLL_7, zLA_7, zLI_8, zLL_8, zLA_8, zLI_9, zLL_9, zLA_9, zLI_10, zLL_10, zLA_10, zLI_11, zLL_11, zLA_11, zLI_12, zLL_12, zLA_12, zLI_13, zLL_13, zLA_13, zst_0, zst_1n, zst_1i, zst_1a, zst_2n, zst_2i, zst_2a, zst_3n, zst_3i, zst_3a, zst_4n, zst_4i, zst_4a, zst_5n, zst_5i, zst_5a, zst_6n, zst_6i, zst_6a, zst_7n, zst_7i, zst_7a, zst_8n, zst_8i, zst_8a, zst_9n, zst_9i, zst_9a, zst_10n, zst_10i, zst_10a, zst_11n, zst_11i, zst_11a, zst_12n, zst_12i, zst_12a, zst_13n, zst_13i, zst_13a, zst_14n, zst_14i, zst_14a, zst_15n, zst_15i, zst_15a, zR1_n, zR1_v, zsum_n, zsum_i, zsum_l, zsum_a, zlen_n, zlen_i, zlen_l, zlen_a, List.not_mem_nil, List.mem_cons, or_false, false_or, or_self, ↓reduceIte, if_false, if_true, Nat.reduceEqDiff, Nat.reduceAdd, Nat.reduceLeDiff, true_and, and_true, reduceCtorEq, ne_eq, Int.toNat_natCast, not_true_eq_false, not_false_eq_true, true_implies, false_implies, implies_true, Int.reduceToNat, Int.toNat_zero, Int.reduceLT, Int.reduceLE, Int.reduceEq, Int.reduceAdd, Int.reduceMul, Int.reduceNeg]
    exact o9
end ZASTRIP
end SG_9M_astrip
section SG_9N_measure
/-! the class: two shapes measured -/
section ZMEASURE
variable {L : Nat} {M : zM} {s t : Nat} {Q : zO → zM → Prop}
theorem zle2_x {n : Int} {X Y : Nat → Int} {e : Nat} (h : zcg ((zwd n X e).natAbs : Int) ((zwd n Y e).natAbs : Int)) (h0 : zwd n Y e ≠ 0) : zle2 n X Y e * zwd n Y e = 2 * zwd n X e := by
  unfold zle2
  rw [if_neg h0]
  unfold zcg at h
  generalize zwd n X e = w at *
  generalize zwd n Y e = h2 at *
  have key : ∃ k, 2 * w = k * h2 := by
    by_cases hw : w = 0
    · exact ⟨0, by omega⟩
    · rw [if_neg (by omega)] at h
      rcases h with h | h | h
      · by_cases hs : w = h2
        · exact ⟨2, by omega⟩
        · exact ⟨-2, by omega⟩
      · by_cases hs : w = 2 * h2
        · exact ⟨4, by omega⟩
        · exact ⟨-4, by omega⟩
      · by_cases hs : h2 = 2 * w
        · exact ⟨1, by omega⟩
        · exact ⟨-1, by omega⟩
  obtain ⟨k, hk⟩ := key
  rw [hk, Int.mul_tdiv_cancel _ h0]
theorem zeL_w {n : Int} {X Y : Nat → Int} {b i : Nat} (pg : zPg 0 n X Y) (hp : zpr n X Y 0) (hi : (i : Int) < n) (hb : b < 256) : ∀ d, d ∈ zeL n X Y b i → zEw d ∧ d.2.2.2.2 = b := by
  intro d hd
  unfold zeL at hd
  by_cases hy : Y i = Y (zaf n i)
  · rw [if_pos hy] at hd
    exact absurd hd (List.not_mem_nil)
  · rw [if_neg hy] at hd
    have hd := List.mem_singleton.mp hd
    subst hd
    have lb := zle2_b pg hi
    have h0 : zwd n Y i ≠ 0 := by unfold zwd; omega
    have hx := zle2_x (hp i (Nat.zero_le _) hi) h0
    have p1 := pg.2.2 i hi
    have p2 := pg.2.2 (zaf n i) (zaf_lt hi)
    have eW : zwd n X i = X (zaf n i) - X i := rfl
    have eH : zwd n Y i = Y (zaf n i) - Y i := rfl
    rw [eW, eH, Int.mul_sub, Int.mul_comm _ (Y i), Int.mul_comm _ (Y (zaf n i))] at hx
    refine ⟨?_, rfl⟩
    unfold zEw
    dsimp only
    generalize zle2 n X Y i = ln at *
    generalize Y (zaf n i) = Z at *
    generalize X (zaf n i) = W at *
    generalize X i = V at *
    generalize Y i = U at *
    by_cases hUZ : U ≤ Z
    · rw [Int.min_eq_left hUZ, Int.max_eq_right hUZ]
      refine ⟨by omega, lb, by omega, by omega, hb⟩
    · rw [Int.min_eq_right (by omega), Int.max_eq_left (by omega)]
      refine ⟨by omega, lb, by omega, by omega, hb⟩
theorem zeP_w {n : Int} {X Y : Nat → Int} {b : Nat} (pg : zPg 0 n X Y) (hp : zpr n X Y 0) (hb : b < 256) : ∀ i : Nat, (i : Int) ≤ n → ∀ d, d ∈ zeP n X Y b i → zEw d ∧ d.2.2.2.2 = b
  | 0, _, d, hd => absurd hd (List.not_mem_nil)
  | i + 1, hi, d, hd => by
    have hd : d ∈ zeP n X Y b i ++ zeL n X Y b i := hd
    rcases List.mem_append.mp hd with h | h
    · exact zeP_w pg hp hb i (by omega) d h
    · exact zeL_w pg hp (by omega) hb d h
/-- a shape whose polygons are well -/
def zSP (n : Nat → Int) (X Y : Nat → Nat → Int) (c : Nat) : Prop := ∀ p : Nat, p < c → zPg 0 (n p) (X p) (Y p) ∧ zpr (n p) (X p) (Y p) 0
theorem zeS_w {n : Nat → Int} {X Y : Nat → Nat → Int} {fb : Nat} : ∀ k : Nat, fb + k ≤ 8 → zSP n X Y k → ∀ d, d ∈ zeS n X Y fb k → zEw d ∧ d.2.2.2.2 < 2 ^ (fb + k)
  | 0, _, _, d, hd => absurd hd (List.not_mem_nil)
  | k + 1, hk, hp, d, hd => by
    have hd : d ∈ zeS n X Y fb k ++ zeP (n k) (X k) (Y k) (2 ^ (fb + k)) (n k).toNat := hd
    have hpow : 2 ^ (fb + k) < 2 ^ (fb + (k + 1)) := Nat.pow_lt_pow_right (by omega) (by omega)
    rcases List.mem_append.mp hd with h | h
    · have h1 := zeS_w k (by omega) (fun p h => hp p (by omega)) d h
      exact ⟨h1.1, by omega⟩
    · have hb : 2 ^ (fb + k) < 256 := Nat.lt_of_lt_of_le hpow (Nat.pow_le_pow_right (n := 2) (by omega) (show fb + (k + 1) ≤ 8 by omega))
      have h1 := zeP_w (b := 2 ^ (fb + k)) (hp k (by omega)).1 (hp k (by omega)).2 hb (n k).toNat (by have := (hp k (by omega)).1.1; omega) d h
      exact ⟨h1.1, by rw [h1.2]; exact hpow⟩
theorem zegd_m {l : List zEd} {e : Nat} (h : e < l.length) : zegd l e ∈ l := by
  unfold zegd
  rw [List.getD_eq_getElem?_getD, List.getElem?_eq_getElem h]
  exact List.getElem_mem h
theorem zmd2_a {d : zEd} (hd : zEw d) {u v : Int} (hu : 60 * d.1 ≤ u) (hv : v ≤ 60 * d.2.1) (huv : u ≤ v) : 0 ≤ 120 * d.2.2.2.1 + (u + v) * d.2.2.1 ∧ 120 * d.2.2.2.1 + (u + v) * d.2.2.1 ≤ 14400 := by
  obtain ⟨h1, h2, h3, h4, h5⟩ := hd
  obtain ⟨lo, hi, ln, bs, bt⟩ := d
  dsimp only at *
  by_cases hl : 0 ≤ ln
  · have a1 : (120 * lo) * ln ≤ (u + v) * ln := Int.mul_le_mul_of_nonneg_right (by omega) hl
    have a2 : (u + v) * ln ≤ (120 * hi) * ln := Int.mul_le_mul_of_nonneg_right (by omega) hl
    rw [Int.mul_assoc] at a1 a2
    omega
  · have a1 : (u + v) * ln ≤ (120 * lo) * ln := Int.mul_le_mul_of_nonpos_right (by omega) (by omega)
    have a2 : (120 * hi) * ln ≤ (u + v) * ln := Int.mul_le_mul_of_nonpos_right (by omega) (by omega)
    rw [Int.mul_assoc] at a1 a2
    omega
theorem zSV_b {l : List zEd} (hA : zEA l) (g : Nat → Bool) {u v : Int} (huv : u ≤ v) : 0 ≤ zSV l g u v ∧ zSV l g u v ≤ 14400 := by
  unfold zSV
  refine zFV_b (by omega) (zsrt_s _ _) (fun x hx => ?_)
  have h1 := (zsrt_p _ _).mem_iff.mp hx
  have h2 := List.mem_filter.mp h1
  have h3 := of_decide_eq_true h2.2
  exact zmd2_a (hA x (List.mem_range.mp h2.1)) h3.1 h3.2 huv
theorem zTot_s (l : List zEd) (g : Nat → Bool) (y : Nat) : zTot l g (y + 1) = if zcub l y = true then ((y : Int), if (zTot l g y).1 < 0 then (zTot l g y).2 else (zTot l g y).2 + zSV l g (zTot l g y).1 (y : Int) * ((y : Int) - (zTot l g y).1)) else zTot l g y := rfl
theorem zTot_1 (l : List zEd) (g g' : Nat → Bool) : ∀ y, (zTot l g y).1 = (zTot l g' y).1
  | 0 => rfl
  | y + 1 => by
    rw [zTot_s, zTot_s]
    split
    · rfl
    · exact zTot_1 l g g' y
theorem zTot_c (l : List zEd) (g : Nat → Bool) : ∀ y, ((zTot l g y).1 = -1 ∧ (zTot l g y).2 = 0 ∧ ∀ j : Nat, j < y → ¬ zCut l (j : Int)) ∨ ∃ u : Nat, (zTot l g y).1 = (u : Int) ∧ u < y ∧ zCut l (u : Int) ∧ ∀ j : Nat, u < j → j < y → ¬ zCut l (j : Int)
  | 0 => Or.inl ⟨rfl, rfl, fun j hj => absurd hj (Nat.not_lt_zero j)⟩
  | y + 1 => by
    have ih := zTot_c l g y
    rw [zTot_s]
    by_cases hc : zcub l y = true
    · rw [if_pos hc]
      exact Or.inr ⟨y, rfl, by omega, zcub_i.mp hc, fun j h1 h2 => by omega⟩
    · rw [if_neg hc]
      rcases ih with ⟨h1, h2, h3⟩ | ⟨u, h1, h2, h3, h4⟩
      · refine Or.inl ⟨h1, h2, fun j hj => ?_⟩
        by_cases e : j = y
        · subst e; exact fun h => hc (zcub_i.mpr h)
        · exact h3 j (by omega)
      · refine Or.inr ⟨u, h1, by omega, h3, fun j a1 a2 => ?_⟩
        by_cases e : j = y
        · subst e; exact fun h => hc (zcub_i.mpr h)
        · exact h4 j a1 (by omega)
theorem zTot_e {l : List zEd} {g : Nat → Bool} {y : Nat} : ∀ z, y ≤ z → (∀ j : Nat, y ≤ j → j < z → ¬ zCut l (j : Int)) → zTot l g z = zTot l g y
  | 0, h, _ => by rw [show y = 0 by omega]
  | z + 1, h, hc => by
    by_cases e : y = z + 1
    · rw [e]
    · rw [zTot_s, if_neg (fun h2 => hc z (by omega) (by omega) (zcub_i.mp h2))]
      exact zTot_e z (by omega) (fun j a1 a2 => hc j a1 (by omega))
theorem zTot_b {l : List zEd} (hA : zEA l) (g : Nat → Bool) : ∀ y : Nat, 0 ≤ (zTot l g y).2 ∧ (zTot l g y).2 ≤ 14400 * (if (zTot l g y).1 < 0 then 0 else (zTot l g y).1)
  | 0 => ⟨Int.le_refl _, Int.le_refl _⟩
  | y + 1 => by
    have ih := zTot_b hA g y
    rw [zTot_s]
    by_cases hc : zcub l y = true
    · rw [if_pos hc]
      dsimp only
      rw [if_neg (show ¬ ((y : Int) < 0) by omega)]
      rcases zTot_c l g y with ⟨h1, h2, h3⟩ | ⟨u, h1, h2, h3, h4⟩
      · rw [if_pos (by omega)]
        rw [h2]
        omega
      · rw [if_neg (by omega)] at ih ⊢
        have hb := zSV_b hA g (u := (zTot l g y).1) (v := (y : Int)) (by omega)
        have m1 : 0 ≤ zSV l g (zTot l g y).1 (y : Int) * ((y : Int) - (zTot l g y).1) := Int.mul_nonneg hb.1 (by omega)
        have m2 : zSV l g (zTot l g y).1 (y : Int) * ((y : Int) - (zTot l g y).1) ≤ 14400 * ((y : Int) - (zTot l g y).1) := Int.mul_le_mul_of_nonneg_right hb.2 (by omega)
        omega
    · rw [if_neg hc]
      exact ih
theorem zCut_b {l : List zEd} {y a b : Int} (h : zCut l y) (hb : ∀ e, e < l.length → a ≤ 60 * (zegd l e).1 ∧ 60 * (zegd l e).2.1 ≤ b) (hA : zEA l) : a ≤ y ∧ y ≤ b := by
  rcases h with ⟨e, he, hy⟩ | ⟨e, c, hc, he, h1, h2, h3, h4⟩
  · have := hb e he
    have := (hA e he).1
    omega
  · have := hb e he
    have := hb c (by omega)
    have := (hA e he).1
    omega
theorem zact_f {l : List zEd} {u v : Int} (huv : u < v) (hu : zCut l u) (hn : ∀ j : Nat, u < (j : Int) → (j : Int) < v → ¬ zCut l (j : Int)) (hA : zEA l) : (List.range l.length).filter (fun e => decide (60 * (zegd l e).1 ≤ u ∧ u < 60 * (zegd l e).2.1)) = zAct l u v ∧ (List.range l.length).filter (fun e => decide (60 * (zegd l e).1 ≤ u ∧ u < 60 * (zegd l e).2.1)) = (List.range l.length).filter (fun e => decide (60 * (zegd l e).1 < v ∧ v ≤ 60 * (zegd l e).2.1)) := by
  have key : ∀ x, x ∈ List.range l.length → (60 * (zegd l x).1 < v → 60 * (zegd l x).1 ≤ u) ∧ (u < 60 * (zegd l x).2.1 → v ≤ 60 * (zegd l x).2.1) := fun x hx => by
    have hx := List.mem_range.mp hx
    have hw := (hA x hx).1
    refine ⟨fun h => ?_, fun h => ?_⟩
    · by_cases h2 : 60 * (zegd l x).1 ≤ u
      · exact h2
      · exact absurd (Or.inl ⟨x, hx, Or.inl (by omega)⟩) (hn (60 * (zegd l x).1).toNat (by omega) (by omega))
    · by_cases h2 : v ≤ 60 * (zegd l x).2.1
      · exact h2
      · exact absurd (Or.inl ⟨x, hx, Or.inr (by omega)⟩) (hn (60 * (zegd l x).2.1).toNat (by omega) (by omega))
  refine ⟨List.filter_congr (fun x hx => ?_), List.filter_congr (fun x hx => ?_)⟩
  · have := key x hx
    rw [decide_eq_decide]
    omega
  · have := key x hx
    rw [decide_eq_decide]
    omega
def zE2 (f : Nat → Nat → Int) (s t c1 c2 : Nat) : List zEd := zeS (zN f s) (zX f s) (zY f s) 0 c1 ++ zeS (zN f t) (zX f t) (zY f t) c1 c2
theorem zEA_2 {n n' : Nat → Int} {X Y X' Y' : Nat → Nat → Int} {c1 c2 : Nat} (h1 : c1 ≤ 4) (h2 : c2 ≤ 4) (p1 : zSP n X Y c1) (p2 : zSP n' X' Y' c2) : zEA (zeS n X Y 0 c1 ++ zeS n' X' Y' c1 c2) ∧ (∀ e, e < (zeS n X Y 0 c1 ++ zeS n' X' Y' c1 c2).length → zebi (zeS n X Y 0 c1 ++ zeS n' X' Y' c1 c2) e < 2 ^ (c1 + c2)) ∧ (zeS n X Y 0 c1 ++ zeS n' X' Y' c1 c2).length ≤ 64 := by
  have key : ∀ d, d ∈ zeS n X Y 0 c1 ++ zeS n' X' Y' c1 c2 → zEw d ∧ d.2.2.2.2 < 2 ^ (c1 + c2) := fun d hd => by
    rcases List.mem_append.mp hd with h | h
    · have h3 := zeS_w c1 (by omega) p1 d h
      have h4 : 2 ^ (0 + c1) ≤ 2 ^ (c1 + c2) := Nat.pow_le_pow_right (by omega) (by omega)
      exact ⟨h3.1, by omega⟩
    · exact zeS_w c2 (by omega) p2 d h
  refine ⟨fun e he => (key _ (zegd_m he)).1, fun e he => (key _ (zegd_m he)).2, ?_⟩
  have z1 := zeS_n (n := n) (X := X) (Y := Y) (fb := 0) c1 (fun p hp => (p1 p hp).1.2.1)
  have z2 := zeS_n (n := n') (X := X') (Y := Y') (fb := c1) c2 (fun p hp => (p2 p hp).1.2.1)
  rw [List.length_append]
  omega
end ZMEASURE
end SG_9N_measure
section SG_9O_measure2
/-! the class: measure -/
section ZMEASURE2
variable {L : Nat} {M : zM} {s t : Nat} {Q : zO → zM → Prop}
theorem c105 {c1 c2 : Nat} {f : Nat → Nat → Int} (hR : zLay M.2.2.2) (hs : zShA s) (ht : zShA t) (ws : zSw f s) (wt : zSw f t) (hc1 : f s 10 = (c1 : Int)) (hc2 : f t 10 = (c2 : Int)) (p1 : zSP (zN f s) (zX f s) (zY f s) c1) (p2 : zSP (zN f t) (zX f t) (zY f t) c2) (hz : ∀ y, f 1114 y = 0) : zFR (zK L) 105 0 (zcall 105 [.inr (.inr 1105), .inr (.inr s), .inr (.inr t)]) [] (zwI M f) (fun r M2 => ∃ f', r = .inl none ∧ M2 = zwI M f' ∧ (∀ w : Nat, w < 4 → f' 1106 w = (zTot (zE2 f s t c1 c2) (zgl (w : Int) (f s 9) (f t 9) c1) 3601).2) ∧ (∀ y, f' 1114 y = 0) ∧ zsw f f') := by
  have hF := hR.1
  unfold zLayF at hF
  obtain ⟨k1, k2⟩ := zK_sh (L := L) hs
  obtain ⟨l1, l2⟩ := zK_sh (L := L) ht
  have ssw := zShA_sw hs
  have tsw := zShA_sw ht
  have hc14 : c1 ≤ 4 := by have := ws.1; omega
  have hc24 : c2 ≤ 4 := by have := wt.1; omega
  have hE2 : zE2 f s t c1 c2 = zeS (zN f s) (zX f s) (zY f s) 0 c1 ++ zeS (zN f t) (zX f t) (zY f t) c1 c2 := rfl
  obtain ⟨hA, hbit, hlen⟩ := zEA_2 (n := zN f s) (X := zX f s) (Y := zY f s) (n' := zN f t) (X' := zX f t) (Y' := zY f t) hc14 hc24 p1 p2
  rw [← hE2] at hA hbit hlen
  have z1 := zeS_n (n := zN f s) (X := zX f s) (Y := zY f s) (fb := 0) c1 (fun p hp => (p1 p hp).1.2.1)
  -- loading
  have hl0 : zELd (zu2 (zu2 (zu2 f 1105 1 0) 1105 10 3600) 1105 11 0) [] := by
    refine ⟨⟨?_, fun e he => absurd he (Nat.not_lt_zero e)⟩, fun y => ?_, ?_, ?_, fun e he => absurd he (Nat.not_lt_zero e)⟩
    · rw [zu2_i (by omega), zu2_i (by omega), zu2_eq]; rfl
    · rw [zu2_a (by omega), zu2_a (by omega), zu2_a (by omega), hz y]
      exact ⟨Or.inl rfl, fun h => absurd h (by omega), fun ⟨e, he, _⟩ => absurd he (Nat.not_lt_zero e)⟩
    · rw [zu2_i (by omega), zu2_eq]; omega
    · rw [zu2_eq]; omega
  have sw0 : zsw f (zu2 (zu2 (zu2 f 1105 1 0) 1105 10 3600) 1105 11 0) := fun a ha => by
    funext j
    rw [zu2_a (by omega), zu2_a (by omega), zu2_a (by omega)]
  generalize hf0 : zu2 (zu2 (zu2 f 1105 1 0) 1105 10 3600) 1105 11 0 = f0 at *
  have vN : ∀ g, zsw f g → ∀ q, zShA q → (zN g q = zN f q ∨ True) := fun g _ q _ => Or.inr trivial
  have view : ∀ g : Nat → Nat → Int, zsw f g → ∀ q : Nat, zShA q → (∀ c : Nat, c ≤ 4 → ∀ fb, zeS (zN g q) (zX g q) (zY g q) fb c = zeS (zN f q) (zX f q) (zY f q) fb c) := by
    intro g hg q hq c hc fb
    have : ∀ k, k ≤ 4 → zeS (zN g q) (zX g q) (zY g q) fb k = zeS (zN f q) (zX f q) (zY f q) fb k := by
      intro k
      induction k with
      | zero => intro _; rfl
      | succ k ih =>
        intro hk
        have pa : zPoA (q + 2 + 3 * k) := zPoA_sh hq (by omega)
        have psw := zPoA_sw pa
        have e0 : zN g q k = zN f q k := by unfold zN; rw [hg _ (by omega)]
        have e1 : zX g q k = zX f q k := by unfold zX; rw [hg _ (by omega)]
        have e2 : zY g q k = zY f q k := by unfold zY; rw [hg _ (by omega)]
        show zeS (zN g q) (zX g q) (zY g q) fb k ++ zeP (zN g q k) (zX g q k) (zY g q k) (2 ^ (fb + k)) (zN g q k).toNat = zeS (zN f q) (zX f q) (zY f q) fb k ++ zeP (zN f q k) (zX f q k) (zY f q k) (2 ^ (fb + k)) (zN f q k).toNat
        rw [ih (by omega), e0, e1, e2]
    exact this c hc
  have wview : ∀ g : Nat → Nat → Int, zsw f g → ∀ q : Nat, zShA q → zSw f q → zSw g q := by
    intro g hg q hq hw
    have qsw := zShA_sw hq
    obtain ⟨w1, w2, w3⟩ := hw
    unfold zSw
    rw [hg q (by omega)]
    refine ⟨w1, w2, fun p hp => ?_⟩
    have pa : zPoA (q + 2 + 3 * p) := zPoA_sh hq (by omega)
    have psw := zPoA_sw pa
    unfold zN zX zY
    rw [hg _ (by omega), hg _ (by omega), hg _ (by omega)]
    exact w3 p hp
  obtain ⟨r1, M1, ⟨f1, hr1, hM1, ld1, sw1⟩, e106a⟩ := zFRx (c106 (L := L) (M := M) (s := s) (fb := 0) (f := f0) (l := []) hs hR (wview f0 sw0 s hs ws) (by omega) (by show 0 + 32 ≤ 64; omega) hl0)
  subst hr1 hM1
  rw [show (((0 : Nat) : Int)) = 0 from rfl] at e106a
  have es0 : f0 s 10 = (c1 : Int) := by rw [sw0 s (by omega)]; exact hc1
  rw [es0, Int.toNat_natCast, view f0 sw0 s hs c1 hc14, List.nil_append] at ld1
  have sw1' : zsw f f1 := fun a ha => (sw1 a ha).trans (sw0 a ha)
  obtain ⟨r2, M2, ⟨f2, hr2, hM2, ld2, sw2⟩, e106b⟩ := zFRx (c106 (L := L) (M := M) (s := t) (fb := c1) (f := f1) ht hR (wview f1 sw1' t ht wt) hc14 (by omega) ld1)
  subst hr2 hM2
  have et1 : f1 t 10 = (c2 : Int) := by rw [sw1' t (by omega)]; exact hc2
  rw [et1, Int.toNat_natCast, view f1 sw1' t ht c2 hc24, ← hE2] at ld2
  have sw2' : zsw f f2 := fun a ha => (sw2 a ha).trans (sw1' a ha)
  generalize zE2 f s t c1 c2 = l at *
  obtain ⟨ce2, ck2, cl2⟩ := ld2
  obtain ⟨r3, M3, ⟨f3, hr3, hM3, ck3, sw3⟩, e108⟩ := zFRx (c108 (L := L) (M := M) (f := f2) (l := l) hR hlen hA ce2 ck2)
  subst hr3 hM3
  have e385 := fun Q => c385 (L := L) (M := zwI M f3) (Q := Q) (a := 1106) (n := 4) (v := 0) zk_1106 (by omega) (by omega)
  rw [zwI_I, zwI_w] at e385
  have hlow : ∀ j : Nat, zCut l (j : Int) → f2 1105 10 ≤ (j : Int) ∧ (j : Int) ≤ f2 1105 11 := fun j hj => zCut_b hj cl2.2.2 hA
  have clb := cl2.1
  have chb := cl2.2.1
  obtain ⟨lo, hlo⟩ : ∃ lo : Nat, f2 1105 10 = (lo : Int) := ⟨(f2 1105 10).toNat, by omega⟩
  obtain ⟨hi, hhi⟩ : ∃ hi : Nat, f2 1105 11 = (hi : Int) := ⟨(f2 1105 11).toNat, by omega⟩
  rw [hlo, hhi] at hlow
  generalize hQ : (fun r M2 => ∃ f', r = (Sum.inl none : zO) ∧ M2 = zwI M f' ∧ (∀ w : Nat, w < 4 → f' 1106 w = (zTot l (zgl (w : Int) (f s 9) (f t 9) c1) 3601).2) ∧ (∀ y, f' 1114 y = 0) ∧ zsw f f') = Q9
  -- what holds at y
  have loop : ∀ d y : Nat, 3601 - y = d → y ≤ 3601 → ∀ (f' : Nat → Nat → Int) (k : List Nat), zsw f f' → zCE f' l → f' 1105 11 = (hi : Int) → (∀ j : Nat, j < y → f' 1114 j = 0) → (∀ j : Nat, y ≤ j → (f' 1114 j = 0 ∨ f' 1114 j = 1) ∧ (f' 1114 j = 1 ↔ zCut l (j : Int))) → (∀ w : Nat, w < 4 → f' 1106 w = (zTot l (zgl (w : Int) (f s 9) (f t 9) c1) y).2) → f' 1105 9 = (k.length : Int) → zAL (f' 1113) k → ((zTot l (zgl 0 (f s 9) (f t 9) c1) y).1 = -1 → k = []) → (0 ≤ (zTot l (zgl 0 (f s 9) (f t 9) c1) y).1 → k.Perm ((List.range l.length).filter (fun e => decide (60 * (zegd l e).1 < (zTot l (zgl 0 (f s 9) (f t 9) c1) y).1 ∧ (zTot l (zgl 0 (f s 9) (f t 9) c1) y).1 ≤ 60 * (zegd l e).2.1)))) → zFR (zK L) 105 61 [some (.inr (.inr 1105)), some (.inr (.inr s)), some (.inr (.inr t)), some (.inl (zTot l (zgl 0 (f s 9) (f t 9) c1) y).1), some (.inl (y : Int))] [] (zwI M f') Q9 := by
    have exit : ∀ y : Nat, y ≤ 3601 → (hi < y ∨ y = 3601) → ∀ (f' : Nat → Nat → Int) y3, zsw f f' → f' 1105 11 = (hi : Int) → (∀ j : Nat, j < y → f' 1114 j = 0) → (∀ j : Nat, y ≤ j → (f' 1114 j = 0 ∨ f' 1114 j = 1) ∧ (f' 1114 j = 1 ↔ zCut l (j : Int))) → (∀ w : Nat, w < 4 → f' 1106 w = (zTot l (zgl (w : Int) (f s 9) (f t 9) c1) y).2) → zFR (zK L) 105 61 [some (.inr (.inr 1105)), some (.inr (.inr s)), some (.inr (.inr t)), y3, some (.inl (y : Int))] [] (zwI M f') Q9 := by
      intro y hy hx f' y3 h1 h3 h4 h5 h6
      have nocut : ∀ j : Nat, y ≤ j → ¬ zCut l (j : Int) := fun j hj hc => by
        have := hlow j hc
        omega
      have fin : Q9 (.inl none) (zwI M f') := by
        subst hQ
        refine ⟨f', rfl, rfl, fun w hw => ?_, fun j => ?_, h1⟩
        · rw [h6 w hw, zTot_e 3601 hy (fun j a1 _ => nocut j a1)]
        · by_cases hj : j < y
          · exact h4 j hj
          · rcases (h5 j (by omega)).1 with h | h
            · exact h
            · exact absurd ((h5 j (by omega)).2.mp h) (nocut j (by omega))
      refine zW_sound 60 [129] ?_
      simp only [ZR105, zk_1105, zk_1114, hF, zwI_I, zwI_2, h3, zW_succ, zE_iload, zE_aload, zE_lload, zE_iinc, zE_istore, zE_astore, zE_lstore, zE_iconst, zE_ldc2, zE_iadd, zE_isub, zE_imul, zE_idiv, zE_irem, zE_ineg, zE_iand, zE_ior, zE_ixor, zE_ishl, zE_ishr, zE_land, zE_lor, zE_lxor, zE_lshl, zE_lshr, zE_i2l, zE_lcmp, zE_dup_i, zE_dup_a, zE_dup2_ia, zE_pop_i, zE_pop_a, zE_pop2, zE_goto, zE_if_eq, zE_icmp_eq, zE_if_ne, zE_icmp_ne, zE_if_lt, zE_icmp_lt, zE_if_ge, zE_icmp_ge, zE_if_gt, zE_icmp_gt, zE_if_le, zE_icmp_le, zE_iaload, zE_baload, zE_laload, zE_aaload, zE_iastore, zE_bastore, zE_lastore, zE_aastore, zE_alen, zE_getf0, zE_getf1, zE_getf2, zE_getf3, zE_putf0, zE_putf1, zE_putf2, zE_putf3, zE_new, zE_newa, zE_newq, zE_ireturn, zE_lreturn, zE_areturn, zE_return, zE_athrow, zE_st0, zE_vi0, zE_st1, zE_vi1, zE_st2, zE_vi2, zE_st3, zE_vi3, zE_st4, zE_vi4, zE_st5, zE_vi5, zE_st6, zE_vi6, zE_st7, zE_vi7, zE_st8, zE_vi8, zSt_0, zSL_0, zSt_1n, zSt_1i, zSt_1a, zSt_1l, zSt_2n, zSt_2i, zSt_2a, zSt_2l, zSt_3n, zSt_3i, zSt_3a, zSt_3l, zSt_4n, zSt_4i, zSt_4a, zSt_4l, zSt_5n, zSt_5i, zSt_5a, zSt_5l, zSt_6n, zSt_6i, zSt_6a, zSt_6l, zSt_7n, zSt_7i, zSt_7a, zSt_7l, zSt_8n, zSt_8i, zSt_8a, zSt_8l, zSt_9n, zSt_9i, zSt_9a, zSt_9l, zSt_10n, zSt_10i, zSt_10a, zSt_10l, zSt_11n, zSt_11i, zSt_11a, zSt_11l, zSt_12n, zSt_12i, zSt_12a, zSt_12l, zSt_13n, zSt_13i, zSt_13a, zSt_13l, zSL_1n, zSL_1i, zSL_1a, zSL_1l, zSL_2n, zSL_2i, zSL_2a, zSL_2l, zSL_3n, zSL_3i, zSL_3a, zSL_3l, zSL_4n, zSL_4i, zSL_4a, zSL_4l, zSL_5n, zSL_5i, zSL_5a, zSL_5l, zSL_6n, zSL_6i, zSL_6a, zSL_6l, zSL_7n, zSL_7i, zSL_7a, zSL_7l, zSL_8n, zSL_8i, zSL_8a, zSL_8l, zSL_9n, zSL_9i, zSL_9a, zSL_9l, zSL_10n, zSL_10i, zSL_10a, zSL_10l, zSL_11n, zSL_11i, zSL_11a, zSL_11l, zSL_12n, zSL_12i, zSL_12a, zSL_12l, zLI_0, zLL_0, zLA_0, zLI_1, zLL_1, zLA_1, zLI_2, zLL_2, zLA_2, zLI_3, zLL_3, zLA_3, zLI_4, zLL_4, zLA_4, zLI_5, zLL_5, zLA_5, zLI_6, zLL_6, zLA_6, zLI_7, zLL_7, zLA_7, zLI_8, zLL_8, zLA_8, zLI_9, zLL_9, zLA_9, zLI_10, zLL_10, zLA_10, zLI_11, zLL_11, zLA_11, zLI_12, zLL_12, zLA_12, zLI_13, zLL_13, zLA_13, zst_0, zst_1n, zst_1i, zst_1a, zst_2n, zst_2i, zst_2a, zst_3n, zst_3i, zst_3a, zst_4n, zst_4i, zst_4a, zst_5n, zst_5i, zst_5a, zst_6n, zst_6i, zst_6a, zst_7n, zst_7i, zst_7a, zst_8n, zst_8i, zst_8a, zst_9n, zst_9i, zst_9a, zst_10n, zst_10i, zst_10a, zst_11n, zst_11i, zst_11a, zst_12n, zst_12i, zst_12a, zst_13n, zst_13i, zst_13a, zst_14n, zst_14i, zst_14a, zst_15n, zst_15i, zst_15a, zR1_n, zR1_v, zsum_n, zsum_i, zsum_l, zsum_a, zlen_n, zlen_i, zlen_l, zlen_a, List.not_mem_nil, List.mem_cons, or_false, false_or, or_self, ↓reduceIte, if_false, if_true, Nat.reduceEqDiff, Nat.reduceAdd, Nat.reduceLeDiff, true_and, and_true, reduceCtorEq, ne_eq, Int.toNat_natCast, not_true_eq_false, not_false_eq_true, true_implies, false_implies, implies_true, Int.reduceToNat, Int.toNat_zero, Int.reduceLT, Int.reduceLE, Int.reduceEq, Int.reduceAdd, Int.reduceMul, Int.reduceNeg]
      have f9 : zFR (zK L) 105 129 [some (.inr (.inr 1105)), some (.inr (.inr s)), some (.inr (.inr t)), y3, some (.inl (y : Int))] [] (zwI M f') Q9 := by
        refine zW_sound 60 [] ?_
        simp only [ZR105, zW_succ, zE_iload, zE_aload, zE_lload, zE_iinc, zE_istore, zE_astore, zE_lstore, zE_iconst, zE_ldc2, zE_iadd, zE_isub, zE_imul, zE_idiv, zE_irem, zE_ineg, zE_iand, zE_ior, zE_ixor, zE_ishl, zE_ishr, zE_land, zE_lor, zE_lxor, zE_lshl, zE_lshr, zE_i2l, zE_lcmp, zE_dup_i, zE_dup_a, zE_dup2_ia, zE_pop_i, zE_pop_a, zE_pop2, zE_goto, zE_if_eq, zE_icmp_eq, zE_if_ne, zE_icmp_ne, zE_if_lt, zE_icmp_lt, zE_if_ge, zE_icmp_ge, zE_if_gt, zE_icmp_gt, zE_if_le, zE_icmp_le, zE_iaload, zE_baload, zE_laload, zE_aaload, zE_iastore, zE_bastore, zE_lastore, zE_aastore, zE_alen, zE_getf0, zE_getf1, zE_getf2, zE_getf3, zE_putf0, zE_putf1, zE_putf2, zE_putf3, zE_new, zE_newa, zE_newq, zE_ireturn, zE_lreturn, zE_areturn, zE_return, zE_athrow, zE_st0, zE_vi0, zE_st1, zE_vi1, zE_st2, zE_vi2, zE_st3, zE_vi3, zE_st4, zE_vi4, zE_st5, zE_vi5, zE_st6, zE_vi6, zE_st7, zE_vi7, zE_st8, zE_vi8, zSt_0, zSL_0, zSt_1n, zSt_1i, zSt_1a, zSt_1l, zSt_2n, zSt_2i, zSt_2a, zSt_2l, zSt_3n, zSt_3i, zSt_3a, zSt_3l, zSt_4n, zSt_4i, zSt_4a, zSt_4l, zSt_5n, zSt_5i, zSt_5a, zSt_5l, zSt_6n, zSt_6i, zSt_6a, zSt_6l, zSt_7n, zSt_7i, zSt_7a, zSt_7l, zSt_8n, zSt_8i, zSt_8a, zSt_8l, zSt_9n, zSt_9i, zSt_9a, zSt_9l, zSt_10n, zSt_10i, zSt_10a, zSt_10l, zSt_11n, zSt_11i, zSt_11a, zSt_11l, zSt_12n, zSt_12i, zSt_12a, zSt_12l, zSt_13n, zSt_13i, zSt_13a, zSt_13l, zSL_1n, zSL_1i, zSL_1a, zSL_1l, zSL_2n, zSL_2i, zSL_2a, zSL_2l, zSL_3n, zSL_3i, zSL_3a, zSL_3l, zSL_4n, zSL_4i, zSL_4a, zSL_4l, zSL_5n, zSL_5i, zSL_5a, zSL_5l, zSL_6n, zSL_6i, zSL_6a, zSL_6l, zSL_7n, zSL_7i, zSL_7a, zSL_7l, zSL_8n, zSL_8i, zSL_8a, zSL_8l, zSL_9n, zSL_9i, zSL_9a, zSL_9l, zSL_10n, zSL_10i, zSL_10a, zSL_10l, zSL_11n, zSL_11i, zSL_11a, zSL_11l, zSL_12n, zSL_12i, zSL_12a, zSL_12l, zLI_0, zLL_0, zLA_0, zLI_1, zLL_1, zLA_1, zLI_2, zLL_2, zLA_2, zLI_3, zLL_3, zLA_3, zLI_4, zLL_4, zLA_4, zLI_5, zLL_5, zLA_5, zLI_6, zLL_6, zLA_6, zLI_7, zLL_7, zLA_7, zLI_8, zLL_8, zLA_8, zLI_9, zLL_9, zLA_9, zLI_10, zLL_10, zLA_10, zLI_11, zLL_11, zLA_11, zLI_12, zLL_12, zLA_12, zLI_13, zLL_13, zLA_13, zst_0, zst_1n, zst_1i, zst_1a, zst_2n, zst_2i, zst_2a, zst_3n, zst_3i, zst_3a, zst_4n, zst_4i, zst_4a, zst_5n, zst_5i, zst_5a, zst_6n, zst_6i, zst_6a, zst_7n, zst_7i, zst_7a, zst_8n, zst_8i, zst_8a, zst_9n, zst_9i, zst_9a, zst_10n, zst_10i, zst_10a, zst_11n, zst_11i, zst_11a, zst_12n, zst_12i, zst_12a, zst_13n, zst_13i, zst_13a, zst_14n, zst_14i, zst_14a, zst_15n, zst_15i, zst_15a, zR1_n, zR1_v, zsum_n, zsum_i, zsum_l, zsum_a, zlen_n, zlen_i, zlen_l, zlen_a, List.not_mem_nil, List.mem_cons, or_false, false_or, or_self, ↓reduceIte, if_false, if_true, Nat.reduceEqDiff, Nat.reduceAdd, Nat.reduceLeDiff, true_and, and_true, reduceCtorEq, ne_eq, Int.toNat_natCast, not_true_eq_false, not_false_eq_true, true_implies, false_implies, implies_true, Int.reduceToNat, Int.toNat_zero, Int.reduceLT, Int.reduceLE, Int.reduceEq, Int.reduceAdd, Int.reduceMul, Int.reduceNeg]
        exact fin
      (repeat' (first | with_reducible refine And.intro ?_ ?_ | with_reducible intro _)) <;> first | exact f9 | omega
    intro d
    induction d with
    | zero =>
      intro y hd hy f' k h1 h2 h3 h4 h5 h6 h7 h8 h9 h10
      exact exit y hy (Or.inr (by omega)) f' _ h1 h3 h4 h5 h6
    | succ d ih =>
      intro y hd hy f' k h1 h2 h3 h4 h5 h6 h7 h8 h9 h10
      by_cases hyh : hi < y
      · exact exit y hy (Or.inl hyh) f' _ h1 h3 h4 h5 h6
      · have h5y := h5 y (Nat.le_refl y)
        have e3601 : (((3601 : Nat) : Int)) = 3601 := rfl
        by_cases hc : zCut l (y : Int)
        · have h51 := h5y.2.mpr hc
          -- the new state behind the cut
          have next : ∀ (g : Nat → Nat → Int) (k' : List Nat), zsw f g → zCE g l → g 1105 11 = (hi : Int) → (∀ j : Nat, j < y → g 1114 j = 0) → g 1114 y = 0 → (∀ j : Nat, y + 1 ≤ j → (g 1114 j = 0 ∨ g 1114 j = 1) ∧ (g 1114 j = 1 ↔ zCut l (j : Int))) → (∀ w : Nat, w < 4 → g 1106 w = (zTot l (zgl (w : Int) (f s 9) (f t 9) c1) (y + 1)).2) → g 1105 9 = (k'.length : Int) → zAL (g 1113) k' → k'.Perm ((List.range l.length).filter (fun e => decide (60 * (zegd l e).1 < (y : Int) ∧ (y : Int) ≤ 60 * (zegd l e).2.1))) → ∀ y3, zFR (zK L) 105 120 [some (.inr (.inr 1105)), some (.inr (.inr s)), some (.inr (.inr t)), y3, some (.inl (y : Int))] [] (zwI M g) Q9 := by
            intro g k' a1 a2 a3 a4 a4' a5 a6 a7 a8 a9 y3
            have e1 : (zTot l (zgl 0 (f s 9) (f t 9) c1) (y + 1)).1 = (y : Int) := by rw [zTot_s, if_pos (zcub_i.mpr hc)]
            have o9 := ih (y + 1) (by omega) (by omega) g k' a1 a2 a3 (fun j hj => by
              by_cases e : j = y
              · rw [e]; exact a4'
              · exact a4 j (by omega)) a5 a6 a7 a8 (fun h => by rw [e1] at h; omega) (fun _ => by rw [e1]; exact a9)
            rw [e1, show ((y + 1 : Nat) : Int) = (y : Int) + 1 by omega] at o9
            refine zW_sound 60 [61] ?_
            simp only [ZR105, zW_succ, zE_iload, zE_aload, zE_lload, zE_iinc, zE_istore, zE_astore, zE_lstore, zE_iconst, zE_ldc2, zE_iadd, zE_isub, zE_imul, zE_idiv, zE_irem, zE_ineg, zE_iand, zE_ior, zE_ixor, zE_ishl, zE_ishr, zE_land, zE_lor, zE_lxor, zE_lshl, zE_lshr, zE_i2l, zE_lcmp, zE_dup_i, zE_dup_a, zE_dup2_ia, zE_pop_i, zE_pop_a, zE_pop2, zE_goto, zE_if_eq, zE_icmp_eq, zE_if_ne, zE_icmp_ne, zE_if_lt, zE_icmp_lt, zE_if_ge, zE_icmp_ge, zE_if_gt, zE_icmp_gt, zE_if_le, zE_icmp_le, zE_iaload, zE_baload, zE_laload, zE_aaload, zE_iastore, zE_bastore, zE_lastore, zE_aastore, zE_alen, zE_getf0, zE_getf1, zE_getf2, zE_getf3, zE_putf0, zE_putf1, zE_putf2, zE_putf3, zE_new, zE_newa, zE_newq, zE_ireturn, zE_lreturn, zE_areturn, zE_return, zE_athrow, zE_st0, zE_vi0, zE_st1, zE_vi1, zE_st2, zE_vi2, zE_st3, zE_vi3, zE_st4, zE_vi4, zE_st5, zE_vi5, zE_st6, zE_vi6, zE_st7, zE_vi7, zE_st8, zE_vi8, zSt_0, zSL_0, zSt_1n, zSt_1i, zSt_1a, zSt_1l, zSt_2n, zSt_2i, zSt_2a, zSt_2l, zSt_3n, zSt_3i, zSt_3a, zSt_3l, zSt_4n, zSt_4i, zSt_4a, zSt_4l, zSt_5n, zSt_5i, zSt_5a, zSt_5l, zSt_6n, zSt_6i, zSt_6a, zSt_6l, zSt_7n, zSt_7i, zSt_7a, zSt_7l, zSt_8n, zSt_8i, zSt_8a, zSt_8l, zSt_9n, zSt_9i, zSt_9a, zSt_9l, zSt_10n, zSt_10i, zSt_10a, zSt_10l, zSt_11n, zSt_11i, zSt_11a, zSt_11l, zSt_12n, zSt_12i, zSt_12a, zSt_12l, zSt_13n, zSt_13i, zSt_13a, zSt_13l, zSL_1n, zSL_1i, zSL_1a, zSL_1l, zSL_2n, zSL_2i, zSL_2a, zSL_2l, zSL_3n, zSL_3i, zSL_3a, zSL_3l, zSL_4n, zSL_4i, zSL_4a, zSL_4l, zSL_5n, zSL_5i, zSL_5a, zSL_5l, zSL_6n, zSL_6i, zSL_6a, zSL_6l, zSL_7n, zSL_7i, zSL_7a, zSL_7l, zSL_8n, zSL_8i, zSL_8a, zSL_8l, zSL_9n, zSL_9i, zSL_9a, zSL_9l, zSL_10n, zSL_10i, zSL_10a, zSL_10l, zSL_11n, zSL_11i, zSL_11a, zSL_11l, zSL_12n, zSL_12i, zSL_12a, zSL_12l, zLI_0, zLL_0, zLA_0, zLI_1, zLL_1, zLA_1, zLI_2, zLL_2, zLA_2, zLI_3, zLL_3, zLA_3, zLI_4, zLL_4, zLA_4, zLI_5, zLL_5, zLA_5, zLI_6, zLL_6, zLA_6, zLI_7, zLL_7, zLA_7, zLI_8, zLL_8, zLA_8, zLI_9, zLL_9, zLA_9, zLI_10, zLL_10, zLA_10, zLI_11, zLL_11, zLA_11, zLI_12, zLL_12, zLA_12, zLI_13, zLL_13, zLA_13, zst_0, zst_1n, zst_1i, zst_1a, zst_2n, zst_2i, zst_2a, zst_3n, zst_3i, zst_3a, zst_4n, zst_4i, zst_4a, zst_5n, zst_5i, zst_5a, zst_6n, zst_6i, zst_6a, zst_7n, zst_7i, zst_7a, zst_8n, zst_8i, zst_8a, zst_9n, zst_9i, zst_9a, zst_10n, zst_10i, zst_10a, zst_11n, zst_11i, zst_11a, zst_12n, zst_12i, zst_12a, zst_13n, zst_13i, zst_13a, zst_14n, zst_14i, zst_14a, zst_15n, zst_15i, zst_15a, zR1_n, zR1_v, zsum_n, zsum_i, zsum_l, zsum_a, zlen_n, zlen_i, zlen_l, zlen_a, List.not_mem_nil, List.mem_cons, or_false, false_or, or_self, ↓reduceIte, if_false, if_true, Nat.reduceEqDiff, Nat.reduceAdd, Nat.reduceLeDiff, true_and, and_true, reduceCtorEq, ne_eq, Int.toNat_natCast, not_true_eq_false, not_false_eq_true, true_implies, false_implies, implies_true, Int.reduceToNat, Int.toNat_zero, Int.reduceLT, Int.reduceLE, Int.reduceEq, Int.reduceAdd, Int.reduceMul, Int.reduceNeg]
            first | exact o9 | exact ⟨by unfold zr32; omega, o9⟩ | (repeat' (first | with_reducible refine And.intro ?_ ?_ | with_reducible intro _)) <;> try first | with_reducible rfl | with_reducible assumption | omega | (unfold zr32; omega) | contradiction | (exact absurd (by omega) (by assumption)) | rfl | (simp only [Sum.inl.injEq, Option.some.injEq]; omega)
          have fr : ∀ a, a ≠ 1114 → zu2 f' 1114 y 0 a = f' a := fun a ha => funext (fun j => zu2_a ha _ _ _ _)
          have sw' : zsw f (zu2 f' 1114 y 0) := fun a ha => (fr a (by omega)).trans (h1 a ha)
          have ce' : zCE (zu2 f' 1114 y 0) l := by
            unfold zCE
            rw [fr 1105 (by omega), fr 1107 (by omega), fr 1108 (by omega), fr 1109 (by omega), fr 1110 (by omega), fr 1111 (by omega)]
            exact h2
          have z0 : ∀ j : Nat, j < y → zu2 f' 1114 y 0 1114 j = 0 := fun j hj => by rw [zu2_i (by omega)]; exact h4 j hj
          have z1 : zu2 f' 1114 y 0 1114 y = 0 := zu2_eq _ _ _ _
          have z2 : ∀ j : Nat, y + 1 ≤ j → (zu2 f' 1114 y 0 1114 j = 0 ∨ zu2 f' 1114 y 0 1114 j = 1) ∧ (zu2 f' 1114 y 0 1114 j = 1 ↔ zCut l (j : Int)) := fun j hj => by rw [zu2_i (by omega)]; exact h5 j (by omega)
          rcases zTot_c l (zgl 0 (f s 9) (f t 9) c1) y with ⟨b1, b2, b3⟩ | ⟨u, b1, b2, b3, b4⟩
          · -- the first cut
            have hk := h9 b1
            subst hk
            have o9 := next (zu2 f' 1114 y 0) [] sw' ce' (by rw [fr 1105 (by omega)]; exact h3) z0 z1 z2 (fun w hw => by
              rw [fr 1106 (by omega), h6 w hw, zTot_s, if_pos (zcub_i.mpr hc)]
              have e1 := zTot_1 l (zgl (w : Int) (f s 9) (f t 9) c1) (zgl 0 (f s 9) (f t 9) c1) y
              rw [b1] at e1
              dsimp only
              rw [if_pos (by omega)]) (by rw [fr 1105 (by omega)]; exact h7) (by rw [fr 1113 (by omega)]; exact h8) (by
              have : (List.range l.length).filter (fun e => decide (60 * (zegd l e).1 < (y : Int) ∧ (y : Int) ≤ 60 * (zegd l e).2.1)) = [] := by
                refine List.filter_eq_nil_iff.mpr (fun x hx => ?_)
                have hx := List.mem_range.mp hx
                have hw := (hA x hx).1
                intro h
                have h := of_decide_eq_true h
                exact b3 (60 * (zegd l x).1).toNat (by omega) (Or.inl ⟨x, hx, Or.inl (by omega)⟩)
              rw [this]) (some (.inl (-1)))
            rw [b1]
            refine zW_sound 60 [120, 129] ?_
            simp only [ZR105, zk_1105, zk_1114, hF, zwI_I, zwI_2, zsI_wI, h3, h51, zW_succ, zE_iload, zE_aload, zE_lload, zE_iinc, zE_istore, zE_astore, zE_lstore, zE_iconst, zE_ldc2, zE_iadd, zE_isub, zE_imul, zE_idiv, zE_irem, zE_ineg, zE_iand, zE_ior, zE_ixor, zE_ishl, zE_ishr, zE_land, zE_lor, zE_lxor, zE_lshl, zE_lshr, zE_i2l, zE_lcmp, zE_dup_i, zE_dup_a, zE_dup2_ia, zE_pop_i, zE_pop_a, zE_pop2, zE_goto, zE_if_eq, zE_icmp_eq, zE_if_ne, zE_icmp_ne, zE_if_lt, zE_icmp_lt, zE_if_ge, zE_icmp_ge, zE_if_gt, zE_icmp_gt, zE_if_le, zE_icmp_le, zE_iaload, zE_baload, zE_laload, zE_aaload, zE_iastore, zE_bastore, zE_lastore, zE_aastore, zE_alen, zE_getf0, zE_getf1, zE_getf2, zE_getf3, zE_putf0, zE_putf1, zE_putf2, zE_putf3, zE_new, zE_newa, zE_newq, zE_ireturn, zE_lreturn, zE_areturn, zE_return, zE_athrow, zE_st0, zE_vi0, zE_st1, zE_vi1, zE_st2, zE_vi2, zE_st3, zE_vi3, zE_st4, zE_vi4, zE_st5, zE_vi5, zE_st6, zE_vi6, zE_st7, zE_vi7, zE_st8, zE_vi8, zSt_0, zSL_0, zSt_1n, zSt_1i, zSt_1a, zSt_1l, zSt_2n, zSt_2i, zSt_2a, zSt_2l, zSt_3n, zSt_3i, zSt_3a, zSt_3l, zSt_4n, zSt_4i, zSt_4a, zSt_4l, zSt_5n, zSt_5i, zSt_5a, zSt_5l, zSt_6n, zSt_6i, zSt_6a, zSt_6l, zSt_7n, zSt_7i, zSt_7a, zSt_7l, zSt_8n, zSt_8i, zSt_8a, zSt_8l, zSt_9n, zSt_9i, zSt_9a, zSt_9l, zSt_10n, zSt_10i, zSt_10a, zSt_10l, zSt_11n, zSt_11i, zSt_11a, zSt_11l, zSt_12n, zSt_12i, zSt_12a, zSt_12l, zSt_13n, zSt_13i, zSt_13a, zSt_13l, zSL_1n, zSL_1i, zSL_1a, zSL_1l, zSL_2n, zSL_2i, zSL_2a, zSL_2l, zSL_3n, zSL_3i, zSL_3a, zSL_3l, zSL_4n, zSL_4i, zSL_4a, zSL_4l, zSL_5n, zSL_5i, zSL_5a, zSL_5l, zSL_6n, zSL_6i, zSL_6a, zSL_6l, zSL_7n, zSL_7i, zSL_7a, zSL_7l, zSL_8n, zSL_8i, zSL_8a, zSL_8l, zSL_9n, zSL_9i, zSL_9a, zSL_9l, zSL_10n, zSL_10i, zSL_10a, zSL_10l, zSL_11n, zSL_11i, zSL_11a, zSL_11l, zSL_12n, zSL_12i, zSL_12a, zSL_12l, zLI_0, zLL_0, zLA_0, zLI_1, zLL_1, zLA_1, zLI_2, zLL_2, zLA_2, zLI_3, zLL_3, zLA_3, zLI_4, zLL_4, zLA_4, zLI_5, zLL_5, zLA_5, zLI_6, zLL_6, zLA_6, zLI_7, zLL_7, zLA_7, zLI_8, zLL_8, zLA_8, zLI_9, zLL_9, zLA_9, zLI_10, zLL_10, zLA_10, zLI_11, zLL_11, zLA_11, zLI_12, zLL_12, zLA_12, zLI_13, zLL_13, zLA_13, zst_0, zst_1n, zst_1i, zst_1a, zst_2n, zst_2i, zst_2a, zst_3n, zst_3i, zst_3a, zst_4n, zst_4i, zst_4a, zst_5n, zst_5i, zst_5a, zst_6n, zst_6i, zst_6a, zst_7n, zst_7i, zst_7a, zst_8n, zst_8i, zst_8a, zst_9n, zst_9i, zst_9a, zst_10n, zst_10i, zst_10a, zst_11n, zst_11i, zst_11a, zst_12n, zst_12i, zst_12a, zst_13n, zst_13i, zst_13a, zst_14n, zst_14i, zst_14a, zst_15n, zst_15i, zst_15a, zR1_n, zR1_v, zsum_n, zsum_i, zsum_l, zsum_a, zlen_n, zlen_i, zlen_l, zlen_a, List.not_mem_nil, List.mem_cons, or_false, false_or, or_self, ↓reduceIte, if_false, if_true, Nat.reduceEqDiff, Nat.reduceAdd, Nat.reduceLeDiff, true_and, and_true, reduceCtorEq, ne_eq, Int.toNat_natCast, not_true_eq_false, not_false_eq_true, true_implies, false_implies, implies_true, Int.reduceToNat, Int.toNat_zero, Int.reduceLT, Int.reduceLE, Int.reduceEq, Int.reduceAdd, Int.reduceMul, Int.reduceNeg]
            (repeat' (first | with_reducible refine And.intro ?_ ?_ | with_reducible intro _)) <;> try first | with_reducible rfl | with_reducible assumption | omega | (unfold zr32; omega) | contradiction | (exact absurd (by omega) (by assumption)) | rfl | (simp only [Sum.inl.injEq, Option.some.injEq]; omega)
          · -- a strip
            have hperm := h10 (by rw [b1]; omega)
            rw [b1] at hperm
            obtain ⟨r4, M4, ⟨f4, k', hr4, hM4, c9, al4, pm4, so4, md4, fr4, fj4⟩, e109⟩ := zFRx (c109 (L := L) (M := M) (f := zu2 f' 1114 y 0) (l := l) (k0 := k) (u := (u : Int)) (v := (y : Int)) hR hlen hA ce' (by rw [fr 1105 (by omega)]; exact h7) (by rw [fr 1113 (by omega)]; exact h8) hperm (by omega) (by omega))
            subst hr4 hM4
            obtain ⟨act1, act2⟩ := zact_f (l := l) (u := (u : Int)) (v := (y : Int)) (by omega) b3 (fun j a1 a2 => b4 j (by omega) (by omega)) hA
            have hpA : k'.Perm (zAct l (u : Int) (y : Int)) := by rw [← act1]; exact pm4
            have sw4 : zsw f f4 := fun a ha => (fr4 a (by omega) (by omega) (by omega)).trans (sw' a ha)
            have hmem : ∀ e, e ∈ k' → e < l.length ∧ 60 * (zegd l e).1 ≤ (u : Int) ∧ (y : Int) ≤ 60 * (zegd l e).2.1 := fun e he => by
              have h2 := List.mem_filter.mp (hpA.mem_iff.mp he)
              exact ⟨List.mem_range.mp h2.1, of_decide_eq_true h2.2⟩
            have hk6 : k'.length ≤ 64 := by
              have h2 := List.length_filter_le (fun e => decide (60 * (zegd l e).1 ≤ (u : Int) ∧ (y : Int) ≤ 60 * (zegd l e).2.1)) (List.range l.length)
              rw [List.length_range] at h2
              have h3 := hpA.length_eq
              unfold zAct at h3
              omega
            have hsum : ∀ w : Nat, w < 4 → f4 1106 w = (zTot l (zgl (w : Int) (f s 9) (f t 9) c1) y).2 := fun w hw => by
              rw [fr4 1106 (by omega) (by omega) (by omega), fr 1106 (by omega)]
              exact h6 w hw
            have hu1 : ∀ w : Nat, (zTot l (zgl (w : Int) (f s 9) (f t 9) c1) y).1 = (u : Int) := fun w => by rw [zTot_1 l (zgl (w : Int) (f s 9) (f t 9) c1) (zgl 0 (f s 9) (f t 9) c1) y]; exact b1
            have hSb : ∀ w : Nat, w < 4 → 0 ≤ f4 1106 w ∧ f4 1106 w ≤ 100000000 := fun w hw => by
              have h2 := zTot_b hA (zgl (w : Int) (f s 9) (f t 9) c1) y
              rw [hu1 w, if_neg (by omega)] at h2
              rw [hsum w hw]
              omega
            have es9 : f4 s 9 = f s 9 := by rw [sw4 s (by omega)]
            have et9 : f4 t 9 = f t 9 := by rw [sw4 t (by omega)]
            obtain ⟨r5, M5, ⟨f5, hr5, hM5, sm5, fr5⟩, e110⟩ := zFRx (c110 (L := L) (M := M) (s := s) (t := t) (f := f4) (k := k') (h := y - u) (m := zmd2 l (u : Int) (y : Int)) (b := zebi l) (c1 := c1) (c2 := c2) hR hs ht (wview f4 sw4 s hs ws) (wview f4 sw4 t ht wt) (by rw [sw4 s (by omega)]; exact hc1) (by rw [sw4 t (by omega)]; exact hc2) c9 hk6 al4 (fun e he => by
              obtain ⟨q1, q2, q3⟩ := hmem e he
              have q4 := zmd2_a (hA e q1) q2 q3 (by omega)
              refine ⟨by omega, md4 e he, q4.1, q4.2, ?_, hbit e q1⟩
              rw [fr4 1111 (by omega) (by omega) (by omega), fr 1111 (by omega)]
              exact (h2.2 e q1).2.2.2.2) so4 (by omega) hSb)
            subst hr5 hM5
            rw [es9, et9] at sm5
            have o9 := next f5 k' (fun a ha => (fr5 a (by omega)).trans (sw4 a ha)) (by
              have ce4 : zCE f4 l := by
                unfold zCE
                rw [fj4 1 (by omega), fr4 1107 (by omega) (by omega) (by omega), fr4 1108 (by omega) (by omega) (by omega), fr4 1109 (by omega) (by omega) (by omega), fr4 1110 (by omega) (by omega) (by omega), fr4 1111 (by omega) (by omega) (by omega)]
                exact ce'
              unfold zCE
              rw [fr5 1105 (by omega), fr5 1107 (by omega), fr5 1108 (by omega), fr5 1109 (by omega), fr5 1110 (by omega), fr5 1111 (by omega)]
              exact ce4) (by rw [fr5 1105 (by omega), fj4 11 (by omega), fr 1105 (by omega)]; exact h3) (fun j hj => by rw [fr5 1114 (by omega), fr4 1114 (by omega) (by omega) (by omega)]; exact z0 j hj) (by rw [fr5 1114 (by omega), fr4 1114 (by omega) (by omega) (by omega)]; exact z1) (fun j hj => by rw [fr5 1114 (by omega), fr4 1114 (by omega) (by omega) (by omega)]; exact z2 j hj) (fun w hw => by
              rw [sm5 w hw, hsum w hw, zSV_of so4 hpA, zTot_s, if_pos (zcub_i.mpr hc)]
              dsimp only
              rw [hu1 w, if_neg (by omega), Int.mul_comm, show ((y - u : Nat) : Int) = (y : Int) - (u : Int) by omega]) (by rw [fr5 1105 (by omega)]; exact c9) (by rw [fr5 1113 (by omega)]; exact al4) (by rw [← act2]; exact pm4) (some (.inl (u : Int)))
            have eyu : (y : Int) - (u : Int) = ((y - u : Nat) : Int) := by omega
            rw [b1]
            refine zW_sound 60 [120, 129] ?_
            simp only [ZR105, zk_1105, zk_1114, hF, zwI_I, zwI_2, zsI_wI, h3, h51, eyu, ZF109.1, ZF109.2.1, ZF109.2.2.1, e109, ZF110.1, ZF110.2.1, ZF110.2.2.1, e110, zW_succ, zE_iload, zE_aload, zE_lload, zE_iinc, zE_istore, zE_astore, zE_lstore, zE_iconst, zE_ldc2, zE_iadd, zE_isub, zE_imul, zE_idiv, zE_irem, zE_ineg, zE_iand, zE_ior, zE_ixor, zE_ishl, zE_ishr, zE_land, zE_lor, zE_lxor, zE_lshl, zE_lshr, zE_i2l, zE_lcmp, zE_dup_i, zE_dup_a, zE_dup2_ia, zE_pop_i, zE_pop_a, zE_pop2, zE_goto, zE_if_eq, zE_icmp_eq, zE_if_ne, zE_icmp_ne, zE_if_lt, zE_icmp_lt, zE_if_ge, zE_icmp_ge, zE_if_gt, zE_icmp_gt, zE_if_le, zE_icmp_le, zE_iaload, zE_baload, zE_laload, zE_aaload, zE_iastore, zE_bastore, zE_lastore, zE_aastore, zE_alen, zE_getf0, zE_getf1, zE_getf2, zE_getf3, zE_putf0, zE_putf1, zE_putf2, zE_putf3, zE_new, zE_newa, zE_newq, zE_ireturn, zE_lreturn, zE_areturn, zE_return, zE_athrow, zE_st0, zE_vi0, zE_st1, zE_vi1, zE_st2, zE_vi2, zE_st3, zE_vi3, zE_st4, zE_vi4, zE_st5, zE_vi5, zE_st6, zE_vi6, zE_st7, zE_vi7, zE_st8, zE_vi8, zSt_0, zSL_0, zSt_1n, zSt_1i, zSt_1a, zSt_1l, zSt_2n, zSt_2i, zSt_2a, zSt_2l, zSt_3n, zSt_3i, zSt_3a, zSt_3l, zSt_4n, zSt_4i, zSt_4a, zSt_4l, zSt_5n, zSt_5i, zSt_5a, zSt_5l, zSt_6n, zSt_6i, zSt_6a, zSt_6l, zSt_7n, zSt_7i, zSt_7a, zSt_7l, zSt_8n, zSt_8i, zSt_8a, zSt_8l, zSt_9n, zSt_9i, zSt_9a, zSt_9l, zSt_10n, zSt_10i, zSt_10a, zSt_10l, zSt_11n, zSt_11i, zSt_11a, zSt_11l, zSt_12n, zSt_12i, zSt_12a, zSt_12l, zSt_13n, zSt_13i, zSt_13a, zSt_13l, zSL_1n, zSL_1i, zSL_1a, zSL_1l, zSL_2n, zSL_2i, zSL_2a, zSL_2l, zSL_3n, zSL_3i, zSL_3a, zSL_3l, zSL_4n, zSL_4i, zSL_4a, zSL_4l, zSL_5n, zSL_5i, zSL_5a, zSL_5l, zSL_6n, zSL_6i, zSL_6a, zSL_6l, zSL_7n, zSL_7i, zSL_7a, zSL_7l, zSL_8n, zSL_8i, zSL_8a, zSL_8l, zSL_9n, zSL_9i, zSL_9a, zSL_9l, zSL_10n, zSL_10i, zSL_10a, zSL_10l, zSL_11n, zSL_11i, zSL_11a, zSL_11l, zSL_12n, zSL_12i, zSL_12a, zSL_12l, zLI_0, zLL_0, zLA_0, zLI_1, zLL_1, zLA_1, zLI_2, zLL_2, zLA_2, zLI_3, zLL_3, zLA_3, zLI_4, zLL_4, zLA_4, zLI_5, zLL_5, zLA_5, zLI_6, zLL_6, zLA_6, zLI_7, zLL_7, zLA_7, zLI_8, zLL_8, zLA_8, zLI_9, zLL_9, zLA_9, zLI_10, zLL_10, zLA_10, zLI_11, zLL_11, zLA_11, zLI_12, zLL_12, zLA_12, zLI_13, zLL_13, zLA_13, zst_0, zst_1n, zst_1i, zst_1a, zst_2n, zst_2i, zst_2a, zst_3n, zst_3i, zst_3a, zst_4n, zst_4i, zst_4a, zst_5n, zst_5i, zst_5a, zst_6n, zst_6i, zst_6a, zst_7n, zst_7i, zst_7a, zst_8n, zst_8i, zst_8a, zst_9n, zst_9i, zst_9a, zst_10n, zst_10i, zst_10a, zst_11n, zst_11i, zst_11a, zst_12n, zst_12i, zst_12a, zst_13n, zst_13i, zst_13a, zst_14n, zst_14i, zst_14a, zst_15n, zst_15i, zst_15a, zR1_n, zR1_v, zsum_n, zsum_i, zsum_l, zsum_a, zlen_n, zlen_i, zlen_l, zlen_a, List.not_mem_nil, List.mem_cons, or_false, false_or, or_self, ↓reduceIte, if_false, if_true, Nat.reduceEqDiff, Nat.reduceAdd, Nat.reduceLeDiff, true_and, and_true, reduceCtorEq, ne_eq, Int.toNat_natCast, not_true_eq_false, not_false_eq_true, true_implies, false_implies, implies_true, Int.reduceToNat, Int.toNat_zero, Int.reduceLT, Int.reduceLE, Int.reduceEq, Int.reduceAdd, Int.reduceMul, Int.reduceNeg]
            (repeat' (first | with_reducible refine And.intro ?_ ?_ | with_reducible intro _)) <;> try first | with_reducible rfl | with_reducible assumption | omega | (unfold zr32; omega) | contradiction | (exact absurd (by omega) (by assumption)) | rfl | (simp only [Sum.inl.injEq, Option.some.injEq]; omega)
        · have h50 : f' 1114 y = 0 := by
            rcases h5y.1 with h | h
            · exact h
            · exact absurd (h5y.2.mp h) hc
          have eS : ∀ g, zTot l g (y + 1) = zTot l g y := fun g => by rw [zTot_s, if_neg (fun h => hc (zcub_i.mp h))]
          have o9 := ih (y + 1) (by omega) (by omega) f' k h1 h2 h3 (fun j hj => by
            by_cases e : j = y
            · rw [e]; exact h50
            · exact h4 j (by omega)) (fun j hj => h5 j (by omega)) (fun w hw => by rw [eS]; exact h6 w hw) h7 h8 (fun h => h9 (by rw [eS] at h; exact h)) (fun h => by rw [eS] at h ⊢; exact h10 h)
          rw [eS, show ((y + 1 : Nat) : Int) = (y : Int) + 1 by omega] at o9
          refine zW_sound 60 [61, 129] ?_
          simp only [ZR105, zk_1105, zk_1114, hF, zwI_I, zwI_2, zsI_wI, h3, h50, zW_succ, zE_iload, zE_aload, zE_lload, zE_iinc, zE_istore, zE_astore, zE_lstore, zE_iconst, zE_ldc2, zE_iadd, zE_isub, zE_imul, zE_idiv, zE_irem, zE_ineg, zE_iand, zE_ior, zE_ixor, zE_ishl, zE_ishr, zE_land, zE_lor, zE_lxor, zE_lshl, zE_lshr, zE_i2l, zE_lcmp, zE_dup_i, zE_dup_a, zE_dup2_ia, zE_pop_i, zE_pop_a, zE_pop2, zE_goto, zE_if_eq, zE_icmp_eq, zE_if_ne, zE_icmp_ne, zE_if_lt, zE_icmp_lt, zE_if_ge, zE_icmp_ge, zE_if_gt, zE_icmp_gt, zE_if_le, zE_icmp_le, zE_iaload, zE_baload, zE_laload, zE_aaload, zE_iastore, zE_bastore, zE_lastore, zE_aastore, zE_alen, zE_getf0, zE_getf1, zE_getf2, zE_getf3, zE_putf0, zE_putf1, zE_putf2, zE_putf3, zE_new, zE_newa, zE_newq, zE_ireturn, zE_lreturn, zE_areturn, zE_return, zE_athrow, zE_st0, zE_vi0, zE_st1, zE_vi1, zE_st2, zE_vi2, zE_st3, zE_vi3, zE_st4, zE_vi4, zE_st5, zE_vi5, zE_st6, zE_vi6, zE_st7, zE_vi7, zE_st8, zE_vi8, zSt_0, zSL_0, zSt_1n, zSt_1i, zSt_1a, zSt_1l, zSt_2n, zSt_2i, zSt_2a, zSt_2l, zSt_3n, zSt_3i, zSt_3a, zSt_3l, zSt_4n, zSt_4i, zSt_4a, zSt_4l, zSt_5n, zSt_5i, zSt_5a, zSt_5l, zSt_6n, zSt_6i, zSt_6a, zSt_6l, zSt_7n, zSt_7i, zSt_7a, zSt_7l, zSt_8n, zSt_8i, zSt_8a, zSt_8l, zSt_9n, zSt_9i, zSt_9a, zSt_9l, zSt_10n, zSt_10i, zSt_10a, zSt_10l, zSt_11n, zSt_11i, zSt_11a, zSt_11l, zSt_12n, zSt_12i, zSt_12a, zSt_12l, zSt_13n, zSt_13i, zSt_13a, zSt_13l, zSL_1n, zSL_1i, zSL_1a, zSL_1l, zSL_2n, zSL_2i, zSL_2a, zSL_2l, zSL_3n, zSL_3i, zSL_3a, zSL_3l, zSL_4n, zSL_4i, zSL_4a, zSL_4l, zSL_5n, zSL_5i, zSL_5a, zSL_5l, zSL_6n, zSL_6i, zSL_6a, zSL_6l, zSL_7n, zSL_7i, zSL_7a, zSL_7l, zSL_8n, zSL_8i, zSL_8a, zSL_8l, zSL_9n, zSL_9i, zSL_9a, zSL_9l, zSL_10n, zSL_10i, zSL_10a, zSL_10l, zSL_11n, zSL_11i, zSL_11a, zSL_11l, zSL_12n, zSL_12i, zSL_12a, zSL_12l, zLI_0, zLL_0, zLA_0, zLI_1, zLL_1, zLA_1, zLI_2, zLL_2, zLA_2, zLI_3, zLL_3, zLA_3, zLI_4, zLL_4, zLA_4, zLI_5, zLL_5, zLA_5, zLI_6, zLL_6, zLA_6, zLI_7, zLL_7, zLA_7, zLI_8, zLL_8, zLA_8, zLI_9, zLL_9, zLA_9, zLI_10, zLL_10, zLA_10, zLI_11, zLL_11, zLA_11, zLI_12, zLL_12, zLA_12, zLI_13, zLL_13, zLA_13, zst_0, zst_1n, zst_1i, zst_1a, zst_2n, zst_2i, zst_2a, zst_3n, zst_3i, zst_3a, zst_4n, zst_4i, zst_4a, zst_5n, zst_5i, zst_5a, zst_6n, zst_6i, zst_6a, zst_7n, zst_7i, zst_7a, zst_8n, zst_8i, zst_8a, zst_9n, zst_9i, zst_9a, zst_10n, zst_10i, zst_10a, zst_11n, zst_11i, zst_11a, zst_12n, zst_12i, zst_12a, zst_13n, zst_13i, zst_13a, zst_14n, zst_14i, zst_14a, zst_15n, zst_15i, zst_15a, zR1_n, zR1_v, zsum_n, zsum_i, zsum_l, zsum_a, zlen_n, zlen_i, zlen_l, zlen_a, List.not_mem_nil, List.mem_cons, or_false, false_or, or_self, ↓reduceIte, if_false, if_true, Nat.reduceEqDiff, Nat.reduceAdd, Nat.reduceLeDiff, true_and, and_true, reduceCtorEq, ne_eq, Int.toNat_natCast, not_true_eq_false, not_false_eq_true, true_implies, false_implies, implies_true, Int.reduceToNat, Int.toNat_zero, Int.reduceLT, Int.reduceLE, Int.reduceEq, Int.reduceAdd, Int.reduceMul, Int.reduceNeg]
          (repeat' (first | with_reducible refine And.intro ?_ ?_ | with_reducible intro _)) <;> try first | with_reducible rfl | with_reducible assumption | omega | (unfold zr32; omega) | contradiction | (exact absurd (by omega) (by assumption)) | rfl | (simp only [Sum.inl.injEq, Option.some.injEq]; omega)
  have nolow : ∀ j : Nat, j < lo → ¬ zCut l (j : Int) := fun j hj hc => by
    have := hlow j hc
    omega
  have eT : ∀ g, zTot l g lo = (-1, 0) := fun g => (zTot_e (g := g) lo (Nat.zero_le _) (fun j _ h => nolow j h)).trans rfl
  have fz : ∀ a, a ≠ 1106 → zfil f3 1106 4 0 a = f3 a := fun a ha => by
    funext j
    unfold zfil
    rw [if_neg (fun h => ha h.1)]
  have f39 : ∀ a, a ≠ 1105 → a ≠ 1106 → zu2 (zfil f3 1106 4 0) 1105 9 0 a = f3 a := fun a ha hb => (funext (fun j => zu2_a ha _ _ _ _)).trans (fz a hb)
  have o9 := loop (3601 - lo) lo rfl (by omega) (zu2 (zfil f3 1106 4 0) 1105 9 0) [] (fun a ha => (f39 a (by omega) (by omega)).trans ((sw3 a (by omega)).trans (sw2' a ha))) (by
    unfold zCE
    rw [zu2_i (by omega), fz 1105 (by omega), sw3 1105 (by omega), f39 1107 (by omega) (by omega), sw3 1107 (by omega), f39 1108 (by omega) (by omega), sw3 1108 (by omega), f39 1109 (by omega) (by omega), sw3 1109 (by omega), f39 1110 (by omega) (by omega), sw3 1110 (by omega), f39 1111 (by omega) (by omega), sw3 1111 (by omega)]
    exact ce2) (by rw [zu2_i (by omega), fz 1105 (by omega), sw3 1105 (by omega)]; exact hhi) (fun j hj => by
    rw [f39 1114 (by omega) (by omega)]
    rcases (ck3 j).1 with h | h
    · exact h
    · exact absurd ((ck3 j).2.mp h) (nolow j hj)) (fun j _ => by rw [f39 1114 (by omega) (by omega)]; exact ck3 j) (fun w hw => by
    rw [eT, zu2_a (by omega)]
    unfold zfil
    rw [if_pos ⟨rfl, hw⟩]) (zu2_eq _ _ _ _) (fun i x hx => by cases hx) (fun _ => rfl) (fun h => by rw [eT] at h; exact absurd h (by omega))
  rw [eT] at o9
  have e10 : f3 1105 10 = (lo : Int) := by rw [sw3 1105 (by omega)]; exact hlo
  have e10' : zfil f3 1106 4 0 1105 10 = (lo : Int) := by rw [fz 1105 (by omega)]; exact e10
  have emax : max (lo : Int) 0 = (lo : Int) := by omega
  have eM : zu2 (zu2 (zu2 f 1105 1 0) 1105 10 3600) 1105 11 0 = f0 := hf0
  have es1 : f1 s 10 = (c1 : Int) := by rw [sw1' s (by omega)]; exact hc1
  refine zW_sound 60 [61] ?_
  simp only [ZF105, ZR105, zk_1105, zk_1106, k1, hF, zwI_I, zwI_2, zwI_w, zsI_wI, eM, ZF106.1, ZF106.2.1, ZF106.2.2.1, e106a, es1, e106b, ZF108.1, ZF108.2.1, ZF108.2.2.1, e108, ZF385.1, ZF385.2.1, ZF385.2.2.1, e385, ZF388.1, ZF388.2.1, ZF388.2.2.1, c388, zu2_if, e10', emax, false_and, and_false, zW_succ, zE_iload, zE_aload, zE_lload, zE_iinc, zE_istore, zE_astore, zE_lstore, zE_iconst, zE_ldc2, zE_iadd, zE_isub, zE_imul, zE_idiv, zE_irem, zE_ineg, zE_iand, zE_ior, zE_ixor, zE_ishl, zE_ishr, zE_land, zE_lor, zE_lxor, zE_lshl, zE_lshr, zE_i2l, zE_lcmp, zE_dup_i, zE_dup_a, zE_dup2_ia, zE_pop_i, zE_pop_a, zE_pop2, zE_goto, zE_if_eq, zE_icmp_eq, zE_if_ne, zE_icmp_ne, zE_if_lt, zE_icmp_lt, zE_if_ge, zE_icmp_ge, zE_if_gt, zE_icmp_gt, zE_if_le, zE_icmp_le, zE_iaload, zE_baload, zE_laload, zE_aaload, zE_iastore, zE_bastore, zE_lastore, zE_aastore, zE_alen, zE_getf0, zE_getf1, zE_getf2, zE_getf3, zE_putf0, zE_putf1, zE_putf2, zE_putf3, zE_new, zE_newa, zE_newq, zE_ireturn, zE_lreturn, zE_areturn, zE_return, zE_athrow, zE_st0, zE_vi0, zE_st1, zE_vi1, zE_st2, zE_vi2, zE_st3, zE_vi3, zE_st4, zE_vi4, zE_st5, zE_vi5, zE_st6, zE_vi6, zE_st7, zE_vi7, zE_st8, zE_vi8, zSt_0, zSL_0, zSt_1n, zSt_1i, zSt_1a, zSt_1l, zSt_2n, zSt_2i, zSt_2a, zSt_2l, zSt_3n, zSt_3i, zSt_3a, zSt_3l, zSt_4n, zSt_4i, zSt_4a, zSt_4l, zSt_5n, zSt_5i, zSt_5a, zSt_5l, zSt_6n, zSt_6i, zSt_6a, zSt_6l, zSt_7n, zSt_7i, zSt_7a, zSt_7l, zSt_8n, zSt_8i, zSt_8a, zSt_8l, zSt_9n, zSt_9i, zSt_9a, zSt_9l, zSt_10n, zSt_10i, zSt_10a, zSt_10l, zSt_11n, zSt_11i, zSt_11a, zSt_11l, zSt_12n, zSt_12i, zSt_12a, zSt_12l, zSt_13n, zSt_13i, zSt_13a, zSt_13l, zSL_1n, zSL_1i, zSL_1a, zSL_1l, zSL_2n, zSL_2i, zSL_2a, zSL_2l, zSL_3n, zSL_3i, zSL_3a, zSL_3l, zSL_4n, zSL_4i, zSL_4a, zSL_4l, zSL_5n, zSL_5i, zSL_5a, zSL_5l, zSL_6n, zSL_6i, zSL_6a, zSL_6l, zSL_7n, zSL_7i, zSL_7a, zSL_7l, zSL_8n, zSL_8i, zSL_8a, zSL_8l, zSL_9n, zSL_9i, zSL_9a, zSL_9l, zSL_10n, zSL_10i, zSL_10a, zSL_10l, zSL_11n, zSL_11i, zSL_11a, zSL_11l, zSL_12n, zSL_12i, zSL_12a, zSL_12l, zLI_0, zLL_0, zLA_0, zLI_1, zLL_1, zLA_1, zLI_2, zLL_2, zLA_2, zLI_3, zLL_3, zLA_3, zLI_4, zLL_4, zLA_4, zLI_5, zLL_5, zLA_5, zLI_6, zLL_6, zLA_6, zLI_7, zLL_7, zLA_7, zLI_8, zLL_8, zLA_8, zLI_9, zLL_9, zLA_9, zLI_10, zLL_10, zLA_10, zLI_11, zLL_11, zLA_11, zLI_12, zLL_12, zLA_12, zLI_13, zLL_13, zLA_13, zst_0, zst_1n, zst_1i, zst_1a, zst_2n, zst_2i, zst_2a, zst_3n, zst_3i, zst_3a, zst_4n, zst_4i, zst_4a, zst_5n, zst_5i, zst_5a, zst_6n, zst_6i, zst_6a, zst_7n, zst_7i, zst_7a, zst_8n, zst_8i, zst_8a, zst_9n, zst_9i, zst_9a, zst_10n, zst_10i, zst_10a, zst_11n, zst_11i, zst_11a, zst_12n, zst_12i, zst_12a, zst_13n, zst_13i, zst_13a, zst_14n, zst_14i, zst_14a, zst_15n, zst_15i, zst_15a, zR1_n, zR1_v, zsum_n, zsum_i, zsum_l, zsum_a, zlen_n, zlen_i, zlen_l, zlen_a, List.not_mem_nil, List.mem_cons, or_false, false_or, or_self, ↓reduceIte, if_false, if_true, Nat.reduceEqDiff, Nat.reduceAdd, Nat.reduceLeDiff, true_and, and_true, reduceCtorEq, ne_eq, Int.toNat_natCast, not_true_eq_false, not_false_eq_true, true_implies, false_implies, implies_true, Int.reduceToNat, Int.toNat_zero, Int.reduceLT, Int.reduceLE, Int.reduceEq, Int.reduceAdd, Int.reduceMul, Int.reduceNeg]
  (repeat' (first | with_reducible refine And.intro ?_ ?_ | with_reducible intro _)) <;> try first | with_reducible rfl | with_reducible assumption | omega | (unfold zr32; omega) | contradiction | (exact absurd (by omega) (by assumption)) | rfl | (simp only [Sum.inl.injEq, Option.some.injEq]; omega)
end ZMEASURE2
end SG_9O_measure2
section SG_9P_redges
/-! the reference: edges added -/
section ZREDGES
variable {L : Nat} {M : zM} {s : Nat} {Q : zO → zM → Prop}
def zRE (f : Nat → Nat → Int) (l : List zEd) : Prop := f 1153 51 = (l.length : Int) ∧ ∀ e, e < l.length → (f 1192 e = (zegd l e).1 ∧ f 1193 e = (zegd l e).2.1 ∧ f 1194 e = (zegd l e).2.2.1) ∧ 2 * f 1191 e - (zegd l e).1 * (zegd l e).2.2.1 = (zegd l e).2.2.2.1 ∧ f 1195 e = ((zegd l e).2.2.2.2 : Int) ∧ 0 ≤ f 1191 e ∧ f 1191 e ≤ 60
def zrefr (f g : Nat → Nat → Int) : Prop := (∀ a, a ≠ 1153 → (a < 1191 ∨ 1195 < a) → g a = f a) ∧ ∀ j, j ≠ 51 → g 1153 j = f 1153 j
theorem zrefr_t {f g h : Nat → Nat → Int} (h1 : zrefr f g) (h2 : zrefr g h) : zrefr f h := ⟨fun a ha hb => (h2.1 a ha hb).trans (h1.1 a ha hb), fun j hj => (h2.2 j hj).trans (h1.2 j hj)⟩
theorem zrefr_r (f : Nat → Nat → Int) : zrefr f f := ⟨fun _ _ _ => rfl, fun _ _ => rfl⟩
def zrce (f : Nat → Nat → Int) (n : Nat) (x lo hi ln : Int) (b : Nat) : Nat → Nat → Int := zu2 (zu2 (zu2 (zu2 (zu2 (zu2 f 1191 n x) 1192 n lo) 1193 n hi) 1194 n ln) 1195 n (b : Int)) 1153 51 ((n : Int) + 1)
theorem zrce_d {f : Nat → Nat → Int} {l : List zEd} {x lo hi ln bs : Int} {b : Nat} (h : zRE f l) (hb : 2 * x - lo * ln = bs) (hx : 0 ≤ x ∧ x ≤ 60) : zRE (zrce f l.length x lo hi ln b) (l ++ [(lo, hi, ln, bs, b)]) ∧ zrefr f (zrce f l.length x lo hi ln b) := by
  obtain ⟨h1, h2⟩ := h
  have el : (l ++ [(lo, hi, ln, bs, b)]).length = l.length + 1 := by rw [List.length_append]; rfl
  refine ⟨⟨by unfold zrce; rw [zu2_eq, el]; omega, fun e he => ?_⟩, fun a ha hb2 => ?_, fun j hj => ?_⟩
  · rw [el] at he
    by_cases hn : e = l.length
    · subst hn
      rw [zegd_n]
      unfold zrce
      simp only [zu2_if]
      simp
      exact ⟨hb, hx⟩
    · rw [zegd_l (by omega)]
      have h9 := h2 e (by omega)
      unfold zrce
      simp only [zu2_if]
      simp [hn]
      exact ⟨h9.1, h9.2⟩
  · funext j
    unfold zrce
    simp only [zu2_if]
    rw [if_neg (by omega), if_neg (by omega), if_neg (by omega), if_neg (by omega), if_neg (by omega), if_neg (by omega)]
  · unfold zrce
    simp only [zu2_if]
    simp [hj]
end ZREDGES
end SG_9P_redges
section SG_9Q_rheights
/-! the reference: heights laid -/
section ZRHEIGHTS
variable {L : Nat} {M : zM} {s : Nat} {Q : zO → zM → Prop}
def zRk (f : Nat → Nat → Int) (P : Int → Prop) : Prop := ∀ y : Nat, y ≤ 3600 → (f 1196 y = 0 ∨ f 1196 y = 1) ∧ (f 1196 y = 1 ↔ P (y : Int))
theorem zRk_c {f : Nat → Nat → Int} {P P' : Int → Prop} (h : zRk f P) (hp : ∀ y, P y ↔ P' y) : zRk f P' := fun y hy => ⟨(h y hy).1, (h y hy).2.trans (hp _)⟩
theorem zRk_s {f : Nat → Nat → Int} {P P' : Int → Prop} {v : Nat} (h : zRk f P) (hp : ∀ y, P' y ↔ (P y ∨ y = (v : Int))) : zRk (zu2 f 1196 v 1) P' := by
  intro y hy
  rw [zu2_if]
  by_cases e : y = v
  · subst e
    rw [if_pos ⟨rfl, rfl⟩]
    exact ⟨Or.inr rfl, fun _ => (hp _).mpr (Or.inr rfl), fun _ => rfl⟩
  · rw [if_neg (fun h => e h.2)]
    exact ⟨(h y hy).1, fun h1 => (hp _).mpr (Or.inl ((h y hy).2.mp h1)), fun h1 => (h y hy).2.mpr (((hp _).mp h1).elim id (fun h2 => absurd (by omega) e))⟩
theorem zRE_1 {f : Nat → Nat → Int} {l : List zEd} (hA : zEA l) (h : zRE f l) {e : Nat} (he : e < l.length) : zed1 f e := by
  obtain ⟨⟨h1, h2, h3⟩, h4, h5, h6⟩ := h.2 e he
  obtain ⟨a1, a2, a3⟩ := hA e he
  unfold zed1
  rw [h1, h2, h3]
  exact ⟨h6, ⟨a1.1, a1.2.1, a1.2.2⟩, a2⟩
/-- where an edge is, by its base -/
theorem zeda_m {f : Nat → Nat → Int} {l : List zEd} (h : zRE f l) {e : Nat} (he : e < l.length) (u : Int) : zeda f e u = 60 * (zegd l e).2.2.2.1 + u * (zegd l e).2.2.1 := by
  obtain ⟨⟨h1, h2, h3⟩, h4, h5, h6⟩ := h.2 e he
  unfold zeda
  rw [h1, h3, Int.sub_mul, Int.mul_assoc]
  omega
theorem zeda_2 {f : Nat → Nat → Int} {l : List zEd} (h : zRE f l) {e : Nat} (he : e < l.length) (u v : Int) : zeda f e u + zeda f e v = zmd2 l u v e := by
  rw [zeda_m h he, zeda_m h he]
  unfold zmd2
  rw [Int.add_mul]
  omega
/-- cut so far: the ends of the first edges, and where they cross -/
def zRf (l : List zEd) (e m c : Nat) (y : Int) : Prop := (∃ e', e' < m ∧ (y = 60 * (zegd l e').1 ∨ y = 60 * (zegd l e').2.1)) ∨ ∃ e' c', c' < e' ∧ (e' < e ∨ (e' = e ∧ c' < c)) ∧ e' < l.length ∧ zxs (zegd l e') (zegd l c') y
theorem zRf_cut {l : List zEd} {c : Nat} {y : Int} : zRf l l.length l.length c y ↔ zCut l y := by
  unfold zRf zCut
  constructor
  · rintro (h | ⟨e', c', h1, h2, h3, h4⟩)
    · exact Or.inl h
    · exact Or.inr ⟨e', c', h1, h3, h4⟩
  · rintro (h | ⟨e', c', h1, h3, h4⟩)
    · exact Or.inl h
    · exact Or.inr ⟨e', c', h1, Or.inl h3, h3, h4⟩
theorem zRf_n {l : List zEd} {e m : Nat} {y : Int} : zRf l e m e y ↔ zRf l (e + 1) m 0 y := by
  unfold zRf
  constructor
  · rintro (h | ⟨e', c', h1, h2, h3, h4⟩)
    · exact Or.inl h
    · exact Or.inr ⟨e', c', h1, by omega, h3, h4⟩
  · rintro (h | ⟨e', c', h1, h2, h3, h4⟩)
    · exact Or.inl h
    · exact Or.inr ⟨e', c', h1, by omega, h3, h4⟩
theorem zRf_0 {l : List zEd} {c : Nat} {y : Int} : ¬ zRf l 0 0 c y := by
  unfold zRf
  rintro (⟨e', h, _⟩ | ⟨e', c', h1, h2, h3, h4⟩)
  · omega
  · omega
theorem zRf_m {l : List zEd} {e m : Nat} {y : Int} : zRf l e (m + 1) 0 y ↔ ((zRf l e m 0 y ∨ y = 60 * (zegd l m).1) ∨ y = 60 * (zegd l m).2.1) := by
  unfold zRf
  constructor
  · rintro (⟨e', h1, h2⟩ | h)
    · by_cases h3 : e' = m
      · subst h3
        rcases h2 with h | h
        · exact Or.inl (Or.inr h)
        · exact Or.inr h
      · exact Or.inl (Or.inl (Or.inl ⟨e', by omega, h2⟩))
    · exact Or.inl (Or.inl (Or.inr h))
  · rintro (((⟨e', h1, h2⟩ | h) | h) | h)
    · exact Or.inl ⟨e', by omega, h2⟩
    · exact Or.inr h
    · exact Or.inl ⟨m, by omega, Or.inl h⟩
    · exact Or.inl ⟨m, by omega, Or.inr h⟩
theorem zRf_s {l : List zEd} {e c m : Nat} (hc : c < e) (he : e < l.length) {y : Int} : zRf l e m (c + 1) y ↔ (zRf l e m c y ∨ zxs (zegd l e) (zegd l c) y) := by
  unfold zRf
  constructor
  · rintro (h | ⟨e', c', h1, h2, h3, h4⟩)
    · exact Or.inl (Or.inl h)
    · by_cases h5 : e' = e ∧ c' = c
      · obtain ⟨rfl, rfl⟩ := h5
        exact Or.inr h4
      · exact Or.inl (Or.inr ⟨e', c', h1, by omega, h3, h4⟩)
  · rintro ((h | ⟨e', c', h1, h2, h3, h4⟩) | h)
    · exact Or.inl h
    · exact Or.inr ⟨e', c', h1, by omega, h3, h4⟩
    · exact Or.inr ⟨e, c, hc, Or.inr ⟨rfl, by omega⟩, he, h⟩
end ZRHEIGHTS
end SG_9Q_rheights
section SG_9R_rstrip
/-! the reference: edges of a strip in order; what is held; a strip -/
section ZRSTRIP
variable {L : Nat} {M : zM} {s t : Nat} {Q : zO → zM → Prop}
def zea (l : List zEd) (e : Nat) (h : Int) : Int := 60 * (zegd l e).2.2.2.1 + h * (zegd l e).2.2.1
theorem zea_2 (l : List zEd) (e : Nat) (u v : Int) : zea l e u + zea l e v = zmd2 l u v e := by
  unfold zea zmd2
  rw [Int.add_mul]
  omega
theorem zea_b {l : List zEd} (hA : zEA l) {e : Nat} (he : e < l.length) {h : Int} (hh : 0 ≤ h ∧ h ≤ 3600) : -900000 ≤ zea l e h ∧ zea l e h ≤ 900000 := by
  have w := hA e he
  have b := zEw_b w
  have m := zmulb (u := h) (v := (zegd l e).2.2.1) (A := 3600) (B := 120) (by omega) (by omega) w.2.1.1 w.2.1.2
  unfold zea
  omega
theorem zRE_f {f g : Nat → Nat → Int} {l : List zEd} (h : ∀ a, a ≠ 1197 → g a = f a) (hE : zRE f l) : zRE g l := by
  unfold zRE
  rw [h 1153 (by omega), h 1191 (by omega), h 1192 (by omega), h 1193 (by omega), h 1194 (by omega), h 1195 (by omega)]
  exact hE
/-- what is held of one (a law below 0), or of two -/
def zg3 (w t1 t2 : Int) (c1 : Nat) (set : Nat) : Bool := if w < 0 then zhsb t1 (set % 2 ^ c1) else zgl w t1 t2 c1 set
end ZRSTRIP
end SG_9R_rstrip
section SG_9T_rareaby
/-! the reference: areas -/
section ZRAREABY
variable {L : Nat} {M : zM} {s t : Nat} {Q : zO → zM → Prop}
def zrE2 (f : Nat → Nat → Int) (w : Int) (s t c1 c2 : Nat) : List zEd := zeS (zrN f s) (zrX f s) (zrY f s) 0 c1 ++ (if w < 0 then [] else zeS (zrN f t) (zrX f t) (zrY f t) c1 c2)
def zarfr (f g : Nat → Nat → Int) : Prop := (∀ a, a ≠ 1153 → (a < 1191 ∨ 1197 < a) → g a = f a) ∧ ∀ j, j ≠ 51 → g 1153 j = f 1153 j
theorem zr_view {f g : Nat → Nat → Int} (h6 : g 1176 = f 1176) (h7 : g 1177 = f 1177) (h8 : g 1178 = f 1178) (s : Nat) : zrN g s = zrN f s ∧ zrX g s = zrX f s ∧ zrY g s = zrY f s := by
  refine ⟨?_, ?_, ?_⟩
  · funext p; unfold zrN; rw [h6]
  · funext p k; unfold zrX; rw [h7]
  · funext p k; unfold zrY; rw [h8]
end ZRAREABY
end SG_9T_rareaby
section SG_B0_rtold
/-! the reference: areas and meetings told -/
section ZRTOLD
variable {L : Nat} {M : zM} {s t : Nat} {Q : zO → zM → Prop}
/-- a number in lowest terms, above or below -/
def zltm (T b : Nat) (w : Int) : Nat := (if w = 0 then T else b) / Nat.gcd T b
end ZRTOLD
end SG_B0_rtold
section SG_B6_rsound
/-! the reference: its own order is sound -/
section ZRSOUND
variable {L : Nat} {M : zM} {s t : Nat} {Q : zO → zM → Prop}
def zV1 (v : Int) (P : Prop) : Prop := (v = 1 ∧ P) ∨ (v = 0 ∧ ¬ P)
end ZRSOUND
end SG_B6_rsound
