/-! the class: a strip added -/
section ZASTRIP
variable {L : Nat} {M : zM} {s t : Nat} {Q : zO → zM → Prop}
/-- what is held of two, by a law -/
def zgl (w t1 t2 : Int) (c1 : Nat) (set : Nat) : Bool := zlawb w (zhsb t1 (set % 2 ^ c1)) (zhsb t2 (set / 2 ^ c1))
theorem zF_b {m : Nat → Int} {b : Nat → Nat} {g : Nat → Bool} {C : Int} : ∀ (r : List Nat) (a acc : Nat), zSo m (a :: r) → (∀ x, x ∈ a :: r → m x ≤ C) → 0 ≤ zF m b g acc (m a) r ∧ zF m b g acc (m a) r ≤ C - m a
  | [], a, acc, _, h => by
    have := h a (List.mem_cons_self ..)
    rw [zF_n]
    omega
  | c :: r, a, acc, hs, h => by
    have h1 := List.pairwise_cons.mp hs
    have h2 := h1.1 c (List.mem_cons_self ..)
    have ih := zF_b (g := g) (b := b) r c (acc ^^^ b c) h1.2 (fun x hx => h x (List.mem_cons_of_mem _ hx))
    rw [zF_s]
    split <;> omega
theorem zFV_b {m : Nat → Int} {b : Nat → Nat} {g : Nat → Bool} {C : Int} {k : List Nat} (hC : 0 ≤ C) (hs : zSo m k) (h : ∀ x, x ∈ k → 0 ≤ m x ∧ m x ≤ C) : 0 ≤ zFV m b g k ∧ zFV m b g k ≤ C := by
  cases k with
  | nil => exact ⟨Int.le_refl _, hC⟩
  | cons a r =>
    have h1 := zF_b (g := g) (b := b) r a (0 ^^^ b a) hs (fun x hx => (h x hx).2)
    have h2 := h a (List.mem_cons_self ..)
    show 0 ≤ zF m b g (0 ^^^ b a) (m a) r ∧ zF m b g (0 ^^^ b a) (m a) r ≤ C
    omega
theorem c110 {f : Nat → Nat → Int} {k : List Nat} {h : Nat} {m : Nat → Int} {b : Nat → Nat} {c1 c2 : Nat} (hR : zLay M.2.2.2) (hs : zShA s) (ht : zShA t) (ws : zSw f s) (wt : zSw f t) (hc1 : f s 10 = (c1 : Int)) (hc2 : f t 10 = (c2 : Int)) (hk : f 1105 9 = (k.length : Int)) (hk6 : k.length ≤ 64) (ho : zAL (f 1113) k) (hm : ∀ e, e ∈ k → e < 64 ∧ f 1112 e = m e ∧ 0 ≤ m e ∧ m e ≤ 14400 ∧ f 1111 e = (b e : Int) ∧ b e < 2 ^ (c1 + c2)) (hso : zSo m k) (hh : h ≤ 3600) (hS : ∀ w, w < 4 → 0 ≤ f 1106 w ∧ f 1106 w ≤ 100000000) : zFR (zK L) 110 0 (zcall 110 [.inr (.inr 1105), .inl (h : Int), .inr (.inr s), .inr (.inr t)]) [] (zwI M f) (fun r M2 => ∃ f', r = .inl none ∧ M2 = zwI M f' ∧ (∀ w : Nat, w < 4 → f' 1106 w = f 1106 w + (h : Int) * zFV m b (zgl (w : Int) (f s 9) (f t 9) c1) k) ∧ ∀ a, a ≠ 1106 → f' a = f a) := by
  have hF := hR.1
  unfold zLayF at hF
  obtain ⟨k1, k2⟩ := zK_sh (L := L) hs
  obtain ⟨l1, l2⟩ := zK_sh (L := L) ht
  have ssw := zShA_sw hs
  have tsw := zShA_sw ht
  obtain ⟨ws1, ws2, -⟩ := ws
  obtain ⟨wt1, wt2, -⟩ := wt
  rw [hc1] at ws1
  rw [hc2] at wt1
  have pc := (zp4 (c := c1) (by omega)).2
  have pc' := (zp4 (c := c1) (by omega)).1
  have pd := (zp4 (c := c2) (by omega)).2
  have pe : 2 ^ (c1 + c2) = 2 ^ c1 * 2 ^ c2 := Nat.pow_add 2 c1 c2
  have p256 : 2 ^ (c1 + c2) ≤ 256 := by
    have : 2 ^ c1 * 2 ^ c2 ≤ 16 * 16 := Nat.mul_le_mul pc pd
    omega
  generalize hT1 : f s 9 = t1 at *
  generalize hT2 : f t 9 = t2 at *
  have hV := fun (w : Nat) => zFV_b (g := zgl (w : Int) t1 t2 c1) (b := b) (C := 14400) (by omega) hso (fun x hx => ⟨(hm x hx).2.2.1, (hm x hx).2.2.2.1⟩)
  generalize hQ : (fun r M2 => ∃ f', r = (Sum.inl none : zO) ∧ M2 = zwI M f' ∧ (∀ w : Nat, w < 4 → f' 1106 w = f 1106 w + (h : Int) * zFV m b (zgl (w : Int) t1 t2 c1) k) ∧ ∀ a, a ≠ 1106 → f' a = f a) = Q9
  have hFb : ∀ w : Nat, w < 4 → f 1106 w + (h : Int) * zFV m b (zgl (w : Int) t1 t2 c1) k ≤ 200000000 := fun w hw => by
    have h1 := hV w
    have h2 := hS w hw
    have h3 : (h : Int) * zFV m b (zgl (w : Int) t1 t2 c1) k ≤ 3600 * 14400 := Int.mul_le_mul (by omega) h1.2 h1.1 (by omega)
    omega
  have exit : ∀ (f' : Nat → Nat → Int) (i acc : Nat) y6 y7 y8 y9, (∀ w : Nat, w < 4 → f' 1106 w = f 1106 w + (h : Int) * zFV m b (zgl (w : Int) t1 t2 c1) k) → (∀ a, a ≠ 1106 → f' a = f a) → k.length ≤ i + 1 → i ≤ 64 → zFR (zK L) 110 6 [some (.inr (.inr 1105)), some (.inl (h : Int)), some (.inr (.inr s)), some (.inr (.inr t)), some (.inl (acc : Int)), some (.inl (i : Int)), y6, y7, y8, y9] [] (zwI M f') Q9 := by
    intro f' i acc y6 y7 y8 y9 h1 h2 h3 h4
    have e9 : f' 1105 9 = (k.length : Int) := by rw [h2 1105 (by omega), hk]
    refine zW_sound 60 [135] ?_
    simp only [ZR110, zk_1105, zwI_I, e9, zW_succ, zE_iload, zE_aload, zE_lload, zE_iinc, zE_istore, zE_astore, zE_lstore, zE_iconst, zE_ldc2, zE_iadd, zE_isub, zE_imul, zE_idiv, zE_irem, zE_ineg, zE_iand, zE_ior, zE_ixor, zE_ishl, zE_ishr, zE_land, zE_lor, zE_lxor, zE_lshl, zE_lshr, zE_i2l, zE_lcmp, zE_dup_i, zE_dup_a, zE_dup2_ia, zE_pop_i, zE_pop_a, zE_pop2, zE_goto, zE_if_eq, zE_icmp_eq, zE_if_ne, zE_icmp_ne, zE_if_lt, zE_icmp_lt, zE_if_ge, zE_icmp_ge, zE_if_gt, zE_icmp_gt, zE_if_le, zE_icmp_le, zE_iaload, zE_baload, zE_laload, zE_aaload, zE_iastore, zE_bastore, zE_lastore, zE_aastore, zE_alen, zE_getf0, zE_getf1, zE_getf2, zE_getf3, zE_putf0, zE_putf1, zE_putf2, zE_putf3, zE_new, zE_newa, zE_newq, zE_ireturn, zE_lreturn, zE_areturn, zE_return, zE_athrow, zE_st0, zE_vi0, zE_st1, zE_vi1, zE_st2, zE_vi2, zE_st3, zE_vi3, zE_st4, zE_vi4, zE_st5, zE_vi5, zE_st6, zE_vi6, zE_st7, zE_vi7, zE_st8, zE_vi8, zSt_0, zSL_0, zSt_1n, zSt_1i, zSt_1a, zSt_1l, zSt_2n, zSt_2i, zSt_2a, zSt_2l, zSt_3n, zSt_3i, zSt_3a, zSt_3l, zSt_4n, zSt_4i, zSt_4a, zSt_4l, zSt_5n, zSt_5i, zSt_5a, zSt_5l, zSt_6n, zSt_6i, zSt_6a, zSt_6l, zSt_7n, zSt_7i, zSt_7a, zSt_7l, zSt_8n, zSt_8i, zSt_8a, zSt_8l, zSt_9n, zSt_9i, zSt_9a, zSt_9l, zSt_10n, zSt_10i, zSt_10a, zSt_10l, zSt_11n, zSt_11i, zSt_11a, zSt_11l, zSt_12n, zSt_12i, zSt_12a, zSt_12l, zSt_13n, zSt_13i, zSt_13a, zSt_13l, zSL_1n, zSL_1i, zSL_1a, zSL_1l, zSL_2n, zSL_2i, zSL_2a, zSL_2l, zSL_3n, zSL_3i, zSL_3a, zSL_3l, zSL_4n, zSL_4i, zSL_4a, zSL_4l, zSL_5n, zSL_5i, zSL_5a, zSL_5l, zSL_6n, zSL_6i, zSL_6a, zSL_6l, zSL_7n, zSL_7i, zSL_7a, zSL_7l, zSL_8n, zSL_8i, zSL_8a, zSL_8l, zSL_9n, zSL_9i, zSL_9a, zSL_9l, zSL_10n, zSL_10i, zSL_10a, zSL_10l, zSL_11n, zSL_11i, zSL_11a, zSL_11l, zSL_12n, zSL_12i, zSL_12a, zSL_12l, zLI_0, zLL_0, zLA_0, zLI_1, zLL_1, zLA_1, zLI_2, zLL_2, zLA_2, zLI_3, zLL_3, zLA_3, zLI_4, zLL_4, zLA_4, zLI_5, zLL_5, zLA_5, zLI_6, zLL_6, zLA_6, zLI_7, zLL_7, zLA_7, zLI_8, zLL_8, zLA_8, zLI_9, zLL_9, zLA_9, zLI_10, zLL_10, zLA_10, zLI_11, zLL_11, zLA_11, zLI_12, zLL_12, zLA_12, zLI_13, zLL_13, zLA_13, zst_0, zst_1n, zst_1i, zst_1a, zst_2n, zst_2i, zst_2a, zst_3n, zst_3i, zst_3a, zst_4n, zst_4i, zst_4a, zst_5n, zst_5i, zst_5a, zst_6n, zst_6i, zst_6a, zst_7n, zst_7i, zst_7a, zst_8n, zst_8i, zst_8a, zst_9n, zst_9i, zst_9a, zst_10n, zst_10i, zst_10a, zst_11n, zst_11i, zst_11a, zst_12n, zst_12i, zst_12a, zst_13n, zst_13i, zst_13a, zst_14n, zst_14i, zst_14a, zst_15n, zst_15i, zst_15a, zR1_n, zR1_v, zsum_n, zsum_i, zsum_l, zsum_a, zlen_n, zlen_i, zlen_l, zlen_a, List.not_mem_nil, List.mem_cons, or_false, false_or, or_self, ↓reduceIte, if_false, if_true, Nat.reduceEqDiff, Nat.reduceAdd, Nat.reduceLeDiff, true_and, and_true, reduceCtorEq, ne_eq, Int.toNat_natCast, not_true_eq_false, not_false_eq_true, true_implies, false_implies, implies_true, Int.reduceToNat, Int.toNat_zero, Int.reduceLT, Int.reduceLE, Int.reduceEq, Int.reduceAdd, Int.reduceMul, Int.reduceNeg]
    refine ⟨by unfold zr32; omega, fun _ => ?_, fun h => absurd (by omega) h⟩
    refine zW_sound 60 [] ?_
    simp only [ZR110, zW_succ, zE_iload, zE_aload, zE_lload, zE_iinc, zE_istore, zE_astore, zE_lstore, zE_iconst, zE_ldc2, zE_iadd, zE_isub, zE_imul, zE_idiv, zE_irem, zE_ineg, zE_iand, zE_ior, zE_ixor, zE_ishl, zE_ishr, zE_land, zE_lor, zE_lxor, zE_lshl, zE_lshr, zE_i2l, zE_lcmp, zE_dup_i, zE_dup_a, zE_dup2_ia, zE_pop_i, zE_pop_a, zE_pop2, zE_goto, zE_if_eq, zE_icmp_eq, zE_if_ne, zE_icmp_ne, zE_if_lt, zE_icmp_lt, zE_if_ge, zE_icmp_ge, zE_if_gt, zE_icmp_gt, zE_if_le, zE_icmp_le, zE_iaload, zE_baload, zE_laload, zE_aaload, zE_iastore, zE_bastore, zE_lastore, zE_aastore, zE_alen, zE_getf0, zE_getf1, zE_getf2, zE_getf3, zE_putf0, zE_putf1, zE_putf2, zE_putf3, zE_new, zE_newa, zE_newq, zE_ireturn, zE_lreturn, zE_areturn, zE_return, zE_athrow, zE_st0, zE_vi0, zE_st1, zE_vi1, zE_st2, zE_vi2, zE_st3, zE_vi3, zE_st4, zE_vi4, zE_st5, zE_vi5, zE_st6, zE_vi6, zE_st7, zE_vi7, zE_st8, zE_vi8, zSt_0, zSL_0, zSt_1n, zSt_1i, zSt_1a, zSt_1l, zSt_2n, zSt_2i, zSt_2a, zSt_2l, zSt_3n, zSt_3i, zSt_3a, zSt_3l, zSt_4n, zSt_4i, zSt_4a, zSt_4l, zSt_5n, zSt_5i, zSt_5a, zSt_5l, zSt_6n, zSt_6i, zSt_6a, zSt_6l, zSt_7n, zSt_7i, zSt_7a, zSt_7l, zSt_8n, zSt_8i, zSt_8a, zSt_8l, zSt_9n, zSt_9i, zSt_9a, zSt_9l, zSt_10n, zSt_10i, zSt_10a, zSt_10l, zSt_11n, zSt_11i, zSt_11a, zSt_11l, zSt_12n, zSt_12i, zSt_12a, zSt_12l, zSt_13n, zSt_13i, zSt_13a, zSt_13l, zSL_1n, zSL_1i, zSL_1a, zSL_1l, zSL_2n, zSL_2i, zSL_2a, zSL_2l, zSL_3n, zSL_3i, zSL_3a, zSL_3l, zSL_4n, zSL_4i, zSL_4a, zSL_4l, zSL_5n, zSL_5i, zSL_5a, zSL_5l, zSL_6n, zSL_6i, zSL_6a, zSL_6l, zSL_7n, zSL_7i, zSL_7a, zSL_7l, zSL_8n, zSL_8i, zSL_8a, zSL_8l, zSL_9n, zSL_9i, zSL_9a, zSL_9l, zSL_10n, zSL_10i, zSL_10a, zSL_10l, zSL_11n, zSL_11i, zSL_11a, zSL_11l, zSL_12n, zSL_12i, zSL_12a, zSL_12l, zLI_0, zLL_0, zLA_0, zLI_1, zLL_1, zLA_1, zLI_2, zLL_2, zLA_2, zLI_3, zLL_3, zLA_3, zLI_4, zLL_4, zLA_4, zLI_5, zLL_5, zLA_5, zLI_6, zLL_6, zLA_6, zLI_7, zLL_7, zLA_7, zLI_8, zLL_8, zLA_8, zLI_9, zLL_9, zLA_9, zLI_10, zLL_10, zLA_10, zLI_11, zLL_11, zLA_11, zLI_12, zLL_12, zLA_12, zLI_13, zLL_13, zLA_13, zst_0, zst_1n, zst_1i, zst_1a, zst_2n, zst_2i, zst_2a, zst_3n, zst_3i, zst_3a, zst_4n, zst_4i, zst_4a, zst_5n, zst_5i, zst_5a, zst_6n, zst_6i, zst_6a, zst_7n, zst_7i, zst_7a, zst_8n, zst_8i, zst_8a, zst_9n, zst_9i, zst_9a, zst_10n, zst_10i, zst_10a, zst_11n, zst_11i, zst_11a, zst_12n, zst_12i, zst_12a, zst_13n, zst_13i, zst_13a, zst_14n, zst_14i, zst_14a, zst_15n, zst_15i, zst_15a, zR1_n, zR1_v, zsum_n, zsum_i, zsum_l, zsum_a, zlen_n, zlen_i, zlen_l, zlen_a, List.not_mem_nil, List.mem_cons, or_false, false_or, or_self, ↓reduceIte, if_false, if_true, Nat.reduceEqDiff, Nat.reduceAdd, Nat.reduceLeDiff, true_and, and_true, reduceCtorEq, ne_eq, Int.toNat_natCast, not_true_eq_false, not_false_eq_true, true_implies, false_implies, implies_true, Int.reduceToNat, Int.toNat_zero, Int.reduceLT, Int.reduceLE, Int.reduceEq, Int.reduceAdd, Int.reduceMul, Int.reduceNeg]
    subst hQ
    exact ⟨f', rfl, rfl, h1, h2⟩
  have loop : ∀ (r : List Nat) (a i acc : Nat) (f' : Nat → Nat → Int) y6 y7 y8 y9, k.drop i = a :: r → acc < 2 ^ (c1 + c2) → (∀ w : Nat, w < 4 → 0 ≤ f' 1106 w ∧ f' 1106 w + (h : Int) * zF m b (zgl (w : Int) t1 t2 c1) (acc ^^^ b a) (m a) r = f 1106 w + (h : Int) * zFV m b (zgl (w : Int) t1 t2 c1) k) → (∀ a, a ≠ 1106 → f' a = f a) → zFR (zK L) 110 6 [some (.inr (.inr 1105)), some (.inl (h : Int)), some (.inr (.inr s)), some (.inr (.inr t)), some (.inl (acc : Int)), some (.inl (i : Int)), y6, y7, y8, y9] [] (zwI M f') Q9 := by
    intro r
    induction r with
    | nil =>
      intro a i acc f' y6 y7 y8 y9 hd hacc h1 h2
      have hl : (k.drop i).length = 1 := by rw [hd]; rfl
      rw [List.length_drop] at hl
      exact exit f' i acc y6 y7 y8 y9 (fun w hw => by
        have h3 := (h1 w hw).2
        rw [zF_n, Int.mul_zero, Int.add_zero] at h3
        exact h3) h2 (by omega) (by omega)
    | cons c r ih =>
      intro a i acc f' y6 y7 y8 y9 hd hacc h1 h2
      have hl : (k.drop i).length = r.length + 2 := by rw [hd]; rfl
      rw [List.length_drop] at hl
      have ga : k[i]? = some a := by
        have h3 : (k.drop i)[0]? = some a := by rw [hd]; rfl
        rw [List.getElem?_drop] at h3
        exact h3
      have gc : k[i + 1]? = some c := by
        have h3 : (k.drop i)[1]? = some c := by rw [hd]; rfl
        rw [List.getElem?_drop] at h3
        exact h3
      have hd2 : k.drop (i + 1) = c :: r := by
        have h3 : k.drop (i + 1) = (k.drop i).drop 1 := by rw [List.drop_drop]
        rw [h3, hd]
        rfl
      have ia := ho i a ga
      have ic := ho (i + 1) c gc
      have ma := List.mem_of_getElem? ga
      have mc := List.mem_of_getElem? gc
      obtain ⟨a1, a2, a3, a4, a5, a6⟩ := hm a ma
      obtain ⟨b1, b2, b3, b4, b5, b6⟩ := hm c mc
      have hsub : zSo m (c :: r) := by
        have h3 : zSo m (k.drop (i + 1)) := hso.sublist (List.drop_sublist _ _)
        rw [hd2] at h3
        exact h3
      have hac : m a ≤ m c := by
        have h3 : zSo m (k.drop i) := hso.sublist (List.drop_sublist _ _)
        rw [hd] at h3
        exact (List.pairwise_cons.mp h3).1 c (List.mem_cons_self ..)
      have hrb : ∀ (w : Nat) (x : Nat), 0 ≤ zF m b (zgl (w : Int) t1 t2 c1) x (m c) r := fun w x => (zF_b (C := 14400) r c x hsub (fun y hy => (hm y (List.mem_of_mem_drop (by rw [hd2]; exact hy))).2.2.2.1)).1
      have hx : acc ^^^ b a < 2 ^ (c1 + c2) := Nat.xor_lt_two_pow hacc a6
      have exor : (Int32.ofInt (acc : Int) ^^^ Int32.ofInt (b a : Int)).toInt = ((acc ^^^ b a : Nat) : Int) := zxor_n (by omega) (by omega)
      generalize hset : acc ^^^ b a = set at *
      have m1 : set % 2 ^ c1 < 32 := by
        have := Nat.mod_lt set (show 0 < 2 ^ c1 by omega)
        omega
      have m2 : set / 2 ^ c1 < 32 := by
        have : set / 2 ^ c1 < 2 ^ c2 := Nat.div_lt_of_lt_mul (by rw [← pe]; exact hx)
        omega
      have e9 : f' 1105 9 = (k.length : Int) := by rw [h2 1105 (by omega), hk]
      have eia : f' 1113 i = (a : Int) := by rw [h2 1113 (by omega)]; exact ia
      have eic : f' 1113 (i + 1) = (c : Int) := by rw [h2 1113 (by omega)]; exact ic
      have ema : f' 1112 a = m a := by rw [h2 1112 (by omega)]; exact a2
      have emc : f' 1112 c = m c := by rw [h2 1112 (by omega)]; exact b2
      have eba : f' 1111 a = (b a : Int) := by rw [h2 1111 (by omega)]; exact a5
      have es10 : f' s 10 = (c1 : Int) := by rw [h2 s (by omega)]; exact hc1
      have es9 : f' s 9 = t1 := by rw [h2 s (by omega)]; exact hT1
      have et9 : f' t 9 = t2 := by rw [h2 t (by omega)]; exact hT2
      have e91 := fun Q => c91 (L := L) (M := zwI M f') (Q := Q) (s := s) (v := set) hs (by omega) (by rw [zwI_I, es10]; exact ws1)
      rw [zwI_I, es10, Int.toNat_natCast] at e91
      have e92a := fun Q => c92 (L := L) (M := zwI M f') (Q := Q) (s := s) (v := set % 2 ^ c1) hs m1 (by rw [zwI_I, es9]; exact ws2)
      have e92b := fun Q => c92 (L := L) (M := zwI M f') (Q := Q) (s := t) (v := set / 2 ^ c1) ht m2 (by rw [zwI_I, et9]; exact wt2)
      rw [zwI_I, es9] at e92a
      rw [zwI_I, et9] at e92b
      have hpart : 0 ≤ (h : Int) * (m c - m a) ∧ (h : Int) * (m c - m a) ≤ 3600 * 14400 := ⟨Int.mul_nonneg (by omega) (by omega), Int.mul_le_mul (by omega) (by omega) (by omega) (by omega)⟩
      have hrem : ∀ w : Nat, w < 4 → (h : Int) * zF m b (zgl (w : Int) t1 t2 c1) set (m a) (c :: r) = (if zgl (w : Int) t1 t2 c1 set = true then (h : Int) * (m c - m a) else 0) + (h : Int) * zF m b (zgl (w : Int) t1 t2 c1) (set ^^^ b c) (m c) r := fun w hw => by
        rw [zF_s, Int.mul_add]
        congr 1
        split
        · rfl
        · exact Int.mul_zero _
      generalize hP : (h : Int) * (m c - m a) = part at *
      have eIN : (i : Int) + 1 = ((i + 1 : Nat) : Int) := by omega
      -- the four laws
      have laws : ∀ (p q : Bool), zhsb t1 (set % 2 ^ c1) = p → zhsb t2 (set / 2 ^ c1) = q → ∀ j : Nat, j ≤ 4 → ∀ (f' : Nat → Nat → Int), (∀ w : Nat, w < 4 → 0 ≤ f' 1106 w) → (∀ w : Nat, w < j → f' 1106 w + (h : Int) * zF m b (zgl (w : Int) t1 t2 c1) (set ^^^ b c) (m c) r = f 1106 w + (h : Int) * zFV m b (zgl (w : Int) t1 t2 c1) k) → (∀ w : Nat, j ≤ w → w < 4 → f' 1106 w + ((if zgl (w : Int) t1 t2 c1 set = true then part else 0) + (h : Int) * zF m b (zgl (w : Int) t1 t2 c1) (set ^^^ b c) (m c) r) = f 1106 w + (h : Int) * zFV m b (zgl (w : Int) t1 t2 c1) k) → (∀ a, a ≠ 1106 → f' a = f a) → zFR (zK L) 110 93 [some (.inr (.inr 1105)), some (.inl (h : Int)), some (.inr (.inr s)), some (.inr (.inr t)), some (.inl (set : Int)), some (.inl (i : Int)), some (.inl part), some (.inl (if p = true then 1 else 0)), some (.inl (if q = true then 1 else 0)), some (.inl (j : Int))] [] (zwI M f') Q9 := by
        intro p q hp hq
        refine zloop ?_ ?_
        · intro f' n0 n1 n2 n3
          have o9 := ih c (i + 1) set f' (some (.inl part)) (some (.inl (if p = true then 1 else 0))) (some (.inl (if q = true then 1 else 0))) (some (.inl ((4 : Nat) : Int))) hd2 hx (fun w hw => ⟨n0 w hw, n1 w hw⟩) n3
          rw [← eIN] at o9
          refine zW_sound 60 [6] ?_
          simp only [ZR110, zW_succ, zE_iload, zE_aload, zE_lload, zE_iinc, zE_istore, zE_astore, zE_lstore, zE_iconst, zE_ldc2, zE_iadd, zE_isub, zE_imul, zE_idiv, zE_irem, zE_ineg, zE_iand, zE_ior, zE_ixor, zE_ishl, zE_ishr, zE_land, zE_lor, zE_lxor, zE_lshl, zE_lshr, zE_i2l, zE_lcmp, zE_dup_i, zE_dup_a, zE_dup2_ia, zE_pop_i, zE_pop_a, zE_pop2, zE_goto, zE_if_eq, zE_icmp_eq, zE_if_ne, zE_icmp_ne, zE_if_lt, zE_icmp_lt, zE_if_ge, zE_icmp_ge, zE_if_gt, zE_icmp_gt, zE_if_le, zE_icmp_le, zE_iaload, zE_baload, zE_laload, zE_aaload, zE_iastore, zE_bastore, zE_lastore, zE_aastore, zE_alen, zE_getf0, zE_getf1, zE_getf2, zE_getf3, zE_putf0, zE_putf1, zE_putf2, zE_putf3, zE_new, zE_newa, zE_newq, zE_ireturn, zE_lreturn, zE_areturn, zE_return, zE_athrow, zE_st0, zE_vi0, zE_st1, zE_vi1, zE_st2, zE_vi2, zE_st3, zE_vi3, zE_st4, zE_vi4, zE_st5, zE_vi5, zE_st6, zE_vi6, zE_st7, zE_vi7, zE_st8, zE_vi8, zSt_0, zSL_0, zSt_1n, zSt_1i, zSt_1a, zSt_1l, zSt_2n, zSt_2i, zSt_2a, zSt_2l, zSt_3n, zSt_3i, zSt_3a, zSt_3l, zSt_4n, zSt_4i, zSt_4a, zSt_4l, zSt_5n, zSt_5i, zSt_5a, zSt_5l, zSt_6n, zSt_6i, zSt_6a, zSt_6l, zSt_7n, zSt_7i, zSt_7a, zSt_7l, zSt_8n, zSt_8i, zSt_8a, zSt_8l, zSt_9n, zSt_9i, zSt_9a, zSt_9l, zSt_10n, zSt_10i, zSt_10a, zSt_10l, zSt_11n, zSt_11i, zSt_11a, zSt_11l, zSt_12n, zSt_12i, zSt_12a, zSt_12l, zSt_13n, zSt_13i, zSt_13a, zSt_13l, zSL_1n, zSL_1i, zSL_1a, zSL_1l, zSL_2n, zSL_2i, zSL_2a, zSL_2l, zSL_3n, zSL_3i, zSL_3a, zSL_3l, zSL_4n, zSL_4i, zSL_4a, zSL_4l, zSL_5n, zSL_5i, zSL_5a, zSL_5l, zSL_6n, zSL_6i, zSL_6a, zSL_6l, zSL_7n, zSL_7i, zSL_7a, zSL_7l, zSL_8n, zSL_8i, zSL_8a, zSL_8l, zSL_9n, zSL_9i, zSL_9a, zSL_9l, zSL_10n, zSL_10i, zSL_10a, zSL_10l, zSL_11n, zSL_11i, zSL_11a, zSL_11l, zSL_12n, zSL_12i, zSL_12a, zSL_12l, zLI_0, zLL_0, zLA_0, zLI_1, zLL_1, zLA_1, zLI_2, zLL_2, zLA_2, zLI_3, zLL_3, zLA_3, zLI_4, zLL_4, zLA_4, zLI_5, zLL_5, zLA_5, zLI_6, zLL_6, zLA_6, zLI_7, zLL_7, zLA_7, zLI_8, zLL_8, zLA_8, zLI_9, zLL_9, zLA_9, zLI_10, zLL_10, zLA_10, zLI_11, zLL_11, zLA_11, zLI_12, zLL_12, zLA_12, zLI_13, zLL_13, zLA_13, zst_0, zst_1n, zst_1i, zst_1a, zst_2n, zst_2i, zst_2a, zst_3n, zst_3i, zst_3a, zst_4n, zst_4i, zst_4a, zst_5n, zst_5i, zst_5a, zst_6n, zst_6i, zst_6a, zst_7n, zst_7i, zst_7a, zst_8n, zst_8i, zst_8a, zst_9n, zst_9i, zst_9a, zst_10n, zst_10i, zst_10a, zst_11n, zst_11i, zst_11a, zst_12n, zst_12i, zst_12a, zst_13n, zst_13i, zst_13a, zst_14n, zst_14i, zst_14a, zst_15n, zst_15i, zst_15a, zR1_n, zR1_v, zsum_n, zsum_i, zsum_l, zsum_a, zlen_n, zlen_i, zlen_l, zlen_a, List.not_mem_nil, List.mem_cons, or_false, false_or, or_self, ↓reduceIte, if_false, if_true, Nat.reduceEqDiff, Nat.reduceAdd, Nat.reduceLeDiff, true_and, and_true, reduceCtorEq, ne_eq, Int.toNat_natCast, not_true_eq_false, not_false_eq_true, true_implies, false_implies, implies_true, Int.reduceToNat, Int.toNat_zero, Int.reduceLT, Int.reduceLE, Int.reduceEq, Int.reduceAdd, Int.reduceMul, Int.reduceNeg]
          exact ⟨fun _ => ⟨by unfold zr32; omega, o9⟩, fun h => absurd (by omega) h⟩
        · intro j hj ihj f' n0 n1 n2 n3
          have e11 := fun Q => c111b (L := L) (M := zwI M f') (Q := Q) (w := (j : Int)) (u := if p = true then 1 else 0) (v := if q = true then 1 else 0) p q rfl rfl
          have hgl : zgl (j : Int) t1 t2 c1 set = zlawb (j : Int) p q := by unfold zgl; rw [hp, hq]
          have n2j := n2 j (Nat.le_refl j) hj
          rw [hgl] at n2j
          have hr := hrb j (set ^^^ b c)
          have hr2 : 0 ≤ (h : Int) * zF m b (zgl (j : Int) t1 t2 c1) (set ^^^ b c) (m c) r := Int.mul_nonneg (by omega) hr
          have hfb := hFb j hj
          have n0j := n0 j hj
          have next : ∀ f' : Nat → Nat → Int, (∀ w : Nat, w < 4 → 0 ≤ f' 1106 w) → (∀ w : Nat, w < j + 1 → f' 1106 w + (h : Int) * zF m b (zgl (w : Int) t1 t2 c1) (set ^^^ b c) (m c) r = f 1106 w + (h : Int) * zFV m b (zgl (w : Int) t1 t2 c1) k) → (∀ w : Nat, j + 1 ≤ w → w < 4 → f' 1106 w + ((if zgl (w : Int) t1 t2 c1 set = true then part else 0) + (h : Int) * zF m b (zgl (w : Int) t1 t2 c1) (set ^^^ b c) (m c) r) = f 1106 w + (h : Int) * zFV m b (zgl (w : Int) t1 t2 c1) k) → (∀ a, a ≠ 1106 → f' a = f a) → zFR (zK L) 110 123 [some (.inr (.inr 1105)), some (.inl (h : Int)), some (.inr (.inr s)), some (.inr (.inr t)), some (.inl (set : Int)), some (.inl (i : Int)), some (.inl part), some (.inl (if p = true then 1 else 0)), some (.inl (if q = true then 1 else 0)), some (.inl (j : Int))] [] (zwI M f') Q9 := by
            intro f' a1 a2 a3 a4
            have o9 := ihj f' a1 a2 a3 a4
            rw [show ((j + 1 : Nat) : Int) = (j : Int) + 1 by omega] at o9
            refine zW_sound 60 [93] ?_
            simp only [ZR110, zW_succ, zE_iload, zE_aload, zE_lload, zE_iinc, zE_istore, zE_astore, zE_lstore, zE_iconst, zE_ldc2, zE_iadd, zE_isub, zE_imul, zE_idiv, zE_irem, zE_ineg, zE_iand, zE_ior, zE_ixor, zE_ishl, zE_ishr, zE_land, zE_lor, zE_lxor, zE_lshl, zE_lshr, zE_i2l, zE_lcmp, zE_dup_i, zE_dup_a, zE_dup2_ia, zE_pop_i, zE_pop_a, zE_pop2, zE_goto, zE_if_eq, zE_icmp_eq, zE_if_ne, zE_icmp_ne, zE_if_lt, zE_icmp_lt, zE_if_ge, zE_icmp_ge, zE_if_gt, zE_icmp_gt, zE_if_le, zE_icmp_le, zE_iaload, zE_baload, zE_laload, zE_aaload, zE_iastore, zE_bastore, zE_lastore, zE_aastore, zE_alen, zE_getf0, zE_getf1, zE_getf2, zE_getf3, zE_putf0, zE_putf1, zE_putf2, zE_putf3, zE_new, zE_newa, zE_newq, zE_ireturn, zE_lreturn, zE_areturn, zE_return, zE_athrow, zE_st0, zE_vi0, zE_st1, zE_vi1, zE_st2, zE_vi2, zE_st3, zE_vi3, zE_st4, zE_vi4, zE_st5, zE_vi5, zE_st6, zE_vi6, zE_st7, zE_vi7, zE_st8, zE_vi8, zSt_0, zSL_0, zSt_1n, zSt_1i, zSt_1a, zSt_1l, zSt_2n, zSt_2i, zSt_2a, zSt_2l, zSt_3n, zSt_3i, zSt_3a, zSt_3l, zSt_4n, zSt_4i, zSt_4a, zSt_4l, zSt_5n, zSt_5i, zSt_5a, zSt_5l, zSt_6n, zSt_6i, zSt_6a, zSt_6l, zSt_7n, zSt_7i, zSt_7a, zSt_7l, zSt_8n, zSt_8i, zSt_8a, zSt_8l, zSt_9n, zSt_9i, zSt_9a, zSt_9l, zSt_10n, zSt_10i, zSt_10a, zSt_10l, zSt_11n, zSt_11i, zSt_11a, zSt_11l, zSt_12n, zSt_12i, zSt_12a, zSt_12l, zSt_13n, zSt_13i, zSt_13a, zSt_13l, zSL_1n, zSL_1i, zSL_1a, zSL_1l, zSL_2n, zSL_2i, zSL_2a, zSL_2l, zSL_3n, zSL_3i, zSL_3a, zSL_3l, zSL_4n, zSL_4i, zSL_4a, zSL_4l, zSL_5n, zSL_5i, zSL_5a, zSL_5l, zSL_6n, zSL_6i, zSL_6a, zSL_6l, zSL_7n, zSL_7i, zSL_7a, zSL_7l, zSL_8n, zSL_8i, zSL_8a, zSL_8l, zSL_9n, zSL_9i, zSL_9a, zSL_9l, zSL_10n, zSL_10i, zSL_10a, zSL_10l, zSL_11n, zSL_11i, zSL_11a, zSL_11l, zSL_12n, zSL_12i, zSL_12a, zSL_12l, zLI_0, zLL_0, zLA_0, zLI_1, zLL_1, zLA_1, zLI_2, zLL_2, zLA_2, zLI_3, zLL_3, zLA_3, zLI_4, zLL_4, zLA_4, zLI_5, zLL_5, zLA_5, zLI_6, zLL_6, zLA_6, zLI_7, zLL_7, zLA_7, zLI_8, zLL_8, zLA_8, zLI_9, zLL_9, zLA_9, zLI_10, zLL_10, zLA_10, zLI_11, zLL_11, zLA_11, zLI_12, zLL_12, zLA_12, zLI_13, zLL_13, zLA_13, zst_0, zst_1n, zst_1i, zst_1a, zst_2n, zst_2i, zst_2a, zst_3n, zst_3i, zst_3a, zst_4n, zst_4i, zst_4a, zst_5n, zst_5i, zst_5a, zst_6n, zst_6i, zst_6a, zst_7n, zst_7i, zst_7a, zst_8n, zst_8i, zst_8a, zst_9n, zst_9i, zst_9a, zst_10n, zst_10i, zst_10a, zst_11n, zst_11i, zst_11a, zst_12n, zst_12i, zst_12a, zst_13n, zst_13i, zst_13a, zst_14n, zst_14i, zst_14a, zst_15n, zst_15i, zst_15a, zR1_n, zR1_v, zsum_n, zsum_i, zsum_l, zsum_a, zlen_n, zlen_i, zlen_l, zlen_a, List.not_mem_nil, List.mem_cons, or_false, false_or, or_self, ↓reduceIte, if_false, if_true, Nat.reduceEqDiff, Nat.reduceAdd, Nat.reduceLeDiff, true_and, and_true, reduceCtorEq, ne_eq, Int.toNat_natCast, not_true_eq_false, not_false_eq_true, true_implies, false_implies, implies_true, Int.reduceToNat, Int.toNat_zero, Int.reduceLT, Int.reduceLE, Int.reduceEq, Int.reduceAdd, Int.reduceMul, Int.reduceNeg]
            exact ⟨by unfold zr32; omega, o9⟩
          have yes : zlawb (j : Int) p q = true → zr32 (f' 1106 j + part) ∧ zFR (zK L) 110 123 [some (.inr (.inr 1105)), some (.inl (h : Int)), some (.inr (.inr s)), some (.inr (.inr t)), some (.inl (set : Int)), some (.inl (i : Int)), some (.inl part), some (.inl (if p = true then 1 else 0)), some (.inl (if q = true then 1 else 0)), some (.inl (j : Int))] [] (zwI M (zu2 f' 1106 j (f' 1106 j + part))) Q9 := by
            intro hy
            rw [if_pos hy] at n2j
            refine ⟨by unfold zr32; omega, next _ (fun w hw => ?_) (fun w hw => ?_) (fun w hw hw4 => ?_) (fun a ha => ?_)⟩
            · rw [zu2_if]
              split
              · omega
              · exact n0 w hw
            · rw [zu2_if]
              by_cases h5 : w = j
              · subst h5
                rw [if_pos ⟨rfl, rfl⟩]
                omega
              · rw [if_neg (fun h => h5 h.2)]
                exact n1 w (by omega)
            · rw [zu2_i (by omega)]
              exact n2 w (by omega) hw4
            · rw [← n3 a ha]
              funext j'
              rw [zu2_a ha]
          have no : ¬ zlawb (j : Int) p q = true → zFR (zK L) 110 123 [some (.inr (.inr 1105)), some (.inl (h : Int)), some (.inr (.inr s)), some (.inr (.inr t)), some (.inl (set : Int)), some (.inl (i : Int)), some (.inl part), some (.inl (if p = true then 1 else 0)), some (.inl (if q = true then 1 else 0)), some (.inl (j : Int))] [] (zwI M f') Q9 := by
            intro hy
            rw [if_neg hy] at n2j
            refine next f' n0 (fun w hw => ?_) (fun w hw hw4 => n2 w (by omega) hw4) n3
            by_cases h5 : w = j
            · subst h5; omega
            · exact n1 w (by omega)
          refine zW_sound 60 [123] ?_
          simp only [ZR110, zk_1105, zk_1106, hF, zwI_I, zwI_2, zsI_wI, ZF111.1, ZF111.2.1, ZF111.2.2.1, e11, zW_succ, zE_iload, zE_aload, zE_lload, zE_iinc, zE_istore, zE_astore, zE_lstore, zE_iconst, zE_ldc2, zE_iadd, zE_isub, zE_imul, zE_idiv, zE_irem, zE_ineg, zE_iand, zE_ior, zE_ixor, zE_ishl, zE_ishr, zE_land, zE_lor, zE_lxor, zE_lshl, zE_lshr, zE_i2l, zE_lcmp, zE_dup_i, zE_dup_a, zE_dup2_ia, zE_pop_i, zE_pop_a, zE_pop2, zE_goto, zE_if_eq, zE_icmp_eq, zE_if_ne, zE_icmp_ne, zE_if_lt, zE_icmp_lt, zE_if_ge, zE_icmp_ge, zE_if_gt, zE_icmp_gt, zE_if_le, zE_icmp_le, zE_iaload, zE_baload, zE_laload, zE_aaload, zE_iastore, zE_bastore, zE_lastore, zE_aastore, zE_alen, zE_getf0, zE_getf1, zE_getf2, zE_getf3, zE_putf0, zE_putf1, zE_putf2, zE_putf3, zE_new, zE_newa, zE_newq, zE_ireturn, zE_lreturn, zE_areturn, zE_return, zE_athrow, zE_st0, zE_vi0, zE_st1, zE_vi1, zE_st2, zE_vi2, zE_st3, zE_vi3, zE_st4, zE_vi4, zE_st5, zE_vi5, zE_st6, zE_vi6, zE_st7, zE_vi7, zE_st8, zE_vi8, zSt_0, zSL_0, zSt_1n, zSt_1i, zSt_1a, zSt_1l, zSt_2n, zSt_2i, zSt_2a, zSt_2l, zSt_3n, zSt_3i, zSt_3a, zSt_3l, zSt_4n, zSt_4i, zSt_4a, zSt_4l, zSt_5n, zSt_5i, zSt_5a, zSt_5l, zSt_6n, zSt_6i, zSt_6a, zSt_6l, zSt_7n, zSt_7i, zSt_7a, zSt_7l, zSt_8n, zSt_8i, zSt_8a, zSt_8l, zSt_9n, zSt_9i, zSt_9a, zSt_9l, zSt_10n, zSt_10i, zSt_10a, zSt_10l, zSt_11n, zSt_11i, zSt_11a, zSt_11l, zSt_12n, zSt_12i, zSt_12a, zSt_12l, zSt_13n, zSt_13i, zSt_13a, zSt_13l, zSL_1n, zSL_1i, zSL_1a, zSL_1l, zSL_2n, zSL_2i, zSL_2a, zSL_2l, zSL_3n, zSL_3i, zSL_3a, zSL_3l, zSL_4n, zSL_4i, zSL_4a, zSL_4l, zSL_5n, zSL_5i, zSL_5a, zSL_5l, zSL_6n, zSL_6i, zSL_6a, zSL_6l, zSL_7n, zSL_7i, zSL_7a, zSL_7l, zSL_8n, zSL_8i, zSL_8a, zSL_8l, zSL_9n, zSL_9i, zSL_9a, zSL_9l, zSL_10n, zSL_10i, zSL_10a, zSL_10l, zSL_11n, zSL_11i, zSL_11a, zSL_11l, zSL_12n, zSL_12i, zSL_12a, zSL_12l, zLI_0, zLL_0, zLA_0, zLI_1, zLL_1, zLA_1, zLI_2, zLL_2, zLA_2, zLI_3, zLL_3, zLA_3, zLI_4, zLL_4, zLA_4, zLI_5, zLL_5, zLA_5, zLI_6, zLL_6, zLA_6, zLI_7, zLL_7, zLA_7, zLI_8, zLL_8, zLA_8, zLI_9, zLL_9, zLA_9, zLI_10, zLL_10, zLA_10, zLI_11, zLL_11, zLA_11, zLI_12, zLL_12, zLA_12, zLI_13, zLL_13, zLA_13, zst_0, zst_1n, zst_1i, zst_1a, zst_2n, zst_2i, zst_2a, zst_3n, zst_3i, zst_3a, zst_4n, zst_4i, zst_4a, zst_5n, zst_5i, zst_5a, zst_6n, zst_6i, zst_6a, zst_7n, zst_7i, zst_7a, zst_8n, zst_8i, zst_8a, zst_9n, zst_9i, zst_9a, zst_10n, zst_10i, zst_10a, zst_11n, zst_11i, zst_11a, zst_12n, zst_12i, zst_12a, zst_13n, zst_13i, zst_13a, zst_14n, zst_14i, zst_14a, zst_15n, zst_15i, zst_15a, zR1_n, zR1_v, zsum_n, zsum_i, zsum_l, zsum_a, zlen_n, zlen_i, zlen_l, zlen_a, List.not_mem_nil, List.mem_cons, or_false, false_or, or_self, ↓reduceIte, if_false, if_true, Nat.reduceEqDiff, Nat.reduceAdd, Nat.reduceLeDiff, true_and, and_true, reduceCtorEq, ne_eq, Int.toNat_natCast, not_true_eq_false, not_false_eq_true, true_implies, false_implies, implies_true, Int.reduceToNat, Int.toNat_zero, Int.reduceLT, Int.reduceLE, Int.reduceEq, Int.reduceAdd, Int.reduceMul, Int.reduceNeg]
          refine ⟨fun h => absurd h (by omega), fun _ => ⟨fun hy => ?_, fun hy => no hy⟩⟩
          have y9 := yes hy
          exact ⟨by omega, y9.1, by omega, y9.2⟩
      have tail : ∀ (p q : Bool), zhsb t1 (set % 2 ^ c1) = p → zhsb t2 (set / 2 ^ c1) = q → ∀ y9, zFR (zK L) 110 90 [some (.inr (.inr 1105)), some (.inl (h : Int)), some (.inr (.inr s)), some (.inr (.inr t)), some (.inl (set : Int)), some (.inl (i : Int)), some (.inl part), some (.inl (if p = true then 1 else 0)), some (.inl (if q = true then 1 else 0)), y9] [] (zwI M f') Q9 := by
        intro p q hp hq y9
        have o9 := laws p q hp hq 0 (Nat.zero_le _) f' (fun w hw => (h1 w hw).1) (fun w hw => absurd hw (Nat.not_lt_zero w)) (fun w _ hw => by
          have h3 := (h1 w hw).2
          rw [hrem w hw] at h3
          exact h3) h2
        refine zW_sound 60 [93] ?_
        simp only [ZR110, zW_succ, zE_iload, zE_aload, zE_lload, zE_iinc, zE_istore, zE_astore, zE_lstore, zE_iconst, zE_ldc2, zE_iadd, zE_isub, zE_imul, zE_idiv, zE_irem, zE_ineg, zE_iand, zE_ior, zE_ixor, zE_ishl, zE_ishr, zE_land, zE_lor, zE_lxor, zE_lshl, zE_lshr, zE_i2l, zE_lcmp, zE_dup_i, zE_dup_a, zE_dup2_ia, zE_pop_i, zE_pop_a, zE_pop2, zE_goto, zE_if_eq, zE_icmp_eq, zE_if_ne, zE_icmp_ne, zE_if_lt, zE_icmp_lt, zE_if_ge, zE_icmp_ge, zE_if_gt, zE_icmp_gt, zE_if_le, zE_icmp_le, zE_iaload, zE_baload, zE_laload, zE_aaload, zE_iastore, zE_bastore, zE_lastore, zE_aastore, zE_alen, zE_getf0, zE_getf1, zE_getf2, zE_getf3, zE_putf0, zE_putf1, zE_putf2, zE_putf3, zE_new, zE_newa, zE_newq, zE_ireturn, zE_lreturn, zE_areturn, zE_return, zE_athrow, zE_st0, zE_vi0, zE_st1, zE_vi1, zE_st2, zE_vi2, zE_st3, zE_vi3, zE_st4, zE_vi4, zE_st5, zE_vi5, zE_st6, zE_vi6, zE_st7, zE_vi7, zE_st8, zE_vi8, zSt_0, zSL_0, zSt_1n, zSt_1i, zSt_1a, zSt_1l, zSt_2n, zSt_2i, zSt_2a, zSt_2l, zSt_3n, zSt_3i, zSt_3a, zSt_3l, zSt_4n, zSt_4i, zSt_4a, zSt_4l, zSt_5n, zSt_5i, zSt_5a, zSt_5l, zSt_6n, zSt_6i, zSt_6a, zSt_6l, zSt_7n, zSt_7i, zSt_7a, zSt_7l, zSt_8n, zSt_8i, zSt_8a, zSt_8l, zSt_9n, zSt_9i, zSt_9a, zSt_9l, zSt_10n, zSt_10i, zSt_10a, zSt_10l, zSt_11n, zSt_11i, zSt_11a, zSt_11l, zSt_12n, zSt_12i, zSt_12a, zSt_12l, zSt_13n, zSt_13i, zSt_13a, zSt_13l, zSL_1n, zSL_1i, zSL_1a, zSL_1l, zSL_2n, zSL_2i, zSL_2a, zSL_2l, zSL_3n, zSL_3i, zSL_3a, zSL_3l, zSL_4n, zSL_4i, zSL_4a, zSL_4l, zSL_5n, zSL_5i, zSL_5a, zSL_5l, zSL_6n, zSL_6i, zSL_6a, zSL_6l, zSL_7n, zSL_7i, zSL_7a, zSL_7l, zSL_8n, zSL_8i, zSL_8a, zSL_8l, zSL_9n, zSL_9i, zSL_9a, zSL_9l, zSL_10n, zSL_10i, zSL_10a, zSL_10l, zSL_11n, zSL_11i, zSL_11a, zSL_11l, zSL_12n, zSL_12i, zSL_12a, zSL_12l, zLI_0, zLL_0, zLA_0, zLI_1, zLL_1, zLA_1, zLI_2, zLL_2, zLA_2, zLI_3, zLL_3, zLA_3, zLI_4, zLL_4, zLA_4, zLI_5, zLL_5, zLA_5, zLI_6, zLL_6, zLA_6, zLI_7, zLL_7, zLA_7, zLI_8, zLL_8, zLA_8, zLI_9, zLL_9, zLA_9, zLI_10, zLL_10, zLA_10, zLI_11, zLL_11, zLA_11, zLI_12, zLL_12, zLA_12, zLI_13, zLL_13, zLA_13, zst_0, zst_1n, zst_1i, zst_1a, zst_2n, zst_2i, zst_2a, zst_3n, zst_3i, zst_3a, zst_4n, zst_4i, zst_4a, zst_5n, zst_5i, zst_5a, zst_6n, zst_6i, zst_6a, zst_7n, zst_7i, zst_7a, zst_8n, zst_8i, zst_8a, zst_9n, zst_9i, zst_9a, zst_10n, zst_10i, zst_10a, zst_11n, zst_11i, zst_11a, zst_12n, zst_12i, zst_12a, zst_13n, zst_13i, zst_13a, zst_14n, zst_14i, zst_14a, zst_15n, zst_15i, zst_15a, zR1_n, zR1_v, zsum_n, zsum_i, zsum_l, zsum_a, zlen_n, zlen_i, zlen_l, zlen_a, List.not_mem_nil, List.mem_cons, or_false, false_or, or_self, ↓reduceIte, if_false, if_true, Nat.reduceEqDiff, Nat.reduceAdd, Nat.reduceLeDiff, true_and, and_true, reduceCtorEq, ne_eq, Int.toNat_natCast, not_true_eq_false, not_false_eq_true, true_implies, false_implies, implies_true, Int.reduceToNat, Int.toNat_zero, Int.reduceLT, Int.reduceLE, Int.reduceEq, Int.reduceAdd, Int.reduceMul, Int.reduceNeg]
        exact o9
      have nf : ∀ {t : Int} {v : Nat}, ¬ zhs t v → zhsb t v = false := fun h => Bool.eq_false_iff.mpr (fun h2 => h (zhsb_iff.mp h2))
      have eT : ((i : Int) + 1).toNat = i + 1 := by omega
      refine zW_sound 60 [90, 135] ?_
      simp only [ZR110, zk_1105, zk_1111, zk_1112, zk_1113, k1, l1, hF, zwI_I, zwI_2, e9, eia, eT, eic, ema, emc, eba, exor, hP, es10, zshr_n (x := set) (k := c1) (by omega) (by omega), ZF91.1, ZF91.2.1, ZF91.2.2.1, e91, ZF92.1, ZF92.2.1, ZF92.2.2.1, e92a, e92b, zW_succ, zE_iload, zE_aload, zE_lload, zE_iinc, zE_istore, zE_astore, zE_lstore, zE_iconst, zE_ldc2, zE_iadd, zE_isub, zE_imul, zE_idiv, zE_irem, zE_ineg, zE_iand, zE_ior, zE_ixor, zE_ishl, zE_ishr, zE_land, zE_lor, zE_lxor, zE_lshl, zE_lshr, zE_i2l, zE_lcmp, zE_dup_i, zE_dup_a, zE_dup2_ia, zE_pop_i, zE_pop_a, zE_pop2, zE_goto, zE_if_eq, zE_icmp_eq, zE_if_ne, zE_icmp_ne, zE_if_lt, zE_icmp_lt, zE_if_ge, zE_icmp_ge, zE_if_gt, zE_icmp_gt, zE_if_le, zE_icmp_le, zE_iaload, zE_baload, zE_laload, zE_aaload, zE_iastore, zE_bastore, zE_lastore, zE_aastore, zE_alen, zE_getf0, zE_getf1, zE_getf2, zE_getf3, zE_putf0, zE_putf1, zE_putf2, zE_putf3, zE_new, zE_newa, zE_newq, zE_ireturn, zE_lreturn, zE_areturn, zE_return, zE_athrow, zE_st0, zE_vi0, zE_st1, zE_vi1, zE_st2, zE_vi2, zE_st3, zE_vi3, zE_st4, zE_vi4, zE_st5, zE_vi5, zE_st6, zE_vi6, zE_st7, zE_vi7, zE_st8, zE_vi8, zSt_0, zSL_0, zSt_1n, zSt_1i, zSt_1a, zSt_1l, zSt_2n, zSt_2i, zSt_2a, zSt_2l, zSt_3n, zSt_3i, zSt_3a, zSt_3l, zSt_4n, zSt_4i, zSt_4a, zSt_4l, zSt_5n, zSt_5i, zSt_5a, zSt_5l, zSt_6n, zSt_6i, zSt_6a, zSt_6l, zSt_7n, zSt_7i, zSt_7a, zSt_7l, zSt_8n, zSt_8i, zSt_8a, zSt_8l, zSt_9n, zSt_9i, zSt_9a, zSt_9l, zSt_10n, zSt_10i, zSt_10a, zSt_10l, zSt_11n, zSt_11i, zSt_11a, zSt_11l, zSt_12n, zSt_12i, zSt_12a, zSt_12l, zSt_13n, zSt_13i, zSt_13a, zSt_13l, zSL_1n, zSL_1i, zSL_1a, zSL_1l, zSL_2n, zSL_2i, zSL_2a, zSL_2l, zSL_3n, zSL_3i, zSL_3a, zSL_3l, zSL_4n, zSL_4i, zSL_4a, zSL_4l, zSL_5n, zSL_5i, zSL_5a, zSL_5l, zSL_6n, zSL_6i, zSL_6a, zSL_6l, zSL_7n, zSL_7i, zSL_7a, zSL_7l, zSL_8n, zSL_8i, zSL_8a, zSL_8l, zSL_9n, zSL_9i, zSL_9a, zSL_9l, zSL_10n, zSL_10i, zSL_10a, zSL_10l, zSL_11n, zSL_11i, zSL_11a, zSL_11l, zSL_12n, zSL_12i, zSL_12a, zSL_12l, zLI_0, zLL_0, zLA_0, zLI_1, zLL_1, zLA_1, zLI_2, zLL_2, zLA_2, zLI_3, zLL_3, zLA_3, zLI_4, zLL_4, zLA_4, zLI_5, zLL_5, zLA_5, zLI_6, zLL_6, zLA_6, zLI_7, zLL_7, zLA_7, zLI_8, zLL_8, zLA_8, zLI_9, zLL_9, zLA_9, zLI_10, zLL_10, zLA_10, zLI_11, zLL_11, zLA_11, zLI_12, zLL_12, zLA_12, zLI_13, zLL_13, zLA_13, zst_0, zst_1n, zst_1i, zst_1a, zst_2n, zst_2i, zst_2a, zst_3n, zst_3i, zst_3a, zst_4n, zst_4i, zst_4a, zst_5n, zst_5i, zst_5a, zst_6n, zst_6i, zst_6a, zst_7n, zst_7i, zst_7a, zst_8n, zst_8i, zst_8a, zst_9n, zst_9i, zst_9a, zst_10n, zst_10i, zst_10a, zst_11n, zst_11i, zst_11a, zst_12n, zst_12i, zst_12a, zst_13n, zst_13i, zst_13a, zst_14n, zst_14i, zst_14a, zst_15n, zst_15i, zst_15a, zR1_n, zR1_v, zsum_n, zsum_i, zsum_l, zsum_a, zlen_n, zlen_i, zlen_l, zlen_a, List.not_mem_nil, List.mem_cons, or_false, false_or, or_self, ↓reduceIte, if_false, if_true, Nat.reduceEqDiff, Nat.reduceAdd, Nat.reduceLeDiff, true_and, and_true, reduceCtorEq, ne_eq, Int.toNat_natCast, not_true_eq_false, not_false_eq_true, true_implies, false_implies, implies_true, Int.reduceToNat, Int.toNat_zero, Int.reduceLT, Int.reduceLE, Int.reduceEq, Int.reduceAdd, Int.reduceMul, Int.reduceNeg]
      refine ⟨by unfold zr32; omega, fun h => absurd h (by omega), fun _ => ?_⟩
      repeat (first | refine ⟨by omega, ?_⟩ | refine ⟨by unfold zr32; omega, ?_⟩)
      exact ⟨fun u1 => ⟨fun u2 => tail true true (zhsb_iff.mpr u1) (zhsb_iff.mpr u2) _, fun u2 => tail true false (zhsb_iff.mpr u1) (nf u2) _⟩, fun u1 => ⟨fun u2 => tail false true (nf u1) (zhsb_iff.mpr u2) _, fun u2 => tail false false (nf u1) (nf u2) _⟩⟩
  cases hkk : k with
  | nil =>
    have o9 := exit f 0 0 none none none none (fun w hw => by rw [hkk]; show f 1106 w = f 1106 w + (h : Int) * 0; omega) (fun a _ => rfl) (by rw [hkk]; exact Nat.zero_le _) (by omega)
    refine zW_sound 60 [6] ?_
    simp only [ZF110, ZR110, zW_succ, zE_iload, zE_aload, zE_lload, zE_iinc, zE_istore, zE_astore, zE_lstore, zE_iconst, zE_ldc2, zE_iadd, zE_isub, zE_imul, zE_idiv, zE_irem, zE_ineg, zE_iand, zE_ior, zE_ixor, zE_ishl, zE_ishr, zE_land, zE_lor, zE_lxor, zE_lshl, zE_lshr, zE_i2l, zE_lcmp, zE_dup_i, zE_dup_a, zE_dup2_ia, zE_pop_i, zE_pop_a, zE_pop2, zE_goto, zE_if_eq, zE_icmp_eq, zE_if_ne, zE_icmp_ne, zE_if_lt, zE_icmp_lt, zE_if_ge, zE_icmp_ge, zE_if_gt, zE_icmp_gt, zE_if_le, zE_icmp_le, zE_iaload, zE_baload, zE_laload, zE_aaload, zE_iastore, zE_bastore, zE_lastore, zE_aastore, zE_alen, zE_getf0, zE_getf1, zE_getf2, zE_getf3, zE_putf0, zE_putf1, zE_putf2, zE_putf3, zE_new, zE_newa, zE_newq, zE_ireturn, zE_lreturn, zE_areturn, zE_return, zE_athrow, zE_st0, zE_vi0, zE_st1, zE_vi1, zE_st2, zE_vi2, zE_st3, zE_vi3, zE_st4, zE_vi4, zE_st5, zE_vi5, zE_st6, zE_vi6, zE_st7, zE_vi7, zE_st8, zE_vi8, zSt_0, zSL_0, zSt_1n, zSt_1i, zSt_1a, zSt_1l, zSt_2n, zSt_2i, zSt_2a, zSt_2l, zSt_3n, zSt_3i, zSt_3a, zSt_3l, zSt_4n, zSt_4i, zSt_4a, zSt_4l, zSt_5n, zSt_5i, zSt_5a, zSt_5l, zSt_6n, zSt_6i, zSt_6a, zSt_6l, zSt_7n, zSt_7i, zSt_7a, zSt_7l, zSt_8n, zSt_8i, zSt_8a, zSt_8l, zSt_9n, zSt_9i, zSt_9a, zSt_9l, zSt_10n, zSt_10i, zSt_10a, zSt_10l, zSt_11n, zSt_11i, zSt_11a, zSt_11l, zSt_12n, zSt_12i, zSt_12a, zSt_12l, zSt_13n, zSt_13i, zSt_13a, zSt_13l, zSL_1n, zSL_1i, zSL_1a, zSL_1l, zSL_2n, zSL_2i, zSL_2a, zSL_2l, zSL_3n, zSL_3i, zSL_3a, zSL_3l, zSL_4n, zSL_4i, zSL_4a, zSL_4l, zSL_5n, zSL_5i, zSL_5a, zSL_5l, zSL_6n, zSL_6i, zSL_6a, zSL_6l, zSL_7n, zSL_7i, zSL_7a, zSL_7l, zSL_8n, zSL_8i, zSL_8a, zSL_8l, zSL_9n, zSL_9i, zSL_9a, zSL_9l, zSL_10n, zSL_10i, zSL_10a, zSL_10l, zSL_11n, zSL_11i, zSL_11a, zSL_11l, zSL_12n, zSL_12i, zSL_12a, zSL_12l, zLI_0, zLL_0, zLA_0, zLI_1, zLL_1, zLA_1, zLI_2, zLL_2, zLA_2, zLI_3, zLL_3, zLA_3, zLI_4, zLL_4, zLA_4, zLI_5, zLL_5, zLA_5, zLI_6, zLL_6, zLA_6, zLI_7, zLL_7, zLA_7, zLI_8, zLL_8, zLA_8, zLI_9, zLL_9, zLA_9, zLI_10, zLL_10, zLA_10, zLI_11, zLL_11, zLA_11, zLI_12, zLL_12, zLA_12, zLI_13, zLL_13, zLA_13, zst_0, zst_1n, zst_1i, zst_1a, zst_2n, zst_2i, zst_2a, zst_3n, zst_3i, zst_3a, zst_4n, zst_4i, zst_4a, zst_5n, zst_5i, zst_5a, zst_6n, zst_6i, zst_6a, zst_7n, zst_7i, zst_7a, zst_8n, zst_8i, zst_8a, zst_9n, zst_9i, zst_9a, zst_10n, zst_10i, zst_10a, zst_11n, zst_11i, zst_11a, zst_12n, zst_12i, zst_12a, zst_13n, zst_13i, zst_13a, zst_14n, zst_14i, zst_14a, zst_15n, zst_15i, zst_15a, zR1_n, zR1_v, zsum_n, zsum_i, zsum_l, zsum_a, zlen_n, zlen_i, zlen_l, zlen_a, List.not_mem_nil, List.mem_cons, or_false, false_or, or_self, ↓reduceIte, if_false, if_true, Nat.reduceEqDiff, Nat.reduceAdd, Nat.reduceLeDiff, true_and, and_true, reduceCtorEq, ne_eq, Int.toNat_natCast, not_true_eq_false, not_false_eq_true, true_implies, false_implies, implies_true, Int.reduceToNat, Int.toNat_zero, Int.reduceLT, Int.reduceLE, Int.reduceEq, Int.reduceAdd, Int.reduceMul, Int.reduceNeg]
    exact o9
  | cons a r =>
    have o9 := loop r a 0 0 f none none none none (by rw [hkk]; rfl) (Nat.two_pow_pos _) (fun w hw => ⟨(hS w hw).1, by rw [hkk]; rfl⟩) (fun a _ => rfl)
    refine zW_sound 60 [6] ?_
    simp only [ZF110, ZR110, zW_succ, zE_iload, zE_aload, zE_lload, zE_iinc, zE_istore, zE_astore, zE_lstore, zE_iconst, zE_ldc2, zE_iadd, zE_isub, zE_imul, zE_idiv, zE_irem, zE_ineg, zE_iand, zE_ior, zE_ixor, zE_ishl, zE_ishr, zE_land, zE_lor, zE_lxor, zE_lshl, zE_lshr, zE_i2l, zE_lcmp, zE_dup_i, zE_dup_a, zE_dup2_ia, zE_pop_i, zE_pop_a, zE_pop2, zE_goto, zE_if_eq, zE_icmp_eq, zE_if_ne, zE_icmp_ne, zE_if_lt, zE_icmp_lt, zE_if_ge, zE_icmp_ge, zE_if_gt, zE_icmp_gt, zE_if_le, zE_icmp_le, zE_iaload, zE_baload, zE_laload, zE_aaload, zE_iastore, zE_bastore, zE_lastore, zE_aastore, zE_alen, zE_getf0, zE_getf1, zE_getf2, zE_getf3, zE_putf0, zE_putf1, zE_putf2, zE_putf3, zE_new, zE_newa, zE_newq, zE_ireturn, zE_lreturn, zE_areturn, zE_return, zE_athrow, zE_st0, zE_vi0, zE_st1, zE_vi1, zE_st2, zE_vi2, zE_st3, zE_vi3, zE_st4, zE_vi4, zE_st5, zE_vi5, zE_st6, zE_vi6, zE_st7, zE_vi7, zE_st8, zE_vi8, zSt_0, zSL_0, zSt_1n, zSt_1i, zSt_1a, zSt_1l, zSt_2n, zSt_2i, zSt_2a, zSt_2l, zSt_3n, zSt_3i, zSt_3a, zSt_3l, zSt_4n, zSt_4i, zSt_4a, zSt_4l, zSt_5n, zSt_5i, zSt_5a, zSt_5l, zSt_6n, zSt_6i, zSt_6a, zSt_6l, zSt_7n, zSt_7i, zSt_7a, zSt_7l, zSt_8n, zSt_8i, zSt_8a, zSt_8l, zSt_9n, zSt_9i, zSt_9a, zSt_9l, zSt_10n, zSt_10i, zSt_10a, zSt_10l, zSt_11n, zSt_11i, zSt_11a, zSt_11l, zSt_12n, zSt_12i, zSt_12a, zSt_12l, zSt_13n, zSt_13i, zSt_13a, zSt_13l, zSL_1n, zSL_1i, zSL_1a, zSL_1l, zSL_2n, zSL_2i, zSL_2a, zSL_2l, zSL_3n, zSL_3i, zSL_3a, zSL_3l, zSL_4n, zSL_4i, zSL_4a, zSL_4l, zSL_5n, zSL_5i, zSL_5a, zSL_5l, zSL_6n, zSL_6i, zSL_6a, zSL_6l, zSL_7n, zSL_7i, zSL_7a, zSL_7l, zSL_8n, zSL_8i, zSL_8a, zSL_8l, zSL_9n, zSL_9i, zSL_9a, zSL_9l, zSL_10n, zSL_10i, zSL_10a, zSL_10l, zSL_11n, zSL_11i, zSL_11a, zSL_11l, zSL_12n, zSL_12i, zSL_12a, zSL_12l, zLI_0, zLL_0, zLA_0, zLI_1, zLL_1, zLA_1, zLI_2, zLL_2, zLA_2, zLI_3, zLL_3, zLA_3, zLI_4, zLL_4, zLA_4, zLI_5, zLL_5, zLA_5, zLI_6, zLL_6, zLA_6, zLI_7, zLL_7, zLA_7, zLI_8, zLL_8, zLA_8, zLI_9, zLL_9, zLA_9, zLI_10, zLL_10, zLA_10, zLI_11, zLL_11, zLA_11, zLI_12, zLL_12, zLA_12, zLI_13, zLL_13, zLA_13, zst_0, zst_1n, zst_1i, zst_1a, zst_2n, zst_2i, zst_2a, zst_3n, zst_3i, zst_3a, zst_4n, zst_4i, zst_4a, zst_5n, zst_5i, zst_5a, zst_6n, zst_6i, zst_6a, zst_7n, zst_7i, zst_7a, zst_8n, zst_8i, zst_8a, zst_9n, zst_9i, zst_9a, zst_10n, zst_10i, zst_10a, zst_11n, zst_11i, zst_11a, zst_12n, zst_12i, zst_12a, zst_13n, zst_13i, zst_13a, zst_14n, zst_14i, zst_14a, zst_15n, zst_15i, zst_15a, zR1_n, zR1_v, zsum_n, zsum_i, zsum_l, zsum_a, zlen_n, zlen_i, zlen_l, zlen_a, List.not_mem_nil, List.mem_cons, or_false, false_or, or_self, ↓reduceIte, if_false, if_true, Nat.reduceEqDiff, Nat.reduceAdd, Nat.reduceLeDiff, true_and, and_true, reduceCtorEq, ne_eq, Int.toNat_natCast, not_true_eq_false, not_false_eq_true, true_implies, false_implies, implies_true, Int.reduceToNat, Int.toNat_zero, Int.reduceLT, Int.reduceLE, Int.reduceEq, Int.reduceAdd, Int.reduceMul, Int.reduceNeg]
    exact o9
end ZASTRIP
