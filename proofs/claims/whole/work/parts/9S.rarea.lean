/-! the reference: a strip; an area -/
section ZRAREA
variable {L : Nat} {M : zM} {s t : Nat} {Q : zO → zM → Prop}
theorem c305 {f : Nat → Nat → Int} {l : List zEd} {w : Int} {u v c1 n : Nat} (hR : zLay M.2.2.2) (hn : l.length ≤ 64) (hA : zEA l) (hE : zRE f l) (hs : s ≤ 60) (ht : t ≤ 60) (hc1 : f 1174 s = (c1 : Int)) (hc14 : c1 ≤ 4) (h1 : 0 ≤ f 1175 s ∧ f 1175 s < 65536) (h2 : 0 ≤ f 1175 t ∧ f 1175 t < 65536) (hb : ∀ e, e < l.length → zebi l e < 2 ^ n) (hn8 : n ≤ 8) (hw : w < 0 ∨ n ≤ c1 + 4) (huv : u < v) (hv : v ≤ 3600) : zFR (zK L) 305 0 (zcall 305 [.inr (.inr 1153), .inl w, .inl (s : Int), .inl (t : Int), .inl (u : Int), .inl (v : Int)]) [] (zwI M f) (fun r M2 => ∃ f', r = .inl (some (.inl (zSV l (zg3 w (f 1175 s) (f 1175 t) c1) (u : Int) (v : Int) * ((v : Int) - (u : Int))))) ∧ M2 = zwI M f' ∧ ∀ a, a ≠ 1197 → f' a = f a) := by
  have hF := hR.1
  unfold zLayF at hF
  obtain ⟨r6, M6, ⟨f6, k, hr6, hM6, al, pm, so, fr⟩, e306⟩ := zFRx (c306 (L := L) (M := M) (f := f) (l := l) (u := (u : Int)) (v := (v : Int)) hR hn hA hE (by omega) (by omega))
  subst hr6 hM6
  rw [← zSV_of so pm]
  have hmem : ∀ e, e ∈ k → e < l.length ∧ 60 * (zegd l e).1 ≤ (u : Int) ∧ (v : Int) ≤ 60 * (zegd l e).2.1 := fun e he => by
    have h2 := List.mem_filter.mp (pm.mem_iff.mp he)
    exact ⟨List.mem_range.mp h2.1, of_decide_eq_true h2.2⟩
  have hmb : ∀ e, e ∈ k → 0 ≤ zmd2 l (u : Int) (v : Int) e ∧ zmd2 l (u : Int) (v : Int) e ≤ 14400 := fun e he => by
    obtain ⟨q1, q2, q3⟩ := hmem e he
    exact zmd2_a (hA e q1) q2 q3 (by omega)
  have hk6 : k.length ≤ 64 := by
    have h2 := List.length_filter_le (fun e => decide (60 * (zegd l e).1 ≤ (u : Int) ∧ (v : Int) ≤ 60 * (zegd l e).2.1)) (List.range l.length)
    rw [List.length_range] at h2
    have h3 := pm.length_eq
    unfold zAct at h3
    omega
  have es1 : f6 1174 s = (c1 : Int) := by rw [fr 1174 (by omega)]; exact hc1
  have et1 : f6 1175 s = f 1175 s := by rw [fr 1175 (by omega)]
  have et2 : f6 1175 t = f 1175 t := by rw [fr 1175 (by omega)]
  have hE6 := zRE_f fr hE
  have hV := zFV_b (g := zg3 w (f 1175 s) (f 1175 t) c1) (b := zebi l) (C := 14400) (by omega) so hmb
  generalize hT1 : f 1175 s = t1 at *
  generalize hT2 : f 1175 t = t2 at *
  obtain ⟨h, hh⟩ : ∃ h : Nat, (h : Int) = (v : Int) - (u : Int) := ⟨v - u, by omega⟩
  have hF2 : 0 ≤ (h : Int) * zFV (zmd2 l (u : Int) (v : Int)) (zebi l) (zg3 w t1 t2 c1) k ∧ (h : Int) * zFV (zmd2 l (u : Int) (v : Int)) (zebi l) (zg3 w t1 t2 c1) k ≤ 3600 * 14400 := ⟨Int.mul_nonneg (by omega) hV.1, Int.mul_le_mul (by omega) hV.2 hV.1 (by omega)⟩
  have p8 : 2 ^ n ≤ 256 := Nat.pow_le_pow_right (n := 2) (by omega) hn8
  have hq : ∀ set, set < 2 ^ n → (w < 0 ∨ set / 2 ^ c1 < 32) := fun set hset => by
    rcases hw with h3 | h3
    · exact Or.inl h3
    · right
      have h4 : 2 ^ n ≤ 2 ^ (c1 + 4) := Nat.pow_le_pow_right (by omega) h3
      rw [Nat.pow_add] at h4
      have h5 : set / 2 ^ c1 < 2 ^ 4 := Nat.div_lt_of_lt_mul (by omega)
      omega
  rw [← hh]
  generalize hQ : (fun r M2 => ∃ f', r = (Sum.inl (some (Sum.inl (zFV (zmd2 l (u : Int) (v : Int)) (zebi l) (zg3 w t1 t2 c1) k * (h : Int)))) : zO) ∧ M2 = zwI M f' ∧ ∀ a, a ≠ 1197 → f' a = f a) = Q9
  have exit : ∀ (i acc : Nat) (all : Int) y10 y11, all = (h : Int) * zFV (zmd2 l (u : Int) (v : Int)) (zebi l) (zg3 w t1 t2 c1) k → k.length ≤ i + 1 → i ≤ 64 → zFR (zK L) 305 19 [some (.inr (.inr 1153)), some (.inl w), some (.inl (s : Int)), some (.inl (t : Int)), some (.inl (u : Int)), some (.inl (v : Int)), some (.inl (k.length : Int)), some (.inl (acc : Int)), some (.inl all), some (.inl (i : Int)), y10, y11] [] (zwI M f6) Q9 := by
    intro i acc all y10 y11 ha h3 h4
    have q9 : Q9 (.inl (some (.inl all))) (zwI M f6) := by
      subst hQ
      exact ⟨f6, by rw [ha, Int.mul_comm], rfl, fr⟩
    refine zW_sound 60 [124] ?_
    simp only [ZR305, zW_succ, zE_iload, zE_aload, zE_lload, zE_iinc, zE_istore, zE_astore, zE_lstore, zE_iconst, zE_ldc2, zE_iadd, zE_isub, zE_imul, zE_idiv, zE_irem, zE_ineg, zE_iand, zE_ior, zE_ixor, zE_ishl, zE_ishr, zE_land, zE_lor, zE_lxor, zE_lshl, zE_lshr, zE_i2l, zE_lcmp, zE_dup_i, zE_dup_a, zE_dup2_ia, zE_pop_i, zE_pop_a, zE_pop2, zE_goto, zE_if_eq, zE_icmp_eq, zE_if_ne, zE_icmp_ne, zE_if_lt, zE_icmp_lt, zE_if_ge, zE_icmp_ge, zE_if_gt, zE_icmp_gt, zE_if_le, zE_icmp_le, zE_iaload, zE_baload, zE_laload, zE_aaload, zE_iastore, zE_bastore, zE_lastore, zE_aastore, zE_alen, zE_getf0, zE_getf1, zE_getf2, zE_getf3, zE_putf0, zE_putf1, zE_putf2, zE_putf3, zE_new, zE_newa, zE_newq, zE_ireturn, zE_lreturn, zE_areturn, zE_return, zE_athrow, zE_st0, zE_vi0, zE_st1, zE_vi1, zE_st2, zE_vi2, zE_st3, zE_vi3, zE_st4, zE_vi4, zE_st5, zE_vi5, zE_st6, zE_vi6, zE_st7, zE_vi7, zE_st8, zE_vi8, zSt_0, zSL_0, zSt_1n, zSt_1i, zSt_1a, zSt_1l, zSt_2n, zSt_2i, zSt_2a, zSt_2l, zSt_3n, zSt_3i, zSt_3a, zSt_3l, zSt_4n, zSt_4i, zSt_4a, zSt_4l, zSt_5n, zSt_5i, zSt_5a, zSt_5l, zSt_6n, zSt_6i, zSt_6a, zSt_6l, zSt_7n, zSt_7i, zSt_7a, zSt_7l, zSt_8n, zSt_8i, zSt_8a, zSt_8l, zSt_9n, zSt_9i, zSt_9a, zSt_9l, zSt_10n, zSt_10i, zSt_10a, zSt_10l, zSt_11n, zSt_11i, zSt_11a, zSt_11l, zSt_12n, zSt_12i, zSt_12a, zSt_12l, zSt_13n, zSt_13i, zSt_13a, zSt_13l, zSL_1n, zSL_1i, zSL_1a, zSL_1l, zSL_2n, zSL_2i, zSL_2a, zSL_2l, zSL_3n, zSL_3i, zSL_3a, zSL_3l, zSL_4n, zSL_4i, zSL_4a, zSL_4l, zSL_5n, zSL_5i, zSL_5a, zSL_5l, zSL_6n, zSL_6i, zSL_6a, zSL_6l, zSL_7n, zSL_7i, zSL_7a, zSL_7l, zSL_8n, zSL_8i, zSL_8a, zSL_8l, zSL_9n, zSL_9i, zSL_9a, zSL_9l, zSL_10n, zSL_10i, zSL_10a, zSL_10l, zSL_11n, zSL_11i, zSL_11a, zSL_11l, zSL_12n, zSL_12i, zSL_12a, zSL_12l, zLI_0, zLL_0, zLA_0, zLI_1, zLL_1, zLA_1, zLI_2, zLL_2, zLA_2, zLI_3, zLL_3, zLA_3, zLI_4, zLL_4, zLA_4, zLI_5, zLL_5, zLA_5, zLI_6, zLL_6, zLA_6, zLI_7, zLL_7, zLA_7, zLI_8, zLL_8, zLA_8, zLI_9, zLL_9, zLA_9, zLI_10, zLL_10, zLA_10, zLI_11, zLL_11, zLA_11, zLI_12, zLL_12, zLA_12, zLI_13, zLL_13, zLA_13, zst_0, zst_1n, zst_1i, zst_1a, zst_2n, zst_2i, zst_2a, zst_3n, zst_3i, zst_3a, zst_4n, zst_4i, zst_4a, zst_5n, zst_5i, zst_5a, zst_6n, zst_6i, zst_6a, zst_7n, zst_7i, zst_7a, zst_8n, zst_8i, zst_8a, zst_9n, zst_9i, zst_9a, zst_10n, zst_10i, zst_10a, zst_11n, zst_11i, zst_11a, zst_12n, zst_12i, zst_12a, zst_13n, zst_13i, zst_13a, zst_14n, zst_14i, zst_14a, zst_15n, zst_15i, zst_15a, zR1_n, zR1_v, zsum_n, zsum_i, zsum_l, zsum_a, zlen_n, zlen_i, zlen_l, zlen_a, List.not_mem_nil, List.mem_cons, or_false, false_or, or_self, ↓reduceIte, if_false, if_true, Nat.reduceEqDiff, Nat.reduceAdd, Nat.reduceLeDiff, true_and, and_true, reduceCtorEq, ne_eq, Int.toNat_natCast, not_true_eq_false, not_false_eq_true, true_implies, false_implies, implies_true, Int.reduceToNat, Int.toNat_zero, Int.reduceLT, Int.reduceLE, Int.reduceEq, Int.reduceAdd, Int.reduceMul, Int.reduceNeg]
    refine ⟨by unfold zr32; omega, fun _ => ?_, fun h => absurd (by omega) h⟩
    refine zW_sound 60 [] ?_
    simp only [ZR305, zW_succ, zE_iload, zE_aload, zE_lload, zE_iinc, zE_istore, zE_astore, zE_lstore, zE_iconst, zE_ldc2, zE_iadd, zE_isub, zE_imul, zE_idiv, zE_irem, zE_ineg, zE_iand, zE_ior, zE_ixor, zE_ishl, zE_ishr, zE_land, zE_lor, zE_lxor, zE_lshl, zE_lshr, zE_i2l, zE_lcmp, zE_dup_i, zE_dup_a, zE_dup2_ia, zE_pop_i, zE_pop_a, zE_pop2, zE_goto, zE_if_eq, zE_icmp_eq, zE_if_ne, zE_icmp_ne, zE_if_lt, zE_icmp_lt, zE_if_ge, zE_icmp_ge, zE_if_gt, zE_icmp_gt, zE_if_le, zE_icmp_le, zE_iaload, zE_baload, zE_laload, zE_aaload, zE_iastore, zE_bastore, zE_lastore, zE_aastore, zE_alen, zE_getf0, zE_getf1, zE_getf2, zE_getf3, zE_putf0, zE_putf1, zE_putf2, zE_putf3, zE_new, zE_newa, zE_newq, zE_ireturn, zE_lreturn, zE_areturn, zE_return, zE_athrow, zE_st0, zE_vi0, zE_st1, zE_vi1, zE_st2, zE_vi2, zE_st3, zE_vi3, zE_st4, zE_vi4, zE_st5, zE_vi5, zE_st6, zE_vi6, zE_st7, zE_vi7, zE_st8, zE_vi8, zSt_0, zSL_0, zSt_1n, zSt_1i, zSt_1a, zSt_1l, zSt_2n, zSt_2i, zSt_2a, zSt_2l, zSt_3n, zSt_3i, zSt_3a, zSt_3l, zSt_4n, zSt_4i, zSt_4a, zSt_4l, zSt_5n, zSt_5i, zSt_5a, zSt_5l, zSt_6n, zSt_6i, zSt_6a, zSt_6l, zSt_7n, zSt_7i, zSt_7a, zSt_7l, zSt_8n, zSt_8i, zSt_8a, zSt_8l, zSt_9n, zSt_9i, zSt_9a, zSt_9l, zSt_10n, zSt_10i, zSt_10a, zSt_10l, zSt_11n, zSt_11i, zSt_11a, zSt_11l, zSt_12n, zSt_12i, zSt_12a, zSt_12l, zSt_13n, zSt_13i, zSt_13a, zSt_13l, zSL_1n, zSL_1i, zSL_1a, zSL_1l, zSL_2n, zSL_2i, zSL_2a, zSL_2l, zSL_3n, zSL_3i, zSL_3a, zSL_3l, zSL_4n, zSL_4i, zSL_4a, zSL_4l, zSL_5n, zSL_5i, zSL_5a, zSL_5l, zSL_6n, zSL_6i, zSL_6a, zSL_6l, zSL_7n, zSL_7i, zSL_7a, zSL_7l, zSL_8n, zSL_8i, zSL_8a, zSL_8l, zSL_9n, zSL_9i, zSL_9a, zSL_9l, zSL_10n, zSL_10i, zSL_10a, zSL_10l, zSL_11n, zSL_11i, zSL_11a, zSL_11l, zSL_12n, zSL_12i, zSL_12a, zSL_12l, zLI_0, zLL_0, zLA_0, zLI_1, zLL_1, zLA_1, zLI_2, zLL_2, zLA_2, zLI_3, zLL_3, zLA_3, zLI_4, zLL_4, zLA_4, zLI_5, zLL_5, zLA_5, zLI_6, zLL_6, zLA_6, zLI_7, zLL_7, zLA_7, zLI_8, zLL_8, zLA_8, zLI_9, zLL_9, zLA_9, zLI_10, zLL_10, zLA_10, zLI_11, zLL_11, zLA_11, zLI_12, zLL_12, zLA_12, zLI_13, zLL_13, zLA_13, zst_0, zst_1n, zst_1i, zst_1a, zst_2n, zst_2i, zst_2a, zst_3n, zst_3i, zst_3a, zst_4n, zst_4i, zst_4a, zst_5n, zst_5i, zst_5a, zst_6n, zst_6i, zst_6a, zst_7n, zst_7i, zst_7a, zst_8n, zst_8i, zst_8a, zst_9n, zst_9i, zst_9a, zst_10n, zst_10i, zst_10a, zst_11n, zst_11i, zst_11a, zst_12n, zst_12i, zst_12a, zst_13n, zst_13i, zst_13a, zst_14n, zst_14i, zst_14a, zst_15n, zst_15i, zst_15a, zR1_n, zR1_v, zsum_n, zsum_i, zsum_l, zsum_a, zlen_n, zlen_i, zlen_l, zlen_a, List.not_mem_nil, List.mem_cons, or_false, false_or, or_self, ↓reduceIte, if_false, if_true, Nat.reduceEqDiff, Nat.reduceAdd, Nat.reduceLeDiff, true_and, and_true, reduceCtorEq, ne_eq, Int.toNat_natCast, not_true_eq_false, not_false_eq_true, true_implies, false_implies, implies_true, Int.reduceToNat, Int.toNat_zero, Int.reduceLT, Int.reduceLE, Int.reduceEq, Int.reduceAdd, Int.reduceMul, Int.reduceNeg]
    exact q9
  have loop : ∀ (r : List Nat) (a i acc : Nat) (all : Int) y10 y11, k.drop i = a :: r → acc < 2 ^ n → 0 ≤ all → all + (h : Int) * zF (zmd2 l (u : Int) (v : Int)) (zebi l) (zg3 w t1 t2 c1) (acc ^^^ zebi l a) (zmd2 l (u : Int) (v : Int) a) r = (h : Int) * zFV (zmd2 l (u : Int) (v : Int)) (zebi l) (zg3 w t1 t2 c1) k → zFR (zK L) 305 19 [some (.inr (.inr 1153)), some (.inl w), some (.inl (s : Int)), some (.inl (t : Int)), some (.inl (u : Int)), some (.inl (v : Int)), some (.inl (k.length : Int)), some (.inl (acc : Int)), some (.inl all), some (.inl (i : Int)), y10, y11] [] (zwI M f6) Q9 := by
    intro r
    induction r with
    | nil =>
      intro a i acc all y10 y11 hd hacc h0 hsum
      have hl : (k.drop i).length = 1 := by rw [hd]; rfl
      rw [List.length_drop] at hl
      rw [zF_n, Int.mul_zero, Int.add_zero] at hsum
      exact exit i acc all y10 y11 hsum (by omega) (by omega)
    | cons c r ih =>
      intro a i acc all y10 y11 hd hacc h0 hsum
      have hl : (k.drop i).length = r.length + 2 := by rw [hd]; rfl
      rw [List.length_drop] at hl
      have ga : k[i]? = some a := by
        have h3 : (k.drop i)[0]? = some a := by rw [hd]; rfl
        rw [List.getElem?_drop] at h3
        exact h3
      have gc : k[i + 1]? = some c := by
        have h3 : (k.drop i)[1]? = some c := by rw [hd]; rfl
        rw [List.getElem?_drop] at h3
        exact h3
      have hd2 : k.drop (i + 1) = c :: r := by
        have h3 : k.drop (i + 1) = (k.drop i).drop 1 := by rw [List.drop_drop]
        rw [h3, hd]
        rfl
      have ia := al i a ga
      have ic := al (i + 1) c gc
      obtain ⟨a1, -, -⟩ := hmem a (List.mem_of_getElem? ga)
      obtain ⟨b1, -, -⟩ := hmem c (List.mem_of_getElem? gc)
      have ma := hmb a (List.mem_of_getElem? ga)
      have mc := hmb c (List.mem_of_getElem? gc)
      have hsub : zSo (zmd2 l (u : Int) (v : Int)) (c :: r) := by
        have h3 : zSo (zmd2 l (u : Int) (v : Int)) (k.drop (i + 1)) := so.sublist (List.drop_sublist _ _)
        rw [hd2] at h3
        exact h3
      have hac : zmd2 l (u : Int) (v : Int) a ≤ zmd2 l (u : Int) (v : Int) c := by
        have h3 : zSo (zmd2 l (u : Int) (v : Int)) (k.drop i) := so.sublist (List.drop_sublist _ _)
        rw [hd] at h3
        exact (List.pairwise_cons.mp h3).1 c (List.mem_cons_self ..)
      have hbit : f6 1195 a = (zebi l a : Int) := by rw [fr 1195 (by omega)]; exact (hE.2 a a1).2.2.1
      have hx : acc ^^^ zebi l a < 2 ^ n := Nat.xor_lt_two_pow hacc (hb a a1)
      have hba := hb a a1
      have exor : (Int32.ofInt (acc : Int) ^^^ Int32.ofInt (zebi l a : Int)).toInt = ((acc ^^^ zebi l a : Nat) : Int) := zxor_n (by omega) (by omega)
      rw [zF_s] at hsum
      generalize hset : acc ^^^ zebi l a = set at *
      have hr := (zF_b (g := zg3 w t1 t2 c1) (b := zebi l) (C := 14400) r c (set ^^^ zebi l c) hsub (fun y hy => (hmb y (List.mem_of_mem_drop (by rw [hd2]; exact hy))).2)).1
      have hr2 : 0 ≤ (h : Int) * zF (zmd2 l (u : Int) (v : Int)) (zebi l) (zg3 w t1 t2 c1) (set ^^^ zebi l c) (zmd2 l (u : Int) (v : Int) c) r := Int.mul_nonneg (by omega) hr
      rw [Int.mul_add] at hsum
      have e307 := fun Q => c307 (L := L) (M := M) (Q := Q) (f := f6) (s := s) (t := t) (w := w) (set := set) (c1 := c1) hR hs ht es1 hc14 (by rw [et1]; exact h1) (by rw [et2]; exact h2) (by omega) (hq set hx)
      rw [et1, et2] at e307
      have cu := fun Q => c304e (L := L) (M := M) (Q := Q) (f := f6) (l := l) (e := c) (h := (u : Int)) hR hn hA hE6 b1 (by omega)
      have cv := fun Q => c304e (L := L) (M := M) (Q := Q) (f := f6) (l := l) (e := c) (h := (v : Int)) hR hn hA hE6 b1 (by omega)
      have au := fun Q => c304e (L := L) (M := M) (Q := Q) (f := f6) (l := l) (e := a) (h := (u : Int)) hR hn hA hE6 a1 (by omega)
      have av := fun Q => c304e (L := L) (M := M) (Q := Q) (f := f6) (l := l) (e := a) (h := (v : Int)) hR hn hA hE6 a1 (by omega)
      have bcu := zea_b hA b1 (h := (u : Int)) (by omega)
      have bcv := zea_b hA b1 (h := (v : Int)) (by omega)
      have bau := zea_b hA a1 (h := (u : Int)) (by omega)
      have bav := zea_b hA a1 (h := (v : Int)) (by omega)
      have ezc := zea_2 l c (u : Int) (v : Int)
      have eza := zea_2 l a (u : Int) (v : Int)
      have eD : zmd2 l (u : Int) (v : Int) c - zea l a (u : Int) - zea l a (v : Int) = zmd2 l (u : Int) (v : Int) c - zmd2 l (u : Int) (v : Int) a := by omega
      have eIN : (i : Int) + 1 = ((i + 1 : Nat) : Int) := by omega
      have eT : ((i : Int) + 1).toNat = i + 1 := by omega
      have hpart : 0 ≤ (h : Int) * (zmd2 l (u : Int) (v : Int) c - zmd2 l (u : Int) (v : Int) a) ∧ (h : Int) * (zmd2 l (u : Int) (v : Int) c - zmd2 l (u : Int) (v : Int) a) ≤ 3600 * 14400 := ⟨Int.mul_nonneg (by omega) (by omega), Int.mul_le_mul (by omega) (by omega) (by omega) (by omega)⟩
      have next : ∀ all, 0 ≤ all → all + (h : Int) * zF (zmd2 l (u : Int) (v : Int)) (zebi l) (zg3 w t1 t2 c1) (set ^^^ zebi l c) (zmd2 l (u : Int) (v : Int) c) r = (h : Int) * zFV (zmd2 l (u : Int) (v : Int)) (zebi l) (zg3 w t1 t2 c1) k → zFR (zK L) 305 118 [some (.inr (.inr 1153)), some (.inl w), some (.inl (s : Int)), some (.inl (t : Int)), some (.inl (u : Int)), some (.inl (v : Int)), some (.inl (k.length : Int)), some (.inl (set : Int)), some (.inl all), some (.inl (i : Int)), some (.inl (a : Int)), some (.inl (c : Int))] [] (zwI M f6) Q9 := by
        intro all q1 q2
        have o9 := ih c (i + 1) set all (some (.inl (a : Int))) (some (.inl (c : Int))) hd2 hx q1 q2
        rw [← eIN] at o9
        refine zW_sound 60 [19] ?_
        simp only [ZR305, zW_succ, zE_iload, zE_aload, zE_lload, zE_iinc, zE_istore, zE_astore, zE_lstore, zE_iconst, zE_ldc2, zE_iadd, zE_isub, zE_imul, zE_idiv, zE_irem, zE_ineg, zE_iand, zE_ior, zE_ixor, zE_ishl, zE_ishr, zE_land, zE_lor, zE_lxor, zE_lshl, zE_lshr, zE_i2l, zE_lcmp, zE_dup_i, zE_dup_a, zE_dup2_ia, zE_pop_i, zE_pop_a, zE_pop2, zE_goto, zE_if_eq, zE_icmp_eq, zE_if_ne, zE_icmp_ne, zE_if_lt, zE_icmp_lt, zE_if_ge, zE_icmp_ge, zE_if_gt, zE_icmp_gt, zE_if_le, zE_icmp_le, zE_iaload, zE_baload, zE_laload, zE_aaload, zE_iastore, zE_bastore, zE_lastore, zE_aastore, zE_alen, zE_getf0, zE_getf1, zE_getf2, zE_getf3, zE_putf0, zE_putf1, zE_putf2, zE_putf3, zE_new, zE_newa, zE_newq, zE_ireturn, zE_lreturn, zE_areturn, zE_return, zE_athrow, zE_st0, zE_vi0, zE_st1, zE_vi1, zE_st2, zE_vi2, zE_st3, zE_vi3, zE_st4, zE_vi4, zE_st5, zE_vi5, zE_st6, zE_vi6, zE_st7, zE_vi7, zE_st8, zE_vi8, zSt_0, zSL_0, zSt_1n, zSt_1i, zSt_1a, zSt_1l, zSt_2n, zSt_2i, zSt_2a, zSt_2l, zSt_3n, zSt_3i, zSt_3a, zSt_3l, zSt_4n, zSt_4i, zSt_4a, zSt_4l, zSt_5n, zSt_5i, zSt_5a, zSt_5l, zSt_6n, zSt_6i, zSt_6a, zSt_6l, zSt_7n, zSt_7i, zSt_7a, zSt_7l, zSt_8n, zSt_8i, zSt_8a, zSt_8l, zSt_9n, zSt_9i, zSt_9a, zSt_9l, zSt_10n, zSt_10i, zSt_10a, zSt_10l, zSt_11n, zSt_11i, zSt_11a, zSt_11l, zSt_12n, zSt_12i, zSt_12a, zSt_12l, zSt_13n, zSt_13i, zSt_13a, zSt_13l, zSL_1n, zSL_1i, zSL_1a, zSL_1l, zSL_2n, zSL_2i, zSL_2a, zSL_2l, zSL_3n, zSL_3i, zSL_3a, zSL_3l, zSL_4n, zSL_4i, zSL_4a, zSL_4l, zSL_5n, zSL_5i, zSL_5a, zSL_5l, zSL_6n, zSL_6i, zSL_6a, zSL_6l, zSL_7n, zSL_7i, zSL_7a, zSL_7l, zSL_8n, zSL_8i, zSL_8a, zSL_8l, zSL_9n, zSL_9i, zSL_9a, zSL_9l, zSL_10n, zSL_10i, zSL_10a, zSL_10l, zSL_11n, zSL_11i, zSL_11a, zSL_11l, zSL_12n, zSL_12i, zSL_12a, zSL_12l, zLI_0, zLL_0, zLA_0, zLI_1, zLL_1, zLA_1, zLI_2, zLL_2, zLA_2, zLI_3, zLL_3, zLA_3, zLI_4, zLL_4, zLA_4, zLI_5, zLL_5, zLA_5, zLI_6, zLL_6, zLA_6, zLI_7, zLL_7, zLA_7, zLI_8, zLL_8, zLA_8, zLI_9, zLL_9, zLA_9, zLI_10, zLL_10, zLA_10, zLI_11, zLL_11, zLA_11, zLI_12, zLL_12, zLA_12, zLI_13, zLL_13, zLA_13, zst_0, zst_1n, zst_1i, zst_1a, zst_2n, zst_2i, zst_2a, zst_3n, zst_3i, zst_3a, zst_4n, zst_4i, zst_4a, zst_5n, zst_5i, zst_5a, zst_6n, zst_6i, zst_6a, zst_7n, zst_7i, zst_7a, zst_8n, zst_8i, zst_8a, zst_9n, zst_9i, zst_9a, zst_10n, zst_10i, zst_10a, zst_11n, zst_11i, zst_11a, zst_12n, zst_12i, zst_12a, zst_13n, zst_13i, zst_13a, zst_14n, zst_14i, zst_14a, zst_15n, zst_15i, zst_15a, zR1_n, zR1_v, zsum_n, zsum_i, zsum_l, zsum_a, zlen_n, zlen_i, zlen_l, zlen_a, List.not_mem_nil, List.mem_cons, or_false, false_or, or_self, ↓reduceIte, if_false, if_true, Nat.reduceEqDiff, Nat.reduceAdd, Nat.reduceLeDiff, true_and, and_true, reduceCtorEq, ne_eq, Int.toNat_natCast, not_true_eq_false, not_false_eq_true, true_implies, false_implies, implies_true, Int.reduceToNat, Int.toNat_zero, Int.reduceLT, Int.reduceLE, Int.reduceEq, Int.reduceAdd, Int.reduceMul, Int.reduceNeg]
        exact ⟨by unfold zr32; omega, o9⟩
      have yes : zg3 w t1 t2 c1 set = true → zr32 (all + (zmd2 l (u : Int) (v : Int) c - zmd2 l (u : Int) (v : Int) a) * (h : Int)) ∧ zFR (zK L) 305 118 [some (.inr (.inr 1153)), some (.inl w), some (.inl (s : Int)), some (.inl (t : Int)), some (.inl (u : Int)), some (.inl (v : Int)), some (.inl (k.length : Int)), some (.inl (set : Int)), some (.inl (all + (zmd2 l (u : Int) (v : Int) c - zmd2 l (u : Int) (v : Int) a) * (h : Int))), some (.inl (i : Int)), some (.inl (a : Int)), some (.inl (c : Int))] [] (zwI M f6) Q9 := by
        intro hy
        rw [if_pos hy] at hsum
        rw [Int.mul_comm _ (h : Int)]
        exact ⟨by unfold zr32; omega, next _ (by omega) (by omega)⟩
      have no : ¬ zg3 w t1 t2 c1 set = true → zFR (zK L) 305 118 [some (.inr (.inr 1153)), some (.inl w), some (.inl (s : Int)), some (.inl (t : Int)), some (.inl (u : Int)), some (.inl (v : Int)), some (.inl (k.length : Int)), some (.inl (set : Int)), some (.inl all), some (.inl (i : Int)), some (.inl (a : Int)), some (.inl (c : Int))] [] (zwI M f6) Q9 := by
        intro hy
        rw [if_neg hy, Int.mul_zero] at hsum
        exact next all h0 (by omega)
      have hp32 : zr32 ((zmd2 l (u : Int) (v : Int) c - zmd2 l (u : Int) (v : Int) a) * (h : Int)) := by
        rw [Int.mul_comm]
        unfold zr32
        omega
      refine zW_sound 60 [118, 124] ?_
      simp only [ZR305, zk_1153, zk_1195, zk_1197, hF, zwI_I, zwI_2, ia, ic, eT, hbit, exor, ezc, eD, ← hh, ZF304.1, ZF304.2.1, ZF304.2.2.1, cu, cv, au, av, ZF307.1, ZF307.2.1, ZF307.2.2.1, e307, zW_succ, zE_iload, zE_aload, zE_lload, zE_iinc, zE_istore, zE_astore, zE_lstore, zE_iconst, zE_ldc2, zE_iadd, zE_isub, zE_imul, zE_idiv, zE_irem, zE_ineg, zE_iand, zE_ior, zE_ixor, zE_ishl, zE_ishr, zE_land, zE_lor, zE_lxor, zE_lshl, zE_lshr, zE_i2l, zE_lcmp, zE_dup_i, zE_dup_a, zE_dup2_ia, zE_pop_i, zE_pop_a, zE_pop2, zE_goto, zE_if_eq, zE_icmp_eq, zE_if_ne, zE_icmp_ne, zE_if_lt, zE_icmp_lt, zE_if_ge, zE_icmp_ge, zE_if_gt, zE_icmp_gt, zE_if_le, zE_icmp_le, zE_iaload, zE_baload, zE_laload, zE_aaload, zE_iastore, zE_bastore, zE_lastore, zE_aastore, zE_alen, zE_getf0, zE_getf1, zE_getf2, zE_getf3, zE_putf0, zE_putf1, zE_putf2, zE_putf3, zE_new, zE_newa, zE_newq, zE_ireturn, zE_lreturn, zE_areturn, zE_return, zE_athrow, zE_st0, zE_vi0, zE_st1, zE_vi1, zE_st2, zE_vi2, zE_st3, zE_vi3, zE_st4, zE_vi4, zE_st5, zE_vi5, zE_st6, zE_vi6, zE_st7, zE_vi7, zE_st8, zE_vi8, zSt_0, zSL_0, zSt_1n, zSt_1i, zSt_1a, zSt_1l, zSt_2n, zSt_2i, zSt_2a, zSt_2l, zSt_3n, zSt_3i, zSt_3a, zSt_3l, zSt_4n, zSt_4i, zSt_4a, zSt_4l, zSt_5n, zSt_5i, zSt_5a, zSt_5l, zSt_6n, zSt_6i, zSt_6a, zSt_6l, zSt_7n, zSt_7i, zSt_7a, zSt_7l, zSt_8n, zSt_8i, zSt_8a, zSt_8l, zSt_9n, zSt_9i, zSt_9a, zSt_9l, zSt_10n, zSt_10i, zSt_10a, zSt_10l, zSt_11n, zSt_11i, zSt_11a, zSt_11l, zSt_12n, zSt_12i, zSt_12a, zSt_12l, zSt_13n, zSt_13i, zSt_13a, zSt_13l, zSL_1n, zSL_1i, zSL_1a, zSL_1l, zSL_2n, zSL_2i, zSL_2a, zSL_2l, zSL_3n, zSL_3i, zSL_3a, zSL_3l, zSL_4n, zSL_4i, zSL_4a, zSL_4l, zSL_5n, zSL_5i, zSL_5a, zSL_5l, zSL_6n, zSL_6i, zSL_6a, zSL_6l, zSL_7n, zSL_7i, zSL_7a, zSL_7l, zSL_8n, zSL_8i, zSL_8a, zSL_8l, zSL_9n, zSL_9i, zSL_9a, zSL_9l, zSL_10n, zSL_10i, zSL_10a, zSL_10l, zSL_11n, zSL_11i, zSL_11a, zSL_11l, zSL_12n, zSL_12i, zSL_12a, zSL_12l, zLI_0, zLL_0, zLA_0, zLI_1, zLL_1, zLA_1, zLI_2, zLL_2, zLA_2, zLI_3, zLL_3, zLA_3, zLI_4, zLL_4, zLA_4, zLI_5, zLL_5, zLA_5, zLI_6, zLL_6, zLA_6, zLI_7, zLL_7, zLA_7, zLI_8, zLL_8, zLA_8, zLI_9, zLL_9, zLA_9, zLI_10, zLL_10, zLA_10, zLI_11, zLL_11, zLA_11, zLI_12, zLL_12, zLA_12, zLI_13, zLL_13, zLA_13, zst_0, zst_1n, zst_1i, zst_1a, zst_2n, zst_2i, zst_2a, zst_3n, zst_3i, zst_3a, zst_4n, zst_4i, zst_4a, zst_5n, zst_5i, zst_5a, zst_6n, zst_6i, zst_6a, zst_7n, zst_7i, zst_7a, zst_8n, zst_8i, zst_8a, zst_9n, zst_9i, zst_9a, zst_10n, zst_10i, zst_10a, zst_11n, zst_11i, zst_11a, zst_12n, zst_12i, zst_12a, zst_13n, zst_13i, zst_13a, zst_14n, zst_14i, zst_14a, zst_15n, zst_15i, zst_15a, zR1_n, zR1_v, zsum_n, zsum_i, zsum_l, zsum_a, zlen_n, zlen_i, zlen_l, zlen_a, List.not_mem_nil, List.mem_cons, or_false, false_or, or_self, ↓reduceIte, if_false, if_true, Nat.reduceEqDiff, Nat.reduceAdd, Nat.reduceLeDiff, true_and, and_true, reduceCtorEq, ne_eq, Int.toNat_natCast, not_true_eq_false, not_false_eq_true, true_implies, false_implies, implies_true, Int.reduceToNat, Int.toNat_zero, Int.reduceLT, Int.reduceLE, Int.reduceEq, Int.reduceAdd, Int.reduceMul, Int.reduceNeg]
      refine ⟨by unfold zr32; omega, fun h => absurd h (by omega), fun _ => ?_⟩
      repeat (first | refine ⟨by omega, ?_⟩ | refine ⟨by unfold zr32; omega, ?_⟩)
      refine ⟨fun hy => ?_, fun hy => no hy⟩
      have y9 := yes hy
      repeat (first | refine ⟨by omega, ?_⟩ | refine ⟨by unfold zr32; omega, ?_⟩ | refine ⟨hp32, ?_⟩ | refine ⟨y9.1, ?_⟩)
      exact y9.2
  cases hkk : k with
  | nil =>
    have o9 := exit 0 0 0 none none (by rw [hkk]; show (0 : Int) = (h : Int) * 0; omega) (by rw [hkk]; exact Nat.zero_le _) (by omega)
    refine zW_sound 60 [19] ?_
    simp only [ZF305, ZR305, zk_1153, ZF306.1, ZF306.2.1, ZF306.2.2.1, e306, zW_succ, zE_iload, zE_aload, zE_lload, zE_iinc, zE_istore, zE_astore, zE_lstore, zE_iconst, zE_ldc2, zE_iadd, zE_isub, zE_imul, zE_idiv, zE_irem, zE_ineg, zE_iand, zE_ior, zE_ixor, zE_ishl, zE_ishr, zE_land, zE_lor, zE_lxor, zE_lshl, zE_lshr, zE_i2l, zE_lcmp, zE_dup_i, zE_dup_a, zE_dup2_ia, zE_pop_i, zE_pop_a, zE_pop2, zE_goto, zE_if_eq, zE_icmp_eq, zE_if_ne, zE_icmp_ne, zE_if_lt, zE_icmp_lt, zE_if_ge, zE_icmp_ge, zE_if_gt, zE_icmp_gt, zE_if_le, zE_icmp_le, zE_iaload, zE_baload, zE_laload, zE_aaload, zE_iastore, zE_bastore, zE_lastore, zE_aastore, zE_alen, zE_getf0, zE_getf1, zE_getf2, zE_getf3, zE_putf0, zE_putf1, zE_putf2, zE_putf3, zE_new, zE_newa, zE_newq, zE_ireturn, zE_lreturn, zE_areturn, zE_return, zE_athrow, zE_st0, zE_vi0, zE_st1, zE_vi1, zE_st2, zE_vi2, zE_st3, zE_vi3, zE_st4, zE_vi4, zE_st5, zE_vi5, zE_st6, zE_vi6, zE_st7, zE_vi7, zE_st8, zE_vi8, zSt_0, zSL_0, zSt_1n, zSt_1i, zSt_1a, zSt_1l, zSt_2n, zSt_2i, zSt_2a, zSt_2l, zSt_3n, zSt_3i, zSt_3a, zSt_3l, zSt_4n, zSt_4i, zSt_4a, zSt_4l, zSt_5n, zSt_5i, zSt_5a, zSt_5l, zSt_6n, zSt_6i, zSt_6a, zSt_6l, zSt_7n, zSt_7i, zSt_7a, zSt_7l, zSt_8n, zSt_8i, zSt_8a, zSt_8l, zSt_9n, zSt_9i, zSt_9a, zSt_9l, zSt_10n, zSt_10i, zSt_10a, zSt_10l, zSt_11n, zSt_11i, zSt_11a, zSt_11l, zSt_12n, zSt_12i, zSt_12a, zSt_12l, zSt_13n, zSt_13i, zSt_13a, zSt_13l, zSL_1n, zSL_1i, zSL_1a, zSL_1l, zSL_2n, zSL_2i, zSL_2a, zSL_2l, zSL_3n, zSL_3i, zSL_3a, zSL_3l, zSL_4n, zSL_4i, zSL_4a, zSL_4l, zSL_5n, zSL_5i, zSL_5a, zSL_5l, zSL_6n, zSL_6i, zSL_6a, zSL_6l, zSL_7n, zSL_7i, zSL_7a, zSL_7l, zSL_8n, zSL_8i, zSL_8a, zSL_8l, zSL_9n, zSL_9i, zSL_9a, zSL_9l, zSL_10n, zSL_10i, zSL_10a, zSL_10l, zSL_11n, zSL_11i, zSL_11a, zSL_11l, zSL_12n, zSL_12i, zSL_12a, zSL_12l, zLI_0, zLL_0, zLA_0, zLI_1, zLL_1, zLA_1, zLI_2, zLL_2, zLA_2, zLI_3, zLL_3, zLA_3, zLI_4, zLL_4, zLA_4, zLI_5, zLL_5, zLA_5, zLI_6, zLL_6, zLA_6, zLI_7, zLL_7, zLA_7, zLI_8, zLL_8, zLA_8, zLI_9, zLL_9, zLA_9, zLI_10, zLL_10, zLA_10, zLI_11, zLL_11, zLA_11, zLI_12, zLL_12, zLA_12, zLI_13, zLL_13, zLA_13, zst_0, zst_1n, zst_1i, zst_1a, zst_2n, zst_2i, zst_2a, zst_3n, zst_3i, zst_3a, zst_4n, zst_4i, zst_4a, zst_5n, zst_5i, zst_5a, zst_6n, zst_6i, zst_6a, zst_7n, zst_7i, zst_7a, zst_8n, zst_8i, zst_8a, zst_9n, zst_9i, zst_9a, zst_10n, zst_10i, zst_10a, zst_11n, zst_11i, zst_11a, zst_12n, zst_12i, zst_12a, zst_13n, zst_13i, zst_13a, zst_14n, zst_14i, zst_14a, zst_15n, zst_15i, zst_15a, zR1_n, zR1_v, zsum_n, zsum_i, zsum_l, zsum_a, zlen_n, zlen_i, zlen_l, zlen_a, List.not_mem_nil, List.mem_cons, or_false, false_or, or_self, ↓reduceIte, if_false, if_true, Nat.reduceEqDiff, Nat.reduceAdd, Nat.reduceLeDiff, true_and, and_true, reduceCtorEq, ne_eq, Int.toNat_natCast, not_true_eq_false, not_false_eq_true, true_implies, false_implies, implies_true, Int.reduceToNat, Int.toNat_zero, Int.reduceLT, Int.reduceLE, Int.reduceEq, Int.reduceAdd, Int.reduceMul, Int.reduceNeg]
    (repeat' (first | with_reducible refine And.intro ?_ ?_ | with_reducible intro _)) <;> try first | with_reducible rfl | with_reducible assumption | omega | (unfold zr32; omega) | contradiction | (exact absurd (by omega) (by assumption)) | rfl | (simp only [Sum.inl.injEq, Option.some.injEq]; omega)
  | cons a r =>
    have o9 := loop r a 0 0 0 none none (by rw [hkk]; rfl) (Nat.two_pow_pos n) (Int.le_refl _) (by rw [hkk, Int.zero_add]; rfl)
    refine zW_sound 60 [19] ?_
    simp only [ZF305, ZR305, zk_1153, ZF306.1, ZF306.2.1, ZF306.2.2.1, e306, zW_succ, zE_iload, zE_aload, zE_lload, zE_iinc, zE_istore, zE_astore, zE_lstore, zE_iconst, zE_ldc2, zE_iadd, zE_isub, zE_imul, zE_idiv, zE_irem, zE_ineg, zE_iand, zE_ior, zE_ixor, zE_ishl, zE_ishr, zE_land, zE_lor, zE_lxor, zE_lshl, zE_lshr, zE_i2l, zE_lcmp, zE_dup_i, zE_dup_a, zE_dup2_ia, zE_pop_i, zE_pop_a, zE_pop2, zE_goto, zE_if_eq, zE_icmp_eq, zE_if_ne, zE_icmp_ne, zE_if_lt, zE_icmp_lt, zE_if_ge, zE_icmp_ge, zE_if_gt, zE_icmp_gt, zE_if_le, zE_icmp_le, zE_iaload, zE_baload, zE_laload, zE_aaload, zE_iastore, zE_bastore, zE_lastore, zE_aastore, zE_alen, zE_getf0, zE_getf1, zE_getf2, zE_getf3, zE_putf0, zE_putf1, zE_putf2, zE_putf3, zE_new, zE_newa, zE_newq, zE_ireturn, zE_lreturn, zE_areturn, zE_return, zE_athrow, zE_st0, zE_vi0, zE_st1, zE_vi1, zE_st2, zE_vi2, zE_st3, zE_vi3, zE_st4, zE_vi4, zE_st5, zE_vi5, zE_st6, zE_vi6, zE_st7, zE_vi7, zE_st8, zE_vi8, zSt_0, zSL_0, zSt_1n, zSt_1i, zSt_1a, zSt_1l, zSt_2n, zSt_2i, zSt_2a, zSt_2l, zSt_3n, zSt_3i, zSt_3a, zSt_3l, zSt_4n, zSt_4i, zSt_4a, zSt_4l, zSt_5n, zSt_5i, zSt_5a, zSt_5l, zSt_6n, zSt_6i, zSt_6a, zSt_6l, zSt_7n, zSt_7i, zSt_7a, zSt_7l, zSt_8n, zSt_8i, zSt_8a, zSt_8l, zSt_9n, zSt_9i, zSt_9a, zSt_9l, zSt_10n, zSt_10i, zSt_10a, zSt_10l, zSt_11n, zSt_11i, zSt_11a, zSt_11l, zSt_12n, zSt_12i, zSt_12a, zSt_12l, zSt_13n, zSt_13i, zSt_13a, zSt_13l, zSL_1n, zSL_1i, zSL_1a, zSL_1l, zSL_2n, zSL_2i, zSL_2a, zSL_2l, zSL_3n, zSL_3i, zSL_3a, zSL_3l, zSL_4n, zSL_4i, zSL_4a, zSL_4l, zSL_5n, zSL_5i, zSL_5a, zSL_5l, zSL_6n, zSL_6i, zSL_6a, zSL_6l, zSL_7n, zSL_7i, zSL_7a, zSL_7l, zSL_8n, zSL_8i, zSL_8a, zSL_8l, zSL_9n, zSL_9i, zSL_9a, zSL_9l, zSL_10n, zSL_10i, zSL_10a, zSL_10l, zSL_11n, zSL_11i, zSL_11a, zSL_11l, zSL_12n, zSL_12i, zSL_12a, zSL_12l, zLI_0, zLL_0, zLA_0, zLI_1, zLL_1, zLA_1, zLI_2, zLL_2, zLA_2, zLI_3, zLL_3, zLA_3, zLI_4, zLL_4, zLA_4, zLI_5, zLL_5, zLA_5, zLI_6, zLL_6, zLA_6, zLI_7, zLL_7, zLA_7, zLI_8, zLL_8, zLA_8, zLI_9, zLL_9, zLA_9, zLI_10, zLL_10, zLA_10, zLI_11, zLL_11, zLA_11, zLI_12, zLL_12, zLA_12, zLI_13, zLL_13, zLA_13, zst_0, zst_1n, zst_1i, zst_1a, zst_2n, zst_2i, zst_2a, zst_3n, zst_3i, zst_3a, zst_4n, zst_4i, zst_4a, zst_5n, zst_5i, zst_5a, zst_6n, zst_6i, zst_6a, zst_7n, zst_7i, zst_7a, zst_8n, zst_8i, zst_8a, zst_9n, zst_9i, zst_9a, zst_10n, zst_10i, zst_10a, zst_11n, zst_11i, zst_11a, zst_12n, zst_12i, zst_12a, zst_13n, zst_13i, zst_13a, zst_14n, zst_14i, zst_14a, zst_15n, zst_15i, zst_15a, zR1_n, zR1_v, zsum_n, zsum_i, zsum_l, zsum_a, zlen_n, zlen_i, zlen_l, zlen_a, List.not_mem_nil, List.mem_cons, or_false, false_or, or_self, ↓reduceIte, if_false, if_true, Nat.reduceEqDiff, Nat.reduceAdd, Nat.reduceLeDiff, true_and, and_true, reduceCtorEq, ne_eq, Int.toNat_natCast, not_true_eq_false, not_false_eq_true, true_implies, false_implies, implies_true, Int.reduceToNat, Int.toNat_zero, Int.reduceLT, Int.reduceLE, Int.reduceEq, Int.reduceAdd, Int.reduceMul, Int.reduceNeg]
    (repeat' (first | with_reducible refine And.intro ?_ ?_ | with_reducible intro _)) <;> try first | with_reducible rfl | with_reducible assumption | omega | (unfold zr32; omega) | contradiction | (exact absurd (by omega) (by assumption)) | rfl | (simp only [Sum.inl.injEq, Option.some.injEq]; omega)
end ZRAREA
