/-! the picture: rows of flips -/
section ZFLIP
variable {L : Nat} {M : zM} {a s : Nat} {Q : zO → zM → Prop}
theorem zxor_g {x y : Int} (hx : zr32 x) (hy : zr32 y) (h0 : 0 ≤ y) : (Int32.ofInt x ^^^ Int32.ofInt y).toInt < 0 ↔ x < 0 := by
  have e : (Int32.ofInt x ^^^ Int32.ofInt y).toInt = ((Int32.ofInt x).toBitVec ^^^ (Int32.ofInt y).toBitVec).toInt := rfl
  have m : ∀ v : BitVec 32, v.msb = decide (v.toInt < 0) := fun v => BitVec.msb_eq_toInt
  have ex : (Int32.ofInt x).toBitVec.toInt = x := zi32_i hx
  have ey : (Int32.ofInt y).toBitVec.toInt = y := zi32_i hy
  have h := m ((Int32.ofInt x).toBitVec ^^^ (Int32.ofInt y).toBitVec)
  rw [BitVec.msb_xor, m, m, ex, ey, decide_eq_false (show ¬ y < 0 by omega)] at h
  rw [e]
  by_cases hx0 : x < 0
  · rw [decide_eq_true hx0] at h
    have h3 := (of_decide_eq_true h.symm)
    exact ⟨fun _ => hx0, fun _ => h3⟩
  · rw [decide_eq_false hx0] at h
    have h3 := (of_decide_eq_false h.symm)
    exact ⟨fun h4 => absurd h4 h3, fun h4 => absurd h4 hx0⟩
theorem zfdv {x y : Int} (hy : 0 < y) : x / y = if x < 0 ∧ x.tdiv y * y ≠ x then x.tdiv y - 1 else x.tdiv y := by
  by_cases hx : x < 0
  · have h1 := Int.mul_tdiv_add_tmod x y
    have h2 : x.tmod y ≤ 0 := by
      have h5 := Int.tmod_nonneg y (show 0 ≤ -x by omega)
      rw [Int.neg_tmod] at h5
      omega
    have h3 : -y < x.tmod y := by
      have := Int.lt_tmod_of_pos x hy
      omega
    rw [Int.mul_comm] at h1
    by_cases h : x.tdiv y * y = x
    · rw [if_neg (fun h4 => h4.2 h)]
      have h5 : x / y = x.tdiv y ∧ x % y = 0 := (Int.ediv_emod_unique hy).mpr ⟨by rw [Int.mul_comm]; omega, by omega, hy⟩
      exact h5.1
    · rw [if_pos ⟨hx, h⟩]
      have e : y * (x.tdiv y - 1) = x.tdiv y * y - y := by rw [Int.mul_sub, Int.mul_comm, Int.mul_one]
      have h5 : x / y = x.tdiv y - 1 ∧ x % y = x.tmod y + y := (Int.ediv_emod_unique hy).mpr ⟨by rw [e]; omega, by omega, by omega⟩
      exact h5.1
  · rw [if_neg (fun h4 => hx h4.1), Int.tdiv_eq_ediv_of_nonneg (by omega)]
theorem c389 {x y : Int} (hx : -2000000000 ≤ x ∧ x ≤ 2000000000) (hy : 1 ≤ y ∧ y ≤ 100000) : zFR (zK L) 389 0 (zcall 389 [.inl x, .inl y]) [] M Q = Q (.inl (some (.inl (x / y)))) M := by
  have hg := zxor_g (x := x) (y := y) (by unfold zr32; omega) (by unfold zr32; omega) (by omega)
  have hf := zfdv (x := x) (y := y) (by omega)
  have h1 := Int.mul_tdiv_add_tmod x y
  rw [Int.mul_comm] at h1
  have h2 : -y < x.tmod y ∧ x.tmod y < y := ⟨by have := Int.lt_tmod_of_pos x (show 0 < y by omega); omega, Int.tmod_lt_of_pos x (by omega)⟩
  have h5 : (x.tdiv y).natAbs ≤ x.natAbs := by rw [Int.natAbs_tdiv]; exact Nat.div_le_self _ _
  refine zFR_det (zW_sound 60 [] ?_) Q
  simp only [ZF389, ZR389, zW_succ, zE_iload, zE_aload, zE_lload, zE_iinc, zE_istore, zE_astore, zE_lstore, zE_iconst, zE_ldc2, zE_iadd, zE_isub, zE_imul, zE_idiv, zE_irem, zE_ineg, zE_iand, zE_ior, zE_ixor, zE_ishl, zE_ishr, zE_land, zE_lor, zE_lxor, zE_lshl, zE_lshr, zE_i2l, zE_lcmp, zE_dup_i, zE_dup_a, zE_dup2_ia, zE_pop_i, zE_pop_a, zE_pop2, zE_goto, zE_if_eq, zE_icmp_eq, zE_if_ne, zE_icmp_ne, zE_if_lt, zE_icmp_lt, zE_if_ge, zE_icmp_ge, zE_if_gt, zE_icmp_gt, zE_if_le, zE_icmp_le, zE_iaload, zE_baload, zE_laload, zE_aaload, zE_iastore, zE_bastore, zE_lastore, zE_aastore, zE_alen, zE_getf0, zE_getf1, zE_getf2, zE_getf3, zE_putf0, zE_putf1, zE_putf2, zE_putf3, zE_new, zE_newa, zE_newq, zE_ireturn, zE_lreturn, zE_areturn, zE_return, zE_athrow, zE_st0, zE_vi0, zE_st1, zE_vi1, zE_st2, zE_vi2, zE_st3, zE_vi3, zE_st4, zE_vi4, zE_st5, zE_vi5, zE_st6, zE_vi6, zE_st7, zE_vi7, zE_st8, zE_vi8, zSt_0, zSL_0, zSt_1n, zSt_1i, zSt_1a, zSt_1l, zSt_2n, zSt_2i, zSt_2a, zSt_2l, zSt_3n, zSt_3i, zSt_3a, zSt_3l, zSt_4n, zSt_4i, zSt_4a, zSt_4l, zSt_5n, zSt_5i, zSt_5a, zSt_5l, zSt_6n, zSt_6i, zSt_6a, zSt_6l, zSt_7n, zSt_7i, zSt_7a, zSt_7l, zSt_8n, zSt_8i, zSt_8a, zSt_8l, zSt_9n, zSt_9i, zSt_9a, zSt_9l, zSt_10n, zSt_10i, zSt_10a, zSt_10l, zSt_11n, zSt_11i, zSt_11a, zSt_11l, zSt_12n, zSt_12i, zSt_12a, zSt_12l, zSt_13n, zSt_13i, zSt_13a, zSt_13l, zSL_1n, zSL_1i, zSL_1a, zSL_1l, zSL_2n, zSL_2i, zSL_2a, zSL_2l, zSL_3n, zSL_3i, zSL_3a, zSL_3l, zSL_4n, zSL_4i, zSL_4a, zSL_4l, zSL_5n, zSL_5i, zSL_5a, zSL_5l, zSL_6n, zSL_6i, zSL_6a, zSL_6l, zSL_7n, zSL_7i, zSL_7a, zSL_7l, zSL_8n, zSL_8i, zSL_8a, zSL_8l, zSL_9n, zSL_9i, zSL_9a, zSL_9l, zSL_10n, zSL_10i, zSL_10a, zSL_10l, zSL_11n, zSL_11i, zSL_11a, zSL_11l, zSL_12n, zSL_12i, zSL_12a, zSL_12l, zLI_0, zLL_0, zLA_0, zLI_1, zLL_1, zLA_1, zLI_2, zLL_2, zLA_2, zLI_3, zLL_3, zLA_3, zLI_4, zLL_4, zLA_4, zLI_5, zLL_5, zLA_5, zLI_6, zLL_6, zLA_6, zLI_7, zLL_7, zLA_7, zLI_8, zLL_8, zLA_8, zLI_9, zLL_9, zLA_9, zLI_10, zLL_10, zLA_10, zLI_11, zLL_11, zLA_11, zLI_12, zLL_12, zLA_12, zLI_13, zLL_13, zLA_13, zst_0, zst_1n, zst_1i, zst_1a, zst_2n, zst_2i, zst_2a, zst_3n, zst_3i, zst_3a, zst_4n, zst_4i, zst_4a, zst_5n, zst_5i, zst_5a, zst_6n, zst_6i, zst_6a, zst_7n, zst_7i, zst_7a, zst_8n, zst_8i, zst_8a, zst_9n, zst_9i, zst_9a, zst_10n, zst_10i, zst_10a, zst_11n, zst_11i, zst_11a, zst_12n, zst_12i, zst_12a, zst_13n, zst_13i, zst_13a, zst_14n, zst_14i, zst_14a, zst_15n, zst_15i, zst_15a, zR1_n, zR1_v, zsum_n, zsum_i, zsum_l, zsum_a, zlen_n, zlen_i, zlen_l, zlen_a, List.not_mem_nil, List.mem_cons, or_false, false_or, or_self, ↓reduceIte, if_false, if_true, Nat.reduceEqDiff, Nat.reduceAdd, Nat.reduceLeDiff, true_and, and_true, reduceCtorEq, ne_eq, Int.toNat_natCast, not_true_eq_false, not_false_eq_true, true_implies, false_implies, implies_true, Int.reduceToNat, Int.toNat_zero, Int.reduceLT, Int.reduceLE, Int.reduceEq, Int.reduceAdd, Int.reduceMul, Int.reduceNeg]
  generalize x.tdiv y = q at *
  generalize (Int32.ofInt x ^^^ Int32.ofInt y).toInt = w at *
  rw [hf]
  refine ⟨⟨by omega, fun h => absurd h (by omega)⟩, fun h => ?_, fun h => ⟨by unfold zr32; omega, fun h6 => ?_, fun h6 => ⟨by unfold zr32; omega, ?_⟩⟩⟩
  · rw [if_neg (fun h7 => absurd (hg.mpr h7.1) (by omega))]
  · rw [if_neg (fun h7 => h7.2 h6)]
  · rw [if_pos ⟨hg.mp (by omega), h6⟩]
/-- the flips of a polygon's edges -/
def zflp (n : Int) (X Y : Nat → Int) (dy od : Int) (bit : Nat) : Nat → (Nat → Nat) → Nat → Nat
  | 0, fl => fl
  | k + 1, fl => if (¬ (dy < 2 * Y k ↔ dy < 2 * Y (zaf n k))) ∧ 0 ≤ (zqt n X Y k dy - 2 * od - 1) / 4 ∧ (zqt n X Y k dy - 2 * od - 1) / 4 < 61 then (fun j => if j = ((zqt n X Y k dy - 2 * od - 1) / 4).toNat then zflp n X Y dy od bit k fl j ^^^ bit else zflp n X Y dy od bit k fl j) else zflp n X Y dy od bit k fl
theorem zflp_b {n : Int} {X Y : Nat → Int} {dy od : Int} {bit : Nat} (hb : bit < 16) {fl : Nat → Nat} (h : ∀ j, fl j < 16) : ∀ k j, zflp n X Y dy od bit k fl j < 16
  | 0, j => h j
  | k + 1, j => by
    have ih := zflp_b (n := n) (X := X) (Y := Y) (dy := dy) (od := od) hb h k
    unfold zflp
    split
    · by_cases e : j = ((zqt n X Y k dy - 2 * od - 1) / 4).toNat
      · simp only [if_pos e]
        exact Nat.xor_lt_two_pow (n := 4) (ih j) hb
      · simp only [if_neg e]
        exact ih j
    · exact ih j
def zfla (f : Nat → Nat → Int) (fl : Nat → Nat) : Nat → Nat → Int := zua f 1123 (fun j => (fl j : Int))
theorem c67 {dy od : Int} {bit : Nat} {fl : Nat → Nat} {f : Nat → Nat → Int} (ha : zPoA a) (hR : zLay M.2.2.2) (hp : zPg 0 (f a 0) (f (a + 1)) (f (a + 2))) (hy : 0 ≤ dy ∧ dy ≤ 200) (ho : 0 ≤ od ∧ od ≤ 1) (hb : bit < 16) (hfl : ∀ j, fl j < 16) : zFR (zK L) 67 0 (zcall 67 [.inr (.inr 1117), .inr (.inr a), .inl dy, .inl od, .inl (bit : Int)]) [] (zwI M (zfla f fl)) Q = Q (.inl none) (zwI M (zfla f (zflp (f a 0) (f (a + 1)) (f (a + 2)) dy od bit (f a 0).toNat fl))) := by
  have hF := hR.1
  unfold zLayF at hF
  have ha2 := zPoA_lt ha
  obtain ⟨k1, k2, k3⟩ := zK_po (L := L) ha
  have ne : a ≠ 1123 ∧ a + 1 ≠ 1123 ∧ a + 2 ≠ 1123 := by
    rcases ha with ⟨s, k, hs, hk, rfl⟩ | ⟨i, hi, rfl⟩ | rfl | rfl
    · rcases hs with ⟨i, hi, rfl⟩ | rfl | rfl <;> omega
    · omega
    · omega
    · omega
  have oa : ∀ (fl : Nat → Nat) b j, b ≠ 1123 → zfla f fl b j = f b j := fun fl b j h => zua_o h _ j
  have oa1 : ∀ fl : Nat → Nat, zfla f fl (a + 1) = f (a + 1) := fun fl => funext (fun j => oa fl _ j ne.2.1)
  have oa2 : ∀ fl : Nat → Nat, zfla f fl (a + 2) = f (a + 2) := fun fl => funext (fun j => oa fl _ j ne.2.2)
  have o23 : ∀ (fl : Nat → Nat) j, zfla f fl 1123 j = (fl j : Int) := fun fl j => zua_a
  have p9 : ∀ fl : Nat → Nat, zPg 0 ((zwI M (zfla f fl)).2.1 a 0) ((zwI M (zfla f fl)).2.1 (a + 1)) ((zwI M (zfla f fl)).2.1 (a + 2)) := by
    intro fl
    rw [zwI_I, oa1, oa2, oa _ _ _ ne.1]
    exact hp
  refine zFR_det ?_ Q
  generalize hQ : (fun r M2 => r = (Sum.inl none : zO) ∧ M2 = zwI M (zfla f (zflp (f a 0) (f (a + 1)) (f (a + 2)) dy od bit (f a 0).toNat fl))) = Q9
  have hp2 := hp
  obtain ⟨p1, p2, p3⟩ := hp2
  have loop : ∀ k : Nat, k ≤ (f a 0).toNat → ∀ y, zFR (zK L) 67 3 [some (.inr (.inr 1117)), some (.inr (.inr a)), some (.inl dy), some (.inl od), some (.inl (bit : Int)), some (.inl (k : Int)), y] [] (zwI M (zfla f (zflp (f a 0) (f (a + 1)) (f (a + 2)) dy od bit k fl))) Q9 := by
    refine zloop ?_ ?_
    · intro y
      refine zW_sound 60 [12] ?_
      simp only [ZR67, k1, zwI_I, oa _ _ _ ne.1, zW_succ, zE_iload, zE_aload, zE_lload, zE_iinc, zE_istore, zE_astore, zE_lstore, zE_iconst, zE_ldc2, zE_iadd, zE_isub, zE_imul, zE_idiv, zE_irem, zE_ineg, zE_iand, zE_ior, zE_ixor, zE_ishl, zE_ishr, zE_land, zE_lor, zE_lxor, zE_lshl, zE_lshr, zE_i2l, zE_lcmp, zE_dup_i, zE_dup_a, zE_dup2_ia, zE_pop_i, zE_pop_a, zE_pop2, zE_goto, zE_if_eq, zE_icmp_eq, zE_if_ne, zE_icmp_ne, zE_if_lt, zE_icmp_lt, zE_if_ge, zE_icmp_ge, zE_if_gt, zE_icmp_gt, zE_if_le, zE_icmp_le, zE_iaload, zE_baload, zE_laload, zE_aaload, zE_iastore, zE_bastore, zE_lastore, zE_aastore, zE_alen, zE_getf0, zE_getf1, zE_getf2, zE_getf3, zE_putf0, zE_putf1, zE_putf2, zE_putf3, zE_new, zE_newa, zE_newq, zE_ireturn, zE_lreturn, zE_areturn, zE_return, zE_athrow, zE_st0, zE_vi0, zE_st1, zE_vi1, zE_st2, zE_vi2, zE_st3, zE_vi3, zE_st4, zE_vi4, zE_st5, zE_vi5, zE_st6, zE_vi6, zE_st7, zE_vi7, zE_st8, zE_vi8, zSt_0, zSL_0, zSt_1n, zSt_1i, zSt_1a, zSt_1l, zSt_2n, zSt_2i, zSt_2a, zSt_2l, zSt_3n, zSt_3i, zSt_3a, zSt_3l, zSt_4n, zSt_4i, zSt_4a, zSt_4l, zSt_5n, zSt_5i, zSt_5a, zSt_5l, zSt_6n, zSt_6i, zSt_6a, zSt_6l, zSt_7n, zSt_7i, zSt_7a, zSt_7l, zSt_8n, zSt_8i, zSt_8a, zSt_8l, zSt_9n, zSt_9i, zSt_9a, zSt_9l, zSt_10n, zSt_10i, zSt_10a, zSt_10l, zSt_11n, zSt_11i, zSt_11a, zSt_11l, zSt_12n, zSt_12i, zSt_12a, zSt_12l, zSt_13n, zSt_13i, zSt_13a, zSt_13l, zSL_1n, zSL_1i, zSL_1a, zSL_1l, zSL_2n, zSL_2i, zSL_2a, zSL_2l, zSL_3n, zSL_3i, zSL_3a, zSL_3l, zSL_4n, zSL_4i, zSL_4a, zSL_4l, zSL_5n, zSL_5i, zSL_5a, zSL_5l, zSL_6n, zSL_6i, zSL_6a, zSL_6l, zSL_7n, zSL_7i, zSL_7a, zSL_7l, zSL_8n, zSL_8i, zSL_8a, zSL_8l, zSL_9n, zSL_9i, zSL_9a, zSL_9l, zSL_10n, zSL_10i, zSL_10a, zSL_10l, zSL_11n, zSL_11i, zSL_11a, zSL_11l, zSL_12n, zSL_12i, zSL_12a, zSL_12l, zLI_0, zLL_0, zLA_0, zLI_1, zLL_1, zLA_1, zLI_2, zLL_2, zLA_2, zLI_3, zLL_3, zLA_3, zLI_4, zLL_4, zLA_4, zLI_5, zLL_5, zLA_5, zLI_6, zLL_6, zLA_6, zLI_7, zLL_7, zLA_7, zLI_8, zLL_8, zLA_8, zLI_9, zLL_9, zLA_9, zLI_10, zLL_10, zLA_10, zLI_11, zLL_11, zLA_11, zLI_12, zLL_12, zLA_12, zLI_13, zLL_13, zLA_13, zst_0, zst_1n, zst_1i, zst_1a, zst_2n, zst_2i, zst_2a, zst_3n, zst_3i, zst_3a, zst_4n, zst_4i, zst_4a, zst_5n, zst_5i, zst_5a, zst_6n, zst_6i, zst_6a, zst_7n, zst_7i, zst_7a, zst_8n, zst_8i, zst_8a, zst_9n, zst_9i, zst_9a, zst_10n, zst_10i, zst_10a, zst_11n, zst_11i, zst_11a, zst_12n, zst_12i, zst_12a, zst_13n, zst_13i, zst_13a, zst_14n, zst_14i, zst_14a, zst_15n, zst_15i, zst_15a, zR1_n, zR1_v, zsum_n, zsum_i, zsum_l, zsum_a, zlen_n, zlen_i, zlen_l, zlen_a, List.not_mem_nil, List.mem_cons, or_false, false_or, or_self, ↓reduceIte, if_false, if_true, Nat.reduceEqDiff, Nat.reduceAdd, Nat.reduceLeDiff, true_and, and_true, reduceCtorEq, ne_eq, Int.toNat_natCast, not_true_eq_false, not_false_eq_true, true_implies, false_implies, implies_true, Int.reduceToNat, Int.toNat_zero, Int.reduceLT, Int.reduceLE, Int.reduceEq, Int.reduceAdd, Int.reduceMul, Int.reduceNeg]
      subst hQ
      exact ⟨fun _ => ⟨rfl, rfl⟩, fun h => absurd (by omega) h⟩
    · intro k hk ih y
      have he : (k : Int) < f a 0 := by omega
      have hb2 := zflp_b (n := f a 0) (X := f (a + 1)) (Y := f (a + 2)) (dy := dy) (od := od) hb hfl k
      have hz : ∀ j, zflp (f a 0) (f (a + 1)) (f (a + 2)) dy od bit (k + 1) fl j = _ := fun j => rfl
      have hq0 := zqt_b hp he hy
      have hq : -40000 ≤ zqt (f a 0) (f (a + 1)) (f (a + 2)) k dy ∧ zqt (f a 0) (f (a + 1)) (f (a + 2)) k dy ≤ 40000 := by
        have := p3 k he
        unfold zqt
        omega
      have e88 := fun Q => c88 (L := L) (M := zwI M (zfla f (zflp (f a 0) (f (a + 1)) (f (a + 2)) dy od bit k fl))) (Q := Q) (e := k) (y := dy) ha hR (p9 _) (by rw [zwI_I, oa _ _ _ ne.1]; exact he)
      have e89 := fun Q => c89 (L := L) (M := zwI M (zfla f (zflp (f a 0) (f (a + 1)) (f (a + 2)) dy od bit k fl))) (Q := Q) (e := k) (y := dy) ha hR (p9 _) (by rw [zwI_I, oa _ _ _ ne.1]; exact he) hy
      simp only [zwI_I, oa _ _ _ ne.1, oa1, oa2] at e88 e89
      have ih2 := ih
      unfold zflp at ih2
      generalize zflp (f a 0) (f (a + 1)) (f (a + 2)) dy od bit k fl = g at *
      generalize zqt (f a 0) (f (a + 1)) (f (a + 2)) k dy = q at *
      have c389' := fun Q => c389 (L := L) (M := zwI M (zfla f g)) (Q := Q) (x := q - 2 * od - 1) (y := 4) (by omega) (by omega)
      generalize hT : (q - 2 * od - 1) / 4 = T at *
      have hx := zxor_n (a := g T.toNat) (b := bit) (by have := hb2 T.toNat; omega) (by omega)
      refine zW_sound 60 [3, 65] ?_
      simp only [ZR67, k1, hF, zwI_I, zwI_2, zsI_wI, zwI_w, oa _ _ _ ne.1, ZF88.1, ZF88.2.1, ZF88.2.2.1, ZF89.1, ZF89.2.1, ZF89.2.2.1, ZF389.1, ZF389.2.1, ZF389.2.2.1, e88, e89, c389', zk_1117, zk_1123, o23, hx, zW_succ, zE_iload, zE_aload, zE_lload, zE_iinc, zE_istore, zE_astore, zE_lstore, zE_iconst, zE_ldc2, zE_iadd, zE_isub, zE_imul, zE_idiv, zE_irem, zE_ineg, zE_iand, zE_ior, zE_ixor, zE_ishl, zE_ishr, zE_land, zE_lor, zE_lxor, zE_lshl, zE_lshr, zE_i2l, zE_lcmp, zE_dup_i, zE_dup_a, zE_dup2_ia, zE_pop_i, zE_pop_a, zE_pop2, zE_goto, zE_if_eq, zE_icmp_eq, zE_if_ne, zE_icmp_ne, zE_if_lt, zE_icmp_lt, zE_if_ge, zE_icmp_ge, zE_if_gt, zE_icmp_gt, zE_if_le, zE_icmp_le, zE_iaload, zE_baload, zE_laload, zE_aaload, zE_iastore, zE_bastore, zE_lastore, zE_aastore, zE_alen, zE_getf0, zE_getf1, zE_getf2, zE_getf3, zE_putf0, zE_putf1, zE_putf2, zE_putf3, zE_new, zE_newa, zE_newq, zE_ireturn, zE_lreturn, zE_areturn, zE_return, zE_athrow, zE_st0, zE_vi0, zE_st1, zE_vi1, zE_st2, zE_vi2, zE_st3, zE_vi3, zE_st4, zE_vi4, zE_st5, zE_vi5, zE_st6, zE_vi6, zE_st7, zE_vi7, zE_st8, zE_vi8, zSt_0, zSL_0, zSt_1n, zSt_1i, zSt_1a, zSt_1l, zSt_2n, zSt_2i, zSt_2a, zSt_2l, zSt_3n, zSt_3i, zSt_3a, zSt_3l, zSt_4n, zSt_4i, zSt_4a, zSt_4l, zSt_5n, zSt_5i, zSt_5a, zSt_5l, zSt_6n, zSt_6i, zSt_6a, zSt_6l, zSt_7n, zSt_7i, zSt_7a, zSt_7l, zSt_8n, zSt_8i, zSt_8a, zSt_8l, zSt_9n, zSt_9i, zSt_9a, zSt_9l, zSt_10n, zSt_10i, zSt_10a, zSt_10l, zSt_11n, zSt_11i, zSt_11a, zSt_11l, zSt_12n, zSt_12i, zSt_12a, zSt_12l, zSt_13n, zSt_13i, zSt_13a, zSt_13l, zSL_1n, zSL_1i, zSL_1a, zSL_1l, zSL_2n, zSL_2i, zSL_2a, zSL_2l, zSL_3n, zSL_3i, zSL_3a, zSL_3l, zSL_4n, zSL_4i, zSL_4a, zSL_4l, zSL_5n, zSL_5i, zSL_5a, zSL_5l, zSL_6n, zSL_6i, zSL_6a, zSL_6l, zSL_7n, zSL_7i, zSL_7a, zSL_7l, zSL_8n, zSL_8i, zSL_8a, zSL_8l, zSL_9n, zSL_9i, zSL_9a, zSL_9l, zSL_10n, zSL_10i, zSL_10a, zSL_10l, zSL_11n, zSL_11i, zSL_11a, zSL_11l, zSL_12n, zSL_12i, zSL_12a, zSL_12l, zLI_0, zLL_0, zLA_0, zLI_1, zLL_1, zLA_1, zLI_2, zLL_2, zLA_2, zLI_3, zLL_3, zLA_3, zLI_4, zLL_4, zLA_4, zLI_5, zLL_5, zLA_5, zLI_6, zLL_6, zLA_6, zLI_7, zLL_7, zLA_7, zLI_8, zLL_8, zLA_8, zLI_9, zLL_9, zLA_9, zLI_10, zLL_10, zLA_10, zLI_11, zLL_11, zLA_11, zLI_12, zLL_12, zLA_12, zLI_13, zLL_13, zLA_13, zst_0, zst_1n, zst_1i, zst_1a, zst_2n, zst_2i, zst_2a, zst_3n, zst_3i, zst_3a, zst_4n, zst_4i, zst_4a, zst_5n, zst_5i, zst_5a, zst_6n, zst_6i, zst_6a, zst_7n, zst_7i, zst_7a, zst_8n, zst_8i, zst_8a, zst_9n, zst_9i, zst_9a, zst_10n, zst_10i, zst_10a, zst_11n, zst_11i, zst_11a, zst_12n, zst_12i, zst_12a, zst_13n, zst_13i, zst_13a, zst_14n, zst_14i, zst_14a, zst_15n, zst_15i, zst_15a, zR1_n, zR1_v, zsum_n, zsum_i, zsum_l, zsum_a, zlen_n, zlen_i, zlen_l, zlen_a, List.not_mem_nil, List.mem_cons, or_false, false_or, or_self, ↓reduceIte, if_false, if_true, Nat.reduceEqDiff, Nat.reduceAdd, Nat.reduceLeDiff, true_and, and_true, reduceCtorEq, ne_eq, Int.toNat_natCast, not_true_eq_false, not_false_eq_true, true_implies, false_implies, implies_true, Int.reduceToNat, Int.toNat_zero, Int.reduceLT, Int.reduceLE, Int.reduceEq, Int.reduceAdd, Int.reduceMul, Int.reduceNeg]
      have hc0 : zcut (f a 0) (f (a + 2)) k dy = ¬ (dy < 2 * f (a + 2) k ↔ dy < 2 * f (a + 2) (zaf (f a 0) k)) := rfl
      have next : ∀ (g' : Nat → Nat) y, (∀ j, g' j = if (¬ (dy < 2 * f (a + 2) k ↔ dy < 2 * f (a + 2) (zaf (f a 0) k))) ∧ 0 ≤ T ∧ T < 61 then (if j = T.toNat then g j ^^^ bit else g j) else g j) → zFR (zK L) 67 65 [some (.inr (.inr 1117)), some (.inr (.inr a)), some (.inl dy), some (.inl od), some (.inl (bit : Int)), some (.inl (k : Int)), y] [] (zwI M (zfla f g')) Q9 := by
        intro g' y hg
        have e : g' = if (¬ (dy < 2 * f (a + 2) k ↔ dy < 2 * f (a + 2) (zaf (f a 0) k))) ∧ 0 ≤ T ∧ T < 61 then (fun j => if j = T.toNat then g j ^^^ bit else g j) else g := by
          funext j
          rw [hg j]
          split <;> rfl
        refine zW_sound 60 [3] ?_
        simp only [ZR67, zW_succ, zE_iload, zE_aload, zE_lload, zE_iinc, zE_istore, zE_astore, zE_lstore, zE_iconst, zE_ldc2, zE_iadd, zE_isub, zE_imul, zE_idiv, zE_irem, zE_ineg, zE_iand, zE_ior, zE_ixor, zE_ishl, zE_ishr, zE_land, zE_lor, zE_lxor, zE_lshl, zE_lshr, zE_i2l, zE_lcmp, zE_dup_i, zE_dup_a, zE_dup2_ia, zE_pop_i, zE_pop_a, zE_pop2, zE_goto, zE_if_eq, zE_icmp_eq, zE_if_ne, zE_icmp_ne, zE_if_lt, zE_icmp_lt, zE_if_ge, zE_icmp_ge, zE_if_gt, zE_icmp_gt, zE_if_le, zE_icmp_le, zE_iaload, zE_baload, zE_laload, zE_aaload, zE_iastore, zE_bastore, zE_lastore, zE_aastore, zE_alen, zE_getf0, zE_getf1, zE_getf2, zE_getf3, zE_putf0, zE_putf1, zE_putf2, zE_putf3, zE_new, zE_newa, zE_newq, zE_ireturn, zE_lreturn, zE_areturn, zE_return, zE_athrow, zE_st0, zE_vi0, zE_st1, zE_vi1, zE_st2, zE_vi2, zE_st3, zE_vi3, zE_st4, zE_vi4, zE_st5, zE_vi5, zE_st6, zE_vi6, zE_st7, zE_vi7, zE_st8, zE_vi8, zSt_0, zSL_0, zSt_1n, zSt_1i, zSt_1a, zSt_1l, zSt_2n, zSt_2i, zSt_2a, zSt_2l, zSt_3n, zSt_3i, zSt_3a, zSt_3l, zSt_4n, zSt_4i, zSt_4a, zSt_4l, zSt_5n, zSt_5i, zSt_5a, zSt_5l, zSt_6n, zSt_6i, zSt_6a, zSt_6l, zSt_7n, zSt_7i, zSt_7a, zSt_7l, zSt_8n, zSt_8i, zSt_8a, zSt_8l, zSt_9n, zSt_9i, zSt_9a, zSt_9l, zSt_10n, zSt_10i, zSt_10a, zSt_10l, zSt_11n, zSt_11i, zSt_11a, zSt_11l, zSt_12n, zSt_12i, zSt_12a, zSt_12l, zSt_13n, zSt_13i, zSt_13a, zSt_13l, zSL_1n, zSL_1i, zSL_1a, zSL_1l, zSL_2n, zSL_2i, zSL_2a, zSL_2l, zSL_3n, zSL_3i, zSL_3a, zSL_3l, zSL_4n, zSL_4i, zSL_4a, zSL_4l, zSL_5n, zSL_5i, zSL_5a, zSL_5l, zSL_6n, zSL_6i, zSL_6a, zSL_6l, zSL_7n, zSL_7i, zSL_7a, zSL_7l, zSL_8n, zSL_8i, zSL_8a, zSL_8l, zSL_9n, zSL_9i, zSL_9a, zSL_9l, zSL_10n, zSL_10i, zSL_10a, zSL_10l, zSL_11n, zSL_11i, zSL_11a, zSL_11l, zSL_12n, zSL_12i, zSL_12a, zSL_12l, zLI_0, zLL_0, zLA_0, zLI_1, zLL_1, zLA_1, zLI_2, zLL_2, zLA_2, zLI_3, zLL_3, zLA_3, zLI_4, zLL_4, zLA_4, zLI_5, zLL_5, zLA_5, zLI_6, zLL_6, zLA_6, zLI_7, zLL_7, zLA_7, zLI_8, zLL_8, zLA_8, zLI_9, zLL_9, zLA_9, zLI_10, zLL_10, zLA_10, zLI_11, zLL_11, zLA_11, zLI_12, zLL_12, zLA_12, zLI_13, zLL_13, zLA_13, zst_0, zst_1n, zst_1i, zst_1a, zst_2n, zst_2i, zst_2a, zst_3n, zst_3i, zst_3a, zst_4n, zst_4i, zst_4a, zst_5n, zst_5i, zst_5a, zst_6n, zst_6i, zst_6a, zst_7n, zst_7i, zst_7a, zst_8n, zst_8i, zst_8a, zst_9n, zst_9i, zst_9a, zst_10n, zst_10i, zst_10a, zst_11n, zst_11i, zst_11a, zst_12n, zst_12i, zst_12a, zst_13n, zst_13i, zst_13a, zst_14n, zst_14i, zst_14a, zst_15n, zst_15i, zst_15a, zR1_n, zR1_v, zsum_n, zsum_i, zsum_l, zsum_a, zlen_n, zlen_i, zlen_l, zlen_a, List.not_mem_nil, List.mem_cons, or_false, false_or, or_self, ↓reduceIte, if_false, if_true, Nat.reduceEqDiff, Nat.reduceAdd, Nat.reduceLeDiff, true_and, and_true, reduceCtorEq, ne_eq, Int.toNat_natCast, not_true_eq_false, not_false_eq_true, true_implies, false_implies, implies_true, Int.reduceToNat, Int.toNat_zero, Int.reduceLT, Int.reduceLE, Int.reduceEq, Int.reduceAdd, Int.reduceMul, Int.reduceNeg]
        refine ⟨by unfold zr32; omega, ?_⟩
        rw [e]
        exact ih2 y
      have same : ∀ y, ¬ ((¬ (dy < 2 * f (a + 2) k ↔ dy < 2 * f (a + 2) (zaf (f a 0) k))) ∧ 0 ≤ T ∧ T < 61) → zFR (zK L) 67 65 [some (.inr (.inr 1117)), some (.inr (.inr a)), some (.inl dy), some (.inl od), some (.inl (bit : Int)), some (.inl (k : Int)), y] [] (zwI M (zfla f g)) Q9 := fun y h => next g y (fun j => by rw [if_neg h])
      have up : zu2 (zfla f g) 1123 T.toNat ((g T.toNat ^^^ bit : Nat) : Int) = zfla f (fun j => if j = T.toNat then g j ^^^ bit else g j) := by
        unfold zfla
        rw [zua_s]
        congr 1
        funext j
        rw [zup_if]
        dsimp only
        by_cases h : j = T.toNat
        · rw [if_pos h, if_pos h, h]
        · rw [if_neg h, if_neg h]
      rw [up]
      refine ⟨fun h => absurd h (by omega), fun _ => ⟨fun hc => ⟨by unfold zr32; omega, by unfold zr32; omega, by unfold zr32; omega, fun h => same _ (fun h2 => absurd h2.2.1 (by omega)), fun h => ⟨fun h3 => same _ (fun h2 => absurd h2.2.2 (by omega)), fun h3 => ⟨by omega, by omega, next _ _ (fun j => (if_pos ⟨hc, by omega, by omega⟩).symm)⟩⟩⟩, fun hc => same _ (fun h2 => hc h2.1)⟩⟩
  refine zW_sound 60 [3] ?_
  simp only [ZF67, ZR67, zW_succ, zE_iload, zE_aload, zE_lload, zE_iinc, zE_istore, zE_astore, zE_lstore, zE_iconst, zE_ldc2, zE_iadd, zE_isub, zE_imul, zE_idiv, zE_irem, zE_ineg, zE_iand, zE_ior, zE_ixor, zE_ishl, zE_ishr, zE_land, zE_lor, zE_lxor, zE_lshl, zE_lshr, zE_i2l, zE_lcmp, zE_dup_i, zE_dup_a, zE_dup2_ia, zE_pop_i, zE_pop_a, zE_pop2, zE_goto, zE_if_eq, zE_icmp_eq, zE_if_ne, zE_icmp_ne, zE_if_lt, zE_icmp_lt, zE_if_ge, zE_icmp_ge, zE_if_gt, zE_icmp_gt, zE_if_le, zE_icmp_le, zE_iaload, zE_baload, zE_laload, zE_aaload, zE_iastore, zE_bastore, zE_lastore, zE_aastore, zE_alen, zE_getf0, zE_getf1, zE_getf2, zE_getf3, zE_putf0, zE_putf1, zE_putf2, zE_putf3, zE_new, zE_newa, zE_newq, zE_ireturn, zE_lreturn, zE_areturn, zE_return, zE_athrow, zE_st0, zE_vi0, zE_st1, zE_vi1, zE_st2, zE_vi2, zE_st3, zE_vi3, zE_st4, zE_vi4, zE_st5, zE_vi5, zE_st6, zE_vi6, zE_st7, zE_vi7, zE_st8, zE_vi8, zSt_0, zSL_0, zSt_1n, zSt_1i, zSt_1a, zSt_1l, zSt_2n, zSt_2i, zSt_2a, zSt_2l, zSt_3n, zSt_3i, zSt_3a, zSt_3l, zSt_4n, zSt_4i, zSt_4a, zSt_4l, zSt_5n, zSt_5i, zSt_5a, zSt_5l, zSt_6n, zSt_6i, zSt_6a, zSt_6l, zSt_7n, zSt_7i, zSt_7a, zSt_7l, zSt_8n, zSt_8i, zSt_8a, zSt_8l, zSt_9n, zSt_9i, zSt_9a, zSt_9l, zSt_10n, zSt_10i, zSt_10a, zSt_10l, zSt_11n, zSt_11i, zSt_11a, zSt_11l, zSt_12n, zSt_12i, zSt_12a, zSt_12l, zSt_13n, zSt_13i, zSt_13a, zSt_13l, zSL_1n, zSL_1i, zSL_1a, zSL_1l, zSL_2n, zSL_2i, zSL_2a, zSL_2l, zSL_3n, zSL_3i, zSL_3a, zSL_3l, zSL_4n, zSL_4i, zSL_4a, zSL_4l, zSL_5n, zSL_5i, zSL_5a, zSL_5l, zSL_6n, zSL_6i, zSL_6a, zSL_6l, zSL_7n, zSL_7i, zSL_7a, zSL_7l, zSL_8n, zSL_8i, zSL_8a, zSL_8l, zSL_9n, zSL_9i, zSL_9a, zSL_9l, zSL_10n, zSL_10i, zSL_10a, zSL_10l, zSL_11n, zSL_11i, zSL_11a, zSL_11l, zSL_12n, zSL_12i, zSL_12a, zSL_12l, zLI_0, zLL_0, zLA_0, zLI_1, zLL_1, zLA_1, zLI_2, zLL_2, zLA_2, zLI_3, zLL_3, zLA_3, zLI_4, zLL_4, zLA_4, zLI_5, zLL_5, zLA_5, zLI_6, zLL_6, zLA_6, zLI_7, zLL_7, zLA_7, zLI_8, zLL_8, zLA_8, zLI_9, zLL_9, zLA_9, zLI_10, zLL_10, zLA_10, zLI_11, zLL_11, zLA_11, zLI_12, zLL_12, zLA_12, zLI_13, zLL_13, zLA_13, zst_0, zst_1n, zst_1i, zst_1a, zst_2n, zst_2i, zst_2a, zst_3n, zst_3i, zst_3a, zst_4n, zst_4i, zst_4a, zst_5n, zst_5i, zst_5a, zst_6n, zst_6i, zst_6a, zst_7n, zst_7i, zst_7a, zst_8n, zst_8i, zst_8a, zst_9n, zst_9i, zst_9a, zst_10n, zst_10i, zst_10a, zst_11n, zst_11i, zst_11a, zst_12n, zst_12i, zst_12a, zst_13n, zst_13i, zst_13a, zst_14n, zst_14i, zst_14a, zst_15n, zst_15i, zst_15a, zR1_n, zR1_v, zsum_n, zsum_i, zsum_l, zsum_a, zlen_n, zlen_i, zlen_l, zlen_a, List.not_mem_nil, List.mem_cons, or_false, false_or, or_self, ↓reduceIte, if_false, if_true, Nat.reduceEqDiff, Nat.reduceAdd, Nat.reduceLeDiff, true_and, and_true, reduceCtorEq, ne_eq, Int.toNat_natCast, not_true_eq_false, not_false_eq_true, true_implies, false_implies, implies_true, Int.reduceToNat, Int.toNat_zero, Int.reduceLT, Int.reduceLE, Int.reduceEq, Int.reduceAdd, Int.reduceMul, Int.reduceNeg]
  exact loop 0 (Nat.zero_le _) _
end ZFLIP
