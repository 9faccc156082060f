/-! the class: the cheapest way -/
section ZCHEAP
variable {L : Nat} {M : zM} {s t : Nat} {Q : zO → zM → Prop}
def zwb (f : Nat → Nat → Int) (S x y : Nat) : Nat → Nat → Int := zu2 (zu2 (zu2 (zu2 (zfil (zfil (zfil (zfil f 1119 3721 1073741824) 1120 3721 1073741824) 1121 61 (-2)) 1122 61 (-2)) 1119 S (-4096)) 1120 S (-4096)) 1121 y (-1)) 1122 x (-1)
theorem c69 {S x y : Nat} (hR : zLay M.2.2.2) (hS : S < 3721) (hx : x < 61) (hy : y < 61) : zFR (zK L) 69 0 (zcall 69 [.inr (.inr 1117), .inl (S : Int), .inl (x : Int), .inl (y : Int)]) [] M Q = Q (.inl none) (zwI M (zwb M.2.1 S x y)) := by
  have hF := hR.1
  unfold zLayF at hF
  have e1 := fun M v Q => c385 (L := L) (M := M) (Q := Q) (a := 1119) (n := 3721) (v := v) zk_1119 (by omega) (by omega)
  have e2 := fun M v Q => c385 (L := L) (M := M) (Q := Q) (a := 1120) (n := 3721) (v := v) zk_1120 (by omega) (by omega)
  have e3 := fun M v Q => c385 (L := L) (M := M) (Q := Q) (a := 1121) (n := 61) (v := v) zk_1121 (by omega) (by omega)
  have e4 := fun M v Q => c385 (L := L) (M := M) (Q := Q) (a := 1122) (n := 61) (v := v) zk_1122 (by omega) (by omega)
  refine zFR_det (zW_sound 60 [] ?_) Q
  simp only [ZF69, ZR69, zk_1117, zk_1119, zk_1120, zk_1121, zk_1122, hF, zwI_I, zwI_2, zwI_w, zsI_wI, ZF385.1, ZF385.2.1, ZF385.2.2.1, e1, e2, e3, e4, zW_succ, zE_iload, zE_aload, zE_lload, zE_iinc, zE_istore, zE_astore, zE_lstore, zE_iconst, zE_ldc2, zE_iadd, zE_isub, zE_imul, zE_idiv, zE_irem, zE_ineg, zE_iand, zE_ior, zE_ixor, zE_ishl, zE_ishr, zE_land, zE_lor, zE_lxor, zE_lshl, zE_lshr, zE_i2l, zE_lcmp, zE_dup_i, zE_dup_a, zE_dup2_ia, zE_pop_i, zE_pop_a, zE_pop2, zE_goto, zE_if_eq, zE_icmp_eq, zE_if_ne, zE_icmp_ne, zE_if_lt, zE_icmp_lt, zE_if_ge, zE_icmp_ge, zE_if_gt, zE_icmp_gt, zE_if_le, zE_icmp_le, zE_iaload, zE_baload, zE_laload, zE_aaload, zE_iastore, zE_bastore, zE_lastore, zE_aastore, zE_alen, zE_getf0, zE_getf1, zE_getf2, zE_getf3, zE_putf0, zE_putf1, zE_putf2, zE_putf3, zE_new, zE_newa, zE_newq, zE_ireturn, zE_lreturn, zE_areturn, zE_return, zE_athrow, zE_st0, zE_vi0, zE_st1, zE_vi1, zE_st2, zE_vi2, zE_st3, zE_vi3, zE_st4, zE_vi4, zE_st5, zE_vi5, zE_st6, zE_vi6, zE_st7, zE_vi7, zE_st8, zE_vi8, zSt_0, zSL_0, zSt_1n, zSt_1i, zSt_1a, zSt_1l, zSt_2n, zSt_2i, zSt_2a, zSt_2l, zSt_3n, zSt_3i, zSt_3a, zSt_3l, zSt_4n, zSt_4i, zSt_4a, zSt_4l, zSt_5n, zSt_5i, zSt_5a, zSt_5l, zSt_6n, zSt_6i, zSt_6a, zSt_6l, zSt_7n, zSt_7i, zSt_7a, zSt_7l, zSt_8n, zSt_8i, zSt_8a, zSt_8l, zSt_9n, zSt_9i, zSt_9a, zSt_9l, zSt_10n, zSt_10i, zSt_10a, zSt_10l, zSt_11n, zSt_11i, zSt_11a, zSt_11l, zSt_12n, zSt_12i, zSt_12a, zSt_12l, zSt_13n, zSt_13i, zSt_13a, zSt_13l, zSL_1n, zSL_1i, zSL_1a, zSL_1l, zSL_2n, zSL_2i, zSL_2a, zSL_2l, zSL_3n, zSL_3i, zSL_3a, zSL_3l, zSL_4n, zSL_4i, zSL_4a, zSL_4l, zSL_5n, zSL_5i, zSL_5a, zSL_5l, zSL_6n, zSL_6i, zSL_6a, zSL_6l, zSL_7n, zSL_7i, zSL_7a, zSL_7l, zSL_8n, zSL_8i, zSL_8a, zSL_8l, zSL_9n, zSL_9i, zSL_9a, zSL_9l, zSL_10n, zSL_10i, zSL_10a, zSL_10l, zSL_11n, zSL_11i, zSL_11a, zSL_11l, zSL_12n, zSL_12i, zSL_12a, zSL_12l, zLI_0, zLL_0, zLA_0, zLI_1, zLL_1, zLA_1, zLI_2, zLL_2, zLA_2, zLI_3, zLL_3, zLA_3, zLI_4, zLL_4, zLA_4, zLI_5, zLL_5, zLA_5, zLI_6, zLL_6, zLA_6, zLI_7, zLL_7, zLA_7, zLI_8, zLL_8, zLA_8, zLI_9, zLL_9, zLA_9, zLI_10, zLL_10, zLA_10, zLI_11, zLL_11, zLA_11, zLI_12, zLL_12, zLA_12, zLI_13, zLL_13, zLA_13, zst_0, zst_1n, zst_1i, zst_1a, zst_2n, zst_2i, zst_2a, zst_3n, zst_3i, zst_3a, zst_4n, zst_4i, zst_4a, zst_5n, zst_5i, zst_5a, zst_6n, zst_6i, zst_6a, zst_7n, zst_7i, zst_7a, zst_8n, zst_8i, zst_8a, zst_9n, zst_9i, zst_9a, zst_10n, zst_10i, zst_10a, zst_11n, zst_11i, zst_11a, zst_12n, zst_12i, zst_12a, zst_13n, zst_13i, zst_13a, zst_14n, zst_14i, zst_14a, zst_15n, zst_15i, zst_15a, zR1_n, zR1_v, zsum_n, zsum_i, zsum_l, zsum_a, zlen_n, zlen_i, zlen_l, zlen_a, List.not_mem_nil, List.mem_cons, or_false, false_or, or_self, ↓reduceIte, if_false, if_true, Nat.reduceEqDiff, Nat.reduceAdd, Nat.reduceLeDiff, true_and, and_true, reduceCtorEq, ne_eq, Int.toNat_natCast, not_true_eq_false, not_false_eq_true, true_implies, false_implies, implies_true, Int.reduceToNat, Int.toNat_zero, Int.reduceLT, Int.reduceLE, Int.reduceEq, Int.reduceAdd, Int.reduceMul, Int.reduceNeg]
  (repeat' (first | with_reducible refine And.intro ?_ ?_ | with_reducible intro _)) <;> try first | with_reducible rfl | with_reducible assumption | omega | (unfold zr32; omega) | contradiction | (exact absurd (by omega) (by assumption)) | rfl | (simp only [Sum.inl.injEq, Option.some.injEq]; omega)
/-- the start -/
theorem zwb_I {f : Nat → Nat → Int} {S x y : Nat} (hS : S = y * 61 + x) (hx : x < 61) (hy : y < 61) : zWI (f 1118) S (zwb f S x y) 0 := by
  have r : ∀ a j, zwb f S x y a j = if a = 1122 ∧ j = x then -1 else if a = 1121 ∧ j = y then -1 else if a = 1120 ∧ j = S then -4096 else if a = 1119 ∧ j = S then -4096 else if a = 1122 ∧ j < 61 then -2 else if a = 1121 ∧ j < 61 then -2 else if a = 1120 ∧ j < 3721 then 1073741824 else if a = 1119 ∧ j < 3721 then 1073741824 else f a j := fun a j => by
    unfold zwb
    simp only [zu2_if]
    rfl
  have v : ∀ a, a < 2 → ∀ i k, i < 61 → k < 61 → zwb f S x y (zar a) (zpa a i k) = if zpa a i k = S then -4096 else 1073741824 := fun a ha i k hi hk => by
    have hl := zpa_lt (a := a) hi hk
    rw [r]
    have : a = 0 ∨ a = 1 := by omega
    rcases this with rfl | rfl
    · rw [show zar 0 = 1119 from rfl]
      simp [hl]
    · rw [show zar 1 = 1120 from rfl]
      simp [hl]
  refine ⟨?_, ?_, ?_, ?_, ?_, fun i s q hi => absurd hi (Nat.not_lt_zero i), fun i s q hi => absurd hi (Nat.not_lt_zero i)⟩
  · funext j
    rw [r]
    simp
  · rw [r]; simp
  · rw [r]; simp
  · intro i k hi hk
    rw [v 0 (by omega) i k hi hk]
    by_cases e : zpa 0 i k = S
    · rw [if_pos e]
      refine Or.inr (Or.inl ⟨e, rfl, ?_⟩)
      have : k = x := by
        rw [zpa_0] at e
        unfold zpt0 at e
        omega
      rw [r, this]
      simp [znw]
    · rw [if_neg e]
      exact Or.inl rfl
  · intro i k hi hk
    rw [v 1 (by omega) i k hi hk]
    by_cases e : zpa 1 i k = S
    · rw [if_pos e]
      refine Or.inr (Or.inl ⟨e, rfl, ?_⟩)
      have : k = y := by
        rw [zpa_1] at e
        unfold zpt1 at e
        omega
      rw [r, this]
      simp [znw]
    · rw [if_neg e]
      exact Or.inl rfl
/-- what the class answers -/
def zwans (m : Nat → Int) (S E : Nat) (v : Int) : Prop := (v = -1 ∧ ∀ c a t, a < 2 → ¬ zseg m S c a t E) ∨ ∃ B T : Nat, v = 4096 * (B : Int) + (T : Int) ∧ T ≤ 4095 ∧ (∃ a, a < 2 ∧ zseg m S B a T E) ∧ ∀ c a t, a < 2 → zseg m S c a t E → B < c ∨ (B = c ∧ T ≤ t)
theorem zWI_b {m : Nat → Int} {S : Nat} {f : Nat → Nat → Int} {B : Nat} (h : zWI m S f B) (hB : B ≤ 8000) : (∀ p, p < 3721 → -4096 ≤ f 1119 p ∧ f 1119 p ≤ 1073741824) ∧ ∀ p, p < 3721 → -4096 ≤ f 1120 p ∧ f 1120 p ≤ 1073741824 := by
  refine ⟨fun p hp => ?_, fun p hp => ?_⟩
  · obtain ⟨x, y, hx, hy, rfl⟩ := zpa_of (a := 0) hp
    have e : f 1119 (zpa 0 x y) = f (zar 0) (zpa 0 x y) := rfl
    rw [e]
    rcases h.2.2.2.1 x y hx hy with g | ⟨g1, g2, g3⟩ | ⟨g0, r, c, t, g1, g2, g3, g4, g5, g6, g7⟩ <;> omega
  · obtain ⟨x, y, hx, hy, rfl⟩ := zpa_of (a := 1) hp
    have e : f 1120 (zpa 1 x y) = f (zar 1) (zpa 1 x y) := rfl
    rw [e]
    rcases h.2.2.2.2.1 x y hx hy with g | ⟨g1, g2, g3⟩ | ⟨g0, r, c, t, g1, g2, g3, g4, g5, g6, g7⟩ <;> omega
set_option maxRecDepth 8000 in
theorem c68 {f : Nat → Nat → Int} {x y u v : Nat} (hR : zLay M.2.2.2) (hx : x < 61) (hy : y < 61) (hu : u < 61) (hv : v < 61) (m1 : f 1118 (y * 61 + x) = 0) (m2 : f 1118 (v * 61 + u) = 0) (hne : y * 61 + x ≠ v * 61 + u) (hH : (∃ c a t, a < 2 ∧ zseg (f 1118) (y * 61 + x) c a t (v * 61 + u)) → ∃ B T, T ≤ 4095 ∧ (∃ a, a < 2 ∧ zseg (f 1118) (y * 61 + x) B a T (v * 61 + u)) ∧ ∀ c a t, a < 2 → zseg (f 1118) (y * 61 + x) c a t (v * 61 + u) → B < c ∨ (B = c ∧ T ≤ t)) : zFR (zK L) 68 0 (zcall 68 [.inr (.inr 1117), .inl (x : Int), .inl (y : Int), .inl (u : Int), .inl (v : Int)]) [] (zwI M f) (fun r M2 => ∃ f' w, r = .inl (some (.inl w)) ∧ M2 = zwI M f' ∧ zwans (f 1118) (y * 61 + x) (v * 61 + u) w ∧ ∀ a, a < 1119 ∨ 1122 < a → f' a = f a) := by
  have hF : M.2.2.2 1117 0 = 1118 ∧ M.2.2.2 1117 1 = 1119 ∧ M.2.2.2 1117 2 = 1120 := by
    have hF := hR.1
    unfold zLayF at hF
    exact ⟨by simp only [hF], by simp only [hF], by simp only [hF]⟩
  generalize hS : y * 61 + x = S at *
  generalize hE : v * 61 + u = E at *
  have hS6 : S < 3721 := by omega
  have hE6 : E < 3721 := by omega
  have e69 := fun Q => c69 (L := L) (M := zwI M f) (Q := Q) (S := S) (x := x) (y := y) hR hS6 hx hy
  rw [zwI_I, zwI_w] at e69
  generalize hQ : (fun r M2 => ∃ f' w, r = (Sum.inl (some (Sum.inl w)) : zO) ∧ M2 = zwI M f' ∧ zwans (f 1118) S E w ∧ ∀ a, a < 1119 ∨ 1122 < a → f' a = f a) = Q9
  -- rounds
  have loop : ∀ N : Nat, N = 7442 → ∀ d b : Nat, N - b = d → b ≤ N → ∀ f' y8 y9, zWI (f 1118) S f' b → (∀ a, a < 1119 ∨ 1122 < a → f' a = f a) → (∀ B T, T ≤ 4095 → (∃ a, a < 2 ∧ zseg (f 1118) S B a T E) → (∀ c a t, a < 2 → zseg (f 1118) S c a t E → B < c ∨ (B = c ∧ T ≤ t)) → b ≤ B) → zFR (zK L) 68 90 [some (.inr (.inr 1117)), some (.inl (x : Int)), some (.inl (y : Int)), some (.inl (u : Int)), some (.inl (v : Int)), some (.inl (S : Int)), some (.inl (E : Int)), some (.inl (b : Int)), y8, y9] [] (zwI M f') Q9 := by
    have none9 : ∀ f' : Nat → Nat → Int, (∀ a, a < 1119 ∨ 1122 < a → f' a = f a) → (∀ c a t, a < 2 → ¬ zseg (f 1118) S c a t E) → Q9 (.inl (some (.inl (-1)))) (zwI M f') := by
      intro f' h1 h2
      subst hQ
      exact ⟨f', -1, rfl, rfl, Or.inl ⟨rfl, h2⟩, h1⟩
    intro N hN d
    induction d with
    | zero =>
      intro b hd hb f' y8 y9 h1 h2 h3
      have q9 := none9 f' h2 (fun c a t ha hz => by
        obtain ⟨B, T, hT, ⟨a', ha', hz'⟩, hm⟩ := hH ⟨c, a, t, ha, hz⟩
        have := h3 B T hT ⟨a', ha', hz'⟩ hm
        have := zseg_t _ _ _ _ hz'
        omega)
      have hb7 : b = N := by omega
      refine zW_sound 60 [148] ?_
      simp only [ZR68, zW_succ, zE_iload, zE_aload, zE_lload, zE_iinc, zE_istore, zE_astore, zE_lstore, zE_iconst, zE_ldc2, zE_iadd, zE_isub, zE_imul, zE_idiv, zE_irem, zE_ineg, zE_iand, zE_ior, zE_ixor, zE_ishl, zE_ishr, zE_land, zE_lor, zE_lxor, zE_lshl, zE_lshr, zE_i2l, zE_lcmp, zE_dup_i, zE_dup_a, zE_dup2_ia, zE_pop_i, zE_pop_a, zE_pop2, zE_goto, zE_if_eq, zE_icmp_eq, zE_if_ne, zE_icmp_ne, zE_if_lt, zE_icmp_lt, zE_if_ge, zE_icmp_ge, zE_if_gt, zE_icmp_gt, zE_if_le, zE_icmp_le, zE_iaload, zE_baload, zE_laload, zE_aaload, zE_iastore, zE_bastore, zE_lastore, zE_aastore, zE_alen, zE_getf0, zE_getf1, zE_getf2, zE_getf3, zE_putf0, zE_putf1, zE_putf2, zE_putf3, zE_new, zE_newa, zE_newq, zE_ireturn, zE_lreturn, zE_areturn, zE_return, zE_athrow, zE_st0, zE_vi0, zE_st1, zE_vi1, zE_st2, zE_vi2, zE_st3, zE_vi3, zE_st4, zE_vi4, zE_st5, zE_vi5, zE_st6, zE_vi6, zE_st7, zE_vi7, zE_st8, zE_vi8, zSt_0, zSL_0, zSt_1n, zSt_1i, zSt_1a, zSt_1l, zSt_2n, zSt_2i, zSt_2a, zSt_2l, zSt_3n, zSt_3i, zSt_3a, zSt_3l, zSt_4n, zSt_4i, zSt_4a, zSt_4l, zSt_5n, zSt_5i, zSt_5a, zSt_5l, zSt_6n, zSt_6i, zSt_6a, zSt_6l, zSt_7n, zSt_7i, zSt_7a, zSt_7l, zSt_8n, zSt_8i, zSt_8a, zSt_8l, zSt_9n, zSt_9i, zSt_9a, zSt_9l, zSt_10n, zSt_10i, zSt_10a, zSt_10l, zSt_11n, zSt_11i, zSt_11a, zSt_11l, zSt_12n, zSt_12i, zSt_12a, zSt_12l, zSt_13n, zSt_13i, zSt_13a, zSt_13l, zSL_1n, zSL_1i, zSL_1a, zSL_1l, zSL_2n, zSL_2i, zSL_2a, zSL_2l, zSL_3n, zSL_3i, zSL_3a, zSL_3l, zSL_4n, zSL_4i, zSL_4a, zSL_4l, zSL_5n, zSL_5i, zSL_5a, zSL_5l, zSL_6n, zSL_6i, zSL_6a, zSL_6l, zSL_7n, zSL_7i, zSL_7a, zSL_7l, zSL_8n, zSL_8i, zSL_8a, zSL_8l, zSL_9n, zSL_9i, zSL_9a, zSL_9l, zSL_10n, zSL_10i, zSL_10a, zSL_10l, zSL_11n, zSL_11i, zSL_11a, zSL_11l, zSL_12n, zSL_12i, zSL_12a, zSL_12l, zLI_0, zLL_0, zLA_0, zLI_1, zLL_1, zLA_1, zLI_2, zLL_2, zLA_2, zLI_3, zLL_3, zLA_3, zLI_4, zLL_4, zLA_4, zLI_5, zLL_5, zLA_5, zLI_6, zLL_6, zLA_6, zLI_7, zLL_7, zLA_7, zLI_8, zLL_8, zLA_8, zLI_9, zLL_9, zLA_9, zLI_10, zLL_10, zLA_10, zLI_11, zLL_11, zLA_11, zLI_12, zLL_12, zLA_12, zLI_13, zLL_13, zLA_13, zst_0, zst_1n, zst_1i, zst_1a, zst_2n, zst_2i, zst_2a, zst_3n, zst_3i, zst_3a, zst_4n, zst_4i, zst_4a, zst_5n, zst_5i, zst_5a, zst_6n, zst_6i, zst_6a, zst_7n, zst_7i, zst_7a, zst_8n, zst_8i, zst_8a, zst_9n, zst_9i, zst_9a, zst_10n, zst_10i, zst_10a, zst_11n, zst_11i, zst_11a, zst_12n, zst_12i, zst_12a, zst_13n, zst_13i, zst_13a, zst_14n, zst_14i, zst_14a, zst_15n, zst_15i, zst_15a, zR1_n, zR1_v, zsum_n, zsum_i, zsum_l, zsum_a, zlen_n, zlen_i, zlen_l, zlen_a, List.not_mem_nil, List.mem_cons, or_false, false_or, or_self, ↓reduceIte, if_false, if_true, Nat.reduceEqDiff, Nat.reduceAdd, Nat.reduceLeDiff, true_and, and_true, reduceCtorEq, ne_eq, Int.toNat_natCast, not_true_eq_false, not_false_eq_true, true_implies, false_implies, implies_true, Int.reduceToNat, Int.toNat_zero, Int.reduceLT, Int.reduceLE, Int.reduceEq, Int.reduceAdd, Int.reduceMul, Int.reduceNeg]
      refine ⟨fun _ => ?_, fun h => absurd (by omega) h⟩
      refine zW_sound 60 [] ?_
      simp only [ZR68, zW_succ, zE_iload, zE_aload, zE_lload, zE_iinc, zE_istore, zE_astore, zE_lstore, zE_iconst, zE_ldc2, zE_iadd, zE_isub, zE_imul, zE_idiv, zE_irem, zE_ineg, zE_iand, zE_ior, zE_ixor, zE_ishl, zE_ishr, zE_land, zE_lor, zE_lxor, zE_lshl, zE_lshr, zE_i2l, zE_lcmp, zE_dup_i, zE_dup_a, zE_dup2_ia, zE_pop_i, zE_pop_a, zE_pop2, zE_goto, zE_if_eq, zE_icmp_eq, zE_if_ne, zE_icmp_ne, zE_if_lt, zE_icmp_lt, zE_if_ge, zE_icmp_ge, zE_if_gt, zE_icmp_gt, zE_if_le, zE_icmp_le, zE_iaload, zE_baload, zE_laload, zE_aaload, zE_iastore, zE_bastore, zE_lastore, zE_aastore, zE_alen, zE_getf0, zE_getf1, zE_getf2, zE_getf3, zE_putf0, zE_putf1, zE_putf2, zE_putf3, zE_new, zE_newa, zE_newq, zE_ireturn, zE_lreturn, zE_areturn, zE_return, zE_athrow, zE_st0, zE_vi0, zE_st1, zE_vi1, zE_st2, zE_vi2, zE_st3, zE_vi3, zE_st4, zE_vi4, zE_st5, zE_vi5, zE_st6, zE_vi6, zE_st7, zE_vi7, zE_st8, zE_vi8, zSt_0, zSL_0, zSt_1n, zSt_1i, zSt_1a, zSt_1l, zSt_2n, zSt_2i, zSt_2a, zSt_2l, zSt_3n, zSt_3i, zSt_3a, zSt_3l, zSt_4n, zSt_4i, zSt_4a, zSt_4l, zSt_5n, zSt_5i, zSt_5a, zSt_5l, zSt_6n, zSt_6i, zSt_6a, zSt_6l, zSt_7n, zSt_7i, zSt_7a, zSt_7l, zSt_8n, zSt_8i, zSt_8a, zSt_8l, zSt_9n, zSt_9i, zSt_9a, zSt_9l, zSt_10n, zSt_10i, zSt_10a, zSt_10l, zSt_11n, zSt_11i, zSt_11a, zSt_11l, zSt_12n, zSt_12i, zSt_12a, zSt_12l, zSt_13n, zSt_13i, zSt_13a, zSt_13l, zSL_1n, zSL_1i, zSL_1a, zSL_1l, zSL_2n, zSL_2i, zSL_2a, zSL_2l, zSL_3n, zSL_3i, zSL_3a, zSL_3l, zSL_4n, zSL_4i, zSL_4a, zSL_4l, zSL_5n, zSL_5i, zSL_5a, zSL_5l, zSL_6n, zSL_6i, zSL_6a, zSL_6l, zSL_7n, zSL_7i, zSL_7a, zSL_7l, zSL_8n, zSL_8i, zSL_8a, zSL_8l, zSL_9n, zSL_9i, zSL_9a, zSL_9l, zSL_10n, zSL_10i, zSL_10a, zSL_10l, zSL_11n, zSL_11i, zSL_11a, zSL_11l, zSL_12n, zSL_12i, zSL_12a, zSL_12l, zLI_0, zLL_0, zLA_0, zLI_1, zLL_1, zLA_1, zLI_2, zLL_2, zLA_2, zLI_3, zLL_3, zLA_3, zLI_4, zLL_4, zLA_4, zLI_5, zLL_5, zLA_5, zLI_6, zLL_6, zLA_6, zLI_7, zLL_7, zLA_7, zLI_8, zLL_8, zLA_8, zLI_9, zLL_9, zLA_9, zLI_10, zLL_10, zLA_10, zLI_11, zLL_11, zLA_11, zLI_12, zLL_12, zLA_12, zLI_13, zLL_13, zLA_13, zst_0, zst_1n, zst_1i, zst_1a, zst_2n, zst_2i, zst_2a, zst_3n, zst_3i, zst_3a, zst_4n, zst_4i, zst_4a, zst_5n, zst_5i, zst_5a, zst_6n, zst_6i, zst_6a, zst_7n, zst_7i, zst_7a, zst_8n, zst_8i, zst_8a, zst_9n, zst_9i, zst_9a, zst_10n, zst_10i, zst_10a, zst_11n, zst_11i, zst_11a, zst_12n, zst_12i, zst_12a, zst_13n, zst_13i, zst_13a, zst_14n, zst_14i, zst_14a, zst_15n, zst_15i, zst_15a, zR1_n, zR1_v, zsum_n, zsum_i, zsum_l, zsum_a, zlen_n, zlen_i, zlen_l, zlen_a, List.not_mem_nil, List.mem_cons, or_false, false_or, or_self, ↓reduceIte, if_false, if_true, Nat.reduceEqDiff, Nat.reduceAdd, Nat.reduceLeDiff, true_and, and_true, reduceCtorEq, ne_eq, Int.toNat_natCast, not_true_eq_false, not_false_eq_true, true_implies, false_implies, implies_true, Int.reduceToNat, Int.toNat_zero, Int.reduceLT, Int.reduceLE, Int.reduceEq, Int.reduceAdd, Int.reduceMul, Int.reduceNeg]
      exact q9
    | succ d ih =>
      intro b hd hb f' y8 y9 h1 h2 h3
      have hb8 : b ≤ 8000 := by omega
      have hq1 : N - (b + 1) = d := by omega
      have hq2 : b + 1 ≤ N := by omega
      have hbl : (b : Int) < 7442 := by omega
      have hb32 : zr32 ((b : Int) + 1) := by unfold zr32; omega
      have hE0 : (0 : Int) ≤ (E : Int) ∧ (E : Int) < ((3721 : Nat) : Int) := by omega
      obtain ⟨bnd1, bnd2⟩ := zWI_b h1 hb8
      obtain ⟨r7, M7, ⟨f1, f2, i1, i2, hr7, hM7, p1, p2⟩, e70⟩ := zFRx (c70 (L := L) (M := M) (f := f') (b := (b : Int)) hR (by omega) bnd1 bnd2)
      subst hr7 hM7
      have hw := zWI_s hb8 hS6 h1 p1 p2
      have fr2 : ∀ a, a < 1119 ∨ 1122 < a → f2 a = f a := fun a ha => ((p2.1 a (by omega) (by omega)).trans (p1.1 a (by omega) (by omega))).trans (h2 a ha)
      -- what stands at the end
      have vals : ∀ a, a < 2 → f2 (zar a) E = 1073741824 ∨ ∃ c t : Nat, c ≤ b ∧ zseg (f 1118) S c a t E ∧ f2 (zar a) E = 4096 * (c : Int) + (t : Int) ∧ f2 (zar a) E ≤ 40000000 := by
        intro a ha
        have hA : zWA (f 1118) S f2 a (b + 1) := by
          have : a = 0 ∨ a = 1 := by omega
          rcases this with rfl | rfl
          · exact hw.2.2.2.1
          · exact hw.2.2.2.2.1
        obtain ⟨i, k, hi, hk, e⟩ := zpa_of (a := a) hE6
        have hx := hA i k hi hk
        rw [← e] at hx
        rcases hx with g | ⟨g1, -⟩ | ⟨g0, r, c, t, g1, g2, g3, g4, g5, g6, g7⟩
        · exact Or.inl g
        · exact absurd g1.symm hne
        · exact Or.inr ⟨c, t, by omega, g3, g4, by omega⟩
      have v0 := vals 0 (by omega)
      have v1 := vals 1 (by omega)
      rw [show zar 0 = 1119 from rfl] at v0
      rw [show zar 1 = 1120 from rfl] at v1
      have w0 := hw.2.2.2.2.2.1
      have w1 := hw.2.2.2.2.2.2
      obtain ⟨A9, hA9⟩ : ∃ z, f2 1119 E = z := ⟨_, rfl⟩
      obtain ⟨B9, hB9⟩ : ∃ z, f2 1120 E = z := ⟨_, rfl⟩
      have g0 : ∀ T, zgst (f 1118) S b 0 T E → A9 = 4096 * (b : Int) + (T : Int) := fun T h => by rw [← hA9]; exact w0 b T E (by omega) hE6 h
      have g1 : ∀ T, zgst (f 1118) S b 1 T E → B9 = 4096 * (b : Int) + (T : Int) := fun T h => by rw [← hB9]; exact w1 b T E (by omega) hE6 h
      rw [hA9] at v0
      rw [hB9] at v1
      have e387 := fun Q => c387 (L := L) (M := zwI M f2) (Q := Q) (x := A9) (y := B9)
      generalize hi12 : (if i2 = 1 then (1 : Int) else if i1 = 1 then 1 else 0) = i12 at *
      by_cases hbest : min A9 B9 < 1073741824
      · -- found
        have ex : ∃ c a t, a < 2 ∧ zseg (f 1118) S c a t E := by
          rcases v0 with g | ⟨c, t, _, g, _⟩
          · rcases v1 with g' | ⟨c, t, _, g', _⟩
            · omega
            · exact ⟨c, 1, t, by omega, g'⟩
          · exact ⟨c, 0, t, by omega, g⟩
        obtain ⟨B, T, hT, ⟨a, ha, hz⟩, hm⟩ := hH ex
        have hbB := h3 B T hT ⟨a, ha, hz⟩ hm
        have hgst : zgst (f 1118) S B a T E := ⟨hz, hT, fun h => hne h.symm, fun c t hc => hm c a t ha hc⟩
        have l0 : 4096 * (B : Int) + (T : Int) ≤ A9 := by
          rcases v0 with g | ⟨c, t, q1, q2, q3, q4⟩
          · have := zseg_t _ _ _ _ hz; omega
          · have := hm c 0 t (by omega) q2; omega
        have l1 : 4096 * (B : Int) + (T : Int) ≤ B9 := by
          rcases v1 with g | ⟨c, t, q1, q2, q3, q4⟩
          · have := zseg_t _ _ _ _ hz; omega
          · have := hm c 1 t (by omega) q2; omega
        have hBb : B = b := by
          rcases v0 with g | ⟨c, t, q1, q2, q3, q4⟩
          · rcases v1 with g' | ⟨c, t, q1, q2, q3, q4⟩
            · omega
            · have := hm c 1 t (by omega) q2; omega
          · have := hm c 0 t (by omega) q2; omega
        have hmin : min A9 B9 = 4096 * (B : Int) + (T : Int) := by
          have : a = 0 ∨ a = 1 := by omega
          subst hBb
          rcases this with rfl | rfl
          · have hval := g0 T hgst
            rw [hval, Int.min_eq_left l1]
          · have hval := g1 T hgst
            rw [hval, Int.min_eq_right l0]
        have q9 : Q9 (.inl (some (.inl (min A9 B9)))) (zwI M f2) := by
          subst hQ
          exact ⟨f2, _, rfl, rfl, Or.inr ⟨B, T, hmin, hT, ⟨a, ha, hz⟩, hm⟩, fr2⟩
        clear v0 v1 vals g0 g1 w0 w1 hi12
        refine zW_sound 60 [90, 148] ?_
        simp only [ZR68, zk_1117, zk_1119, zk_1120, hF, zwI_I, zwI_2, hA9, hB9, ZF70.1, ZF70.2.1, ZF70.2.2.1, e70, ZF387.1, ZF387.2.1, ZF387.2.2.1, e387, zW_succ, zE_iload, zE_aload, zE_lload, zE_iinc, zE_istore, zE_astore, zE_lstore, zE_iconst, zE_ldc2, zE_iadd, zE_isub, zE_imul, zE_idiv, zE_irem, zE_ineg, zE_iand, zE_ior, zE_ixor, zE_ishl, zE_ishr, zE_land, zE_lor, zE_lxor, zE_lshl, zE_lshr, zE_i2l, zE_lcmp, zE_dup_i, zE_dup_a, zE_dup2_ia, zE_pop_i, zE_pop_a, zE_pop2, zE_goto, zE_if_eq, zE_icmp_eq, zE_if_ne, zE_icmp_ne, zE_if_lt, zE_icmp_lt, zE_if_ge, zE_icmp_ge, zE_if_gt, zE_icmp_gt, zE_if_le, zE_icmp_le, zE_iaload, zE_baload, zE_laload, zE_aaload, zE_iastore, zE_bastore, zE_lastore, zE_aastore, zE_alen, zE_getf0, zE_getf1, zE_getf2, zE_getf3, zE_putf0, zE_putf1, zE_putf2, zE_putf3, zE_new, zE_newa, zE_newq, zE_ireturn, zE_lreturn, zE_areturn, zE_return, zE_athrow, zE_st0, zE_vi0, zE_st1, zE_vi1, zE_st2, zE_vi2, zE_st3, zE_vi3, zE_st4, zE_vi4, zE_st5, zE_vi5, zE_st6, zE_vi6, zE_st7, zE_vi7, zE_st8, zE_vi8, zSt_0, zSL_0, zSt_1n, zSt_1i, zSt_1a, zSt_1l, zSt_2n, zSt_2i, zSt_2a, zSt_2l, zSt_3n, zSt_3i, zSt_3a, zSt_3l, zSt_4n, zSt_4i, zSt_4a, zSt_4l, zSt_5n, zSt_5i, zSt_5a, zSt_5l, zSt_6n, zSt_6i, zSt_6a, zSt_6l, zSt_7n, zSt_7i, zSt_7a, zSt_7l, zSt_8n, zSt_8i, zSt_8a, zSt_8l, zSt_9n, zSt_9i, zSt_9a, zSt_9l, zSt_10n, zSt_10i, zSt_10a, zSt_10l, zSt_11n, zSt_11i, zSt_11a, zSt_11l, zSt_12n, zSt_12i, zSt_12a, zSt_12l, zSt_13n, zSt_13i, zSt_13a, zSt_13l, zSL_1n, zSL_1i, zSL_1a, zSL_1l, zSL_2n, zSL_2i, zSL_2a, zSL_2l, zSL_3n, zSL_3i, zSL_3a, zSL_3l, zSL_4n, zSL_4i, zSL_4a, zSL_4l, zSL_5n, zSL_5i, zSL_5a, zSL_5l, zSL_6n, zSL_6i, zSL_6a, zSL_6l, zSL_7n, zSL_7i, zSL_7a, zSL_7l, zSL_8n, zSL_8i, zSL_8a, zSL_8l, zSL_9n, zSL_9i, zSL_9a, zSL_9l, zSL_10n, zSL_10i, zSL_10a, zSL_10l, zSL_11n, zSL_11i, zSL_11a, zSL_11l, zSL_12n, zSL_12i, zSL_12a, zSL_12l, zLI_0, zLL_0, zLA_0, zLI_1, zLL_1, zLA_1, zLI_2, zLL_2, zLA_2, zLI_3, zLL_3, zLA_3, zLI_4, zLL_4, zLA_4, zLI_5, zLL_5, zLA_5, zLI_6, zLL_6, zLA_6, zLI_7, zLL_7, zLA_7, zLI_8, zLL_8, zLA_8, zLI_9, zLL_9, zLA_9, zLI_10, zLL_10, zLA_10, zLI_11, zLL_11, zLA_11, zLI_12, zLL_12, zLA_12, zLI_13, zLL_13, zLA_13, zst_0, zst_1n, zst_1i, zst_1a, zst_2n, zst_2i, zst_2a, zst_3n, zst_3i, zst_3a, zst_4n, zst_4i, zst_4a, zst_5n, zst_5i, zst_5a, zst_6n, zst_6i, zst_6a, zst_7n, zst_7i, zst_7a, zst_8n, zst_8i, zst_8a, zst_9n, zst_9i, zst_9a, zst_10n, zst_10i, zst_10a, zst_11n, zst_11i, zst_11a, zst_12n, zst_12i, zst_12a, zst_13n, zst_13i, zst_13a, zst_14n, zst_14i, zst_14a, zst_15n, zst_15i, zst_15a, zR1_n, zR1_v, zsum_n, zsum_i, zsum_l, zsum_a, zlen_n, zlen_i, zlen_l, zlen_a, List.not_mem_nil, List.mem_cons, or_false, false_or, or_self, ↓reduceIte, if_false, if_true, Nat.reduceEqDiff, Nat.reduceAdd, Nat.reduceLeDiff, true_and, and_true, reduceCtorEq, ne_eq, Int.toNat_natCast, not_true_eq_false, not_false_eq_true, true_implies, false_implies, implies_true, Int.reduceToNat, Int.toNat_zero, Int.reduceLT, Int.reduceLE, Int.reduceEq, Int.reduceAdd, Int.reduceMul, Int.reduceNeg]
        (repeat' (first | with_reducible refine And.intro ?_ ?_ | with_reducible intro _)) <;> try first | with_reducible rfl | with_reducible assumption | omega | (unfold zr32; omega) | contradiction | (exact absurd (by omega) (by assumption)) | rfl | (simp only [Sum.inl.injEq, Option.some.injEq]; omega)
      · -- not yet
        have far : A9 = 1073741824 ∧ B9 = 1073741824 := by
          rcases v0 with g | ⟨c, t, q1, q2, q3, q4⟩
          · rcases v1 with g' | ⟨c, t, q1, q2, q3, q4⟩
            · exact ⟨g, g'⟩
            · omega
          · omega
        have nb : ∀ B T, T ≤ 4095 → (∃ a, a < 2 ∧ zseg (f 1118) S B a T E) → (∀ c a t, a < 2 → zseg (f 1118) S c a t E → B < c ∨ (B = c ∧ T ≤ t)) → b + 1 ≤ B := fun B T hT ⟨a, ha, hz⟩ hm => by
          have hbB := h3 B T hT ⟨a, ha, hz⟩ hm
          by_cases e : B = b
          · have hgst : zgst (f 1118) S B a T E := ⟨hz, hT, fun h => hne h.symm, fun c t hc => hm c a t ha hc⟩
            have : a = 0 ∨ a = 1 := by omega
            rcases this with rfl | rfl
            · rw [e] at hgst
              have := g0 T hgst
              have := zseg_t _ _ _ _ hz
              omega
            · rw [e] at hgst
              have := g1 T hgst
              have := zseg_t _ _ _ _ hz
              omega
          · omega
        by_cases hnew : i12 = 0
        · have q9 := none9 f2 fr2 (fun c a t ha hz => by
            obtain ⟨B, T, hT, ⟨a', ha', hz'⟩, hm⟩ := hH ⟨c, a, t, ha, hz⟩
            have hbB := nb B T hT ⟨a', ha', hz'⟩ hm
            have hgst : zgst (f 1118) S (b + (B - b)) a' T E := by
              rw [show b + (B - b) = B by omega]
              exact ⟨hz', hT, fun h => hne h.symm, fun c t hc => hm c a' t ha' hc⟩
            obtain ⟨a3, s3, q3, ha3, hq3, hg3⟩ := zgst_d (B - b) b a' T E ha' hE6 hgst
            have n1 : i1 ≠ 1 := fun h => by
              rw [h] at hi12
              split at hi12 <;> omega
            have n2 : i2 ≠ 1 := fun h => by
              rw [if_pos h] at hi12
              omega
            exact zWI_n hb8 hS6 h1 p1 p2 n1 n2 ha3 hq3 hg3)
          clear v0 v1 vals g0 g1 w0 w1 hi12 far
          refine zW_sound 60 [90, 148] ?_
          simp only [ZR68, zk_1117, zk_1119, zk_1120, hF, zwI_I, zwI_2, hA9, hB9, ZF70.1, ZF70.2.1, ZF70.2.2.1, e70, ZF387.1, ZF387.2.1, ZF387.2.2.1, e387, zW_succ, zE_iload, zE_aload, zE_lload, zE_iinc, zE_istore, zE_astore, zE_lstore, zE_iconst, zE_ldc2, zE_iadd, zE_isub, zE_imul, zE_idiv, zE_irem, zE_ineg, zE_iand, zE_ior, zE_ixor, zE_ishl, zE_ishr, zE_land, zE_lor, zE_lxor, zE_lshl, zE_lshr, zE_i2l, zE_lcmp, zE_dup_i, zE_dup_a, zE_dup2_ia, zE_pop_i, zE_pop_a, zE_pop2, zE_goto, zE_if_eq, zE_icmp_eq, zE_if_ne, zE_icmp_ne, zE_if_lt, zE_icmp_lt, zE_if_ge, zE_icmp_ge, zE_if_gt, zE_icmp_gt, zE_if_le, zE_icmp_le, zE_iaload, zE_baload, zE_laload, zE_aaload, zE_iastore, zE_bastore, zE_lastore, zE_aastore, zE_alen, zE_getf0, zE_getf1, zE_getf2, zE_getf3, zE_putf0, zE_putf1, zE_putf2, zE_putf3, zE_new, zE_newa, zE_newq, zE_ireturn, zE_lreturn, zE_areturn, zE_return, zE_athrow, zE_st0, zE_vi0, zE_st1, zE_vi1, zE_st2, zE_vi2, zE_st3, zE_vi3, zE_st4, zE_vi4, zE_st5, zE_vi5, zE_st6, zE_vi6, zE_st7, zE_vi7, zE_st8, zE_vi8, zSt_0, zSL_0, zSt_1n, zSt_1i, zSt_1a, zSt_1l, zSt_2n, zSt_2i, zSt_2a, zSt_2l, zSt_3n, zSt_3i, zSt_3a, zSt_3l, zSt_4n, zSt_4i, zSt_4a, zSt_4l, zSt_5n, zSt_5i, zSt_5a, zSt_5l, zSt_6n, zSt_6i, zSt_6a, zSt_6l, zSt_7n, zSt_7i, zSt_7a, zSt_7l, zSt_8n, zSt_8i, zSt_8a, zSt_8l, zSt_9n, zSt_9i, zSt_9a, zSt_9l, zSt_10n, zSt_10i, zSt_10a, zSt_10l, zSt_11n, zSt_11i, zSt_11a, zSt_11l, zSt_12n, zSt_12i, zSt_12a, zSt_12l, zSt_13n, zSt_13i, zSt_13a, zSt_13l, zSL_1n, zSL_1i, zSL_1a, zSL_1l, zSL_2n, zSL_2i, zSL_2a, zSL_2l, zSL_3n, zSL_3i, zSL_3a, zSL_3l, zSL_4n, zSL_4i, zSL_4a, zSL_4l, zSL_5n, zSL_5i, zSL_5a, zSL_5l, zSL_6n, zSL_6i, zSL_6a, zSL_6l, zSL_7n, zSL_7i, zSL_7a, zSL_7l, zSL_8n, zSL_8i, zSL_8a, zSL_8l, zSL_9n, zSL_9i, zSL_9a, zSL_9l, zSL_10n, zSL_10i, zSL_10a, zSL_10l, zSL_11n, zSL_11i, zSL_11a, zSL_11l, zSL_12n, zSL_12i, zSL_12a, zSL_12l, zLI_0, zLL_0, zLA_0, zLI_1, zLL_1, zLA_1, zLI_2, zLL_2, zLA_2, zLI_3, zLL_3, zLA_3, zLI_4, zLL_4, zLA_4, zLI_5, zLL_5, zLA_5, zLI_6, zLL_6, zLA_6, zLI_7, zLL_7, zLA_7, zLI_8, zLL_8, zLA_8, zLI_9, zLL_9, zLA_9, zLI_10, zLL_10, zLA_10, zLI_11, zLL_11, zLA_11, zLI_12, zLL_12, zLA_12, zLI_13, zLL_13, zLA_13, zst_0, zst_1n, zst_1i, zst_1a, zst_2n, zst_2i, zst_2a, zst_3n, zst_3i, zst_3a, zst_4n, zst_4i, zst_4a, zst_5n, zst_5i, zst_5a, zst_6n, zst_6i, zst_6a, zst_7n, zst_7i, zst_7a, zst_8n, zst_8i, zst_8a, zst_9n, zst_9i, zst_9a, zst_10n, zst_10i, zst_10a, zst_11n, zst_11i, zst_11a, zst_12n, zst_12i, zst_12a, zst_13n, zst_13i, zst_13a, zst_14n, zst_14i, zst_14a, zst_15n, zst_15i, zst_15a, zR1_n, zR1_v, zsum_n, zsum_i, zsum_l, zsum_a, zlen_n, zlen_i, zlen_l, zlen_a, List.not_mem_nil, List.mem_cons, or_false, false_or, or_self, ↓reduceIte, if_false, if_true, Nat.reduceEqDiff, Nat.reduceAdd, Nat.reduceLeDiff, true_and, and_true, reduceCtorEq, ne_eq, Int.toNat_natCast, not_true_eq_false, not_false_eq_true, true_implies, false_implies, implies_true, Int.reduceToNat, Int.toNat_zero, Int.reduceLT, Int.reduceLE, Int.reduceEq, Int.reduceAdd, Int.reduceMul, Int.reduceNeg]
          (repeat' (first | with_reducible refine And.intro ?_ ?_ | with_reducible intro _)) <;> try first | with_reducible rfl | with_reducible assumption | omega | (unfold zr32; omega) | contradiction | (exact absurd (by omega) (by assumption)) | rfl | (simp only [Sum.inl.injEq, Option.some.injEq]; omega)
        · have o9 := ih (b + 1) hq1 hq2 f2 (some (.inl i12)) (some (.inl (min A9 B9))) hw fr2 nb
          rw [show ((b + 1 : Nat) : Int) = (b : Int) + 1 by omega] at o9
          clear v0 v1 vals g0 g1 w0 w1 hi12 far
          refine zW_sound 60 [90, 148] ?_
          simp only [ZR68, zk_1117, zk_1119, zk_1120, hF, zwI_I, zwI_2, hA9, hB9, ZF70.1, ZF70.2.1, ZF70.2.2.1, e70, ZF387.1, ZF387.2.1, ZF387.2.2.1, e387, zW_succ, zE_iload, zE_aload, zE_lload, zE_iinc, zE_istore, zE_astore, zE_lstore, zE_iconst, zE_ldc2, zE_iadd, zE_isub, zE_imul, zE_idiv, zE_irem, zE_ineg, zE_iand, zE_ior, zE_ixor, zE_ishl, zE_ishr, zE_land, zE_lor, zE_lxor, zE_lshl, zE_lshr, zE_i2l, zE_lcmp, zE_dup_i, zE_dup_a, zE_dup2_ia, zE_pop_i, zE_pop_a, zE_pop2, zE_goto, zE_if_eq, zE_icmp_eq, zE_if_ne, zE_icmp_ne, zE_if_lt, zE_icmp_lt, zE_if_ge, zE_icmp_ge, zE_if_gt, zE_icmp_gt, zE_if_le, zE_icmp_le, zE_iaload, zE_baload, zE_laload, zE_aaload, zE_iastore, zE_bastore, zE_lastore, zE_aastore, zE_alen, zE_getf0, zE_getf1, zE_getf2, zE_getf3, zE_putf0, zE_putf1, zE_putf2, zE_putf3, zE_new, zE_newa, zE_newq, zE_ireturn, zE_lreturn, zE_areturn, zE_return, zE_athrow, zE_st0, zE_vi0, zE_st1, zE_vi1, zE_st2, zE_vi2, zE_st3, zE_vi3, zE_st4, zE_vi4, zE_st5, zE_vi5, zE_st6, zE_vi6, zE_st7, zE_vi7, zE_st8, zE_vi8, zSt_0, zSL_0, zSt_1n, zSt_1i, zSt_1a, zSt_1l, zSt_2n, zSt_2i, zSt_2a, zSt_2l, zSt_3n, zSt_3i, zSt_3a, zSt_3l, zSt_4n, zSt_4i, zSt_4a, zSt_4l, zSt_5n, zSt_5i, zSt_5a, zSt_5l, zSt_6n, zSt_6i, zSt_6a, zSt_6l, zSt_7n, zSt_7i, zSt_7a, zSt_7l, zSt_8n, zSt_8i, zSt_8a, zSt_8l, zSt_9n, zSt_9i, zSt_9a, zSt_9l, zSt_10n, zSt_10i, zSt_10a, zSt_10l, zSt_11n, zSt_11i, zSt_11a, zSt_11l, zSt_12n, zSt_12i, zSt_12a, zSt_12l, zSt_13n, zSt_13i, zSt_13a, zSt_13l, zSL_1n, zSL_1i, zSL_1a, zSL_1l, zSL_2n, zSL_2i, zSL_2a, zSL_2l, zSL_3n, zSL_3i, zSL_3a, zSL_3l, zSL_4n, zSL_4i, zSL_4a, zSL_4l, zSL_5n, zSL_5i, zSL_5a, zSL_5l, zSL_6n, zSL_6i, zSL_6a, zSL_6l, zSL_7n, zSL_7i, zSL_7a, zSL_7l, zSL_8n, zSL_8i, zSL_8a, zSL_8l, zSL_9n, zSL_9i, zSL_9a, zSL_9l, zSL_10n, zSL_10i, zSL_10a, zSL_10l, zSL_11n, zSL_11i, zSL_11a, zSL_11l, zSL_12n, zSL_12i, zSL_12a, zSL_12l, zLI_0, zLL_0, zLA_0, zLI_1, zLL_1, zLA_1, zLI_2, zLL_2, zLA_2, zLI_3, zLL_3, zLA_3, zLI_4, zLL_4, zLA_4, zLI_5, zLL_5, zLA_5, zLI_6, zLL_6, zLA_6, zLI_7, zLL_7, zLA_7, zLI_8, zLL_8, zLA_8, zLI_9, zLL_9, zLA_9, zLI_10, zLL_10, zLA_10, zLI_11, zLL_11, zLA_11, zLI_12, zLL_12, zLA_12, zLI_13, zLL_13, zLA_13, zst_0, zst_1n, zst_1i, zst_1a, zst_2n, zst_2i, zst_2a, zst_3n, zst_3i, zst_3a, zst_4n, zst_4i, zst_4a, zst_5n, zst_5i, zst_5a, zst_6n, zst_6i, zst_6a, zst_7n, zst_7i, zst_7a, zst_8n, zst_8i, zst_8a, zst_9n, zst_9i, zst_9a, zst_10n, zst_10i, zst_10a, zst_11n, zst_11i, zst_11a, zst_12n, zst_12i, zst_12a, zst_13n, zst_13i, zst_13a, zst_14n, zst_14i, zst_14a, zst_15n, zst_15i, zst_15a, zR1_n, zR1_v, zsum_n, zsum_i, zsum_l, zsum_a, zlen_n, zlen_i, zlen_l, zlen_a, List.not_mem_nil, List.mem_cons, or_false, false_or, or_self, ↓reduceIte, if_false, if_true, Nat.reduceEqDiff, Nat.reduceAdd, Nat.reduceLeDiff, true_and, and_true, reduceCtorEq, ne_eq, Int.toNat_natCast, not_true_eq_false, not_false_eq_true, true_implies, false_implies, implies_true, Int.reduceToNat, Int.toNat_zero, Int.reduceLT, Int.reduceLE, Int.reduceEq, Int.reduceAdd, Int.reduceMul, Int.reduceNeg]
          (repeat' (first | with_reducible refine And.intro ?_ ?_ | with_reducible intro _)) <;> try first | with_reducible rfl | with_reducible assumption | omega | (unfold zr32; omega) | contradiction | (exact absurd (by omega) (by assumption)) | rfl | (simp only [Sum.inl.injEq, Option.some.injEq]; omega)
  have o9 := loop 7442 rfl 7442 0 rfl (by omega) (zwb f S x y) none none (zwb_I hS.symm hx hy) (fun a ha => by
    funext j
    unfold zwb
    simp only [zu2_if]
    unfold zfil
    rw [if_neg (by omega), if_neg (by omega), if_neg (by omega), if_neg (by omega), if_neg (by omega), if_neg (by omega), if_neg (by omega), if_neg (by omega)]) (fun B T _ _ _ => Nat.zero_le B)
  have eS : (y : Int) * 61 + (x : Int) = (S : Int) := by omega
  have eE : (v : Int) * 61 + (u : Int) = (E : Int) := by omega
  refine zW_sound 60 [90] ?_
  simp only [ZF68, ZR68, zk_1117, zk_1118, hF, zwI_I, zwI_2, eS, eE, m1, m2, ZF127.1, ZF127.2.1, ZF127.2.2.1, c127, ZF69.1, ZF69.2.1, ZF69.2.2.1, e69, zW_succ, zE_iload, zE_aload, zE_lload, zE_iinc, zE_istore, zE_astore, zE_lstore, zE_iconst, zE_ldc2, zE_iadd, zE_isub, zE_imul, zE_idiv, zE_irem, zE_ineg, zE_iand, zE_ior, zE_ixor, zE_ishl, zE_ishr, zE_land, zE_lor, zE_lxor, zE_lshl, zE_lshr, zE_i2l, zE_lcmp, zE_dup_i, zE_dup_a, zE_dup2_ia, zE_pop_i, zE_pop_a, zE_pop2, zE_goto, zE_if_eq, zE_icmp_eq, zE_if_ne, zE_icmp_ne, zE_if_lt, zE_icmp_lt, zE_if_ge, zE_icmp_ge, zE_if_gt, zE_icmp_gt, zE_if_le, zE_icmp_le, zE_iaload, zE_baload, zE_laload, zE_aaload, zE_iastore, zE_bastore, zE_lastore, zE_aastore, zE_alen, zE_getf0, zE_getf1, zE_getf2, zE_getf3, zE_putf0, zE_putf1, zE_putf2, zE_putf3, zE_new, zE_newa, zE_newq, zE_ireturn, zE_lreturn, zE_areturn, zE_return, zE_athrow, zE_st0, zE_vi0, zE_st1, zE_vi1, zE_st2, zE_vi2, zE_st3, zE_vi3, zE_st4, zE_vi4, zE_st5, zE_vi5, zE_st6, zE_vi6, zE_st7, zE_vi7, zE_st8, zE_vi8, zSt_0, zSL_0, zSt_1n, zSt_1i, zSt_1a, zSt_1l, zSt_2n, zSt_2i, zSt_2a, zSt_2l, zSt_3n, zSt_3i, zSt_3a, zSt_3l, zSt_4n, zSt_4i, zSt_4a, zSt_4l, zSt_5n, zSt_5i, zSt_5a, zSt_5l, zSt_6n, zSt_6i, zSt_6a, zSt_6l, zSt_7n, zSt_7i, zSt_7a, zSt_7l, zSt_8n, zSt_8i, zSt_8a, zSt_8l, zSt_9n, zSt_9i, zSt_9a, zSt_9l, zSt_10n, zSt_10i, zSt_10a, zSt_10l, zSt_11n, zSt_11i, zSt_11a, zSt_11l, zSt_12n, zSt_12i, zSt_12a, zSt_12l, zSt_13n, zSt_13i, zSt_13a, zSt_13l, zSL_1n, zSL_1i, zSL_1a, zSL_1l, zSL_2n, zSL_2i, zSL_2a, zSL_2l, zSL_3n, zSL_3i, zSL_3a, zSL_3l, zSL_4n, zSL_4i, zSL_4a, zSL_4l, zSL_5n, zSL_5i, zSL_5a, zSL_5l, zSL_6n, zSL_6i, zSL_6a, zSL_6l, zSL_7n, zSL_7i, zSL_7a, zSL_7l, zSL_8n, zSL_8i, zSL_8a, zSL_8l, zSL_9n, zSL_9i, zSL_9a, zSL_9l, zSL_10n, zSL_10i, zSL_10a, zSL_10l, zSL_11n, zSL_11i, zSL_11a, zSL_11l, zSL_12n, zSL_12i, zSL_12a, zSL_12l, zLI_0, zLL_0, zLA_0, zLI_1, zLL_1, zLA_1, zLI_2, zLL_2, zLA_2, zLI_3, zLL_3, zLA_3, zLI_4, zLL_4, zLA_4, zLI_5, zLL_5, zLA_5, zLI_6, zLL_6, zLA_6, zLI_7, zLL_7, zLA_7, zLI_8, zLL_8, zLA_8, zLI_9, zLL_9, zLA_9, zLI_10, zLL_10, zLA_10, zLI_11, zLL_11, zLA_11, zLI_12, zLL_12, zLA_12, zLI_13, zLL_13, zLA_13, zst_0, zst_1n, zst_1i, zst_1a, zst_2n, zst_2i, zst_2a, zst_3n, zst_3i, zst_3a, zst_4n, zst_4i, zst_4a, zst_5n, zst_5i, zst_5a, zst_6n, zst_6i, zst_6a, zst_7n, zst_7i, zst_7a, zst_8n, zst_8i, zst_8a, zst_9n, zst_9i, zst_9a, zst_10n, zst_10i, zst_10a, zst_11n, zst_11i, zst_11a, zst_12n, zst_12i, zst_12a, zst_13n, zst_13i, zst_13a, zst_14n, zst_14i, zst_14a, zst_15n, zst_15i, zst_15a, zR1_n, zR1_v, zsum_n, zsum_i, zsum_l, zsum_a, zlen_n, zlen_i, zlen_l, zlen_a, List.not_mem_nil, List.mem_cons, or_false, false_or, or_self, ↓reduceIte, if_false, if_true, Nat.reduceEqDiff, Nat.reduceAdd, Nat.reduceLeDiff, true_and, and_true, reduceCtorEq, ne_eq, Int.toNat_natCast, not_true_eq_false, not_false_eq_true, true_implies, false_implies, implies_true, Int.reduceToNat, Int.toNat_zero, Int.reduceLT, Int.reduceLE, Int.reduceEq, Int.reduceAdd, Int.reduceMul, Int.reduceNeg]
  (repeat' (first | with_reducible refine And.intro ?_ ?_ | with_reducible intro _)) <;> try first | with_reducible rfl | with_reducible assumption | omega | (unfold zr32; omega) | contradiction | (exact absurd (by omega) (by assumption)) | rfl | (simp only [Sum.inl.injEq, Option.some.injEq]; omega)
end ZCHEAP
