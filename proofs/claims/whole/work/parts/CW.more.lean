/-! the tape read by both -/
section ZTAPEQ
variable {L m : Nat} {M M0 B C2 : zM} {Q : zO → zM → Prop} {cc : Nat → Int}
variable {o X0 Y0 : Nat → Int} {n : Nat}
theorem zrun_c {o' X Y : Nat → Int} (h : ∀ j, j < n → o j = o' j) : ∀ i, i ≤ n → zrun o X Y i = zrun o' X Y i
  | 0, _ => rfl
  | i + 1, hi => by
    have ih := zrun_c (X := X) (Y := Y) h i (by omega)
    show (match zrun o X Y i with | (q, some k) => (q, some k) | (q, none) => match zrst q (o i) with | none => (q, some i) | some q' => (q', none)) = (match zrun o' X Y i with | (q, some k) => (q, some k) | (q, none) => match zrst q (o' i) with | none => (q, some i) | some q' => (q', none))
    rw [ih, h i (by omega)]
theorem zrflt {i : Nat} {q : zrS} (h : zrun o X0 Y0 i = (q, none)) (hi : i ≤ n) (h1 : i < n → zrst q (o i) = none) (h2 : i = n → ¬ (q.1 = 0 ∧ 3 ≤ q.2.2.2.1)) : zrdf (zrun o X0 Y0 n) n = (i : Int) := by
  by_cases c : i < n
  · rw [zrun_f h (h1 c) n c]
    rfl
  · have e : i = n := by omega
    rw [← e, h]
    show (if q.1 = 0 ∧ 3 ≤ q.2.2.2.1 then (-1 : Int) else (i : Int)) = (i : Int)
    rw [if_neg (h2 e)]
theorem zrnum {i k : Nat} {st v x : Int} {X Y : Nat → Int} (hst : st = 1 ∨ st = 3) (h : zrun o X0 Y0 i = ((st, v, x, k, X, Y), none)) (hi : i ≤ n) : ((zsge o n i = i ∨ zsg o n (zsge o n i) ≠ (if st = 1 then 44 else 41)) → zrdf (zrun o X0 Y0 n) n = (zsge o n i : Int)) ∧ (zsge o n i ≠ i → zsg o n (zsge o n i) = (if st = 1 then 44 else 41) → zsge o n i < n ∧ zrun o X0 Y0 (zsge o n i) = ((st + 1, zsgn o i (zsge o n i), x, k, X, Y), none)) := by
  have sep : ∀ w : Int, w = (if st = 1 then 44 else 41) ↔ (st = 1 ∧ w = 44) ∨ (st = 3 ∧ w = 41) := fun w => by
    rcases hst with rfl | rfl
    · rw [if_pos rfl]; omega
    · rw [if_neg (by omega)]; omega
  have lt : ∀ j, zsg o n j ≠ 0 → j < n ∧ zsg o n j = o j := fun j hj => by
    have := zsg_lt hj
    refine ⟨this, ?_⟩
    unfold zsg
    rw [if_pos this]
  have gl : ∀ j, j < n → zsg o n j = o j := fun j hj => by
    unfold zsg
    rw [if_pos hj]
  by_cases c1 : 48 ≤ zsg o n i ∧ zsg o n i ≤ 57
  · obtain ⟨in1, eo⟩ := lt i (by omega)
    have s1 : zrst (st, v, x, k, X, Y) (o i) = some (st + 1, o i - 48, x, k, X, Y) := by
      unfold zrst
      dsimp only
      rw [if_neg (by omega), if_pos (by omega)]
      rcases hst with rfl | rfl
      · rw [if_pos rfl]; rfl
      · rw [if_neg (by omega)]; rfl
    have r1 := zrun_s h s1
    by_cases c2 : (48 ≤ zsg o n (i + 1) ∧ zsg o n (i + 1) ≤ 57) ∧ zsg o n i ≠ 48 ∧ 10 * (zsg o n i - 48) + zsg o n (i + 1) - 48 ≤ 60
    · have ee : zsge o n i = i + 2 := by
        unfold zsge
        rw [if_neg (by omega), if_pos c2]
      obtain ⟨in2, eo2⟩ := lt (i + 1) (by omega)
      have s2 : zrst (st + 1, o i - 48, x, k, X, Y) (o (i + 1)) = some (st + 1, 10 * (o i - 48) + o (i + 1) - 48, x, k, X, Y) := by
        unfold zrst
        dsimp only
        rw [if_neg (by omega), if_neg (by omega), if_pos (by omega)]
      have r2 := zrun_s r1 s2
      have en : zsgn o i (i + 2) = 10 * (o i - 48) + o (i + 1) - 48 := by
        unfold zsgn
        rw [if_pos rfl]
      rw [ee, en]
      refine ⟨fun hh => zrflt r2 (by omega) (fun h3 => ?_) (fun _ => by dsimp only; omega), fun _ hh => ⟨(lt (i + 2) (by rw [hh]; split <;> omega)).1, r2⟩⟩
      rcases hh with hh | hh
      · omega
      · rw [Ne, sep, gl _ h3] at hh
        unfold zrst
        dsimp only
        rw [if_neg (by omega), if_neg (by omega), if_neg (by omega), if_neg (by omega), if_neg (by omega)]
    · have ee : zsge o n i = i + 1 := by
        unfold zsge
        rw [if_neg (by omega), if_neg c2]
      have en : zsgn o i (i + 1) = o i - 48 := by
        unfold zsgn
        rw [if_neg (by omega)]
      rw [ee, en]
      refine ⟨fun hh => zrflt r1 (by omega) (fun h3 => ?_) (fun _ => by dsimp only; omega), fun _ hh => ⟨(lt (i + 1) (by rw [hh]; split <;> omega)).1, r1⟩⟩
      rcases hh with hh | hh
      · omega
      · rw [Ne, sep, gl _ h3] at hh
        rw [gl _ h3] at c2
        unfold zrst
        dsimp only
        rw [if_neg (by omega), if_neg (by omega), if_neg (by omega), if_neg (by omega), if_neg (by omega)]
  · have ee : zsge o n i = i := by
      unfold zsge
      rw [if_pos c1]
    rw [ee]
    refine ⟨fun _ => zrflt h hi (fun h3 => ?_) (fun _ => by dsimp only; omega), fun hh => absurd rfl hh⟩
    rw [gl _ h3] at c1
    unfold zrst
    dsimp only
    rw [if_neg (by omega), if_neg (by omega), if_neg (by omega), if_neg (by omega), if_neg (by omega)]
theorem zrboth : ∀ (d a k : Nat) (X Y X' Y' : Nat → Int) (v x : Int), d + k = 8 → a ≤ n → zrun o X0 Y0 a = ((0, v, x, k, X, Y), none) → (∀ j, j < k → X j = X' j ∧ Y j = Y' j) → zrdf (zrun o X0 Y0 n) n = (zrff o n d a k X' Y').1 ∧ ((zrff o n d a k X' Y').1 < 0 → (zrun o X0 Y0 n).1.2.2.2.1 = (zrff o n d a k X' Y').2.1 ∧ ∀ j, j < (zrff o n d a k X' Y').2.1 → (zrun o X0 Y0 n).1.2.2.2.2.1 j = (zrff o n d a k X' Y').2.2.1 j ∧ (zrun o X0 Y0 n).1.2.2.2.2.2 j = (zrff o n d a k X' Y').2.2.2 j)
  | 0, a, k, X, Y, X', Y', v, x, hd, ha, h, hX => by
    have e : zrff o n 0 a k X' Y' = (if a < n then (a : Int) else -1, k, X', Y') := rfl
    rw [e]
    by_cases c : a < n
    · rw [if_pos c]
      refine ⟨?_, fun h => absurd h (by omega)⟩
      have s : zrst (0, v, x, k, X, Y) (o a) = none := by
        unfold zrst
        dsimp only
        rw [if_neg (by omega), if_neg (by omega), if_neg (by omega), if_neg (by omega), if_neg (by omega)]
      rw [zrun_f h s n c]
      rfl
    · have e : a = n := by omega
      rw [if_neg c]
      rw [← e, h]
      refine ⟨?_, fun _ => ⟨rfl, hX⟩⟩
      show (if (0 : Int) = 0 ∧ 3 ≤ k then (-1 : Int) else _) = -1
      rw [if_pos ⟨rfl, by omega⟩]
  | d + 1, a, k, X, Y, X', Y', v, x, hd, ha, h, hX => by
    have e : zrff o n (d + 1) a k X' Y' = if ¬ (a < n ∨ k < 3) then (-1, k, X', Y') else if zsg o n a ≠ 40 then ((a : Int), k, X', Y') else if zsge o n (a + 1) = a + 1 ∨ zsg o n (zsge o n (a + 1)) ≠ 44 then ((zsge o n (a + 1) : Int), k, X', Y') else if zsge o n (zsge o n (a + 1) + 1) = zsge o n (a + 1) + 1 ∨ zsg o n (zsge o n (zsge o n (a + 1) + 1)) ≠ 41 then ((zsge o n (zsge o n (a + 1) + 1) : Int), k, X', Y') else zrff o n d (zsge o n (zsge o n (a + 1) + 1) + 1) (k + 1) (zup X' k (zsgn o (a + 1) (zsge o n (a + 1)))) (zup Y' k (zsgn o (zsge o n (a + 1) + 1) (zsge o n (zsge o n (a + 1) + 1)))) := rfl
    rw [e]
    by_cases c0 : ¬ (a < n ∨ k < 3)
    · have en : a = n := by omega
      rw [if_pos c0, ← en, h]
      refine ⟨?_, fun _ => ⟨rfl, hX⟩⟩
      show (if (0 : Int) = 0 ∧ 3 ≤ k then (-1 : Int) else _) = -1
      rw [if_pos ⟨rfl, by omega⟩]
    · rw [if_neg c0]
      by_cases c1 : zsg o n a ≠ 40
      · rw [if_pos c1]
        refine ⟨?_, fun h => absurd h (by dsimp only; omega)⟩
        refine zrflt h ha (fun h3 => ?_) (fun _ => by dsimp only; omega)
        have : zsg o n a = o a := by
          unfold zsg
          rw [if_pos h3]
        unfold zrst
        dsimp only
        rw [if_neg (by omega), if_neg (by omega), if_neg (by omega), if_neg (by omega), if_neg (by omega)]
      · rw [if_neg c1]
        have an : a < n := zsg_lt (o := o) (i := a) (by omega)
        have ea : zsg o n a = o a := by
          unfold zsg
          rw [if_pos an]
        have s0 : zrst (0, v, x, k, X, Y) (o a) = some (1, v, x, k, X, Y) := by
          unfold zrst
          dsimp only
          rw [if_pos ⟨rfl, by omega, by omega⟩]
        have r0 := zrun_s h s0
        obtain ⟨f1, g1⟩ := zrnum (n := n) (Or.inl rfl) r0 (by omega)
        rw [if_pos rfl] at f1 g1
        by_cases c2 : zsge o n (a + 1) = a + 1 ∨ zsg o n (zsge o n (a + 1)) ≠ 44
        · rw [if_pos c2]
          exact ⟨f1 c2, fun h => absurd h (by dsimp only; omega)⟩
        · rw [if_neg c2]
          obtain ⟨e1n, r1⟩ := g1 (by omega) (by omega)
          generalize zsge o n (a + 1) = e1 at *
          have eo1 : zsg o n e1 = o e1 := by
            unfold zsg
            rw [if_pos e1n]
          generalize hx1 : zsgn o (a + 1) e1 = x1 at *
          have s1 : zrst (1 + 1, x1, x, k, X, Y) (o e1) = some (3, x1, x1, k, X, Y) := by
            unfold zrst
            dsimp only
            rw [if_neg (by omega), if_neg (by omega), if_neg (by omega), if_pos (by omega)]
          have r2 := zrun_s r1 s1
          obtain ⟨f2, g2⟩ := zrnum (n := n) (Or.inr rfl) r2 (by omega)
          rw [if_neg (by omega)] at f2 g2
          by_cases c3 : zsge o n (e1 + 1) = e1 + 1 ∨ zsg o n (zsge o n (e1 + 1)) ≠ 41
          · rw [if_pos c3]
            exact ⟨f2 c3, fun h => absurd h (by dsimp only; omega)⟩
          · rw [if_neg c3]
            obtain ⟨e2n, r3⟩ := g2 (by omega) (by omega)
            generalize zsge o n (e1 + 1) = e2 at *
            have eo2 : zsg o n e2 = o e2 := by
              unfold zsg
              rw [if_pos e2n]
            generalize hy1 : zsgn o (e1 + 1) e2 = y1 at *
            have s2 : zrst (3 + 1, y1, x1, k, X, Y) (o e2) = some (0, y1, x1, k + 1, zup X k x1, zup Y k y1) := by
              unfold zrst
              dsimp only
              rw [if_neg (by omega), if_neg (by omega), if_neg (by omega), if_neg (by omega), if_pos (by omega)]
            have r4 := zrun_s r3 s2
            refine zrboth d (e2 + 1) (k + 1) _ _ _ _ y1 x1 (by omega) (by omega) r4 (fun j hj => ?_)
            unfold zup
            by_cases q : j = k
            · rw [if_pos q, if_pos q, if_pos q, if_pos q]
              exact ⟨rfl, rfl⟩
            · rw [if_neg q, if_neg q, if_neg q, if_neg q]
              exact hX j (by omega)
/-- what is read is in range -/
theorem zrst_v {q q' : zrS} {g : Int} (h : zrok q) (hv : ∀ j, j < q.2.2.2.1 → (0 ≤ q.2.2.2.2.1 j ∧ q.2.2.2.2.1 j ≤ 60) ∧ 0 ≤ q.2.2.2.2.2 j ∧ q.2.2.2.2.2 j ≤ 60) (e : zrst q g = some q') : ∀ j, j < q'.2.2.2.1 → (0 ≤ q'.2.2.2.2.1 j ∧ q'.2.2.2.2.1 j ≤ 60) ∧ 0 ≤ q'.2.2.2.2.2 j ∧ q'.2.2.2.2.2 j ≤ 60 := by
  obtain ⟨h1, h2, h3, h4, h5⟩ := h
  unfold zrst at e
  split at e
  · rw [← Option.some.inj e]; exact hv
  · split at e
    · rw [← Option.some.inj e]; exact hv
    · split at e
      · rw [← Option.some.inj e]; exact hv
      · split at e
        · rw [← Option.some.inj e]; exact hv
        · split at e
          · rw [← Option.some.inj e]
            intro j hj
            dsimp only at hj ⊢
            unfold zup
            by_cases c : j = q.2.2.2.1
            · rw [if_pos c, if_pos c]
              exact ⟨h3, h2⟩
            · rw [if_neg c, if_neg c]
              exact hv j (by omega)
          · exact absurd e (by intro e2; cases e2)
theorem zrun_v : ∀ i, zrok (zrun o X0 Y0 i).1 ∧ ∀ j, j < (zrun o X0 Y0 i).1.2.2.2.1 → (0 ≤ (zrun o X0 Y0 i).1.2.2.2.2.1 j ∧ (zrun o X0 Y0 i).1.2.2.2.2.1 j ≤ 60) ∧ 0 ≤ (zrun o X0 Y0 i).1.2.2.2.2.2 j ∧ (zrun o X0 Y0 i).1.2.2.2.2.2 j ≤ 60
  | 0 => ⟨⟨⟨Int.le_refl _, by show (0 : Int) ≤ 4; omega⟩, ⟨Int.le_refl _, by show (0 : Int) ≤ 60; omega⟩, ⟨Int.le_refl _, by show (0 : Int) ≤ 60; omega⟩, by show (0 : Nat) ≤ 8; omega, fun h => absurd rfl h⟩, fun j hj => absurd hj (Nat.not_lt_zero j)⟩
  | i + 1 => by
    have ih := zrun_v i
    have hz2 : zrun o X0 Y0 (i + 1) = (match zrun o X0 Y0 i with | (q, some k) => (q, some k) | (q, none) => match zrst q (o i) with | none => (q, some i) | some q' => (q', none)) := rfl
    generalize zrun o X0 Y0 (i + 1) = z at hz2 ⊢
    generalize zrun o X0 Y0 i = y at ih hz2
    obtain ⟨q, fl⟩ := y
    cases fl with
    | some k =>
      have e : z = (q, some k) := hz2
      rw [e]
      exact ih
    | none =>
      cases hs : zrst q (o i) with
      | none =>
        have e : z = (q, some i) := by
          rw [hz2]
          show (match zrst q (o i) with | none => (q, some i) | some q' => (q', none)) = _
          rw [hs]
        rw [e]
        exact ih
      | some q' =>
        have e : z = (q', none) := by
          rw [hz2]
          show (match zrst q (o i) with | none => (q, some i) | some q' => (q', none)) = _
          rw [hs]
        rw [e]
        exact ⟨zrst_ok ih.1 hs, zrst_v ih.1 ih.2 hs⟩
end ZTAPEQ
/-! fault, trace: alike -/
section ZTRACEQ
variable {L m : Nat} {M M0 B C2 : zM} {Q : zO → zM → Prop} {cc : Nat → Int}
theorem c125 {c : Nat} (hR : zLay M.2.2.2) (hc : M.2.1 1101 0 = (c : Int)) (hc8 : c ≤ 80) (hg : ∀ j, j < 80 → 0 ≤ M.2.1 1102 j ∧ M.2.1 1102 j ≤ 200) : zFR (zK L) 125 0 (zcall 125 [.inr (.inr 2)]) [] M Q = Q (.inl (some (.inl (zrdf (zrdr M.2.1) c)))) (zwI M (zrdm M.2.1 (zrdr M.2.1))) := by
  have hF := hR.1
  unfold zLayF at hF
  have e1 := fun Q => c115 (L := L) (M := M) (Q := Q) (c := c) hR hc hc8 hg
  refine zFR_det (zW_sound 60 [] ?_) Q
  simp only [ZF125, ZR125, zk_2, zk_1101, hF, ZF115.1, ZF115.2.1, ZF115.2.2.1, e1, zW_succ, zE_iload, zE_aload, zE_lload, zE_iinc, zE_istore, zE_astore, zE_lstore, zE_iconst, zE_ldc2, zE_iadd, zE_isub, zE_imul, zE_idiv, zE_irem, zE_ineg, zE_iand, zE_ior, zE_ixor, zE_ishl, zE_ishr, zE_land, zE_lor, zE_lxor, zE_lshl, zE_lshr, zE_i2l, zE_lcmp, zE_dup_i, zE_dup_a, zE_dup2_ia, zE_pop_i, zE_pop_a, zE_pop2, zE_goto, zE_if_eq, zE_icmp_eq, zE_if_ne, zE_icmp_ne, zE_if_lt, zE_icmp_lt, zE_if_ge, zE_icmp_ge, zE_if_gt, zE_icmp_gt, zE_if_le, zE_icmp_le, zE_iaload, zE_baload, zE_laload, zE_aaload, zE_iastore, zE_bastore, zE_lastore, zE_aastore, zE_alen, zE_getf0, zE_getf1, zE_getf2, zE_getf3, zE_putf0, zE_putf1, zE_putf2, zE_putf3, zE_new, zE_newa, zE_newq, zE_ireturn, zE_lreturn, zE_areturn, zE_return, zE_athrow, zE_st0, zE_vi0, zE_st1, zE_vi1, zE_st2, zE_vi2, zE_st3, zE_vi3, zE_st4, zE_vi4, zE_st5, zE_vi5, zE_st6, zE_vi6, zE_st7, zE_vi7, zE_st8, zE_vi8, zSt_0, zSL_0, zSt_1n, zSt_1i, zSt_1a, zSt_1l, zSt_2n, zSt_2i, zSt_2a, zSt_2l, zSt_3n, zSt_3i, zSt_3a, zSt_3l, zSt_4n, zSt_4i, zSt_4a, zSt_4l, zSt_5n, zSt_5i, zSt_5a, zSt_5l, zSt_6n, zSt_6i, zSt_6a, zSt_6l, zSt_7n, zSt_7i, zSt_7a, zSt_7l, zSt_8n, zSt_8i, zSt_8a, zSt_8l, zSt_9n, zSt_9i, zSt_9a, zSt_9l, zSt_10n, zSt_10i, zSt_10a, zSt_10l, zSt_11n, zSt_11i, zSt_11a, zSt_11l, zSt_12n, zSt_12i, zSt_12a, zSt_12l, zSt_13n, zSt_13i, zSt_13a, zSt_13l, zSL_1n, zSL_1i, zSL_1a, zSL_1l, zSL_2n, zSL_2i, zSL_2a, zSL_2l, zSL_3n, zSL_3i, zSL_3a, zSL_3l, zSL_4n, zSL_4i, zSL_4a, zSL_4l, zSL_5n, zSL_5i, zSL_5a, zSL_5l, zSL_6n, zSL_6i, zSL_6a, zSL_6l, zSL_7n, zSL_7i, zSL_7a, zSL_7l, zSL_8n, zSL_8i, zSL_8a, zSL_8l, zSL_9n, zSL_9i, zSL_9a, zSL_9l, zSL_10n, zSL_10i, zSL_10a, zSL_10l, zSL_11n, zSL_11i, zSL_11a, zSL_11l, zSL_12n, zSL_12i, zSL_12a, zSL_12l, zLI_0, zLL_0, zLA_0, zLI_1, zLL_1, zLA_1, zLI_2, zLL_2, zLA_2, zLI_3, zLL_3, zLA_3, zLI_4, zLL_4, zLA_4, zLI_5, zLL_5, zLA_5, zLI_6, zLL_6, zLA_6, zLI_7, zLL_7, zLA_7, zLI_8, zLL_8, zLA_8, zLI_9, zLL_9, zLA_9, zLI_10, zLL_10, zLA_10, zLI_11, zLL_11, zLA_11, zLI_12, zLL_12, zLA_12, zLI_13, zLL_13, zLA_13, zst_0, zst_1n, zst_1i, zst_1a, zst_2n, zst_2i, zst_2a, zst_3n, zst_3i, zst_3a, zst_4n, zst_4i, zst_4a, zst_5n, zst_5i, zst_5a, zst_6n, zst_6i, zst_6a, zst_7n, zst_7i, zst_7a, zst_8n, zst_8i, zst_8a, zst_9n, zst_9i, zst_9a, zst_10n, zst_10i, zst_10a, zst_11n, zst_11i, zst_11a, zst_12n, zst_12i, zst_12a, zst_13n, zst_13i, zst_13a, zst_14n, zst_14i, zst_14a, zst_15n, zst_15i, zst_15a, zR1_n, zR1_v, zsum_n, zsum_i, zsum_l, zsum_a, zlen_n, zlen_i, zlen_l, zlen_a, List.not_mem_nil, List.mem_cons, or_false, false_or, or_self, ↓reduceIte, if_false, if_true, Nat.reduceEqDiff, Nat.reduceAdd, Nat.reduceLeDiff, true_and, and_true, reduceCtorEq, ne_eq, Int.toNat_natCast, not_true_eq_false, not_false_eq_true, true_implies, false_implies, implies_true, Int.reduceToNat, Int.toNat_zero, Int.reduceLT, Int.reduceLE, Int.reduceEq, Int.reduceAdd, Int.reduceMul, Int.reduceNeg]
/-- the tape, read by both -/
theorem zqtape (hW : zqW m M) {F : Nat → Nat → Int} (hF : F 1156 = M.2.1 1156) {c : Nat} (hc : M.2.1 1101 0 = (c : Int)) : zrdf (zrdr M.2.1) c = (zrfr F c).1 ∧ ((zrfr F c).1 < 0 → (zrdr M.2.1).1.2.2.2.1 = (zrfr F c).2.1 ∧ ∀ j, j < (zrfr F c).2.1 → (zrdr M.2.1).1.2.2.2.2.1 j = (zrfr F c).2.2.1 j ∧ (zrdr M.2.1).1.2.2.2.2.2 j = (zrfr F c).2.2.2 j) := by
  obtain ⟨_, p4, p5⟩ := hW.2.2.1
  have e0 : zrdr M.2.1 = zrun (F 1156) (M.2.1 1099) (M.2.1 1100) c := by
    unfold zrdr
    rw [hc, Int.toNat_natCast, hF]
    exact zrun_c (n := c) (fun j hj => (p5 j (by omega)).symm) c (Nat.le_refl _)
  rw [e0]
  unfold zrfr
  exact zrboth (n := c) 8 0 0 _ _ (F 1189) (F 1190) 0 0 (by omega) (by omega) rfl (fun j hj => absurd hj (Nat.not_lt_zero j))
theorem zrdm_o {f : Nat → Nat → Int} {r : zrS × Option Nat} {b j : Nat} (h : b < 1098 ∨ 1101 ≤ b) : zrdm f r b j = f b j := zpset_ob (by omega)
/-- the tape has been read into the passing corners -/
theorem zqW_rd (hW : zqW m M) : zqW m (zwI M (zrdm M.2.1 (zrdr M.2.1))) := zqW_t hW rfl (fun _ _ => rfl) (fun b j q1 q2 q3 q4 => zrdm_o (by omega))
theorem zrfM_p {f : Nat → Nat → Int} {n b j : Nat} (h : b ≠ 1189 ∧ b ≠ 1190) (h2 : ¬ (b = 1153 ∧ j = 62)) : zrfM f n b j = f b j := zrfm_o h h2
theorem zqA_125 (hW : zqW m M) : zqAg L M 125 [.inr (.inr 2)] 335 [.inr (.inr 1153)] cc := by
  have hR := hW.1.1
  obtain ⟨⟨p1, p2, p3⟩, p4, p5⟩ := hW.2.2.1
  obtain ⟨c, hc⟩ : ∃ c : Nat, M.2.1 1101 0 = (c : Int) := ⟨(M.2.1 1101 0).toNat, by omega⟩
  refine zqAg_ok (m' := m) (fun Q => c125 hR hc (by omega) (fun j hj => (p4 j hj).1)) rfl rfl rfl (fun B b1 b2 b3 => ⟨zwI B (zrfM (zrtw B.2.1 0) c), fun Q => ?_, rfl, rfl, zqW_t hW b3 b2 (fun b j q1 q2 q3 q4 => ?_), ?_⟩)
  · have b1' : B.2.1 = zrdm M.2.1 (zrdr M.2.1) := b1
    have bn : ∀ b j, 1101 ≤ b → B.2.1 b j = M.2.1 b j := fun b j hb => by rw [b1']; exact zrdm_o (by omega)
    have r := c335 (L := L) (M := B) (Q := Q) (n := c) (by rw [b3]; exact hR) (by rw [bn _ _ (by omega), p3, hc]) (by omega) (fun j hj => by rw [bn _ _ (by omega)]; exact (p4 j (by omega)).2)
    have hF : zrtw B.2.1 0 1156 = M.2.1 1156 := funext fun j => (zrtw_a (by omega)).trans (bn _ _ (by omega))
    rw [(zqtape hW hF hc).1]
    exact r
  · show zrfM (zrtw B.2.1 0) c b j = _
    rw [zrfM_p ⟨by omega, by omega⟩ (by omega)]
    unfold zrtw
    rw [zu2_sj (by omega), b1]
    exact zrdm_o (by omega)
  · show zrfM (zrtw B.2.1 0) c 1153 0 = 0
    rw [zrfM_p ⟨by omega, by omega⟩ (by omega)]
    exact zu2_eq _ _ _ _
-- trace, the class
theorem c139_0 {h l c : Int} (kn : ¬ ((0 ≤ h ∧ h < 3) ∧ 0 ≤ l ∧ l < 4)) : zFR (zK L) 139 0 (zcall 139 [.inr (.inr 2), .inl h, .inl l, .inl c]) [] M Q = Q (.inr 2) (zthrown M) := by
  refine zFR_det ?_ Q
  by_cases k0 : 0 ≤ h ∧ h < 3
  · have e0 := fun Q => (c131 (L := L) (M := M) (Q := Q) (h := h)).trans (zyes k0)
    have e1 := fun Q => (c132 (L := L) (M := M) (Q := Q) (h := l)).trans (znot (fun k1 => kn ⟨k0, k1⟩))
    refine zW_sound 60 [] ?_
    simp only [ZF139, ZR139, zk_2, ZF131.1, ZF131.2.1, ZF131.2.2.1, ZF132.1, ZF132.2.1, ZF132.2.2.1, e0, e1, zR1_p ZF139.2.2.1, zW_succ, zE_iload, zE_aload, zE_lload, zE_iinc, zE_istore, zE_astore, zE_lstore, zE_iconst, zE_ldc2, zE_iadd, zE_isub, zE_imul, zE_idiv, zE_irem, zE_ineg, zE_iand, zE_ior, zE_ixor, zE_ishl, zE_ishr, zE_land, zE_lor, zE_lxor, zE_lshl, zE_lshr, zE_i2l, zE_lcmp, zE_dup_i, zE_dup_a, zE_dup2_ia, zE_pop_i, zE_pop_a, zE_pop2, zE_goto, zE_if_eq, zE_icmp_eq, zE_if_ne, zE_icmp_ne, zE_if_lt, zE_icmp_lt, zE_if_ge, zE_icmp_ge, zE_if_gt, zE_icmp_gt, zE_if_le, zE_icmp_le, zE_iaload, zE_baload, zE_laload, zE_aaload, zE_iastore, zE_bastore, zE_lastore, zE_aastore, zE_alen, zE_getf0, zE_getf1, zE_getf2, zE_getf3, zE_putf0, zE_putf1, zE_putf2, zE_putf3, zE_new, zE_newa, zE_newq, zE_ireturn, zE_lreturn, zE_areturn, zE_return, zE_athrow, zE_st0, zE_vi0, zE_st1, zE_vi1, zE_st2, zE_vi2, zE_st3, zE_vi3, zE_st4, zE_vi4, zE_st5, zE_vi5, zE_st6, zE_vi6, zE_st7, zE_vi7, zE_st8, zE_vi8, zSt_0, zSL_0, zSt_1n, zSt_1i, zSt_1a, zSt_1l, zSt_2n, zSt_2i, zSt_2a, zSt_2l, zSt_3n, zSt_3i, zSt_3a, zSt_3l, zSt_4n, zSt_4i, zSt_4a, zSt_4l, zSt_5n, zSt_5i, zSt_5a, zSt_5l, zSt_6n, zSt_6i, zSt_6a, zSt_6l, zSt_7n, zSt_7i, zSt_7a, zSt_7l, zSt_8n, zSt_8i, zSt_8a, zSt_8l, zSt_9n, zSt_9i, zSt_9a, zSt_9l, zSt_10n, zSt_10i, zSt_10a, zSt_10l, zSt_11n, zSt_11i, zSt_11a, zSt_11l, zSt_12n, zSt_12i, zSt_12a, zSt_12l, zSt_13n, zSt_13i, zSt_13a, zSt_13l, zSL_1n, zSL_1i, zSL_1a, zSL_1l, zSL_2n, zSL_2i, zSL_2a, zSL_2l, zSL_3n, zSL_3i, zSL_3a, zSL_3l, zSL_4n, zSL_4i, zSL_4a, zSL_4l, zSL_5n, zSL_5i, zSL_5a, zSL_5l, zSL_6n, zSL_6i, zSL_6a, zSL_6l, zSL_7n, zSL_7i, zSL_7a, zSL_7l, zSL_8n, zSL_8i, zSL_8a, zSL_8l, zSL_9n, zSL_9i, zSL_9a, zSL_9l, zSL_10n, zSL_10i, zSL_10a, zSL_10l, zSL_11n, zSL_11i, zSL_11a, zSL_11l, zSL_12n, zSL_12i, zSL_12a, zSL_12l, zLI_0, zLL_0, zLA_0, zLI_1, zLL_1, zLA_1, zLI_2, zLL_2, zLA_2, zLI_3, zLL_3, zLA_3, zLI_4, zLL_4, zLA_4, zLI_5, zLL_5, zLA_5, zLI_6, zLL_6, zLA_6, zLI_7, zLL_7, zLA_7, zLI_8, zLL_8, zLA_8, zLI_9, zLL_9, zLA_9, zLI_10, zLL_10, zLA_10, zLI_11, zLL_11, zLA_11, zLI_12, zLL_12, zLA_12, zLI_13, zLL_13, zLA_13, zst_0, zst_1n, zst_1i, zst_1a, zst_2n, zst_2i, zst_2a, zst_3n, zst_3i, zst_3a, zst_4n, zst_4i, zst_4a, zst_5n, zst_5i, zst_5a, zst_6n, zst_6i, zst_6a, zst_7n, zst_7i, zst_7a, zst_8n, zst_8i, zst_8a, zst_9n, zst_9i, zst_9a, zst_10n, zst_10i, zst_10a, zst_11n, zst_11i, zst_11a, zst_12n, zst_12i, zst_12a, zst_13n, zst_13i, zst_13a, zst_14n, zst_14i, zst_14a, zst_15n, zst_15i, zst_15a, zR1_n, zR1_v, zsum_n, zsum_i, zsum_l, zsum_a, zlen_n, zlen_i, zlen_l, zlen_a, List.not_mem_nil, List.mem_cons, or_false, false_or, or_self, ↓reduceIte, if_false, if_true, Nat.reduceEqDiff, Nat.reduceAdd, Nat.reduceLeDiff, true_and, and_true, reduceCtorEq, ne_eq, Int.toNat_natCast, not_true_eq_false, not_false_eq_true, true_implies, false_implies, implies_true, Int.reduceToNat, Int.toNat_zero, Int.reduceLT, Int.reduceLE, Int.reduceEq, Int.reduceAdd, Int.reduceMul, Int.reduceNeg]
  · have e0 := fun Q => (c131 (L := L) (M := M) (Q := Q) (h := h)).trans (znot k0)
    refine zW_sound 60 [] ?_
    simp only [ZF139, ZR139, zk_2, ZF131.1, ZF131.2.1, ZF131.2.2.1, e0, zR1_p ZF139.2.2.1, zW_succ, zE_iload, zE_aload, zE_lload, zE_iinc, zE_istore, zE_astore, zE_lstore, zE_iconst, zE_ldc2, zE_iadd, zE_isub, zE_imul, zE_idiv, zE_irem, zE_ineg, zE_iand, zE_ior, zE_ixor, zE_ishl, zE_ishr, zE_land, zE_lor, zE_lxor, zE_lshl, zE_lshr, zE_i2l, zE_lcmp, zE_dup_i, zE_dup_a, zE_dup2_ia, zE_pop_i, zE_pop_a, zE_pop2, zE_goto, zE_if_eq, zE_icmp_eq, zE_if_ne, zE_icmp_ne, zE_if_lt, zE_icmp_lt, zE_if_ge, zE_icmp_ge, zE_if_gt, zE_icmp_gt, zE_if_le, zE_icmp_le, zE_iaload, zE_baload, zE_laload, zE_aaload, zE_iastore, zE_bastore, zE_lastore, zE_aastore, zE_alen, zE_getf0, zE_getf1, zE_getf2, zE_getf3, zE_putf0, zE_putf1, zE_putf2, zE_putf3, zE_new, zE_newa, zE_newq, zE_ireturn, zE_lreturn, zE_areturn, zE_return, zE_athrow, zE_st0, zE_vi0, zE_st1, zE_vi1, zE_st2, zE_vi2, zE_st3, zE_vi3, zE_st4, zE_vi4, zE_st5, zE_vi5, zE_st6, zE_vi6, zE_st7, zE_vi7, zE_st8, zE_vi8, zSt_0, zSL_0, zSt_1n, zSt_1i, zSt_1a, zSt_1l, zSt_2n, zSt_2i, zSt_2a, zSt_2l, zSt_3n, zSt_3i, zSt_3a, zSt_3l, zSt_4n, zSt_4i, zSt_4a, zSt_4l, zSt_5n, zSt_5i, zSt_5a, zSt_5l, zSt_6n, zSt_6i, zSt_6a, zSt_6l, zSt_7n, zSt_7i, zSt_7a, zSt_7l, zSt_8n, zSt_8i, zSt_8a, zSt_8l, zSt_9n, zSt_9i, zSt_9a, zSt_9l, zSt_10n, zSt_10i, zSt_10a, zSt_10l, zSt_11n, zSt_11i, zSt_11a, zSt_11l, zSt_12n, zSt_12i, zSt_12a, zSt_12l, zSt_13n, zSt_13i, zSt_13a, zSt_13l, zSL_1n, zSL_1i, zSL_1a, zSL_1l, zSL_2n, zSL_2i, zSL_2a, zSL_2l, zSL_3n, zSL_3i, zSL_3a, zSL_3l, zSL_4n, zSL_4i, zSL_4a, zSL_4l, zSL_5n, zSL_5i, zSL_5a, zSL_5l, zSL_6n, zSL_6i, zSL_6a, zSL_6l, zSL_7n, zSL_7i, zSL_7a, zSL_7l, zSL_8n, zSL_8i, zSL_8a, zSL_8l, zSL_9n, zSL_9i, zSL_9a, zSL_9l, zSL_10n, zSL_10i, zSL_10a, zSL_10l, zSL_11n, zSL_11i, zSL_11a, zSL_11l, zSL_12n, zSL_12i, zSL_12a, zSL_12l, zLI_0, zLL_0, zLA_0, zLI_1, zLL_1, zLA_1, zLI_2, zLL_2, zLA_2, zLI_3, zLL_3, zLA_3, zLI_4, zLL_4, zLA_4, zLI_5, zLL_5, zLA_5, zLI_6, zLL_6, zLA_6, zLI_7, zLL_7, zLA_7, zLI_8, zLL_8, zLA_8, zLI_9, zLL_9, zLA_9, zLI_10, zLL_10, zLA_10, zLI_11, zLL_11, zLA_11, zLI_12, zLL_12, zLA_12, zLI_13, zLL_13, zLA_13, zst_0, zst_1n, zst_1i, zst_1a, zst_2n, zst_2i, zst_2a, zst_3n, zst_3i, zst_3a, zst_4n, zst_4i, zst_4a, zst_5n, zst_5i, zst_5a, zst_6n, zst_6i, zst_6a, zst_7n, zst_7i, zst_7a, zst_8n, zst_8i, zst_8a, zst_9n, zst_9i, zst_9a, zst_10n, zst_10i, zst_10a, zst_11n, zst_11i, zst_11a, zst_12n, zst_12i, zst_12a, zst_13n, zst_13i, zst_13a, zst_14n, zst_14i, zst_14a, zst_15n, zst_15i, zst_15a, zR1_n, zR1_v, zsum_n, zsum_i, zsum_l, zsum_a, zlen_n, zlen_i, zlen_l, zlen_a, List.not_mem_nil, List.mem_cons, or_false, false_or, or_self, ↓reduceIte, if_false, if_true, Nat.reduceEqDiff, Nat.reduceAdd, Nat.reduceLeDiff, true_and, and_true, reduceCtorEq, ne_eq, Int.toNat_natCast, not_true_eq_false, not_false_eq_true, true_implies, false_implies, implies_true, Int.reduceToNat, Int.toNat_zero, Int.reduceLT, Int.reduceLE, Int.reduceEq, Int.reduceAdd, Int.reduceMul, Int.reduceNeg]
theorem c139_1 {h l c : Int} (k0 : 0 ≤ h ∧ h < 3) (k1 : 0 ≤ l ∧ l < 4) (kn : ¬ (1 ≤ c ∧ c ≤ 9)) : zFR (zK L) 139 0 (zcall 139 [.inr (.inr 2), .inl h, .inl l, .inl c]) [] M Q = Q (.inr 0) (zthrown M) := by
  have e0 := fun Q => (c131 (L := L) (M := M) (Q := Q) (h := h)).trans (zyes k0)
  have e1 := fun Q => (c132 (L := L) (M := M) (Q := Q) (h := l)).trans (zyes k1)
  have e2 := fun Q => (c133 (L := L) (M := M) (Q := Q) (v := c)).trans (znot kn)
  refine zFR_det (zW_sound 60 [] ?_) Q
  simp only [ZF139, ZR139, zk_2, ZF131.1, ZF131.2.1, ZF131.2.2.1, ZF132.1, ZF132.2.1, ZF132.2.2.1, ZF133.1, ZF133.2.1, ZF133.2.2.1, e0, e1, e2, zR1_p ZF139.2.2.1, zW_succ, zE_iload, zE_aload, zE_lload, zE_iinc, zE_istore, zE_astore, zE_lstore, zE_iconst, zE_ldc2, zE_iadd, zE_isub, zE_imul, zE_idiv, zE_irem, zE_ineg, zE_iand, zE_ior, zE_ixor, zE_ishl, zE_ishr, zE_land, zE_lor, zE_lxor, zE_lshl, zE_lshr, zE_i2l, zE_lcmp, zE_dup_i, zE_dup_a, zE_dup2_ia, zE_pop_i, zE_pop_a, zE_pop2, zE_goto, zE_if_eq, zE_icmp_eq, zE_if_ne, zE_icmp_ne, zE_if_lt, zE_icmp_lt, zE_if_ge, zE_icmp_ge, zE_if_gt, zE_icmp_gt, zE_if_le, zE_icmp_le, zE_iaload, zE_baload, zE_laload, zE_aaload, zE_iastore, zE_bastore, zE_lastore, zE_aastore, zE_alen, zE_getf0, zE_getf1, zE_getf2, zE_getf3, zE_putf0, zE_putf1, zE_putf2, zE_putf3, zE_new, zE_newa, zE_newq, zE_ireturn, zE_lreturn, zE_areturn, zE_return, zE_athrow, zE_st0, zE_vi0, zE_st1, zE_vi1, zE_st2, zE_vi2, zE_st3, zE_vi3, zE_st4, zE_vi4, zE_st5, zE_vi5, zE_st6, zE_vi6, zE_st7, zE_vi7, zE_st8, zE_vi8, zSt_0, zSL_0, zSt_1n, zSt_1i, zSt_1a, zSt_1l, zSt_2n, zSt_2i, zSt_2a, zSt_2l, zSt_3n, zSt_3i, zSt_3a, zSt_3l, zSt_4n, zSt_4i, zSt_4a, zSt_4l, zSt_5n, zSt_5i, zSt_5a, zSt_5l, zSt_6n, zSt_6i, zSt_6a, zSt_6l, zSt_7n, zSt_7i, zSt_7a, zSt_7l, zSt_8n, zSt_8i, zSt_8a, zSt_8l, zSt_9n, zSt_9i, zSt_9a, zSt_9l, zSt_10n, zSt_10i, zSt_10a, zSt_10l, zSt_11n, zSt_11i, zSt_11a, zSt_11l, zSt_12n, zSt_12i, zSt_12a, zSt_12l, zSt_13n, zSt_13i, zSt_13a, zSt_13l, zSL_1n, zSL_1i, zSL_1a, zSL_1l, zSL_2n, zSL_2i, zSL_2a, zSL_2l, zSL_3n, zSL_3i, zSL_3a, zSL_3l, zSL_4n, zSL_4i, zSL_4a, zSL_4l, zSL_5n, zSL_5i, zSL_5a, zSL_5l, zSL_6n, zSL_6i, zSL_6a, zSL_6l, zSL_7n, zSL_7i, zSL_7a, zSL_7l, zSL_8n, zSL_8i, zSL_8a, zSL_8l, zSL_9n, zSL_9i, zSL_9a, zSL_9l, zSL_10n, zSL_10i, zSL_10a, zSL_10l, zSL_11n, zSL_11i, zSL_11a, zSL_11l, zSL_12n, zSL_12i, zSL_12a, zSL_12l, zLI_0, zLL_0, zLA_0, zLI_1, zLL_1, zLA_1, zLI_2, zLL_2, zLA_2, zLI_3, zLL_3, zLA_3, zLI_4, zLL_4, zLA_4, zLI_5, zLL_5, zLA_5, zLI_6, zLL_6, zLA_6, zLI_7, zLL_7, zLA_7, zLI_8, zLL_8, zLA_8, zLI_9, zLL_9, zLA_9, zLI_10, zLL_10, zLA_10, zLI_11, zLL_11, zLA_11, zLI_12, zLL_12, zLA_12, zLI_13, zLL_13, zLA_13, zst_0, zst_1n, zst_1i, zst_1a, zst_2n, zst_2i, zst_2a, zst_3n, zst_3i, zst_3a, zst_4n, zst_4i, zst_4a, zst_5n, zst_5i, zst_5a, zst_6n, zst_6i, zst_6a, zst_7n, zst_7i, zst_7a, zst_8n, zst_8i, zst_8a, zst_9n, zst_9i, zst_9a, zst_10n, zst_10i, zst_10a, zst_11n, zst_11i, zst_11a, zst_12n, zst_12i, zst_12a, zst_13n, zst_13i, zst_13a, zst_14n, zst_14i, zst_14a, zst_15n, zst_15i, zst_15a, zR1_n, zR1_v, zsum_n, zsum_i, zsum_l, zsum_a, zlen_n, zlen_i, zlen_l, zlen_a, List.not_mem_nil, List.mem_cons, or_false, false_or, or_self, ↓reduceIte, if_false, if_true, Nat.reduceEqDiff, Nat.reduceAdd, Nat.reduceLeDiff, true_and, and_true, reduceCtorEq, ne_eq, Int.toNat_natCast, not_true_eq_false, not_false_eq_true, true_implies, false_implies, implies_true, Int.reduceToNat, Int.toNat_zero, Int.reduceLT, Int.reduceLE, Int.reduceEq, Int.reduceAdd, Int.reduceMul, Int.reduceNeg]
theorem c139_2 {h l c : Int} {n : Nat} {f' : Nat → Nat → Int} (hR : zLay M.2.2.2) (hc : M.2.1 1101 0 = (n : Int)) (hc8 : n ≤ 80) (hg : ∀ j, j < 80 → 0 ≤ M.2.1 1102 j ∧ M.2.1 1102 j ≤ 200) (hf' : zrdm M.2.1 (zrdr M.2.1) = f') (k0 : 0 ≤ h ∧ h < 3) (k1 : 0 ≤ l ∧ l < 4) (k2 : 1 ≤ c ∧ c ≤ 9) (kn : zrdf (zrdr M.2.1) n ≠ -1) : zFR (zK L) 139 0 (zcall 139 [.inr (.inr 2), .inl h, .inl l, .inl c]) [] M Q = Q (.inr 1) (zthrown (zwI M f')) := by
  have hF := hR.1
  unfold zLayF at hF
  have e0 := fun Q => (c131 (L := L) (M := M) (Q := Q) (h := h)).trans (zyes k0)
  have e1 := fun Q => (c132 (L := L) (M := M) (Q := Q) (h := l)).trans (zyes k1)
  have e2 := fun Q => (c133 (L := L) (M := M) (Q := Q) (v := c)).trans (zyes k2)
  have e3 := fun Q => c115 (L := L) (M := M) (Q := Q) (c := n) hR hc hc8 hg
  rw [hf'] at e3
  generalize zrdf (zrdr M.2.1) n = d at *
  refine zFR_det (zW_sound 60 [40] ?_) Q
  simp only [ZF139, ZR139, zk_2, zk_1101, hF, ZF131.1, ZF131.2.1, ZF131.2.2.1, ZF132.1, ZF132.2.1, ZF132.2.2.1, ZF133.1, ZF133.2.1, ZF133.2.2.1, ZF115.1, ZF115.2.1, ZF115.2.2.1, e0, e1, e2, e3, zR1_p ZF139.2.2.1, zE_athrow, zW_succ, zE_iload, zE_aload, zE_lload, zE_iinc, zE_istore, zE_astore, zE_lstore, zE_iconst, zE_ldc2, zE_iadd, zE_isub, zE_imul, zE_idiv, zE_irem, zE_ineg, zE_iand, zE_ior, zE_ixor, zE_ishl, zE_ishr, zE_land, zE_lor, zE_lxor, zE_lshl, zE_lshr, zE_i2l, zE_lcmp, zE_dup_i, zE_dup_a, zE_dup2_ia, zE_pop_i, zE_pop_a, zE_pop2, zE_goto, zE_if_eq, zE_icmp_eq, zE_if_ne, zE_icmp_ne, zE_if_lt, zE_icmp_lt, zE_if_ge, zE_icmp_ge, zE_if_gt, zE_icmp_gt, zE_if_le, zE_icmp_le, zE_iaload, zE_baload, zE_laload, zE_aaload, zE_iastore, zE_bastore, zE_lastore, zE_aastore, zE_alen, zE_getf0, zE_getf1, zE_getf2, zE_getf3, zE_putf0, zE_putf1, zE_putf2, zE_putf3, zE_new, zE_newa, zE_newq, zE_ireturn, zE_lreturn, zE_areturn, zE_return, zE_athrow, zE_st0, zE_vi0, zE_st1, zE_vi1, zE_st2, zE_vi2, zE_st3, zE_vi3, zE_st4, zE_vi4, zE_st5, zE_vi5, zE_st6, zE_vi6, zE_st7, zE_vi7, zE_st8, zE_vi8, zSt_0, zSL_0, zSt_1n, zSt_1i, zSt_1a, zSt_1l, zSt_2n, zSt_2i, zSt_2a, zSt_2l, zSt_3n, zSt_3i, zSt_3a, zSt_3l, zSt_4n, zSt_4i, zSt_4a, zSt_4l, zSt_5n, zSt_5i, zSt_5a, zSt_5l, zSt_6n, zSt_6i, zSt_6a, zSt_6l, zSt_7n, zSt_7i, zSt_7a, zSt_7l, zSt_8n, zSt_8i, zSt_8a, zSt_8l, zSt_9n, zSt_9i, zSt_9a, zSt_9l, zSt_10n, zSt_10i, zSt_10a, zSt_10l, zSt_11n, zSt_11i, zSt_11a, zSt_11l, zSt_12n, zSt_12i, zSt_12a, zSt_12l, zSt_13n, zSt_13i, zSt_13a, zSt_13l, zSL_1n, zSL_1i, zSL_1a, zSL_1l, zSL_2n, zSL_2i, zSL_2a, zSL_2l, zSL_3n, zSL_3i, zSL_3a, zSL_3l, zSL_4n, zSL_4i, zSL_4a, zSL_4l, zSL_5n, zSL_5i, zSL_5a, zSL_5l, zSL_6n, zSL_6i, zSL_6a, zSL_6l, zSL_7n, zSL_7i, zSL_7a, zSL_7l, zSL_8n, zSL_8i, zSL_8a, zSL_8l, zSL_9n, zSL_9i, zSL_9a, zSL_9l, zSL_10n, zSL_10i, zSL_10a, zSL_10l, zSL_11n, zSL_11i, zSL_11a, zSL_11l, zSL_12n, zSL_12i, zSL_12a, zSL_12l, zLI_0, zLL_0, zLA_0, zLI_1, zLL_1, zLA_1, zLI_2, zLL_2, zLA_2, zLI_3, zLL_3, zLA_3, zLI_4, zLL_4, zLA_4, zLI_5, zLL_5, zLA_5, zLI_6, zLL_6, zLA_6, zLI_7, zLL_7, zLA_7, zLI_8, zLL_8, zLA_8, zLI_9, zLL_9, zLA_9, zLI_10, zLL_10, zLA_10, zLI_11, zLL_11, zLA_11, zLI_12, zLL_12, zLA_12, zLI_13, zLL_13, zLA_13, zst_0, zst_1n, zst_1i, zst_1a, zst_2n, zst_2i, zst_2a, zst_3n, zst_3i, zst_3a, zst_4n, zst_4i, zst_4a, zst_5n, zst_5i, zst_5a, zst_6n, zst_6i, zst_6a, zst_7n, zst_7i, zst_7a, zst_8n, zst_8i, zst_8a, zst_9n, zst_9i, zst_9a, zst_10n, zst_10i, zst_10a, zst_11n, zst_11i, zst_11a, zst_12n, zst_12i, zst_12a, zst_13n, zst_13i, zst_13a, zst_14n, zst_14i, zst_14a, zst_15n, zst_15i, zst_15a, zR1_n, zR1_v, zsum_n, zsum_i, zsum_l, zsum_a, zlen_n, zlen_i, zlen_l, zlen_a, List.not_mem_nil, List.mem_cons, or_false, false_or, or_self, ↓reduceIte, if_false, if_true, Nat.reduceEqDiff, Nat.reduceAdd, Nat.reduceLeDiff, true_and, and_true, reduceCtorEq, ne_eq, Int.toNat_natCast, not_true_eq_false, not_false_eq_true, true_implies, false_implies, implies_true, Int.reduceToNat, Int.toNat_zero, Int.reduceLT, Int.reduceLE, Int.reduceEq, Int.reduceAdd, Int.reduceMul, Int.reduceNeg]
  exact fun h => absurd h kn
theorem c139_3 {h l c : Int} {n : Nat} {f' : Nat → Nat → Int} (hR : zLay M.2.2.2) (hm : zmd f' m) (hc : M.2.1 1101 0 = (n : Int)) (hc8 : n ≤ 80) (hg : ∀ j, j < 80 → 0 ≤ M.2.1 1102 j ∧ M.2.1 1102 j ≤ 200) (hf' : zrdm M.2.1 (zrdr M.2.1) = f') (hp : zPg 0 (f' 1098 0) (f' (1098 + 1)) (f' (1098 + 2))) (k0 : 0 ≤ h ∧ h < 3) (k1 : 0 ≤ l ∧ l < 4) (k2 : 1 ≤ c ∧ c ≤ 9) (k3 : zrdf (zrdr M.2.1) n = -1) (kn : ¬ ((3 ≤ f' 1098 0 ∧ zpr (f' 1098 0) (f' (1098 + 1)) (f' (1098 + 2)) 0) ∧ m < 60)) : zFR (zK L) 139 0 (zcall 139 [.inr (.inr 2), .inl h, .inl l, .inl c]) [] M Q = Q (.inr 1) (zthrown (zwI M f')) := by
  have hF := hR.1
  unfold zLayF at hF
  have e0 := fun Q => (c131 (L := L) (M := M) (Q := Q) (h := h)).trans (zyes k0)
  have e1 := fun Q => (c132 (L := L) (M := M) (Q := Q) (h := l)).trans (zyes k1)
  have e2 := fun Q => (c133 (L := L) (M := M) (Q := Q) (v := c)).trans (zyes k2)
  have e3 := fun Q => c115 (L := L) (M := M) (Q := Q) (c := n) hR hc hc8 hg
  rw [hf', k3] at e3
  have e4 := fun Q => (c135 (L := L) (M := zwI M f') (Q := Q) (m := m) (h := h) (l := l) (c := c) (p := 1098) hR hm (Or.inr rfl) hp).trans (znot kn)
  refine zFR_det (zW_sound 60 [30] ?_) Q
  simp only [ZF139, ZR139, zk_2, zk_1101, hF, zwI_2, ZF131.1, ZF131.2.1, ZF131.2.2.1, ZF132.1, ZF132.2.1, ZF132.2.2.1, ZF133.1, ZF133.2.1, ZF133.2.2.1, ZF115.1, ZF115.2.1, ZF115.2.2.1, ZF135.1, ZF135.2.1, ZF135.2.2.1, e0, e1, e2, e3, e4, zR1_p ZF139.2.2.1, zW_succ, zE_iload, zE_aload, zE_lload, zE_iinc, zE_istore, zE_astore, zE_lstore, zE_iconst, zE_ldc2, zE_iadd, zE_isub, zE_imul, zE_idiv, zE_irem, zE_ineg, zE_iand, zE_ior, zE_ixor, zE_ishl, zE_ishr, zE_land, zE_lor, zE_lxor, zE_lshl, zE_lshr, zE_i2l, zE_lcmp, zE_dup_i, zE_dup_a, zE_dup2_ia, zE_pop_i, zE_pop_a, zE_pop2, zE_goto, zE_if_eq, zE_icmp_eq, zE_if_ne, zE_icmp_ne, zE_if_lt, zE_icmp_lt, zE_if_ge, zE_icmp_ge, zE_if_gt, zE_icmp_gt, zE_if_le, zE_icmp_le, zE_iaload, zE_baload, zE_laload, zE_aaload, zE_iastore, zE_bastore, zE_lastore, zE_aastore, zE_alen, zE_getf0, zE_getf1, zE_getf2, zE_getf3, zE_putf0, zE_putf1, zE_putf2, zE_putf3, zE_new, zE_newa, zE_newq, zE_ireturn, zE_lreturn, zE_areturn, zE_return, zE_athrow, zE_st0, zE_vi0, zE_st1, zE_vi1, zE_st2, zE_vi2, zE_st3, zE_vi3, zE_st4, zE_vi4, zE_st5, zE_vi5, zE_st6, zE_vi6, zE_st7, zE_vi7, zE_st8, zE_vi8, zSt_0, zSL_0, zSt_1n, zSt_1i, zSt_1a, zSt_1l, zSt_2n, zSt_2i, zSt_2a, zSt_2l, zSt_3n, zSt_3i, zSt_3a, zSt_3l, zSt_4n, zSt_4i, zSt_4a, zSt_4l, zSt_5n, zSt_5i, zSt_5a, zSt_5l, zSt_6n, zSt_6i, zSt_6a, zSt_6l, zSt_7n, zSt_7i, zSt_7a, zSt_7l, zSt_8n, zSt_8i, zSt_8a, zSt_8l, zSt_9n, zSt_9i, zSt_9a, zSt_9l, zSt_10n, zSt_10i, zSt_10a, zSt_10l, zSt_11n, zSt_11i, zSt_11a, zSt_11l, zSt_12n, zSt_12i, zSt_12a, zSt_12l, zSt_13n, zSt_13i, zSt_13a, zSt_13l, zSL_1n, zSL_1i, zSL_1a, zSL_1l, zSL_2n, zSL_2i, zSL_2a, zSL_2l, zSL_3n, zSL_3i, zSL_3a, zSL_3l, zSL_4n, zSL_4i, zSL_4a, zSL_4l, zSL_5n, zSL_5i, zSL_5a, zSL_5l, zSL_6n, zSL_6i, zSL_6a, zSL_6l, zSL_7n, zSL_7i, zSL_7a, zSL_7l, zSL_8n, zSL_8i, zSL_8a, zSL_8l, zSL_9n, zSL_9i, zSL_9a, zSL_9l, zSL_10n, zSL_10i, zSL_10a, zSL_10l, zSL_11n, zSL_11i, zSL_11a, zSL_11l, zSL_12n, zSL_12i, zSL_12a, zSL_12l, zLI_0, zLL_0, zLA_0, zLI_1, zLL_1, zLA_1, zLI_2, zLL_2, zLA_2, zLI_3, zLL_3, zLA_3, zLI_4, zLL_4, zLA_4, zLI_5, zLL_5, zLA_5, zLI_6, zLL_6, zLA_6, zLI_7, zLL_7, zLA_7, zLI_8, zLL_8, zLA_8, zLI_9, zLL_9, zLA_9, zLI_10, zLL_10, zLA_10, zLI_11, zLL_11, zLA_11, zLI_12, zLL_12, zLA_12, zLI_13, zLL_13, zLA_13, zst_0, zst_1n, zst_1i, zst_1a, zst_2n, zst_2i, zst_2a, zst_3n, zst_3i, zst_3a, zst_4n, zst_4i, zst_4a, zst_5n, zst_5i, zst_5a, zst_6n, zst_6i, zst_6a, zst_7n, zst_7i, zst_7a, zst_8n, zst_8i, zst_8a, zst_9n, zst_9i, zst_9a, zst_10n, zst_10i, zst_10a, zst_11n, zst_11i, zst_11a, zst_12n, zst_12i, zst_12a, zst_13n, zst_13i, zst_13a, zst_14n, zst_14i, zst_14a, zst_15n, zst_15i, zst_15a, zR1_n, zR1_v, zsum_n, zsum_i, zsum_l, zsum_a, zlen_n, zlen_i, zlen_l, zlen_a, List.not_mem_nil, List.mem_cons, or_false, false_or, or_self, ↓reduceIte, if_false, if_true, Nat.reduceEqDiff, Nat.reduceAdd, Nat.reduceLeDiff, true_and, and_true, reduceCtorEq, ne_eq, Int.toNat_natCast, not_true_eq_false, not_false_eq_true, true_implies, false_implies, implies_true, Int.reduceToNat, Int.toNat_zero, Int.reduceLT, Int.reduceLE, Int.reduceEq, Int.reduceAdd, Int.reduceMul, Int.reduceNeg]
theorem c139_g {h l c v : Int} {n k : Nat} {f' : Nat → Nat → Int} {M9 : zM} (hR : zLay M.2.2.2) (hm : zmd f' m) (hm6 : m < 60) (hc : M.2.1 1101 0 = (n : Int)) (hc8 : n ≤ 80) (hg : ∀ j, j < 80 → 0 ≤ M.2.1 1102 j ∧ M.2.1 1102 j ≤ 200) (hf' : zrdm M.2.1 (zrdr M.2.1) = f') (hp : zPg 0 (f' 1098 0) (f' (1098 + 1)) (f' (1098 + 2))) (k0 : 0 ≤ h ∧ h < 3) (k1 : 0 ≤ l ∧ l < 4) (k2 : 1 ≤ c ∧ c ≤ 9) (k3 : zrdf (zrdr M.2.1) n = -1) (ky : 3 ≤ f' 1098 0 ∧ zpr (f' 1098 0) (f' (1098 + 1)) (f' (1098 + 2)) 0) (hk : f' 1098 0 = (k : Int)) (e10 : ∀ Q : zO → zM → Prop, zFR (zK L) 10 0 (zcall 10 [.inr (.inr 3), .inr (.inr (855 + 4 * m)), .inl (m : Int)]) [] (zpnM (zwI M f') m h l c k (f' 1099) (f' 1100)) Q = Q (.inl (some (.inl v))) M9) (hR9 : M9.2.2.2 = M.2.2.2) (hm9 : M9.2.1 2 2 = (m : Int)) : zFR (zK L) 139 0 (zcall 139 [.inr (.inr 2), .inl h, .inl l, .inl c]) [] M Q = ((v = -1 → Q (.inr 1) (zthrown M9)) ∧ (¬ v = -1 → Q (.inl (some (.inl v))) (zwI M9 (zu2 (zu2 M9.2.1 (855 + 4 * m) 11 1) 2 2 ((m : Int) + 1))))) := by
  have hF := hR.1
  unfold zLayF at hF
  have e0 := fun Q => (c131 (L := L) (M := M) (Q := Q) (h := h)).trans (zyes k0)
  have e1 := fun Q => (c132 (L := L) (M := M) (Q := Q) (h := l)).trans (zyes k1)
  have e2 := fun Q => (c133 (L := L) (M := M) (Q := Q) (v := c)).trans (zyes k2)
  have e3 := fun Q => c115 (L := L) (M := M) (Q := Q) (c := n) hR hc hc8 hg
  rw [hf', k3] at e3
  have e4 := fun Q => (c135 (L := L) (M := zwI M f') (Q := Q) (m := m) (h := h) (l := l) (c := c) (p := 1098) hR hm (Or.inr rfl) hp).trans (zyes ⟨ky, hm6⟩)
  have en : znpM (zwI M f') m h l c 1098 = zpnM (zwI M f') m h l c k (f' 1099) (f' 1100) := by
    unfold znpM zpnM
    rw [zwI_I, hk, Int.toNat_natCast]
  rw [en] at e4
  have hm2 : (zpnM (zwI M f') m h l c k (f' 1099) (f' 1100)).2.1 2 2 = (m : Int) := (zpn_cw.1 2 2 (by omega)).trans hm.1
  have e138 := fun Q => c138 (L := L) (M := zpnM (zwI M f') m h l c k (f' 1099) (f' 1100)) (Q := Q) (m := m) (v := v) (M9 := M9) hR hR9 hm2 hm9 hm6 e10
  by_cases hv : v = -1
  · have e138v := fun Q => (e138 Q).trans (zyes hv)
    rw [zFR_det (r0 := .inr 1) (M0 := zthrown M9) (zW_sound 60 [30] ?_) Q]
    · exact (zyes hv).symm
    · simp only [ZF139, ZR139, zk_2, zk_1101, zK_ch hm6, hF, zwI_2, ZF131.1, ZF131.2.1, ZF131.2.2.1, ZF132.1, ZF132.2.1, ZF132.2.2.1, ZF133.1, ZF133.2.1, ZF133.2.2.1, ZF115.1, ZF115.2.1, ZF115.2.2.1, ZF135.1, ZF135.2.1, ZF135.2.2.1, ZF138.1, ZF138.2.1, ZF138.2.2.1, e0, e1, e2, e3, e4, e138v, zR1_p ZF139.2.2.1, zW_succ, zE_iload, zE_aload, zE_lload, zE_iinc, zE_istore, zE_astore, zE_lstore, zE_iconst, zE_ldc2, zE_iadd, zE_isub, zE_imul, zE_idiv, zE_irem, zE_ineg, zE_iand, zE_ior, zE_ixor, zE_ishl, zE_ishr, zE_land, zE_lor, zE_lxor, zE_lshl, zE_lshr, zE_i2l, zE_lcmp, zE_dup_i, zE_dup_a, zE_dup2_ia, zE_pop_i, zE_pop_a, zE_pop2, zE_goto, zE_if_eq, zE_icmp_eq, zE_if_ne, zE_icmp_ne, zE_if_lt, zE_icmp_lt, zE_if_ge, zE_icmp_ge, zE_if_gt, zE_icmp_gt, zE_if_le, zE_icmp_le, zE_iaload, zE_baload, zE_laload, zE_aaload, zE_iastore, zE_bastore, zE_lastore, zE_aastore, zE_alen, zE_getf0, zE_getf1, zE_getf2, zE_getf3, zE_putf0, zE_putf1, zE_putf2, zE_putf3, zE_new, zE_newa, zE_newq, zE_ireturn, zE_lreturn, zE_areturn, zE_return, zE_athrow, zE_st0, zE_vi0, zE_st1, zE_vi1, zE_st2, zE_vi2, zE_st3, zE_vi3, zE_st4, zE_vi4, zE_st5, zE_vi5, zE_st6, zE_vi6, zE_st7, zE_vi7, zE_st8, zE_vi8, zSt_0, zSL_0, zSt_1n, zSt_1i, zSt_1a, zSt_1l, zSt_2n, zSt_2i, zSt_2a, zSt_2l, zSt_3n, zSt_3i, zSt_3a, zSt_3l, zSt_4n, zSt_4i, zSt_4a, zSt_4l, zSt_5n, zSt_5i, zSt_5a, zSt_5l, zSt_6n, zSt_6i, zSt_6a, zSt_6l, zSt_7n, zSt_7i, zSt_7a, zSt_7l, zSt_8n, zSt_8i, zSt_8a, zSt_8l, zSt_9n, zSt_9i, zSt_9a, zSt_9l, zSt_10n, zSt_10i, zSt_10a, zSt_10l, zSt_11n, zSt_11i, zSt_11a, zSt_11l, zSt_12n, zSt_12i, zSt_12a, zSt_12l, zSt_13n, zSt_13i, zSt_13a, zSt_13l, zSL_1n, zSL_1i, zSL_1a, zSL_1l, zSL_2n, zSL_2i, zSL_2a, zSL_2l, zSL_3n, zSL_3i, zSL_3a, zSL_3l, zSL_4n, zSL_4i, zSL_4a, zSL_4l, zSL_5n, zSL_5i, zSL_5a, zSL_5l, zSL_6n, zSL_6i, zSL_6a, zSL_6l, zSL_7n, zSL_7i, zSL_7a, zSL_7l, zSL_8n, zSL_8i, zSL_8a, zSL_8l, zSL_9n, zSL_9i, zSL_9a, zSL_9l, zSL_10n, zSL_10i, zSL_10a, zSL_10l, zSL_11n, zSL_11i, zSL_11a, zSL_11l, zSL_12n, zSL_12i, zSL_12a, zSL_12l, zLI_0, zLL_0, zLA_0, zLI_1, zLL_1, zLA_1, zLI_2, zLL_2, zLA_2, zLI_3, zLL_3, zLA_3, zLI_4, zLL_4, zLA_4, zLI_5, zLL_5, zLA_5, zLI_6, zLL_6, zLA_6, zLI_7, zLL_7, zLA_7, zLI_8, zLL_8, zLA_8, zLI_9, zLL_9, zLA_9, zLI_10, zLL_10, zLA_10, zLI_11, zLL_11, zLA_11, zLI_12, zLL_12, zLA_12, zLI_13, zLL_13, zLA_13, zst_0, zst_1n, zst_1i, zst_1a, zst_2n, zst_2i, zst_2a, zst_3n, zst_3i, zst_3a, zst_4n, zst_4i, zst_4a, zst_5n, zst_5i, zst_5a, zst_6n, zst_6i, zst_6a, zst_7n, zst_7i, zst_7a, zst_8n, zst_8i, zst_8a, zst_9n, zst_9i, zst_9a, zst_10n, zst_10i, zst_10a, zst_11n, zst_11i, zst_11a, zst_12n, zst_12i, zst_12a, zst_13n, zst_13i, zst_13a, zst_14n, zst_14i, zst_14a, zst_15n, zst_15i, zst_15a, zR1_n, zR1_v, zsum_n, zsum_i, zsum_l, zsum_a, zlen_n, zlen_i, zlen_l, zlen_a, List.not_mem_nil, List.mem_cons, or_false, false_or, or_self, ↓reduceIte, if_false, if_true, Nat.reduceEqDiff, Nat.reduceAdd, Nat.reduceLeDiff, true_and, and_true, reduceCtorEq, ne_eq, Int.toNat_natCast, not_true_eq_false, not_false_eq_true, true_implies, false_implies, implies_true, Int.reduceToNat, Int.toNat_zero, Int.reduceLT, Int.reduceLE, Int.reduceEq, Int.reduceAdd, Int.reduceMul, Int.reduceNeg]
  · have e138v := fun Q => (e138 Q).trans (znot hv)
    rw [zFR_det (r0 := .inl (some (.inl v))) (M0 := zwI M9 (zu2 (zu2 M9.2.1 (855 + 4 * m) 11 1) 2 2 ((m : Int) + 1))) (zW_sound 60 [30] ?_) Q]
    · exact (znot hv).symm
    · simp only [ZF139, ZR139, zk_2, zk_1101, zK_ch hm6, hF, zwI_2, ZF131.1, ZF131.2.1, ZF131.2.2.1, ZF132.1, ZF132.2.1, ZF132.2.2.1, ZF133.1, ZF133.2.1, ZF133.2.2.1, ZF115.1, ZF115.2.1, ZF115.2.2.1, ZF135.1, ZF135.2.1, ZF135.2.2.1, ZF138.1, ZF138.2.1, ZF138.2.2.1, e0, e1, e2, e3, e4, e138v, zR1_p ZF139.2.2.1, zW_succ, zE_iload, zE_aload, zE_lload, zE_iinc, zE_istore, zE_astore, zE_lstore, zE_iconst, zE_ldc2, zE_iadd, zE_isub, zE_imul, zE_idiv, zE_irem, zE_ineg, zE_iand, zE_ior, zE_ixor, zE_ishl, zE_ishr, zE_land, zE_lor, zE_lxor, zE_lshl, zE_lshr, zE_i2l, zE_lcmp, zE_dup_i, zE_dup_a, zE_dup2_ia, zE_pop_i, zE_pop_a, zE_pop2, zE_goto, zE_if_eq, zE_icmp_eq, zE_if_ne, zE_icmp_ne, zE_if_lt, zE_icmp_lt, zE_if_ge, zE_icmp_ge, zE_if_gt, zE_icmp_gt, zE_if_le, zE_icmp_le, zE_iaload, zE_baload, zE_laload, zE_aaload, zE_iastore, zE_bastore, zE_lastore, zE_aastore, zE_alen, zE_getf0, zE_getf1, zE_getf2, zE_getf3, zE_putf0, zE_putf1, zE_putf2, zE_putf3, zE_new, zE_newa, zE_newq, zE_ireturn, zE_lreturn, zE_areturn, zE_return, zE_athrow, zE_st0, zE_vi0, zE_st1, zE_vi1, zE_st2, zE_vi2, zE_st3, zE_vi3, zE_st4, zE_vi4, zE_st5, zE_vi5, zE_st6, zE_vi6, zE_st7, zE_vi7, zE_st8, zE_vi8, zSt_0, zSL_0, zSt_1n, zSt_1i, zSt_1a, zSt_1l, zSt_2n, zSt_2i, zSt_2a, zSt_2l, zSt_3n, zSt_3i, zSt_3a, zSt_3l, zSt_4n, zSt_4i, zSt_4a, zSt_4l, zSt_5n, zSt_5i, zSt_5a, zSt_5l, zSt_6n, zSt_6i, zSt_6a, zSt_6l, zSt_7n, zSt_7i, zSt_7a, zSt_7l, zSt_8n, zSt_8i, zSt_8a, zSt_8l, zSt_9n, zSt_9i, zSt_9a, zSt_9l, zSt_10n, zSt_10i, zSt_10a, zSt_10l, zSt_11n, zSt_11i, zSt_11a, zSt_11l, zSt_12n, zSt_12i, zSt_12a, zSt_12l, zSt_13n, zSt_13i, zSt_13a, zSt_13l, zSL_1n, zSL_1i, zSL_1a, zSL_1l, zSL_2n, zSL_2i, zSL_2a, zSL_2l, zSL_3n, zSL_3i, zSL_3a, zSL_3l, zSL_4n, zSL_4i, zSL_4a, zSL_4l, zSL_5n, zSL_5i, zSL_5a, zSL_5l, zSL_6n, zSL_6i, zSL_6a, zSL_6l, zSL_7n, zSL_7i, zSL_7a, zSL_7l, zSL_8n, zSL_8i, zSL_8a, zSL_8l, zSL_9n, zSL_9i, zSL_9a, zSL_9l, zSL_10n, zSL_10i, zSL_10a, zSL_10l, zSL_11n, zSL_11i, zSL_11a, zSL_11l, zSL_12n, zSL_12i, zSL_12a, zSL_12l, zLI_0, zLL_0, zLA_0, zLI_1, zLL_1, zLA_1, zLI_2, zLL_2, zLA_2, zLI_3, zLL_3, zLA_3, zLI_4, zLL_4, zLA_4, zLI_5, zLL_5, zLA_5, zLI_6, zLL_6, zLA_6, zLI_7, zLL_7, zLA_7, zLI_8, zLL_8, zLA_8, zLI_9, zLL_9, zLA_9, zLI_10, zLL_10, zLA_10, zLI_11, zLL_11, zLA_11, zLI_12, zLL_12, zLA_12, zLI_13, zLL_13, zLA_13, zst_0, zst_1n, zst_1i, zst_1a, zst_2n, zst_2i, zst_2a, zst_3n, zst_3i, zst_3a, zst_4n, zst_4i, zst_4a, zst_5n, zst_5i, zst_5a, zst_6n, zst_6i, zst_6a, zst_7n, zst_7i, zst_7a, zst_8n, zst_8i, zst_8a, zst_9n, zst_9i, zst_9a, zst_10n, zst_10i, zst_10a, zst_11n, zst_11i, zst_11a, zst_12n, zst_12i, zst_12a, zst_13n, zst_13i, zst_13a, zst_14n, zst_14i, zst_14a, zst_15n, zst_15i, zst_15a, zR1_n, zR1_v, zsum_n, zsum_i, zsum_l, zsum_a, zlen_n, zlen_i, zlen_l, zlen_a, List.not_mem_nil, List.mem_cons, or_false, false_or, or_self, ↓reduceIte, if_false, if_true, Nat.reduceEqDiff, Nat.reduceAdd, Nat.reduceLeDiff, true_and, and_true, reduceCtorEq, ne_eq, Int.toNat_natCast, not_true_eq_false, not_false_eq_true, true_implies, false_implies, implies_true, Int.reduceToNat, Int.toNat_zero, Int.reduceLT, Int.reduceLE, Int.reduceEq, Int.reduceAdd, Int.reduceMul, Int.reduceNeg]
end ZTRACEQ
/-! trace: alike -/
section ZTRACE2Q
variable {L m : Nat} {M M0 B C2 : zM} {Q : zO → zM → Prop} {cc : Nat → Int}
theorem zrdf_n (r : zrS × Option Nat) (c : Nat) : zrdf r c = -1 ∨ 0 ≤ zrdf r c := by
  unfold zrdf
  split
  · exact Or.inr (by omega)
  · split
    · exact Or.inl rfl
    · exact Or.inr (by omega)
theorem zqA_139 (hW : zqW m M) (c2 : cc 2 = 1) (c0 : cc 0 = 2) (c1 : cc 1 = 3) {h l c : Int} : zqAg L M 139 [.inr (.inr 2), .inl h, .inl l, .inl c] 256 [.inr (.inr 1153), .inl h, .inl l, .inl c] cc := by
  have hR := hW.1.1
  have hm := zqmd hW
  have m8 : M.2.1 1153 8 = (m : Int) := hW.1.2.2.2.1.2
  have hW' := zqW_rd hW
  obtain ⟨⟨p1, p2, p3⟩, p4, p5⟩ := hW.2.2.1
  obtain ⟨n, hc⟩ : ∃ n : Nat, M.2.1 1101 0 = (n : Int) := ⟨(M.2.1 1101 0).toNat, by omega⟩
  have hg : ∀ j, j < 80 → 0 ≤ M.2.1 1102 j ∧ M.2.1 1102 j ≤ 200 := fun j hj => (p4 j hj).1
  have ok := zrun_v (o := M.2.1 1102) (X0 := M.2.1 1099) (Y0 := M.2.1 1100) (M.2.1 1101 0).toNat
  have okk : zrok (zrdr M.2.1).1 := ok.1
  have okv : ∀ j, j < (zrdr M.2.1).1.2.2.2.1 → (0 ≤ (zrdr M.2.1).1.2.2.2.2.1 j ∧ (zrdr M.2.1).1.2.2.2.2.1 j ≤ 60) ∧ 0 ≤ (zrdr M.2.1).1.2.2.2.2.2 j ∧ (zrdr M.2.1).1.2.2.2.2.2 j ≤ 60 := ok.2
  obtain ⟨f', hf'⟩ : ∃ f', zrdm M.2.1 (zrdr M.2.1) = f' := ⟨_, rfl⟩
  obtain ⟨K, hK⟩ : ∃ K, (zrdr M.2.1).1.2.2.2.1 = K := ⟨_, rfl⟩
  rw [hf'] at hW'
  have K8 : K ≤ 8 := by
    rw [← hK]
    exact okk.2.2.2.1
  have fK : f' 1098 0 = (K : Int) := by
    rw [← hf', ← hK]
    exact zpset_n _ _ _ _ _
  have fX : ∀ j, j < K → f' 1099 j = (zrdr M.2.1).1.2.2.2.2.1 j ∧ f' 1100 j = (zrdr M.2.1).1.2.2.2.2.2 j := fun j hj => by
    rw [← hf']
    exact ⟨zpset_X _ 1098 (by omega) _ _, zpset_Y _ 1098 (by omega) _ _⟩
  have fo : ∀ b j, (b < 1098 ∨ 1101 ≤ b) → f' b j = M.2.1 b j := fun b j hb => by
    rw [← hf']
    exact zrdm_o hb
  have fv : ∀ j, j < K → (0 ≤ f' 1099 j ∧ f' 1099 j ≤ 60) ∧ 0 ≤ f' 1100 j ∧ f' 1100 j ≤ 60 := fun j hj => by
    rw [(fX j hj).1, (fX j hj).2]
    exact okv j (by omega)
  have pg : zPg 0 (f' 1098 0) (f' (1098 + 1)) (f' (1098 + 2)) := by
    rw [fK]
    refine ⟨by omega, by omega, fun k hk => ?_⟩
    have := fv k (by omega)
    exact ⟨this.1.1, this.1.2, this.2⟩
  have hmf : zmd f' m := ⟨(fo 2 2 (by omega)).trans hm.1, hm.2⟩
  have zt : ∀ B : zM, (∀ b j, 1153 ≤ b → B.2.1 b j = M.2.1 b j) → zrdf (zrdr M.2.1) n = (zrfr B.2.1 n).1 ∧ ((zrfr B.2.1 n).1 < 0 → (zrfr B.2.1 n).2.1 = K ∧ ∀ j, j < K → (zrfr B.2.1 n).2.2.1 j = f' 1099 j ∧ (zrfr B.2.1 n).2.2.2 j = f' 1100 j) := fun B bn => by
    obtain ⟨z1, z2⟩ := zqtape hW (F := B.2.1) (funext fun j => bn _ _ (by omega)) hc
    refine ⟨z1, fun h => ?_⟩
    obtain ⟨y1, y2⟩ := z2 h
    have e : (zrfr B.2.1 n).2.1 = K := by rw [← y1, hK]
    refine ⟨e, fun j hj => ?_⟩
    rw [(fX j hj).1, (fX j hj).2]
    obtain ⟨w1, w2⟩ := y2 j (by omega)
    exact ⟨w1.symm, w2.symm⟩
  have dn := zrdf_n (zrdr M.2.1) n
  have cgB : ∀ B : zM, (∀ b j, 1153 ≤ b → B.2.1 b j = M.2.1 b j) → (zrfr B.2.1 n).1 < 0 → (zcgp (zrfr B.2.1 n).2.1 (zrfr B.2.1 n).2.2.1 (zrfr B.2.1 n).2.2.2 (zrfr B.2.1 n).2.1 ↔ (3 ≤ f' 1098 0 ∧ zpr (f' 1098 0) (f' (1098 + 1)) (f' (1098 + 2)) 0)) := fun B bn hneg => by
    obtain ⟨y1, y2⟩ := (zt B bn).2 hneg
    rw [zcgp_pr, y1, fK]
    exact and_congr_right (fun _ => ⟨zpr_cg (fun k hk => (y2 k (by omega)).1.symm) (fun k hk => (y2 k (by omega)).2.symm), zpr_cg (fun k hk => (y2 k (by omega)).1) (fun k hk => (y2 k (by omega)).2)⟩)
  have r5 : ∀ B : zM, (∀ b j, 1153 ≤ b → B.2.1 b j = M.2.1 b j) → B.2.1 1153 5 = (n : Int) ∧ ∀ j, j < n → 0 ≤ B.2.1 1156 j ∧ B.2.1 1156 j ≤ 200 := fun B bn => ⟨(bn _ _ (by omega)).trans (p3.trans hc), fun j hj => by
    rw [bn _ _ (by omega)]
    exact (p4 j (by omega)).2⟩
  have fin : ∀ (B : zM) (e : Int), B.2.2.2 = M.2.2.2 → (∀ a, a ≠ 1205 → B.2.2.1 a = M.2.2.1 a) → (∀ b j, (b < 1098 ∨ 1101 ≤ b) → B.2.1 b j = M.2.1 b j) → zqW m (zwI B (zrtw (zrfM B.2.1 n) e)) := fun B e b3 b2 b1 => zqW_t hW b3 b2 (fun b j q1 q2 q3 q4 => by
    show zrtw (zrfM B.2.1 n) e b j = _
    unfold zrtw
    rw [zu2_sj (by omega), zrfM_p ⟨by omega, by omega⟩ (by omega)]
    exact b1 b j (by omega))
  by_cases k : (0 ≤ h ∧ h < 3) ∧ 0 ≤ l ∧ l < 4
  · by_cases k2 : 1 ≤ c ∧ c ≤ 9
    · by_cases k3 : zrdf (zrdr M.2.1) n = -1
      · by_cases k4 : (3 ≤ f' 1098 0 ∧ zpr (f' 1098 0) (f' (1098 + 1)) (f' (1098 + 2)) 0) ∧ m < 60
        · obtain ⟨k4, hm6⟩ := k4
          have told : ∀ B : zM, _ := fun B => zrpts_H (m := m) (B := B) (F := zrtw (zrfM B.2.1 n) 0) (n := (zrfr B.2.1 n).2.1) (X := (zrfr B.2.1 n).2.2.1) (Y := (zrfr B.2.1 n).2.2.2)
          have Fo : ∀ (B : zM) b j, ¬ (b = 1153 ∧ (j = 0 ∨ j = 3 ∨ j = 62)) → b ≠ 1189 → b ≠ 1190 → zrtw (zrfM B.2.1 n) 0 b j = B.2.1 b j := fun B b j q1 q2 q3 => by
            unfold zrtw
            rw [zu2_sj (by omega), zrfM_p ⟨q2, q3⟩ (by omega)]
          have neg : ∀ B : zM, (∀ b j, 1153 ≤ b → B.2.1 b j = M.2.1 b j) → (zrfr B.2.1 n).1 < 0 := fun B bn => by
            rw [← (zt B bn).1, k3]
            omega
          have bM : ∀ B : zM, (∀ b j, 1153 ≤ b → B.2.1 b j = (zwI M f').2.1 b j) → ∀ b j, 1153 ≤ b → B.2.1 b j = M.2.1 b j := fun B bn b j hb => (bn b j hb).trans (fo b j (by omega))
          have m8B : ∀ B : zM, (∀ b j, 1153 ≤ b → B.2.1 b j = M.2.1 b j) → (zrpts (zrtw (zrfM B.2.1 n) 0) m (zrfr B.2.1 n).2.2.1 (zrfr B.2.1 n).2.2.2 (zrfr B.2.1 n).2.1) 1153 8 = (m : Int) := fun B bn => by
            rw [zrpts_o (by omega), Fo B 1153 8 (by omega) (by omega) (by omega)]
            exact (bn _ _ (by omega)).trans m8
          refine zqAg_g2 (M := zwI M f') (e := 3) (fun B => zwI B (zrtl (zrpts (zrtw (zrfM B.2.1 n) 0) m (zrfr B.2.1 n).2.2.1 (zrfr B.2.1 n).2.2.2 (zrfr B.2.1 n).2.1) m 0 h l c 0 0)) rfl rfl rfl hW' hm6 (C2 := zpnM (zwI M f') m h l c K (f' 1099) (f' 1100)) zpn_cw (funext fun j => zpn_cw.2.1 _ _ (by omega)) rfl (fun B b4 bn => ?_) (fun v M9 e10 hR9 hm9 _ Q => c139_g hR hmf hm6 hc (by omega) hg hf' pg k.1 k.2 k2 k3 k4 fK e10 hR9 hm9) (fun B M9 b4 bn e192 Q => ?_) (fun B M9 b4 bn e192 lM h8 Q => ?_) c1
          · have bn' := bM B bn
            obtain ⟨y1, y2⟩ := (zt B bn').2 (neg B bn')
            obtain ⟨⟨t1, t2, t3⟩, t4⟩ := told B (by omega) (Fo B)
            refine ⟨zpn_told t4, fun b j hb => ?_, rfl, rfl, ?_⟩
            · unfold zqXs at hb
              show zrtl _ m 0 h l c 0 0 b j = _
              unfold zrtl
              rw [zu2_sj (by omega), zu2_sj (by omega), zu2_sj (by omega), zu2_sj (by omega), zu2_sj (by omega), zu2_sj (by omega), zrpts_o (by omega)]
              by_cases q : b = 1153
              · subst q
                unfold zrtw
                rw [zu2_sj (by omega), zrfM_p ⟨by omega, by omega⟩ (by omega)]
              · exact Fo B b j (by omega) (by omega) (by omega)
            · rw [fK] at k4
              exact zpn_J (by omega) (by omega) k2 (by omega) fv k4.2 (by rw [t1, y1]) (fun j hj => (t2 j (by omega)).trans (y2 j hj).1) (fun j hj => (t3 j (by omega)).trans (y2 j hj).2)
          · have bn' := bM B bn
            obtain ⟨z1, z2⟩ := r5 B bn'
            exact c256_g (by rw [b4]; exact hR) z1 (by omega) z2 (by omega) (by omega) k2 ⟨⟨neg B bn', (cgB B bn' (neg B bn')).mpr k4⟩, by rw [bn' _ _ (by omega), m8]; omega⟩ ((bn' _ _ (by omega)).trans m8) hm6 (fun Q9 => c253_0 (M := zwI B (zrpts (zrtw (zrfM B.2.1 n) 0) m (zrfr B.2.1 n).2.2.1 (zrfr B.2.1 n).2.2.2 (zrfr B.2.1 n).2.1)) (show zLay B.2.2.2 by rw [b4]; exact hR) (m8B B bn') hm6 e192)
          · have bn' := bM B bn
            obtain ⟨z1, z2⟩ := r5 B bn'
            exact c256_g (by rw [b4]; exact hR) z1 (by omega) z2 (by omega) (by omega) k2 ⟨⟨neg B bn', (cgB B bn' (neg B bn')).mpr k4⟩, by rw [bn' _ _ (by omega), m8]; omega⟩ ((bn' _ _ (by omega)).trans m8) hm6 (fun Q9 => c253_1 (M := zwI B (zrpts (zrtw (zrfM B.2.1 n) 0) m (zrfr B.2.1 n).2.2.1 (zrfr B.2.1 n).2.2.2 (zrfr B.2.1 n).2.1)) (show zLay B.2.2.2 by rw [b4]; exact hR) (m8B B bn') hm6 e192 lM h8)
        · refine zqAg_n1 (m := m) (C := zwI M f') (e := 1) (d := 3) (.inl 0) (by omega) (fun Q => c139_3 hR hmf hc (by omega) hg hf' pg k.1 k.2 k2 k3 k4) rfl rfl rfl (fun B b1 b2 b3 => ?_) c1
          have b1' : B.2.1 = f' := b1
          have bn : ∀ b j, (b < 1098 ∨ 1101 ≤ b) → B.2.1 b j = M.2.1 b j := fun b j hb => by rw [b1']; exact fo b j hb
          have bn' : ∀ b j, 1153 ≤ b → B.2.1 b j = M.2.1 b j := fun b j hb => bn b j (by omega)
          obtain ⟨z1, z2⟩ := r5 B bn'
          refine ⟨zwI B (zrtw (zrfM B.2.1 n) 3), fun Q => c256_3 (by rw [b3]; exact hR) z1 (by omega) z2 (by omega) (by omega) k2 (fun kk => k4 ⟨(cgB B bn' kk.1.1).mp kk.1.2, ?_⟩), rfl, rfl, fin B 3 b3 b2 bn, (show zrtw (zrfM B.2.1 n) 3 1153 0 = 3 from zu2_eq _ _ _ _)⟩
          have := kk.2
          rw [bn' _ _ (by omega), m8] at this
          omega
      · refine zqAg_n1 (m := m) (C := zwI M f') (e := 1) (d := 3) (.inl 0) (by omega) (fun Q => c139_2 hR hc (by omega) hg hf' k.1 k.2 k2 k3) rfl rfl rfl (fun B b1 b2 b3 => ?_) c1
        have b1' : B.2.1 = f' := b1
        have bn : ∀ b j, (b < 1098 ∨ 1101 ≤ b) → B.2.1 b j = M.2.1 b j := fun b j hb => by rw [b1']; exact fo b j hb
        have bn' : ∀ b j, 1153 ≤ b → B.2.1 b j = M.2.1 b j := fun b j hb => bn b j (by omega)
        obtain ⟨z1, z2⟩ := r5 B bn'
        refine ⟨zwI B (zrtw (zrfM B.2.1 n) 3), fun Q => c256_3 (by rw [b3]; exact hR) z1 (by omega) z2 (by omega) (by omega) k2 (fun kk => ?_), rfl, rfl, fin B 3 b3 b2 bn, (show zrtw (zrfM B.2.1 n) 3 1153 0 = 3 from zu2_eq _ _ _ _)⟩
        have := kk.1.1
        rw [← (zt B bn').1] at this
        omega
    · refine zqAg_n1 (m := m) (C := M) (e := 0) (d := 2) (.inl 0) (by omega) (fun Q => c139_1 k.1 k.2 k2) rfl rfl rfl (fun B b1 b2 b3 => ?_) c0
      obtain ⟨z1, z2⟩ := r5 B (fun b j _ => by rw [b1])
      exact ⟨zwI B (zrtw (zrfM B.2.1 n) 2), fun Q => c256_2 (by rw [b3]; exact hR) z1 (by omega) z2 (by omega) (by omega) k2, rfl, rfl, fin B 2 b3 b2 (fun b j _ => by rw [b1]), (show zrtw (zrfM B.2.1 n) 2 1153 0 = 2 from zu2_eq _ _ _ _)⟩
  · refine zqAg_n1 (m := m) (C := M) (e := 2) (d := 1) (.inl 0) (by omega) (fun Q => c139_0 k) rfl rfl rfl (fun B b1 b2 b3 => ?_) c2
    obtain ⟨z1, z2⟩ := r5 B (fun b j _ => by rw [b1])
    exact ⟨zwI B (zrtw (zrfM B.2.1 n) 1), fun Q => c256_1 (by rw [b3]; exact hR) z1 (by omega) z2 (by omega), rfl, rfl, fin B 1 b3 b2 (fun b j _ => by rw [b1]), (show zrtw (zrfM B.2.1 n) 1 1153 0 = 1 from zu2_eq _ _ _ _)⟩
end ZTRACE2Q
/-! cells and rows of the picture -/
section ZCELLQ
variable {L m n : Nat} {M B : zM} {s : Nat} {Q : zO → zM → Prop} {f G : Nat → Nat → Int} {cc : Nat → Int}
theorem zqOk (h : zqR n f G) : zrOk (zrg G) (zrct G) := by
  refine ⟨zrg_c, zrct_b _, fun j hj => ?_⟩
  obtain ⟨v, ⟨v1, v2⟩, v3⟩ := zqvl hj
  have so := (h.2.2.2.2.2.2.2.1 v v1 v2).2
  have ly := (h.2.1 v v1 v2).2.2.2.1
  have sp := zqO_sp so
  have e7 : zrg G 1167 v = G 1167 v := zrg_o ⟨by omega, by omega⟩
  have a4 : zrg G 1174 v = G 1174 v := zrg_o ⟨by omega, by omega⟩
  have a5 : zrg G 1175 v = G 1175 v := zrg_o ⟨by omega, by omega⟩
  have a6 : zrN (zrg G) v = zrN G v := funext fun p => zrg_o ⟨by omega, by omega⟩
  have a7 : zrX (zrg G) v = zrX G v := funext fun p => funext fun q => zrg_o ⟨by omega, by omega⟩
  have a8 : zrY (zrg G) v = zrY G v := funext fun p => funext fun q => zrg_o ⟨by omega, by omega⟩
  refine ⟨v, v1, (zrg_r j).trans v3, ?_, by rw [e7]; exact ly.1, by rw [e7]; exact ly.2⟩
  unfold zrSp
  rw [a4, a5, a6, a7, a8]
  exact sp
/-- the uppermost for the class -/
def zupm (f : Nat → Nat → Int) (x y : Int) : Int := zbest (zshb f x y) (fun i v => zclt f v i) 60
theorem zupm_b (h : zqR n f G) {x y : Int} : zupm f x y = -1 ∨ ∃ k : Nat, k < 60 ∧ zupm f x y = (k : Int) ∧ G 1166 k = 1 := by
  have cd : ∀ v, v < 60 → zshb f x y v = true → zqth2 G v := fun v hv hc => by
    unfold zshb zsee at hc
    rw [Bool.and_eq_true, decide_eq_true_iff] at hc
    exact ⟨hv, by rw [← zqR_t h hv]; exact hc.1.1⟩
  rcases zbest_b (cand := zshb f x y) (better := fun i v => zclt f v i) (P := zqth2 G) (fun a b c pa pb pc h1 h2 => zclt_tr h c b a pc pb pa h2 h1) (fun a b pa pb hab => (zclt_tot h a b pa pb hab).symm) 60 cd with ⟨e, _⟩ | ⟨k, k1, k2, e, _⟩
  · exact Or.inl e
  · exact Or.inr ⟨k, k1, e, (cd k k1 k2).2⟩
theorem zqca (h : zqR n f G) {x y : Int} : zrca (zrg G) x y = if zupm f (2 * x + 1) (2 * y + 1) = -1 then 0 else f (14 + 14 * (zupm f (2 * x + 1) (2 * y + 1)).toNat) 2 := by
  unfold zrca
  rw [zrg_c, Int.toNat_natCast, ← zqht h]
  show (if zupm f (2 * x + 1) (2 * y + 1) < 0 then 0 else zrg G 1168 (zupm f (2 * x + 1) (2 * y + 1)).toNat) = _
  rcases zupm_b h (x := 2 * x + 1) (y := 2 * y + 1) with e | ⟨k, k1, e, t⟩
  · rw [e, if_pos (by omega), if_pos rfl]
  · rw [e, if_neg (by omega), if_neg (by omega), Int.toNat_natCast, zrg_o ⟨by omega, by omega⟩]
    exact (h.2.1 k k1 t).2.1.symm
theorem c182_0 {x y : Int} (hn : ¬ ((0 ≤ x ∧ x < 60) ∧ 0 ≤ y ∧ y < 60)) : zFR (zK L) 182 0 (zcall 182 [.inr (.inr 2), .inl x, .inl y]) [] M Q = Q (.inr 2) (zthrown M) := by
  have e2 := fun Q => (c183 (L := L) (M := M) (Q := Q) (x := x) (y := y)).trans (znot hn)
  refine zFR_det (zW_sound 60 [] ?_) Q
  simp only [ZF182, ZR182, zk_2, ZF183.1, ZF183.2.1, ZF183.2.2.1, e2, zR1_p ZF182.2.2.1, zW_succ, zE_iload, zE_aload, zE_lload, zE_iinc, zE_istore, zE_astore, zE_lstore, zE_iconst, zE_ldc2, zE_iadd, zE_isub, zE_imul, zE_idiv, zE_irem, zE_ineg, zE_iand, zE_ior, zE_ixor, zE_ishl, zE_ishr, zE_land, zE_lor, zE_lxor, zE_lshl, zE_lshr, zE_i2l, zE_lcmp, zE_dup_i, zE_dup_a, zE_dup2_ia, zE_pop_i, zE_pop_a, zE_pop2, zE_goto, zE_if_eq, zE_icmp_eq, zE_if_ne, zE_icmp_ne, zE_if_lt, zE_icmp_lt, zE_if_ge, zE_icmp_ge, zE_if_gt, zE_icmp_gt, zE_if_le, zE_icmp_le, zE_iaload, zE_baload, zE_laload, zE_aaload, zE_iastore, zE_bastore, zE_lastore, zE_aastore, zE_alen, zE_getf0, zE_getf1, zE_getf2, zE_getf3, zE_putf0, zE_putf1, zE_putf2, zE_putf3, zE_new, zE_newa, zE_newq, zE_ireturn, zE_lreturn, zE_areturn, zE_return, zE_athrow, zE_st0, zE_vi0, zE_st1, zE_vi1, zE_st2, zE_vi2, zE_st3, zE_vi3, zE_st4, zE_vi4, zE_st5, zE_vi5, zE_st6, zE_vi6, zE_st7, zE_vi7, zE_st8, zE_vi8, zSt_0, zSL_0, zSt_1n, zSt_1i, zSt_1a, zSt_1l, zSt_2n, zSt_2i, zSt_2a, zSt_2l, zSt_3n, zSt_3i, zSt_3a, zSt_3l, zSt_4n, zSt_4i, zSt_4a, zSt_4l, zSt_5n, zSt_5i, zSt_5a, zSt_5l, zSt_6n, zSt_6i, zSt_6a, zSt_6l, zSt_7n, zSt_7i, zSt_7a, zSt_7l, zSt_8n, zSt_8i, zSt_8a, zSt_8l, zSt_9n, zSt_9i, zSt_9a, zSt_9l, zSt_10n, zSt_10i, zSt_10a, zSt_10l, zSt_11n, zSt_11i, zSt_11a, zSt_11l, zSt_12n, zSt_12i, zSt_12a, zSt_12l, zSt_13n, zSt_13i, zSt_13a, zSt_13l, zSL_1n, zSL_1i, zSL_1a, zSL_1l, zSL_2n, zSL_2i, zSL_2a, zSL_2l, zSL_3n, zSL_3i, zSL_3a, zSL_3l, zSL_4n, zSL_4i, zSL_4a, zSL_4l, zSL_5n, zSL_5i, zSL_5a, zSL_5l, zSL_6n, zSL_6i, zSL_6a, zSL_6l, zSL_7n, zSL_7i, zSL_7a, zSL_7l, zSL_8n, zSL_8i, zSL_8a, zSL_8l, zSL_9n, zSL_9i, zSL_9a, zSL_9l, zSL_10n, zSL_10i, zSL_10a, zSL_10l, zSL_11n, zSL_11i, zSL_11a, zSL_11l, zSL_12n, zSL_12i, zSL_12a, zSL_12l, zLI_0, zLL_0, zLA_0, zLI_1, zLL_1, zLA_1, zLI_2, zLL_2, zLA_2, zLI_3, zLL_3, zLA_3, zLI_4, zLL_4, zLA_4, zLI_5, zLL_5, zLA_5, zLI_6, zLL_6, zLA_6, zLI_7, zLL_7, zLA_7, zLI_8, zLL_8, zLA_8, zLI_9, zLL_9, zLA_9, zLI_10, zLL_10, zLA_10, zLI_11, zLL_11, zLA_11, zLI_12, zLL_12, zLA_12, zLI_13, zLL_13, zLA_13, zst_0, zst_1n, zst_1i, zst_1a, zst_2n, zst_2i, zst_2a, zst_3n, zst_3i, zst_3a, zst_4n, zst_4i, zst_4a, zst_5n, zst_5i, zst_5a, zst_6n, zst_6i, zst_6a, zst_7n, zst_7i, zst_7a, zst_8n, zst_8i, zst_8a, zst_9n, zst_9i, zst_9a, zst_10n, zst_10i, zst_10a, zst_11n, zst_11i, zst_11a, zst_12n, zst_12i, zst_12a, zst_13n, zst_13i, zst_13a, zst_14n, zst_14i, zst_14a, zst_15n, zst_15i, zst_15a, zR1_n, zR1_v, zsum_n, zsum_i, zsum_l, zsum_a, zlen_n, zlen_i, zlen_l, zlen_a, List.not_mem_nil, List.mem_cons, or_false, false_or, or_self, ↓reduceIte, if_false, if_true, Nat.reduceEqDiff, Nat.reduceAdd, Nat.reduceLeDiff, true_and, and_true, reduceCtorEq, ne_eq, Int.toNat_natCast, not_true_eq_false, not_false_eq_true, true_implies, false_implies, implies_true, Int.reduceToNat, Int.toNat_zero, Int.reduceLT, Int.reduceLE, Int.reduceEq, Int.reduceAdd, Int.reduceMul, Int.reduceNeg]
theorem c182_g {x y r : Int} (hR : zLay M.2.2.2) (hb : zBk M.2.1) (hl : zLy M.2.1) (hw : ∀ i, i < 60 → M.2.1 (14 + 14 * i) 0 = 1 → zSw M.2.1 (14 + 14 * i)) (hx : 0 ≤ x ∧ x < 60) (hy : 0 ≤ y ∧ y < 60) (er : zupm M.2.1 (2 * x + 1) (2 * y + 1) = r) (hr : -1 ≤ r ∧ r < 60) : zFR (zK L) 182 0 (zcall 182 [.inr (.inr 2), .inl x, .inl y]) [] M Q = Q (.inl (some (.inl (if r = -1 then 0 else M.2.1 (14 + 14 * r.toNat) 2)))) M := by
  have hF := hR.1
  unfold zLayF at hF
  have e2 := fun Q => (c183 (L := L) (M := M) (Q := Q) (x := x) (y := y)).trans (zyes ⟨hx, hy⟩)
  have e3 : ∀ Q : zO → zM → Prop, zFR (zK L) 45 0 (zcall 45 [.inr (.inr 3), .inl (2 * x + 1), .inl (2 * y + 1)]) [] M Q = Q (.inl (some (.inl r))) M := fun Q => by
    rw [← er]
    exact c45 hR hb hl hw (by omega) (by omega)
  refine zFR_det ?_ Q
  by_cases c : r = -1
  · rw [if_pos c]
    subst c
    refine zW_sound 60 [38] ?_
    simp only [ZF182, ZR182, zk_2, zk_3, hF, ZF183.1, ZF183.2.1, ZF183.2.2.1, ZF45.1, ZF45.2.1, ZF45.2.2.1, e2, e3, zR1_p ZF182.2.2.1, zW_succ, zE_iload, zE_aload, zE_lload, zE_iinc, zE_istore, zE_astore, zE_lstore, zE_iconst, zE_ldc2, zE_iadd, zE_isub, zE_imul, zE_idiv, zE_irem, zE_ineg, zE_iand, zE_ior, zE_ixor, zE_ishl, zE_ishr, zE_land, zE_lor, zE_lxor, zE_lshl, zE_lshr, zE_i2l, zE_lcmp, zE_dup_i, zE_dup_a, zE_dup2_ia, zE_pop_i, zE_pop_a, zE_pop2, zE_goto, zE_if_eq, zE_icmp_eq, zE_if_ne, zE_icmp_ne, zE_if_lt, zE_icmp_lt, zE_if_ge, zE_icmp_ge, zE_if_gt, zE_icmp_gt, zE_if_le, zE_icmp_le, zE_iaload, zE_baload, zE_laload, zE_aaload, zE_iastore, zE_bastore, zE_lastore, zE_aastore, zE_alen, zE_getf0, zE_getf1, zE_getf2, zE_getf3, zE_putf0, zE_putf1, zE_putf2, zE_putf3, zE_new, zE_newa, zE_newq, zE_ireturn, zE_lreturn, zE_areturn, zE_return, zE_athrow, zE_st0, zE_vi0, zE_st1, zE_vi1, zE_st2, zE_vi2, zE_st3, zE_vi3, zE_st4, zE_vi4, zE_st5, zE_vi5, zE_st6, zE_vi6, zE_st7, zE_vi7, zE_st8, zE_vi8, zSt_0, zSL_0, zSt_1n, zSt_1i, zSt_1a, zSt_1l, zSt_2n, zSt_2i, zSt_2a, zSt_2l, zSt_3n, zSt_3i, zSt_3a, zSt_3l, zSt_4n, zSt_4i, zSt_4a, zSt_4l, zSt_5n, zSt_5i, zSt_5a, zSt_5l, zSt_6n, zSt_6i, zSt_6a, zSt_6l, zSt_7n, zSt_7i, zSt_7a, zSt_7l, zSt_8n, zSt_8i, zSt_8a, zSt_8l, zSt_9n, zSt_9i, zSt_9a, zSt_9l, zSt_10n, zSt_10i, zSt_10a, zSt_10l, zSt_11n, zSt_11i, zSt_11a, zSt_11l, zSt_12n, zSt_12i, zSt_12a, zSt_12l, zSt_13n, zSt_13i, zSt_13a, zSt_13l, zSL_1n, zSL_1i, zSL_1a, zSL_1l, zSL_2n, zSL_2i, zSL_2a, zSL_2l, zSL_3n, zSL_3i, zSL_3a, zSL_3l, zSL_4n, zSL_4i, zSL_4a, zSL_4l, zSL_5n, zSL_5i, zSL_5a, zSL_5l, zSL_6n, zSL_6i, zSL_6a, zSL_6l, zSL_7n, zSL_7i, zSL_7a, zSL_7l, zSL_8n, zSL_8i, zSL_8a, zSL_8l, zSL_9n, zSL_9i, zSL_9a, zSL_9l, zSL_10n, zSL_10i, zSL_10a, zSL_10l, zSL_11n, zSL_11i, zSL_11a, zSL_11l, zSL_12n, zSL_12i, zSL_12a, zSL_12l, zLI_0, zLL_0, zLA_0, zLI_1, zLL_1, zLA_1, zLI_2, zLL_2, zLA_2, zLI_3, zLL_3, zLA_3, zLI_4, zLL_4, zLA_4, zLI_5, zLL_5, zLA_5, zLI_6, zLL_6, zLA_6, zLI_7, zLL_7, zLA_7, zLI_8, zLL_8, zLA_8, zLI_9, zLL_9, zLA_9, zLI_10, zLL_10, zLA_10, zLI_11, zLL_11, zLA_11, zLI_12, zLL_12, zLA_12, zLI_13, zLL_13, zLA_13, zst_0, zst_1n, zst_1i, zst_1a, zst_2n, zst_2i, zst_2a, zst_3n, zst_3i, zst_3a, zst_4n, zst_4i, zst_4a, zst_5n, zst_5i, zst_5a, zst_6n, zst_6i, zst_6a, zst_7n, zst_7i, zst_7a, zst_8n, zst_8i, zst_8a, zst_9n, zst_9i, zst_9a, zst_10n, zst_10i, zst_10a, zst_11n, zst_11i, zst_11a, zst_12n, zst_12i, zst_12a, zst_13n, zst_13i, zst_13a, zst_14n, zst_14i, zst_14a, zst_15n, zst_15i, zst_15a, zR1_n, zR1_v, zsum_n, zsum_i, zsum_l, zsum_a, zlen_n, zlen_i, zlen_l, zlen_a, List.not_mem_nil, List.mem_cons, or_false, false_or, or_self, ↓reduceIte, if_false, if_true, Nat.reduceEqDiff, Nat.reduceAdd, Nat.reduceLeDiff, true_and, and_true, reduceCtorEq, ne_eq, Int.toNat_natCast, not_true_eq_false, not_false_eq_true, true_implies, false_implies, implies_true, Int.reduceToNat, Int.toNat_zero, Int.reduceLT, Int.reduceLE, Int.reduceEq, Int.reduceAdd, Int.reduceMul, Int.reduceNeg]
    (repeat' (first | with_reducible refine And.intro ?_ ?_ | with_reducible intro _)) <;> try first | with_reducible rfl | with_reducible assumption | omega | (unfold zr32; omega) | contradiction | (exact absurd (by omega) (by assumption)) | rfl | (simp only [Sum.inl.injEq, Option.some.injEq]; omega)
  · rw [if_neg c]
    obtain ⟨k, rfl⟩ : ∃ k : Nat, r = (k : Int) := ⟨r.toNat, by omega⟩
    obtain ⟨k1, k2⟩ := zK_sh (L := L) (zShA_i (show k < 60 by omega))
    refine zW_sound 60 [34] ?_
    simp only [ZF182, ZR182, zk_2, zk_3, zk_4, hF, k1, (hR.2.2.2 k (by omega)).1, Int.toNat_natCast, ZF183.1, ZF183.2.1, ZF183.2.2.1, ZF45.1, ZF45.2.1, ZF45.2.2.1, e2, e3, zR1_p ZF182.2.2.1, zW_succ, zE_iload, zE_aload, zE_lload, zE_iinc, zE_istore, zE_astore, zE_lstore, zE_iconst, zE_ldc2, zE_iadd, zE_isub, zE_imul, zE_idiv, zE_irem, zE_ineg, zE_iand, zE_ior, zE_ixor, zE_ishl, zE_ishr, zE_land, zE_lor, zE_lxor, zE_lshl, zE_lshr, zE_i2l, zE_lcmp, zE_dup_i, zE_dup_a, zE_dup2_ia, zE_pop_i, zE_pop_a, zE_pop2, zE_goto, zE_if_eq, zE_icmp_eq, zE_if_ne, zE_icmp_ne, zE_if_lt, zE_icmp_lt, zE_if_ge, zE_icmp_ge, zE_if_gt, zE_icmp_gt, zE_if_le, zE_icmp_le, zE_iaload, zE_baload, zE_laload, zE_aaload, zE_iastore, zE_bastore, zE_lastore, zE_aastore, zE_alen, zE_getf0, zE_getf1, zE_getf2, zE_getf3, zE_putf0, zE_putf1, zE_putf2, zE_putf3, zE_new, zE_newa, zE_newq, zE_ireturn, zE_lreturn, zE_areturn, zE_return, zE_athrow, zE_st0, zE_vi0, zE_st1, zE_vi1, zE_st2, zE_vi2, zE_st3, zE_vi3, zE_st4, zE_vi4, zE_st5, zE_vi5, zE_st6, zE_vi6, zE_st7, zE_vi7, zE_st8, zE_vi8, zSt_0, zSL_0, zSt_1n, zSt_1i, zSt_1a, zSt_1l, zSt_2n, zSt_2i, zSt_2a, zSt_2l, zSt_3n, zSt_3i, zSt_3a, zSt_3l, zSt_4n, zSt_4i, zSt_4a, zSt_4l, zSt_5n, zSt_5i, zSt_5a, zSt_5l, zSt_6n, zSt_6i, zSt_6a, zSt_6l, zSt_7n, zSt_7i, zSt_7a, zSt_7l, zSt_8n, zSt_8i, zSt_8a, zSt_8l, zSt_9n, zSt_9i, zSt_9a, zSt_9l, zSt_10n, zSt_10i, zSt_10a, zSt_10l, zSt_11n, zSt_11i, zSt_11a, zSt_11l, zSt_12n, zSt_12i, zSt_12a, zSt_12l, zSt_13n, zSt_13i, zSt_13a, zSt_13l, zSL_1n, zSL_1i, zSL_1a, zSL_1l, zSL_2n, zSL_2i, zSL_2a, zSL_2l, zSL_3n, zSL_3i, zSL_3a, zSL_3l, zSL_4n, zSL_4i, zSL_4a, zSL_4l, zSL_5n, zSL_5i, zSL_5a, zSL_5l, zSL_6n, zSL_6i, zSL_6a, zSL_6l, zSL_7n, zSL_7i, zSL_7a, zSL_7l, zSL_8n, zSL_8i, zSL_8a, zSL_8l, zSL_9n, zSL_9i, zSL_9a, zSL_9l, zSL_10n, zSL_10i, zSL_10a, zSL_10l, zSL_11n, zSL_11i, zSL_11a, zSL_11l, zSL_12n, zSL_12i, zSL_12a, zSL_12l, zLI_0, zLL_0, zLA_0, zLI_1, zLL_1, zLA_1, zLI_2, zLL_2, zLA_2, zLI_3, zLL_3, zLA_3, zLI_4, zLL_4, zLA_4, zLI_5, zLL_5, zLA_5, zLI_6, zLL_6, zLA_6, zLI_7, zLL_7, zLA_7, zLI_8, zLL_8, zLA_8, zLI_9, zLL_9, zLA_9, zLI_10, zLL_10, zLA_10, zLI_11, zLL_11, zLA_11, zLI_12, zLL_12, zLA_12, zLI_13, zLL_13, zLA_13, zst_0, zst_1n, zst_1i, zst_1a, zst_2n, zst_2i, zst_2a, zst_3n, zst_3i, zst_3a, zst_4n, zst_4i, zst_4a, zst_5n, zst_5i, zst_5a, zst_6n, zst_6i, zst_6a, zst_7n, zst_7i, zst_7a, zst_8n, zst_8i, zst_8a, zst_9n, zst_9i, zst_9a, zst_10n, zst_10i, zst_10a, zst_11n, zst_11i, zst_11a, zst_12n, zst_12i, zst_12a, zst_13n, zst_13i, zst_13a, zst_14n, zst_14i, zst_14a, zst_15n, zst_15i, zst_15a, zR1_n, zR1_v, zsum_n, zsum_i, zsum_l, zsum_a, zlen_n, zlen_i, zlen_l, zlen_a, List.not_mem_nil, List.mem_cons, or_false, false_or, or_self, ↓reduceIte, if_false, if_true, Nat.reduceEqDiff, Nat.reduceAdd, Nat.reduceLeDiff, true_and, and_true, reduceCtorEq, ne_eq, Int.toNat_natCast, not_true_eq_false, not_false_eq_true, true_implies, false_implies, implies_true, Int.reduceToNat, Int.toNat_zero, Int.reduceLT, Int.reduceLE, Int.reduceEq, Int.reduceAdd, Int.reduceMul, Int.reduceNeg]
    (repeat' (first | with_reducible refine And.intro ?_ ?_ | with_reducible intro _)) <;> try first | with_reducible rfl | with_reducible assumption | omega | (unfold zr32; omega) | contradiction | (exact absurd (by omega) (by assumption)) | rfl | (simp only [Sum.inl.injEq, Option.some.injEq]; omega)
theorem zqA_182 (hW : zqW m M) (c2 : cc 2 = 1) {x y : Int} : zqAg L M 182 [.inr (.inr 2), .inl x, .inl y] 326 [.inr (.inr 1153), .inl x, .inl y] cc := by
  have hR := hW.1.1
  have rel := hW.1.2.1
  by_cases h : (0 ≤ x ∧ x < 60) ∧ 0 ≤ y ∧ y < 60
  · have ub : -1 ≤ zupm M.2.1 (2 * x + 1) (2 * y + 1) ∧ zupm M.2.1 (2 * x + 1) (2 * y + 1) < 60 := by
      rcases zupm_b rel (x := 2 * x + 1) (y := 2 * y + 1) with e | ⟨k, k1, e, _⟩
      · omega
      · omega
    refine zqAg_ok (m' := m) (fun Q => c182_g hR (zqR_bk rel) (zqR_ly rel) (fun i hi t => ((zqR_mw rel).2.2 i hi t).1) h.1 h.2 rfl ub) rfl rfl rfl (fun B b1 b2 b3 => ⟨zwI B (zrg (zrtw B.2.1 0)), fun Q => ?_, rfl, rfl, zqW_t hW b3 b2 (fun b j q1 q2 q3 q4 => ?_), ?_⟩)
    · have rl := zqR_tw hW (B := B) (fun b j _ => by rw [b1]) (fun j => by rw [b2 1162 (by omega)]) b3 0
      rw [← zqca rl]
      exact c326_g (by rw [b3]; exact hR) (zqR_rbk rl) (zqOk rl) (by omega)
    · show zrg (zrtw B.2.1 0) b j = _
      rw [zrg_o ⟨by omega, by omega⟩]
      unfold zrtw
      rw [zu2_sj (by omega), b1]
    · show zrg (zrtw B.2.1 0) 1153 0 = 0
      rw [zrg_o ⟨by omega, by omega⟩]
      exact zu2_eq _ _ _ _
  · exact zqAg_no (e := 2) (d := 1) hW (by omega) (fun Q => c182_0 h) (.inl 0) (fun B b1 b2 Q => c326_1 (by omega)) c2
end ZCELLQ
/-! rows of the picture -/
section ZROWQ
variable {L m n : Nat} {M B : zM} {s : Nat} {Q : zO → zM → Prop} {f G F0 : Nat → Nat → Int} {o : Nat → Int} {cc : Nat → Int}
/-- what the class lays for a row: the visible shapes in their order -/
def zrwst (f : Nat → Nat → Int) (o : Nat → Int) (y : Nat) : Nat → Nat → Nat → Int
  | 0 => f
  | i + 1 => if zsee f (o i).toNat = true then zstl (zrwst f o y i) (14 + 14 * (o i).toNat) y 1 (f (14 + 14 * (o i).toNat) 2) else zrwst f o y i
theorem zrwst_s (f : Nat → Nat → Int) (o : Nat → Int) (y i : Nat) : zrwst f o y (i + 1) = if zsee f (o i).toNat = true then zstl (zrwst f o y i) (14 + 14 * (o i).toNat) y 1 (f (14 + 14 * (o i).toNat) 2) else zrwst f o y i := rfl
theorem zstl_o {y : Nat} {od mark : Int} {b j : Nat} (h : b ≠ 1118) : zstl f s y od mark b j = f b j := if_neg (fun h2 => h h2.1)
theorem zrwst_o {y b j : Nat} (h : b ≠ 1118) : ∀ i, zrwst f o y i b j = f b j
  | 0 => rfl
  | i + 1 => by
    rw [zrwst_s]
    split
    · rw [zstl_o h, zrwst_o h i]
    · exact zrwst_o h i
theorem zwl_r {mm : Nat → Int} (h : ∀ j, j < 3721 → 0 ≤ mm j ∧ mm j ≤ 9) {y : Nat} (hy : y < 60) : ∀ x, x ≤ 60 → 0 ≤ zwl mm y x ∧ zwl mm y x ≤ 540 * (x : Int)
  | 0, _ => by show (0 : Int) ≤ 0 ∧ (0 : Int) ≤ 540 * ((0 : Nat) : Int); omega
  | x + 1, hx => by
    have ih := zwl_r h hy x (by omega)
    have h1 := h (61 * y + x) (by omega)
    have h2 : 0 ≤ ((x : Int) + 1) * mm (61 * y + x) := Int.mul_nonneg (by omega) h1.1
    have h3 : ((x : Int) + 1) * mm (61 * y + x) ≤ 60 * 9 := Int.mul_le_mul (by omega) h1.2 h1.1 (by omega)
    show 0 ≤ zwl mm y x + ((x : Int) + 1) * mm (61 * y + x) ∧ zwl mm y x + ((x : Int) + 1) * mm (61 * y + x) ≤ 540 * ((x + 1 : Nat) : Int)
    omega
theorem c72r {y : Nat} (hR : zLay M.2.2.2) (hy : y < 60) (h : ∀ j, j < 3721 → 0 ≤ M.2.1 1118 j ∧ M.2.1 1118 j ≤ 9) : zFR (zK L) 72 0 (zcall 72 [.inr (.inr 1117), .inl (y : Int)]) [] M Q = Q (.inl (some (.inl (zwl (M.2.1 1118) y 60)))) M := by
  have hF := hR.1
  unfold zLayF at hF
  refine zFR_det ?_ Q
  generalize hQ : (fun r M2 => r = (Sum.inl (some (Sum.inl (zwl (M.2.1 1118) y 60))) : zO) ∧ M2 = M) = Q9
  have loop : ∀ x : Nat, x ≤ 60 → zFR (zK L) 72 4 [some (.inr (.inr 1117)), some (.inl (y : Int)), some (.inl (zwl (M.2.1 1118) y x)), some (.inl (x : Int))] [] M Q9 := by
    refine zloop ?_ ?_
    · refine zW_sound 60 [10] ?_
      simp only [ZR72, zW_succ, zE_iload, zE_aload, zE_lload, zE_iinc, zE_istore, zE_astore, zE_lstore, zE_iconst, zE_ldc2, zE_iadd, zE_isub, zE_imul, zE_idiv, zE_irem, zE_ineg, zE_iand, zE_ior, zE_ixor, zE_ishl, zE_ishr, zE_land, zE_lor, zE_lxor, zE_lshl, zE_lshr, zE_i2l, zE_lcmp, zE_dup_i, zE_dup_a, zE_dup2_ia, zE_pop_i, zE_pop_a, zE_pop2, zE_goto, zE_if_eq, zE_icmp_eq, zE_if_ne, zE_icmp_ne, zE_if_lt, zE_icmp_lt, zE_if_ge, zE_icmp_ge, zE_if_gt, zE_icmp_gt, zE_if_le, zE_icmp_le, zE_iaload, zE_baload, zE_laload, zE_aaload, zE_iastore, zE_bastore, zE_lastore, zE_aastore, zE_alen, zE_getf0, zE_getf1, zE_getf2, zE_getf3, zE_putf0, zE_putf1, zE_putf2, zE_putf3, zE_new, zE_newa, zE_newq, zE_ireturn, zE_lreturn, zE_areturn, zE_return, zE_athrow, zE_st0, zE_vi0, zE_st1, zE_vi1, zE_st2, zE_vi2, zE_st3, zE_vi3, zE_st4, zE_vi4, zE_st5, zE_vi5, zE_st6, zE_vi6, zE_st7, zE_vi7, zE_st8, zE_vi8, zSt_0, zSL_0, zSt_1n, zSt_1i, zSt_1a, zSt_1l, zSt_2n, zSt_2i, zSt_2a, zSt_2l, zSt_3n, zSt_3i, zSt_3a, zSt_3l, zSt_4n, zSt_4i, zSt_4a, zSt_4l, zSt_5n, zSt_5i, zSt_5a, zSt_5l, zSt_6n, zSt_6i, zSt_6a, zSt_6l, zSt_7n, zSt_7i, zSt_7a, zSt_7l, zSt_8n, zSt_8i, zSt_8a, zSt_8l, zSt_9n, zSt_9i, zSt_9a, zSt_9l, zSt_10n, zSt_10i, zSt_10a, zSt_10l, zSt_11n, zSt_11i, zSt_11a, zSt_11l, zSt_12n, zSt_12i, zSt_12a, zSt_12l, zSt_13n, zSt_13i, zSt_13a, zSt_13l, zSL_1n, zSL_1i, zSL_1a, zSL_1l, zSL_2n, zSL_2i, zSL_2a, zSL_2l, zSL_3n, zSL_3i, zSL_3a, zSL_3l, zSL_4n, zSL_4i, zSL_4a, zSL_4l, zSL_5n, zSL_5i, zSL_5a, zSL_5l, zSL_6n, zSL_6i, zSL_6a, zSL_6l, zSL_7n, zSL_7i, zSL_7a, zSL_7l, zSL_8n, zSL_8i, zSL_8a, zSL_8l, zSL_9n, zSL_9i, zSL_9a, zSL_9l, zSL_10n, zSL_10i, zSL_10a, zSL_10l, zSL_11n, zSL_11i, zSL_11a, zSL_11l, zSL_12n, zSL_12i, zSL_12a, zSL_12l, zLI_0, zLL_0, zLA_0, zLI_1, zLL_1, zLA_1, zLI_2, zLL_2, zLA_2, zLI_3, zLL_3, zLA_3, zLI_4, zLL_4, zLA_4, zLI_5, zLL_5, zLA_5, zLI_6, zLL_6, zLA_6, zLI_7, zLL_7, zLA_7, zLI_8, zLL_8, zLA_8, zLI_9, zLL_9, zLA_9, zLI_10, zLL_10, zLA_10, zLI_11, zLL_11, zLA_11, zLI_12, zLL_12, zLA_12, zLI_13, zLL_13, zLA_13, zst_0, zst_1n, zst_1i, zst_1a, zst_2n, zst_2i, zst_2a, zst_3n, zst_3i, zst_3a, zst_4n, zst_4i, zst_4a, zst_5n, zst_5i, zst_5a, zst_6n, zst_6i, zst_6a, zst_7n, zst_7i, zst_7a, zst_8n, zst_8i, zst_8a, zst_9n, zst_9i, zst_9a, zst_10n, zst_10i, zst_10a, zst_11n, zst_11i, zst_11a, zst_12n, zst_12i, zst_12a, zst_13n, zst_13i, zst_13a, zst_14n, zst_14i, zst_14a, zst_15n, zst_15i, zst_15a, zR1_n, zR1_v, zsum_n, zsum_i, zsum_l, zsum_a, zlen_n, zlen_i, zlen_l, zlen_a, List.not_mem_nil, List.mem_cons, or_false, false_or, or_self, ↓reduceIte, if_false, if_true, Nat.reduceEqDiff, Nat.reduceAdd, Nat.reduceLeDiff, true_and, and_true, reduceCtorEq, ne_eq, Int.toNat_natCast, not_true_eq_false, not_false_eq_true, true_implies, false_implies, implies_true, Int.reduceToNat, Int.toNat_zero, Int.reduceLT, Int.reduceLE, Int.reduceEq, Int.reduceAdd, Int.reduceMul, Int.reduceNeg]
      subst hQ
      exact ⟨fun _ => ⟨rfl, rfl⟩, fun h => absurd (by omega) h⟩
    · intro x hx ih
      have b1 := zwl_r h hy x (by omega)
      have b2 := zwl_r h hy (x + 1) (by omega)
      have h1 := h (61 * y + x) (by omega)
      have h3 : ((x : Int) + 1) * M.2.1 1118 (61 * y + x) ≤ 60 * 9 := Int.mul_le_mul (by omega) h1.2 h1.1 (by omega)
      have h2 : 0 ≤ ((x : Int) + 1) * M.2.1 1118 (61 * y + x) := Int.mul_nonneg (by omega) h1.1
      have eT : ((y : Int) * 61 + (x : Int)).toNat = 61 * y + x := by omega
      refine zW_sound 60 [4, 34] ?_
      simp only [ZR72, zk_1117, zk_1118, hF, eT, zW_succ, zE_iload, zE_aload, zE_lload, zE_iinc, zE_istore, zE_astore, zE_lstore, zE_iconst, zE_ldc2, zE_iadd, zE_isub, zE_imul, zE_idiv, zE_irem, zE_ineg, zE_iand, zE_ior, zE_ixor, zE_ishl, zE_ishr, zE_land, zE_lor, zE_lxor, zE_lshl, zE_lshr, zE_i2l, zE_lcmp, zE_dup_i, zE_dup_a, zE_dup2_ia, zE_pop_i, zE_pop_a, zE_pop2, zE_goto, zE_if_eq, zE_icmp_eq, zE_if_ne, zE_icmp_ne, zE_if_lt, zE_icmp_lt, zE_if_ge, zE_icmp_ge, zE_if_gt, zE_icmp_gt, zE_if_le, zE_icmp_le, zE_iaload, zE_baload, zE_laload, zE_aaload, zE_iastore, zE_bastore, zE_lastore, zE_aastore, zE_alen, zE_getf0, zE_getf1, zE_getf2, zE_getf3, zE_putf0, zE_putf1, zE_putf2, zE_putf3, zE_new, zE_newa, zE_newq, zE_ireturn, zE_lreturn, zE_areturn, zE_return, zE_athrow, zE_st0, zE_vi0, zE_st1, zE_vi1, zE_st2, zE_vi2, zE_st3, zE_vi3, zE_st4, zE_vi4, zE_st5, zE_vi5, zE_st6, zE_vi6, zE_st7, zE_vi7, zE_st8, zE_vi8, zSt_0, zSL_0, zSt_1n, zSt_1i, zSt_1a, zSt_1l, zSt_2n, zSt_2i, zSt_2a, zSt_2l, zSt_3n, zSt_3i, zSt_3a, zSt_3l, zSt_4n, zSt_4i, zSt_4a, zSt_4l, zSt_5n, zSt_5i, zSt_5a, zSt_5l, zSt_6n, zSt_6i, zSt_6a, zSt_6l, zSt_7n, zSt_7i, zSt_7a, zSt_7l, zSt_8n, zSt_8i, zSt_8a, zSt_8l, zSt_9n, zSt_9i, zSt_9a, zSt_9l, zSt_10n, zSt_10i, zSt_10a, zSt_10l, zSt_11n, zSt_11i, zSt_11a, zSt_11l, zSt_12n, zSt_12i, zSt_12a, zSt_12l, zSt_13n, zSt_13i, zSt_13a, zSt_13l, zSL_1n, zSL_1i, zSL_1a, zSL_1l, zSL_2n, zSL_2i, zSL_2a, zSL_2l, zSL_3n, zSL_3i, zSL_3a, zSL_3l, zSL_4n, zSL_4i, zSL_4a, zSL_4l, zSL_5n, zSL_5i, zSL_5a, zSL_5l, zSL_6n, zSL_6i, zSL_6a, zSL_6l, zSL_7n, zSL_7i, zSL_7a, zSL_7l, zSL_8n, zSL_8i, zSL_8a, zSL_8l, zSL_9n, zSL_9i, zSL_9a, zSL_9l, zSL_10n, zSL_10i, zSL_10a, zSL_10l, zSL_11n, zSL_11i, zSL_11a, zSL_11l, zSL_12n, zSL_12i, zSL_12a, zSL_12l, zLI_0, zLL_0, zLA_0, zLI_1, zLL_1, zLA_1, zLI_2, zLL_2, zLA_2, zLI_3, zLL_3, zLA_3, zLI_4, zLL_4, zLA_4, zLI_5, zLL_5, zLA_5, zLI_6, zLL_6, zLA_6, zLI_7, zLL_7, zLA_7, zLI_8, zLL_8, zLA_8, zLI_9, zLL_9, zLA_9, zLI_10, zLL_10, zLA_10, zLI_11, zLL_11, zLA_11, zLI_12, zLL_12, zLA_12, zLI_13, zLL_13, zLA_13, zst_0, zst_1n, zst_1i, zst_1a, zst_2n, zst_2i, zst_2a, zst_3n, zst_3i, zst_3a, zst_4n, zst_4i, zst_4a, zst_5n, zst_5i, zst_5a, zst_6n, zst_6i, zst_6a, zst_7n, zst_7i, zst_7a, zst_8n, zst_8i, zst_8a, zst_9n, zst_9i, zst_9a, zst_10n, zst_10i, zst_10a, zst_11n, zst_11i, zst_11a, zst_12n, zst_12i, zst_12a, zst_13n, zst_13i, zst_13a, zst_14n, zst_14i, zst_14a, zst_15n, zst_15i, zst_15a, zR1_n, zR1_v, zsum_n, zsum_i, zsum_l, zsum_a, zlen_n, zlen_i, zlen_l, zlen_a, List.not_mem_nil, List.mem_cons, or_false, false_or, or_self, ↓reduceIte, if_false, if_true, Nat.reduceEqDiff, Nat.reduceAdd, Nat.reduceLeDiff, true_and, and_true, reduceCtorEq, ne_eq, Int.toNat_natCast, not_true_eq_false, not_false_eq_true, true_implies, false_implies, implies_true, Int.reduceToNat, Int.toNat_zero, Int.reduceLT, Int.reduceLE, Int.reduceEq, Int.reduceAdd, Int.reduceMul, Int.reduceNeg]
      refine ⟨fun h => absurd h (by omega), fun _ => ?_⟩
      repeat (first | refine ⟨by omega, ?_⟩ | refine ⟨by unfold zr32; omega, ?_⟩)
      exact ih
  refine zW_sound 60 [4] ?_
  simp only [ZF72, ZR72, zW_succ, zE_iload, zE_aload, zE_lload, zE_iinc, zE_istore, zE_astore, zE_lstore, zE_iconst, zE_ldc2, zE_iadd, zE_isub, zE_imul, zE_idiv, zE_irem, zE_ineg, zE_iand, zE_ior, zE_ixor, zE_ishl, zE_ishr, zE_land, zE_lor, zE_lxor, zE_lshl, zE_lshr, zE_i2l, zE_lcmp, zE_dup_i, zE_dup_a, zE_dup2_ia, zE_pop_i, zE_pop_a, zE_pop2, zE_goto, zE_if_eq, zE_icmp_eq, zE_if_ne, zE_icmp_ne, zE_if_lt, zE_icmp_lt, zE_if_ge, zE_icmp_ge, zE_if_gt, zE_icmp_gt, zE_if_le, zE_icmp_le, zE_iaload, zE_baload, zE_laload, zE_aaload, zE_iastore, zE_bastore, zE_lastore, zE_aastore, zE_alen, zE_getf0, zE_getf1, zE_getf2, zE_getf3, zE_putf0, zE_putf1, zE_putf2, zE_putf3, zE_new, zE_newa, zE_newq, zE_ireturn, zE_lreturn, zE_areturn, zE_return, zE_athrow, zE_st0, zE_vi0, zE_st1, zE_vi1, zE_st2, zE_vi2, zE_st3, zE_vi3, zE_st4, zE_vi4, zE_st5, zE_vi5, zE_st6, zE_vi6, zE_st7, zE_vi7, zE_st8, zE_vi8, zSt_0, zSL_0, zSt_1n, zSt_1i, zSt_1a, zSt_1l, zSt_2n, zSt_2i, zSt_2a, zSt_2l, zSt_3n, zSt_3i, zSt_3a, zSt_3l, zSt_4n, zSt_4i, zSt_4a, zSt_4l, zSt_5n, zSt_5i, zSt_5a, zSt_5l, zSt_6n, zSt_6i, zSt_6a, zSt_6l, zSt_7n, zSt_7i, zSt_7a, zSt_7l, zSt_8n, zSt_8i, zSt_8a, zSt_8l, zSt_9n, zSt_9i, zSt_9a, zSt_9l, zSt_10n, zSt_10i, zSt_10a, zSt_10l, zSt_11n, zSt_11i, zSt_11a, zSt_11l, zSt_12n, zSt_12i, zSt_12a, zSt_12l, zSt_13n, zSt_13i, zSt_13a, zSt_13l, zSL_1n, zSL_1i, zSL_1a, zSL_1l, zSL_2n, zSL_2i, zSL_2a, zSL_2l, zSL_3n, zSL_3i, zSL_3a, zSL_3l, zSL_4n, zSL_4i, zSL_4a, zSL_4l, zSL_5n, zSL_5i, zSL_5a, zSL_5l, zSL_6n, zSL_6i, zSL_6a, zSL_6l, zSL_7n, zSL_7i, zSL_7a, zSL_7l, zSL_8n, zSL_8i, zSL_8a, zSL_8l, zSL_9n, zSL_9i, zSL_9a, zSL_9l, zSL_10n, zSL_10i, zSL_10a, zSL_10l, zSL_11n, zSL_11i, zSL_11a, zSL_11l, zSL_12n, zSL_12i, zSL_12a, zSL_12l, zLI_0, zLL_0, zLA_0, zLI_1, zLL_1, zLA_1, zLI_2, zLL_2, zLA_2, zLI_3, zLL_3, zLA_3, zLI_4, zLL_4, zLA_4, zLI_5, zLL_5, zLA_5, zLI_6, zLL_6, zLA_6, zLI_7, zLL_7, zLA_7, zLI_8, zLL_8, zLA_8, zLI_9, zLL_9, zLA_9, zLI_10, zLL_10, zLA_10, zLI_11, zLL_11, zLA_11, zLI_12, zLL_12, zLA_12, zLI_13, zLL_13, zLA_13, zst_0, zst_1n, zst_1i, zst_1a, zst_2n, zst_2i, zst_2a, zst_3n, zst_3i, zst_3a, zst_4n, zst_4i, zst_4a, zst_5n, zst_5i, zst_5a, zst_6n, zst_6i, zst_6a, zst_7n, zst_7i, zst_7a, zst_8n, zst_8i, zst_8a, zst_9n, zst_9i, zst_9a, zst_10n, zst_10i, zst_10a, zst_11n, zst_11i, zst_11a, zst_12n, zst_12i, zst_12a, zst_13n, zst_13i, zst_13a, zst_14n, zst_14i, zst_14a, zst_15n, zst_15i, zst_15a, zR1_n, zR1_v, zsum_n, zsum_i, zsum_l, zsum_a, zlen_n, zlen_i, zlen_l, zlen_a, List.not_mem_nil, List.mem_cons, or_false, false_or, or_self, ↓reduceIte, if_false, if_true, Nat.reduceEqDiff, Nat.reduceAdd, Nat.reduceLeDiff, true_and, and_true, reduceCtorEq, ne_eq, Int.toNat_natCast, not_true_eq_false, not_false_eq_true, true_implies, false_implies, implies_true, Int.reduceToNat, Int.toNat_zero, Int.reduceLT, Int.reduceLE, Int.reduceEq, Int.reduceAdd, Int.reduceMul, Int.reduceNeg]
  exact loop 0 (Nat.zero_le _)
theorem c184_0 {y : Int} (hn : ¬ (0 ≤ y ∧ y < 60)) : zFR (zK L) 184 0 (zcall 184 [.inr (.inr 2), .inl y]) [] M Q = Q (.inr 2) (zthrown M) := by
  have e2 := fun Q => (c183 (L := L) (M := M) (Q := Q) (x := 0) (y := y)).trans (znot (fun h => hn h.2))
  refine zFR_det (zW_sound 60 [] ?_) Q
  simp only [ZF184, ZR184, zk_2, ZF183.1, ZF183.2.1, ZF183.2.2.1, e2, zR1_p ZF184.2.2.1, zW_succ, zE_iload, zE_aload, zE_lload, zE_iinc, zE_istore, zE_astore, zE_lstore, zE_iconst, zE_ldc2, zE_iadd, zE_isub, zE_imul, zE_idiv, zE_irem, zE_ineg, zE_iand, zE_ior, zE_ixor, zE_ishl, zE_ishr, zE_land, zE_lor, zE_lxor, zE_lshl, zE_lshr, zE_i2l, zE_lcmp, zE_dup_i, zE_dup_a, zE_dup2_ia, zE_pop_i, zE_pop_a, zE_pop2, zE_goto, zE_if_eq, zE_icmp_eq, zE_if_ne, zE_icmp_ne, zE_if_lt, zE_icmp_lt, zE_if_ge, zE_icmp_ge, zE_if_gt, zE_icmp_gt, zE_if_le, zE_icmp_le, zE_iaload, zE_baload, zE_laload, zE_aaload, zE_iastore, zE_bastore, zE_lastore, zE_aastore, zE_alen, zE_getf0, zE_getf1, zE_getf2, zE_getf3, zE_putf0, zE_putf1, zE_putf2, zE_putf3, zE_new, zE_newa, zE_newq, zE_ireturn, zE_lreturn, zE_areturn, zE_return, zE_athrow, zE_st0, zE_vi0, zE_st1, zE_vi1, zE_st2, zE_vi2, zE_st3, zE_vi3, zE_st4, zE_vi4, zE_st5, zE_vi5, zE_st6, zE_vi6, zE_st7, zE_vi7, zE_st8, zE_vi8, zSt_0, zSL_0, zSt_1n, zSt_1i, zSt_1a, zSt_1l, zSt_2n, zSt_2i, zSt_2a, zSt_2l, zSt_3n, zSt_3i, zSt_3a, zSt_3l, zSt_4n, zSt_4i, zSt_4a, zSt_4l, zSt_5n, zSt_5i, zSt_5a, zSt_5l, zSt_6n, zSt_6i, zSt_6a, zSt_6l, zSt_7n, zSt_7i, zSt_7a, zSt_7l, zSt_8n, zSt_8i, zSt_8a, zSt_8l, zSt_9n, zSt_9i, zSt_9a, zSt_9l, zSt_10n, zSt_10i, zSt_10a, zSt_10l, zSt_11n, zSt_11i, zSt_11a, zSt_11l, zSt_12n, zSt_12i, zSt_12a, zSt_12l, zSt_13n, zSt_13i, zSt_13a, zSt_13l, zSL_1n, zSL_1i, zSL_1a, zSL_1l, zSL_2n, zSL_2i, zSL_2a, zSL_2l, zSL_3n, zSL_3i, zSL_3a, zSL_3l, zSL_4n, zSL_4i, zSL_4a, zSL_4l, zSL_5n, zSL_5i, zSL_5a, zSL_5l, zSL_6n, zSL_6i, zSL_6a, zSL_6l, zSL_7n, zSL_7i, zSL_7a, zSL_7l, zSL_8n, zSL_8i, zSL_8a, zSL_8l, zSL_9n, zSL_9i, zSL_9a, zSL_9l, zSL_10n, zSL_10i, zSL_10a, zSL_10l, zSL_11n, zSL_11i, zSL_11a, zSL_11l, zSL_12n, zSL_12i, zSL_12a, zSL_12l, zLI_0, zLL_0, zLA_0, zLI_1, zLL_1, zLA_1, zLI_2, zLL_2, zLA_2, zLI_3, zLL_3, zLA_3, zLI_4, zLL_4, zLA_4, zLI_5, zLL_5, zLA_5, zLI_6, zLL_6, zLA_6, zLI_7, zLL_7, zLA_7, zLI_8, zLL_8, zLA_8, zLI_9, zLL_9, zLA_9, zLI_10, zLL_10, zLA_10, zLI_11, zLL_11, zLA_11, zLI_12, zLL_12, zLA_12, zLI_13, zLL_13, zLA_13, zst_0, zst_1n, zst_1i, zst_1a, zst_2n, zst_2i, zst_2a, zst_3n, zst_3i, zst_3a, zst_4n, zst_4i, zst_4a, zst_5n, zst_5i, zst_5a, zst_6n, zst_6i, zst_6a, zst_7n, zst_7i, zst_7a, zst_8n, zst_8i, zst_8a, zst_9n, zst_9i, zst_9a, zst_10n, zst_10i, zst_10a, zst_11n, zst_11i, zst_11a, zst_12n, zst_12i, zst_12a, zst_13n, zst_13i, zst_13a, zst_14n, zst_14i, zst_14a, zst_15n, zst_15i, zst_15a, zR1_n, zR1_v, zsum_n, zsum_i, zsum_l, zsum_a, zlen_n, zlen_i, zlen_l, zlen_a, List.not_mem_nil, List.mem_cons, or_false, false_or, or_self, ↓reduceIte, if_false, if_true, Nat.reduceEqDiff, Nat.reduceAdd, Nat.reduceLeDiff, true_and, and_true, reduceCtorEq, ne_eq, Int.toNat_natCast, not_true_eq_false, not_false_eq_true, true_implies, false_implies, implies_true, Int.reduceToNat, Int.toNat_zero, Int.reduceLT, Int.reduceLE, Int.reduceEq, Int.reduceAdd, Int.reduceMul, Int.reduceNeg]
theorem c184_l {y c : Nat} (hR : zLay M.2.2.2) (hy : y < 60) (hc6 : c ≤ 60) (hF0 : F0 5 = o) (ho : ∀ i, i < c → ∃ v : Nat, v < 60 ∧ o i = (v : Int) ∧ F0 (14 + 14 * v) 0 = 1) (h01 : ∀ k : Nat, k < 60 → F0 (14 + 14 * k) 0 = 0 ∨ F0 (14 + 14 * k) 0 = 1) (hl : zLy F0) (hpk : ∀ i, i < 60 → F0 (14 + 14 * i) 0 = 1 → zPk F0 (14 + 14 * i)) (hfl : ∀ j, F0 1123 j = 0) (hb : ∀ j, j < 3721 → 0 ≤ zrwst F0 o y c 1118 j ∧ zrwst F0 o y c 1118 j ≤ 9) : zFR (zK L) 184 23 [some (.inr (.inr 2)), some (.inl (y : Int)), some (.inl (c : Int)), some (.inl 0), none] [] (zwI M F0) Q = Q (.inl (some (.inl (zwl (zrwst F0 o y c 1118) y 60)))) (zwI M (zrwst F0 o y c)) := by
  have hF := hR.1
  unfold zLayF at hF
  refine zFR_det ?_ Q
  generalize hQ : (fun (rr : zO) M2 => rr = .inl (some (.inl (zwl (zrwst F0 o y c 1118) y 60))) ∧ M2 = zwI M (zrwst F0 o y c)) = Q9
  have loop : ∀ i : Nat, i ≤ c → ∀ y4 : Option zV, zFR (zK L) 184 23 [some (.inr (.inr 2)), some (.inl (y : Int)), some (.inl (c : Int)), some (.inl (i : Int)), y4] [] (zwI M (zrwst F0 o y i)) Q9 := by
    refine zloop ?_ ?_
    · intro y4
      have e72 := fun Q => c72r (L := L) (M := zwI M (zrwst F0 o y c)) (Q := Q) (y := y) hR hy hb
      refine zW_sound 60 [28] ?_
      simp only [ZR184, zk_2, hF, zwI_2, ZF72.1, ZF72.2.1, ZF72.2.2.1, e72, zW_succ, zE_iload, zE_aload, zE_lload, zE_iinc, zE_istore, zE_astore, zE_lstore, zE_iconst, zE_ldc2, zE_iadd, zE_isub, zE_imul, zE_idiv, zE_irem, zE_ineg, zE_iand, zE_ior, zE_ixor, zE_ishl, zE_ishr, zE_land, zE_lor, zE_lxor, zE_lshl, zE_lshr, zE_i2l, zE_lcmp, zE_dup_i, zE_dup_a, zE_dup2_ia, zE_pop_i, zE_pop_a, zE_pop2, zE_goto, zE_if_eq, zE_icmp_eq, zE_if_ne, zE_icmp_ne, zE_if_lt, zE_icmp_lt, zE_if_ge, zE_icmp_ge, zE_if_gt, zE_icmp_gt, zE_if_le, zE_icmp_le, zE_iaload, zE_baload, zE_laload, zE_aaload, zE_iastore, zE_bastore, zE_lastore, zE_aastore, zE_alen, zE_getf0, zE_getf1, zE_getf2, zE_getf3, zE_putf0, zE_putf1, zE_putf2, zE_putf3, zE_new, zE_newa, zE_newq, zE_ireturn, zE_lreturn, zE_areturn, zE_return, zE_athrow, zE_st0, zE_vi0, zE_st1, zE_vi1, zE_st2, zE_vi2, zE_st3, zE_vi3, zE_st4, zE_vi4, zE_st5, zE_vi5, zE_st6, zE_vi6, zE_st7, zE_vi7, zE_st8, zE_vi8, zSt_0, zSL_0, zSt_1n, zSt_1i, zSt_1a, zSt_1l, zSt_2n, zSt_2i, zSt_2a, zSt_2l, zSt_3n, zSt_3i, zSt_3a, zSt_3l, zSt_4n, zSt_4i, zSt_4a, zSt_4l, zSt_5n, zSt_5i, zSt_5a, zSt_5l, zSt_6n, zSt_6i, zSt_6a, zSt_6l, zSt_7n, zSt_7i, zSt_7a, zSt_7l, zSt_8n, zSt_8i, zSt_8a, zSt_8l, zSt_9n, zSt_9i, zSt_9a, zSt_9l, zSt_10n, zSt_10i, zSt_10a, zSt_10l, zSt_11n, zSt_11i, zSt_11a, zSt_11l, zSt_12n, zSt_12i, zSt_12a, zSt_12l, zSt_13n, zSt_13i, zSt_13a, zSt_13l, zSL_1n, zSL_1i, zSL_1a, zSL_1l, zSL_2n, zSL_2i, zSL_2a, zSL_2l, zSL_3n, zSL_3i, zSL_3a, zSL_3l, zSL_4n, zSL_4i, zSL_4a, zSL_4l, zSL_5n, zSL_5i, zSL_5a, zSL_5l, zSL_6n, zSL_6i, zSL_6a, zSL_6l, zSL_7n, zSL_7i, zSL_7a, zSL_7l, zSL_8n, zSL_8i, zSL_8a, zSL_8l, zSL_9n, zSL_9i, zSL_9a, zSL_9l, zSL_10n, zSL_10i, zSL_10a, zSL_10l, zSL_11n, zSL_11i, zSL_11a, zSL_11l, zSL_12n, zSL_12i, zSL_12a, zSL_12l, zLI_0, zLL_0, zLA_0, zLI_1, zLL_1, zLA_1, zLI_2, zLL_2, zLA_2, zLI_3, zLL_3, zLA_3, zLI_4, zLL_4, zLA_4, zLI_5, zLL_5, zLA_5, zLI_6, zLL_6, zLA_6, zLI_7, zLL_7, zLA_7, zLI_8, zLL_8, zLA_8, zLI_9, zLL_9, zLA_9, zLI_10, zLL_10, zLA_10, zLI_11, zLL_11, zLA_11, zLI_12, zLL_12, zLA_12, zLI_13, zLL_13, zLA_13, zst_0, zst_1n, zst_1i, zst_1a, zst_2n, zst_2i, zst_2a, zst_3n, zst_3i, zst_3a, zst_4n, zst_4i, zst_4a, zst_5n, zst_5i, zst_5a, zst_6n, zst_6i, zst_6a, zst_7n, zst_7i, zst_7a, zst_8n, zst_8i, zst_8a, zst_9n, zst_9i, zst_9a, zst_10n, zst_10i, zst_10a, zst_11n, zst_11i, zst_11a, zst_12n, zst_12i, zst_12a, zst_13n, zst_13i, zst_13a, zst_14n, zst_14i, zst_14a, zst_15n, zst_15i, zst_15a, zR1_n, zR1_v, zsum_n, zsum_i, zsum_l, zsum_a, zlen_n, zlen_i, zlen_l, zlen_a, List.not_mem_nil, List.mem_cons, or_false, false_or, or_self, ↓reduceIte, if_false, if_true, Nat.reduceEqDiff, Nat.reduceAdd, Nat.reduceLeDiff, true_and, and_true, reduceCtorEq, ne_eq, Int.toNat_natCast, not_true_eq_false, not_false_eq_true, true_implies, false_implies, implies_true, Int.reduceToNat, Int.toNat_zero, Int.reduceLT, Int.reduceLE, Int.reduceEq, Int.reduceAdd, Int.reduceMul, Int.reduceNeg]
      subst hQ
      (repeat' (first | with_reducible refine And.intro ?_ ?_ | with_reducible intro _)) <;> try first | with_reducible rfl | with_reducible assumption | omega | (unfold zr32; omega) | contradiction | (exact absurd (by omega) (by assumption)) | rfl | (simp only [Sum.inl.injEq, Option.some.injEq]; omega)
    · intro i hi ih y4
      obtain ⟨v, v1, v2, v3⟩ := ho i hi
      have g1 : ∀ b j, b ≠ 1118 → zrwst F0 o y i b j = F0 b j := fun b j hb => zrwst_o hb i
      have eo : zrwst F0 o y i 5 i = (v : Int) := by
        rw [g1 5 i (by omega), hF0, v2]
      have e46 := fun Q => c46 (L := L) (M := zwI M (zrwst F0 o y i)) (Q := Q) (s := v) hR v1 (fun k hk => by rw [zwI_I, g1 _ _ (by omega)]; exact h01 k hk) (fun t => by
        rw [zwI_I, g1 _ _ (by omega)] at t ⊢
        exact hl.1 v v1 t) (fun j hj => by rw [zwI_I, g1 _ _ (by omega)]; exact hl.2 j hj)
      rw [zwI_I, g1 (14 + 14 * v) 0 (by omega), g1 (14 + 14 * v) 1 (by omega), g1 6 _ (by omega)] at e46
      have nx : zFR (zK L) 184 82 [some (.inr (.inr 2)), some (.inl (y : Int)), some (.inl (c : Int)), some (.inl (i : Int)), y4] [] (zwI M (zrwst F0 o y (i + 1))) Q9 ∧ ∀ w : zV, zFR (zK L) 184 82 [some (.inr (.inr 2)), some (.inl (y : Int)), some (.inl (c : Int)), some (.inl (i : Int)), some w] [] (zwI M (zrwst F0 o y (i + 1))) Q9 := by
        have a := ih y4
        have b := fun w : zV => ih (some w)
        rw [Int.natCast_succ] at a b
        refine ⟨?_, fun w => ?_⟩
        · refine zW_sound 60 [23] ?_
          simp only [ZR184, zW_succ, zE_iload, zE_aload, zE_lload, zE_iinc, zE_istore, zE_astore, zE_lstore, zE_iconst, zE_ldc2, zE_iadd, zE_isub, zE_imul, zE_idiv, zE_irem, zE_ineg, zE_iand, zE_ior, zE_ixor, zE_ishl, zE_ishr, zE_land, zE_lor, zE_lxor, zE_lshl, zE_lshr, zE_i2l, zE_lcmp, zE_dup_i, zE_dup_a, zE_dup2_ia, zE_pop_i, zE_pop_a, zE_pop2, zE_goto, zE_if_eq, zE_icmp_eq, zE_if_ne, zE_icmp_ne, zE_if_lt, zE_icmp_lt, zE_if_ge, zE_icmp_ge, zE_if_gt, zE_icmp_gt, zE_if_le, zE_icmp_le, zE_iaload, zE_baload, zE_laload, zE_aaload, zE_iastore, zE_bastore, zE_lastore, zE_aastore, zE_alen, zE_getf0, zE_getf1, zE_getf2, zE_getf3, zE_putf0, zE_putf1, zE_putf2, zE_putf3, zE_new, zE_newa, zE_newq, zE_ireturn, zE_lreturn, zE_areturn, zE_return, zE_athrow, zE_st0, zE_vi0, zE_st1, zE_vi1, zE_st2, zE_vi2, zE_st3, zE_vi3, zE_st4, zE_vi4, zE_st5, zE_vi5, zE_st6, zE_vi6, zE_st7, zE_vi7, zE_st8, zE_vi8, zSt_0, zSL_0, zSt_1n, zSt_1i, zSt_1a, zSt_1l, zSt_2n, zSt_2i, zSt_2a, zSt_2l, zSt_3n, zSt_3i, zSt_3a, zSt_3l, zSt_4n, zSt_4i, zSt_4a, zSt_4l, zSt_5n, zSt_5i, zSt_5a, zSt_5l, zSt_6n, zSt_6i, zSt_6a, zSt_6l, zSt_7n, zSt_7i, zSt_7a, zSt_7l, zSt_8n, zSt_8i, zSt_8a, zSt_8l, zSt_9n, zSt_9i, zSt_9a, zSt_9l, zSt_10n, zSt_10i, zSt_10a, zSt_10l, zSt_11n, zSt_11i, zSt_11a, zSt_11l, zSt_12n, zSt_12i, zSt_12a, zSt_12l, zSt_13n, zSt_13i, zSt_13a, zSt_13l, zSL_1n, zSL_1i, zSL_1a, zSL_1l, zSL_2n, zSL_2i, zSL_2a, zSL_2l, zSL_3n, zSL_3i, zSL_3a, zSL_3l, zSL_4n, zSL_4i, zSL_4a, zSL_4l, zSL_5n, zSL_5i, zSL_5a, zSL_5l, zSL_6n, zSL_6i, zSL_6a, zSL_6l, zSL_7n, zSL_7i, zSL_7a, zSL_7l, zSL_8n, zSL_8i, zSL_8a, zSL_8l, zSL_9n, zSL_9i, zSL_9a, zSL_9l, zSL_10n, zSL_10i, zSL_10a, zSL_10l, zSL_11n, zSL_11i, zSL_11a, zSL_11l, zSL_12n, zSL_12i, zSL_12a, zSL_12l, zLI_0, zLL_0, zLA_0, zLI_1, zLL_1, zLA_1, zLI_2, zLL_2, zLA_2, zLI_3, zLL_3, zLA_3, zLI_4, zLL_4, zLA_4, zLI_5, zLL_5, zLA_5, zLI_6, zLL_6, zLA_6, zLI_7, zLL_7, zLA_7, zLI_8, zLL_8, zLA_8, zLI_9, zLL_9, zLA_9, zLI_10, zLL_10, zLA_10, zLI_11, zLL_11, zLA_11, zLI_12, zLL_12, zLA_12, zLI_13, zLL_13, zLA_13, zst_0, zst_1n, zst_1i, zst_1a, zst_2n, zst_2i, zst_2a, zst_3n, zst_3i, zst_3a, zst_4n, zst_4i, zst_4a, zst_5n, zst_5i, zst_5a, zst_6n, zst_6i, zst_6a, zst_7n, zst_7i, zst_7a, zst_8n, zst_8i, zst_8a, zst_9n, zst_9i, zst_9a, zst_10n, zst_10i, zst_10a, zst_11n, zst_11i, zst_11a, zst_12n, zst_12i, zst_12a, zst_13n, zst_13i, zst_13a, zst_14n, zst_14i, zst_14a, zst_15n, zst_15i, zst_15a, zR1_n, zR1_v, zsum_n, zsum_i, zsum_l, zsum_a, zlen_n, zlen_i, zlen_l, zlen_a, List.not_mem_nil, List.mem_cons, or_false, false_or, or_self, ↓reduceIte, if_false, if_true, Nat.reduceEqDiff, Nat.reduceAdd, Nat.reduceLeDiff, true_and, and_true, reduceCtorEq, ne_eq, Int.toNat_natCast, not_true_eq_false, not_false_eq_true, true_implies, false_implies, implies_true, Int.reduceToNat, Int.toNat_zero, Int.reduceLT, Int.reduceLE, Int.reduceEq, Int.reduceAdd, Int.reduceMul, Int.reduceNeg]
          (repeat' (first | with_reducible refine And.intro ?_ ?_ | with_reducible intro _)) <;> try first | with_reducible rfl | with_reducible assumption | omega | (unfold zr32; omega) | contradiction | (exact absurd (by omega) (by assumption)) | rfl | (simp only [Sum.inl.injEq, Option.some.injEq]; omega)
        · have bw := b w
          refine zW_sound 60 [23] ?_
          simp only [ZR184, zW_succ, zE_iload, zE_aload, zE_lload, zE_iinc, zE_istore, zE_astore, zE_lstore, zE_iconst, zE_ldc2, zE_iadd, zE_isub, zE_imul, zE_idiv, zE_irem, zE_ineg, zE_iand, zE_ior, zE_ixor, zE_ishl, zE_ishr, zE_land, zE_lor, zE_lxor, zE_lshl, zE_lshr, zE_i2l, zE_lcmp, zE_dup_i, zE_dup_a, zE_dup2_ia, zE_pop_i, zE_pop_a, zE_pop2, zE_goto, zE_if_eq, zE_icmp_eq, zE_if_ne, zE_icmp_ne, zE_if_lt, zE_icmp_lt, zE_if_ge, zE_icmp_ge, zE_if_gt, zE_icmp_gt, zE_if_le, zE_icmp_le, zE_iaload, zE_baload, zE_laload, zE_aaload, zE_iastore, zE_bastore, zE_lastore, zE_aastore, zE_alen, zE_getf0, zE_getf1, zE_getf2, zE_getf3, zE_putf0, zE_putf1, zE_putf2, zE_putf3, zE_new, zE_newa, zE_newq, zE_ireturn, zE_lreturn, zE_areturn, zE_return, zE_athrow, zE_st0, zE_vi0, zE_st1, zE_vi1, zE_st2, zE_vi2, zE_st3, zE_vi3, zE_st4, zE_vi4, zE_st5, zE_vi5, zE_st6, zE_vi6, zE_st7, zE_vi7, zE_st8, zE_vi8, zSt_0, zSL_0, zSt_1n, zSt_1i, zSt_1a, zSt_1l, zSt_2n, zSt_2i, zSt_2a, zSt_2l, zSt_3n, zSt_3i, zSt_3a, zSt_3l, zSt_4n, zSt_4i, zSt_4a, zSt_4l, zSt_5n, zSt_5i, zSt_5a, zSt_5l, zSt_6n, zSt_6i, zSt_6a, zSt_6l, zSt_7n, zSt_7i, zSt_7a, zSt_7l, zSt_8n, zSt_8i, zSt_8a, zSt_8l, zSt_9n, zSt_9i, zSt_9a, zSt_9l, zSt_10n, zSt_10i, zSt_10a, zSt_10l, zSt_11n, zSt_11i, zSt_11a, zSt_11l, zSt_12n, zSt_12i, zSt_12a, zSt_12l, zSt_13n, zSt_13i, zSt_13a, zSt_13l, zSL_1n, zSL_1i, zSL_1a, zSL_1l, zSL_2n, zSL_2i, zSL_2a, zSL_2l, zSL_3n, zSL_3i, zSL_3a, zSL_3l, zSL_4n, zSL_4i, zSL_4a, zSL_4l, zSL_5n, zSL_5i, zSL_5a, zSL_5l, zSL_6n, zSL_6i, zSL_6a, zSL_6l, zSL_7n, zSL_7i, zSL_7a, zSL_7l, zSL_8n, zSL_8i, zSL_8a, zSL_8l, zSL_9n, zSL_9i, zSL_9a, zSL_9l, zSL_10n, zSL_10i, zSL_10a, zSL_10l, zSL_11n, zSL_11i, zSL_11a, zSL_11l, zSL_12n, zSL_12i, zSL_12a, zSL_12l, zLI_0, zLL_0, zLA_0, zLI_1, zLL_1, zLA_1, zLI_2, zLL_2, zLA_2, zLI_3, zLL_3, zLA_3, zLI_4, zLL_4, zLA_4, zLI_5, zLL_5, zLA_5, zLI_6, zLL_6, zLA_6, zLI_7, zLL_7, zLA_7, zLI_8, zLL_8, zLA_8, zLI_9, zLL_9, zLA_9, zLI_10, zLL_10, zLA_10, zLI_11, zLL_11, zLA_11, zLI_12, zLL_12, zLA_12, zLI_13, zLL_13, zLA_13, zst_0, zst_1n, zst_1i, zst_1a, zst_2n, zst_2i, zst_2a, zst_3n, zst_3i, zst_3a, zst_4n, zst_4i, zst_4a, zst_5n, zst_5i, zst_5a, zst_6n, zst_6i, zst_6a, zst_7n, zst_7i, zst_7a, zst_8n, zst_8i, zst_8a, zst_9n, zst_9i, zst_9a, zst_10n, zst_10i, zst_10a, zst_11n, zst_11i, zst_11a, zst_12n, zst_12i, zst_12a, zst_13n, zst_13i, zst_13a, zst_14n, zst_14i, zst_14a, zst_15n, zst_15i, zst_15a, zR1_n, zR1_v, zsum_n, zsum_i, zsum_l, zsum_a, zlen_n, zlen_i, zlen_l, zlen_a, List.not_mem_nil, List.mem_cons, or_false, false_or, or_self, ↓reduceIte, if_false, if_true, Nat.reduceEqDiff, Nat.reduceAdd, Nat.reduceLeDiff, true_and, and_true, reduceCtorEq, ne_eq, Int.toNat_natCast, not_true_eq_false, not_false_eq_true, true_implies, false_implies, implies_true, Int.reduceToNat, Int.toNat_zero, Int.reduceLT, Int.reduceLE, Int.reduceEq, Int.reduceAdd, Int.reduceMul, Int.reduceNeg]
          (repeat' (first | with_reducible refine And.intro ?_ ?_ | with_reducible intro _)) <;> try first | with_reducible rfl | with_reducible assumption | omega | (unfold zr32; omega) | contradiction | (exact absurd (by omega) (by assumption)) | rfl | (simp only [Sum.inl.injEq, Option.some.injEq]; omega)
      obtain ⟨nx1, nx2⟩ := nx
      by_cases cs : F0 (14 + 14 * v) 0 = 1 ∧ F0 6 (F0 (14 + 14 * v) 1).toNat = 0
      · have e46' := fun Q => (e46 Q).trans (zyes cs)
        have se : zsee F0 v = true := decide_eq_true cs
        rw [zrwst_s, v2, Int.toNat_natCast, if_pos se] at nx2
        have pk : zPk (zrwst F0 o y i) (14 + 14 * v) := zPk_g (fun b j h1 h2 => g1 b j (by omega)) (hpk v v1 v3)
        have e66 := fun Q => c66 (L := L) (M := zwI M (zrwst F0 o y i)) (Q := Q) (s := 14 + 14 * v) (y := y) (od := 1) (mark := F0 (14 + 14 * v) 2) (zShA_i v1) hR pk (by omega) (by omega) (fun j => by rw [zwI_I, g1 _ _ (by omega)]; exact hfl j)
        rw [zwI_I, zwI_w] at e66
        obtain ⟨k1, k2⟩ := zK_sh (L := L) (zShA_i v1)
        refine zW_sound 60 [82, 88] ?_
        simp only [ZR184, zk_2, zk_3, zk_4, zk_5, k1, hF, (hR.2.2.2 v v1).1, zwI_I, zwI_2, Int.toNat_natCast, eo, g1 (14 + 14 * v) 2 (by omega), ZF46.1, ZF46.2.1, ZF46.2.2.1, e46', ZF66.1, ZF66.2.1, ZF66.2.2.1, e66, zW_succ, zE_iload, zE_aload, zE_lload, zE_iinc, zE_istore, zE_astore, zE_lstore, zE_iconst, zE_ldc2, zE_iadd, zE_isub, zE_imul, zE_idiv, zE_irem, zE_ineg, zE_iand, zE_ior, zE_ixor, zE_ishl, zE_ishr, zE_land, zE_lor, zE_lxor, zE_lshl, zE_lshr, zE_i2l, zE_lcmp, zE_dup_i, zE_dup_a, zE_dup2_ia, zE_pop_i, zE_pop_a, zE_pop2, zE_goto, zE_if_eq, zE_icmp_eq, zE_if_ne, zE_icmp_ne, zE_if_lt, zE_icmp_lt, zE_if_ge, zE_icmp_ge, zE_if_gt, zE_icmp_gt, zE_if_le, zE_icmp_le, zE_iaload, zE_baload, zE_laload, zE_aaload, zE_iastore, zE_bastore, zE_lastore, zE_aastore, zE_alen, zE_getf0, zE_getf1, zE_getf2, zE_getf3, zE_putf0, zE_putf1, zE_putf2, zE_putf3, zE_new, zE_newa, zE_newq, zE_ireturn, zE_lreturn, zE_areturn, zE_return, zE_athrow, zE_st0, zE_vi0, zE_st1, zE_vi1, zE_st2, zE_vi2, zE_st3, zE_vi3, zE_st4, zE_vi4, zE_st5, zE_vi5, zE_st6, zE_vi6, zE_st7, zE_vi7, zE_st8, zE_vi8, zSt_0, zSL_0, zSt_1n, zSt_1i, zSt_1a, zSt_1l, zSt_2n, zSt_2i, zSt_2a, zSt_2l, zSt_3n, zSt_3i, zSt_3a, zSt_3l, zSt_4n, zSt_4i, zSt_4a, zSt_4l, zSt_5n, zSt_5i, zSt_5a, zSt_5l, zSt_6n, zSt_6i, zSt_6a, zSt_6l, zSt_7n, zSt_7i, zSt_7a, zSt_7l, zSt_8n, zSt_8i, zSt_8a, zSt_8l, zSt_9n, zSt_9i, zSt_9a, zSt_9l, zSt_10n, zSt_10i, zSt_10a, zSt_10l, zSt_11n, zSt_11i, zSt_11a, zSt_11l, zSt_12n, zSt_12i, zSt_12a, zSt_12l, zSt_13n, zSt_13i, zSt_13a, zSt_13l, zSL_1n, zSL_1i, zSL_1a, zSL_1l, zSL_2n, zSL_2i, zSL_2a, zSL_2l, zSL_3n, zSL_3i, zSL_3a, zSL_3l, zSL_4n, zSL_4i, zSL_4a, zSL_4l, zSL_5n, zSL_5i, zSL_5a, zSL_5l, zSL_6n, zSL_6i, zSL_6a, zSL_6l, zSL_7n, zSL_7i, zSL_7a, zSL_7l, zSL_8n, zSL_8i, zSL_8a, zSL_8l, zSL_9n, zSL_9i, zSL_9a, zSL_9l, zSL_10n, zSL_10i, zSL_10a, zSL_10l, zSL_11n, zSL_11i, zSL_11a, zSL_11l, zSL_12n, zSL_12i, zSL_12a, zSL_12l, zLI_0, zLL_0, zLA_0, zLI_1, zLL_1, zLA_1, zLI_2, zLL_2, zLA_2, zLI_3, zLL_3, zLA_3, zLI_4, zLL_4, zLA_4, zLI_5, zLL_5, zLA_5, zLI_6, zLL_6, zLA_6, zLI_7, zLL_7, zLA_7, zLI_8, zLL_8, zLA_8, zLI_9, zLL_9, zLA_9, zLI_10, zLL_10, zLA_10, zLI_11, zLL_11, zLA_11, zLI_12, zLL_12, zLA_12, zLI_13, zLL_13, zLA_13, zst_0, zst_1n, zst_1i, zst_1a, zst_2n, zst_2i, zst_2a, zst_3n, zst_3i, zst_3a, zst_4n, zst_4i, zst_4a, zst_5n, zst_5i, zst_5a, zst_6n, zst_6i, zst_6a, zst_7n, zst_7i, zst_7a, zst_8n, zst_8i, zst_8a, zst_9n, zst_9i, zst_9a, zst_10n, zst_10i, zst_10a, zst_11n, zst_11i, zst_11a, zst_12n, zst_12i, zst_12a, zst_13n, zst_13i, zst_13a, zst_14n, zst_14i, zst_14a, zst_15n, zst_15i, zst_15a, zR1_n, zR1_v, zsum_n, zsum_i, zsum_l, zsum_a, zlen_n, zlen_i, zlen_l, zlen_a, List.not_mem_nil, List.mem_cons, or_false, false_or, or_self, ↓reduceIte, if_false, if_true, Nat.reduceEqDiff, Nat.reduceAdd, Nat.reduceLeDiff, true_and, and_true, reduceCtorEq, ne_eq, Int.toNat_natCast, not_true_eq_false, not_false_eq_true, true_implies, false_implies, implies_true, Int.reduceToNat, Int.toNat_zero, Int.reduceLT, Int.reduceLE, Int.reduceEq, Int.reduceAdd, Int.reduceMul, Int.reduceNeg]
        (repeat' (first | with_reducible refine And.intro ?_ ?_ | with_reducible intro _)) <;> try first | with_reducible rfl | with_reducible assumption | omega | (unfold zr32; omega) | contradiction | (exact absurd (by omega) (by assumption)) | rfl | (simp only [Sum.inl.injEq, Option.some.injEq]; omega)
        all_goals exact nx2 _
      · have e46' := fun Q => (e46 Q).trans (znot cs)
        have se : ¬ zsee F0 v = true := fun h => cs (of_decide_eq_true h)
        rw [zrwst_s, v2, Int.toNat_natCast, if_neg se] at nx1
        refine zW_sound 60 [82, 88] ?_
        simp only [ZR184, zk_2, zk_3, zk_4, zk_5, hF, zwI_I, zwI_2, Int.toNat_natCast, eo, ZF46.1, ZF46.2.1, ZF46.2.2.1, e46', zW_succ, zE_iload, zE_aload, zE_lload, zE_iinc, zE_istore, zE_astore, zE_lstore, zE_iconst, zE_ldc2, zE_iadd, zE_isub, zE_imul, zE_idiv, zE_irem, zE_ineg, zE_iand, zE_ior, zE_ixor, zE_ishl, zE_ishr, zE_land, zE_lor, zE_lxor, zE_lshl, zE_lshr, zE_i2l, zE_lcmp, zE_dup_i, zE_dup_a, zE_dup2_ia, zE_pop_i, zE_pop_a, zE_pop2, zE_goto, zE_if_eq, zE_icmp_eq, zE_if_ne, zE_icmp_ne, zE_if_lt, zE_icmp_lt, zE_if_ge, zE_icmp_ge, zE_if_gt, zE_icmp_gt, zE_if_le, zE_icmp_le, zE_iaload, zE_baload, zE_laload, zE_aaload, zE_iastore, zE_bastore, zE_lastore, zE_aastore, zE_alen, zE_getf0, zE_getf1, zE_getf2, zE_getf3, zE_putf0, zE_putf1, zE_putf2, zE_putf3, zE_new, zE_newa, zE_newq, zE_ireturn, zE_lreturn, zE_areturn, zE_return, zE_athrow, zE_st0, zE_vi0, zE_st1, zE_vi1, zE_st2, zE_vi2, zE_st3, zE_vi3, zE_st4, zE_vi4, zE_st5, zE_vi5, zE_st6, zE_vi6, zE_st7, zE_vi7, zE_st8, zE_vi8, zSt_0, zSL_0, zSt_1n, zSt_1i, zSt_1a, zSt_1l, zSt_2n, zSt_2i, zSt_2a, zSt_2l, zSt_3n, zSt_3i, zSt_3a, zSt_3l, zSt_4n, zSt_4i, zSt_4a, zSt_4l, zSt_5n, zSt_5i, zSt_5a, zSt_5l, zSt_6n, zSt_6i, zSt_6a, zSt_6l, zSt_7n, zSt_7i, zSt_7a, zSt_7l, zSt_8n, zSt_8i, zSt_8a, zSt_8l, zSt_9n, zSt_9i, zSt_9a, zSt_9l, zSt_10n, zSt_10i, zSt_10a, zSt_10l, zSt_11n, zSt_11i, zSt_11a, zSt_11l, zSt_12n, zSt_12i, zSt_12a, zSt_12l, zSt_13n, zSt_13i, zSt_13a, zSt_13l, zSL_1n, zSL_1i, zSL_1a, zSL_1l, zSL_2n, zSL_2i, zSL_2a, zSL_2l, zSL_3n, zSL_3i, zSL_3a, zSL_3l, zSL_4n, zSL_4i, zSL_4a, zSL_4l, zSL_5n, zSL_5i, zSL_5a, zSL_5l, zSL_6n, zSL_6i, zSL_6a, zSL_6l, zSL_7n, zSL_7i, zSL_7a, zSL_7l, zSL_8n, zSL_8i, zSL_8a, zSL_8l, zSL_9n, zSL_9i, zSL_9a, zSL_9l, zSL_10n, zSL_10i, zSL_10a, zSL_10l, zSL_11n, zSL_11i, zSL_11a, zSL_11l, zSL_12n, zSL_12i, zSL_12a, zSL_12l, zLI_0, zLL_0, zLA_0, zLI_1, zLL_1, zLA_1, zLI_2, zLL_2, zLA_2, zLI_3, zLL_3, zLA_3, zLI_4, zLL_4, zLA_4, zLI_5, zLL_5, zLA_5, zLI_6, zLL_6, zLA_6, zLI_7, zLL_7, zLA_7, zLI_8, zLL_8, zLA_8, zLI_9, zLL_9, zLA_9, zLI_10, zLL_10, zLA_10, zLI_11, zLL_11, zLA_11, zLI_12, zLL_12, zLA_12, zLI_13, zLL_13, zLA_13, zst_0, zst_1n, zst_1i, zst_1a, zst_2n, zst_2i, zst_2a, zst_3n, zst_3i, zst_3a, zst_4n, zst_4i, zst_4a, zst_5n, zst_5i, zst_5a, zst_6n, zst_6i, zst_6a, zst_7n, zst_7i, zst_7a, zst_8n, zst_8i, zst_8a, zst_9n, zst_9i, zst_9a, zst_10n, zst_10i, zst_10a, zst_11n, zst_11i, zst_11a, zst_12n, zst_12i, zst_12a, zst_13n, zst_13i, zst_13a, zst_14n, zst_14i, zst_14a, zst_15n, zst_15i, zst_15a, zR1_n, zR1_v, zsum_n, zsum_i, zsum_l, zsum_a, zlen_n, zlen_i, zlen_l, zlen_a, List.not_mem_nil, List.mem_cons, or_false, false_or, or_self, ↓reduceIte, if_false, if_true, Nat.reduceEqDiff, Nat.reduceAdd, Nat.reduceLeDiff, true_and, and_true, reduceCtorEq, ne_eq, Int.toNat_natCast, not_true_eq_false, not_false_eq_true, true_implies, false_implies, implies_true, Int.reduceToNat, Int.toNat_zero, Int.reduceLT, Int.reduceLE, Int.reduceEq, Int.reduceAdd, Int.reduceMul, Int.reduceNeg]
        (repeat' (first | with_reducible refine And.intro ?_ ?_ | with_reducible intro _)) <;> try first | with_reducible rfl | with_reducible assumption | omega | (unfold zr32; omega) | contradiction | (exact absurd (by omega) (by assumption)) | rfl | (simp only [Sum.inl.injEq, Option.some.injEq]; omega)
        all_goals exact nx1
  exact loop 0 (Nat.zero_le _) none
theorem c184_g {y : Nat} {F1 : Nat → Nat → Int} (hR : zLay M.2.2.2) (hy : y < 60) (hF1 : zfil M.2.1 1118 3721 0 = F1) (hF0 : zua F1 5 (zord (zclt F1) (zcth F1) (F1 5) 60) = F0) (ho : F0 5 = o) (h01 : ∀ k : Nat, k < 60 → F0 (14 + 14 * k) 0 = 0 ∨ F0 (14 + 14 * k) 0 = 1) (hk : ∀ k, k < 60 → F0 (14 + 14 * k) 0 = 1 → zKy F0 (14 + 14 * k)) (hl : zLy F0) (hpk : ∀ i, i < 60 → F0 (14 + 14 * i) 0 = 1 → zPk F0 (14 + 14 * i)) (hfl : ∀ j, F0 1123 j = 0) (hb : ∀ j, j < 3721 → 0 ≤ zrwst F0 o y (zcnt (zcth F1) 60) 1118 j ∧ zrwst F0 o y (zcnt (zcth F1) 60) 1118 j ≤ 9) : zFR (zK L) 184 0 (zcall 184 [.inr (.inr 2), .inl (y : Int)]) [] M Q = Q (.inl (some (.inl (zwl (zrwst F0 o y (zcnt (zcth F1) 60) 1118) y 60)))) (zwI M (zrwst F0 o y (zcnt (zcth F1) 60))) := by
  have hF := hR.1
  unfold zLayF at hF
  have f01 : ∀ b j, b ≠ 5 → F0 b j = F1 b j := fun b j hb => by
    rw [← hF0]
    exact zua_o hb _ _
  have e2 := fun Q => (c183 (L := L) (M := M) (Q := Q) (x := 0) (y := (y : Int))).trans (zyes (by omega))
  have e64 := fun Q => c64 (L := L) (M := M) (Q := Q) hR
  rw [hF1] at e64
  have e3 := fun Q => c3 (L := L) (M := zwI M F1) (Q := Q) hR (fun k hk => by rw [zwI_I, ← f01 _ _ (by omega)]; exact h01 k hk) (fun k hk1 t => by
    rw [zwI_I, ← f01 _ _ (by omega)] at t
    have := hk k hk1 t
    unfold zKy at *
    rw [zwI_I, ← f01 _ _ (by omega), ← f01 _ _ (by omega)]
    exact this)
  rw [zwI_I, zwI_w, hF0] at e3
  refine zFR_det ?_ Q
  have lp := c184_l (L := L) (M := M) (o := o) (F0 := F0) (y := y) (c := zcnt (zcth F1) 60) (Q := fun r M2 => r = (Sum.inl (some (Sum.inl (zwl (zrwst F0 o y (zcnt (zcth F1) 60) 1118) y 60))) : zO) ∧ M2 = zwI M (zrwst F0 o y (zcnt (zcth F1) 60))) hR hy (zcnt_le _ _) ho (fun i hi => by
    obtain ⟨k, k1, k2, k3⟩ := zord_v (zclt F1) (zcth F1) (F1 5) 60 i hi
    refine ⟨k, k1, ?_, ?_⟩
    · rw [← ho, ← hF0]
      exact zua_a.trans k3
    · rw [f01 _ _ (by omega)]
      exact of_decide_eq_true k2) h01 hl hpk hfl hb
  have lp2 := lp.mpr ⟨rfl, rfl⟩
  refine zW_sound 60 [23] ?_
  simp only [ZF184, ZR184, zk_2, zk_3, zk_1117, hF, zwI_2, ZF183.1, ZF183.2.1, ZF183.2.2.1, ZF64.1, ZF64.2.1, ZF64.2.2.1, ZF3.1, ZF3.2.1, ZF3.2.2.1, e2, e64, e3, zR1_p ZF184.2.2.1, zW_succ, zE_iload, zE_aload, zE_lload, zE_iinc, zE_istore, zE_astore, zE_lstore, zE_iconst, zE_ldc2, zE_iadd, zE_isub, zE_imul, zE_idiv, zE_irem, zE_ineg, zE_iand, zE_ior, zE_ixor, zE_ishl, zE_ishr, zE_land, zE_lor, zE_lxor, zE_lshl, zE_lshr, zE_i2l, zE_lcmp, zE_dup_i, zE_dup_a, zE_dup2_ia, zE_pop_i, zE_pop_a, zE_pop2, zE_goto, zE_if_eq, zE_icmp_eq, zE_if_ne, zE_icmp_ne, zE_if_lt, zE_icmp_lt, zE_if_ge, zE_icmp_ge, zE_if_gt, zE_icmp_gt, zE_if_le, zE_icmp_le, zE_iaload, zE_baload, zE_laload, zE_aaload, zE_iastore, zE_bastore, zE_lastore, zE_aastore, zE_alen, zE_getf0, zE_getf1, zE_getf2, zE_getf3, zE_putf0, zE_putf1, zE_putf2, zE_putf3, zE_new, zE_newa, zE_newq, zE_ireturn, zE_lreturn, zE_areturn, zE_return, zE_athrow, zE_st0, zE_vi0, zE_st1, zE_vi1, zE_st2, zE_vi2, zE_st3, zE_vi3, zE_st4, zE_vi4, zE_st5, zE_vi5, zE_st6, zE_vi6, zE_st7, zE_vi7, zE_st8, zE_vi8, zSt_0, zSL_0, zSt_1n, zSt_1i, zSt_1a, zSt_1l, zSt_2n, zSt_2i, zSt_2a, zSt_2l, zSt_3n, zSt_3i, zSt_3a, zSt_3l, zSt_4n, zSt_4i, zSt_4a, zSt_4l, zSt_5n, zSt_5i, zSt_5a, zSt_5l, zSt_6n, zSt_6i, zSt_6a, zSt_6l, zSt_7n, zSt_7i, zSt_7a, zSt_7l, zSt_8n, zSt_8i, zSt_8a, zSt_8l, zSt_9n, zSt_9i, zSt_9a, zSt_9l, zSt_10n, zSt_10i, zSt_10a, zSt_10l, zSt_11n, zSt_11i, zSt_11a, zSt_11l, zSt_12n, zSt_12i, zSt_12a, zSt_12l, zSt_13n, zSt_13i, zSt_13a, zSt_13l, zSL_1n, zSL_1i, zSL_1a, zSL_1l, zSL_2n, zSL_2i, zSL_2a, zSL_2l, zSL_3n, zSL_3i, zSL_3a, zSL_3l, zSL_4n, zSL_4i, zSL_4a, zSL_4l, zSL_5n, zSL_5i, zSL_5a, zSL_5l, zSL_6n, zSL_6i, zSL_6a, zSL_6l, zSL_7n, zSL_7i, zSL_7a, zSL_7l, zSL_8n, zSL_8i, zSL_8a, zSL_8l, zSL_9n, zSL_9i, zSL_9a, zSL_9l, zSL_10n, zSL_10i, zSL_10a, zSL_10l, zSL_11n, zSL_11i, zSL_11a, zSL_11l, zSL_12n, zSL_12i, zSL_12a, zSL_12l, zLI_0, zLL_0, zLA_0, zLI_1, zLL_1, zLA_1, zLI_2, zLL_2, zLA_2, zLI_3, zLL_3, zLA_3, zLI_4, zLL_4, zLA_4, zLI_5, zLL_5, zLA_5, zLI_6, zLL_6, zLA_6, zLI_7, zLL_7, zLA_7, zLI_8, zLL_8, zLA_8, zLI_9, zLL_9, zLA_9, zLI_10, zLL_10, zLA_10, zLI_11, zLL_11, zLA_11, zLI_12, zLL_12, zLA_12, zLI_13, zLL_13, zLA_13, zst_0, zst_1n, zst_1i, zst_1a, zst_2n, zst_2i, zst_2a, zst_3n, zst_3i, zst_3a, zst_4n, zst_4i, zst_4a, zst_5n, zst_5i, zst_5a, zst_6n, zst_6i, zst_6a, zst_7n, zst_7i, zst_7a, zst_8n, zst_8i, zst_8a, zst_9n, zst_9i, zst_9a, zst_10n, zst_10i, zst_10a, zst_11n, zst_11i, zst_11a, zst_12n, zst_12i, zst_12a, zst_13n, zst_13i, zst_13a, zst_14n, zst_14i, zst_14a, zst_15n, zst_15i, zst_15a, zR1_n, zR1_v, zsum_n, zsum_i, zsum_l, zsum_a, zlen_n, zlen_i, zlen_l, zlen_a, List.not_mem_nil, List.mem_cons, or_false, false_or, or_self, ↓reduceIte, if_false, if_true, Nat.reduceEqDiff, Nat.reduceAdd, Nat.reduceLeDiff, true_and, and_true, reduceCtorEq, ne_eq, Int.toNat_natCast, not_true_eq_false, not_false_eq_true, true_implies, false_implies, implies_true, Int.reduceToNat, Int.toNat_zero, Int.reduceLT, Int.reduceLE, Int.reduceEq, Int.reduceAdd, Int.reduceMul, Int.reduceNeg]
  exact lp2
/-- what is laid is what the reference tells -/
theorem zqrw (h : zqR n F0 G) {y x : Nat} (hx : x < 60) (ho : ∀ j, j < zrct G → o j = zrod G j) (h0 : F0 1118 (61 * y + x) = 0) : ∀ i, i ≤ zrct G → zrwst F0 o y i 1118 (61 * y + x) = if zrht (zrg G) (2 * (x : Int) + 1) (2 * (y : Int) + 1) i < 0 then 0 else F0 (14 + 14 * (zrht (zrg G) (2 * (x : Int) + 1) (2 * (y : Int) + 1) i).toNat) 2
  | 0, _ => by
    show F0 1118 (61 * y + x) = if (-1 : Int) < 0 then 0 else _
    rw [if_pos (by omega)]
    exact h0
  | i + 1, hi => by
    have ih := zqrw h (y := y) hx ho h0 i (by omega)
    obtain ⟨v, v1, v2⟩ := zqvl (g := G) (q := i) (by omega)
    have v6 := v1.1
    have vt : F0 (14 + 14 * v) 0 = 1 := by rw [zqR_t h v1.1]; exact v1.2
    obtain ⟨se, so⟩ := zqR_f h v1.1 vt
    have cd := zqcd h (x := 2 * (x : Int) + 1) (y := 2 * (y : Int) + 1) v1.1
    have ev : zshb F0 (2 * (x : Int) + 1) (2 * (y : Int) + 1) v = (zsee F0 v && zhl F0 (14 + 14 * v) (2 * (x : Int) + 1) (2 * (y : Int) + 1)) := rfl
    have er : zrg G 1184 i = (v : Int) := (zrg_r i).trans v2
    rw [zrwst_s, zrht_s, ho i (by omega), v2, er, Int.toNat_natCast]
    by_cases c : zshb F0 (2 * (x : Int) + 1) (2 * (y : Int) + 1) v = true
    · rw [if_pos (cd.mp c).2]
      rw [ev, Bool.and_eq_true] at c
      have hz : zhl (zrwst F0 o y i) (14 + 14 * v) (2 * ((61 * y + x - 61 * y : Nat) : Int) + 1) (2 * (y : Int) + 1) = true := by
        rw [zhl_f (g := F0) (fun b j h1 h2 => zrwst_o (by omega) i) (zqE_sw se so), show 61 * y + x - 61 * y = x by omega]
        exact c.2
      rw [if_pos c.1, if_neg (by omega), Int.toNat_natCast]
      unfold zstl
      rw [if_pos ⟨rfl, by omega, by omega, hz⟩]
    · rw [if_neg (fun t => c (cd.mpr ⟨v1, t⟩)), ← ih]
      by_cases s1 : zsee F0 v = true
      · rw [if_pos s1]
        unfold zstl
        rw [if_neg]
        rintro ⟨_, _, _, hz⟩
        rw [zhl_f (g := F0) (fun b j h1 h2 => zrwst_o (by omega) i) (zqE_sw se so), show 61 * y + x - 61 * y = x by omega] at hz
        exact c (by rw [ev, Bool.and_eq_true]; exact ⟨s1, hz⟩)
      · rw [if_neg s1]
theorem zrwst_b {y : Nat} {j : Nat} {c : Nat} (h0 : 0 ≤ F0 1118 j ∧ F0 1118 j ≤ 9) (hv : ∀ i, i < c → 0 ≤ F0 (14 + 14 * (o i).toNat) 2 ∧ F0 (14 + 14 * (o i).toNat) 2 ≤ 9) : ∀ i, i ≤ c → 0 ≤ zrwst F0 o y i 1118 j ∧ zrwst F0 o y i 1118 j ≤ 9
  | 0, _ => h0
  | i + 1, hi => by
    have ih := zrwst_b (y := y) h0 hv i (by omega)
    have hvi := hv i (by omega)
    rw [zrwst_s]
    split
    · unfold zstl
      split
      · exact hvi
      · exact ih
    · exact ih
theorem zqwl {mm : Nat → Int} {g : Nat → Nat → Int} {y : Nat} (h : ∀ x, x < 60 → mm (61 * y + x) = zrca g (x : Int) (y : Int)) : ∀ x, x ≤ 60 → zwl mm y x = zrwr g (y : Int) x
  | 0, _ => rfl
  | x + 1, hx => by
    have ih := zqwl h x (by omega)
    show zwl mm y x + ((x : Int) + 1) * mm (61 * y + x) = zrwr g (y : Int) x + zrca g (x : Int) (y : Int) * ((x : Int) + 1)
    rw [ih, h x (by omega), Int.mul_comm]
theorem zqA_184 (hW : zqW m M) (c2 : cc 2 = 1) {y : Int} : zqAg L M 184 [.inr (.inr 2), .inl y] 329 [.inr (.inr 1153), .inl y] cc := by
  have hR := hW.1.1
  have rel := hW.1.2.1
  by_cases h : 0 ≤ y ∧ y < 60
  · obtain ⟨y, rfl⟩ : ∃ k : Nat, y = (k : Int) := ⟨y.toNat, by omega⟩
    have hy : y < 60 := by omega
    obtain ⟨F1, hF1⟩ : ∃ F1, zfil M.2.1 1118 3721 0 = F1 := ⟨_, rfl⟩
    obtain ⟨F0, hF0⟩ : ∃ F0, zua F1 5 (zord (zclt F1) (zcth F1) (F1 5) 60) = F0 := ⟨_, rfl⟩
    have f1 : ∀ b j, b ≠ 1118 → F1 b j = M.2.1 b j := fun b j hb => by
      rw [← hF1]
      exact if_neg (fun h => hb h.1)
    have f0 : ∀ b j, b ≠ 5 → b ≠ 1118 → F0 b j = M.2.1 b j := fun b j h1 h2 => by
      rw [← hF0, zua_o h1, f1 b j h2]
    have r0 : ∀ G, zqR m M.2.1 G → zqR m F0 G := fun G r => zqR_keep3 (fun b j hb => f0 b j (by omega) (by omega)) (fun j hj => by rw [f0 8 j (by omega) (by omega)]; exact zqR_ch r j hj) (fun _ _ _ => rfl) rfl r
    have r1 : ∀ G, zqR m M.2.1 G → zqR m F1 G := fun G r => zqR_keep3 (fun b j hb => f1 b j (by omega)) (fun j hj => by rw [f1 8 j (by omega)]; exact zqR_ch r j hj) (fun _ _ _ => rfl) rfl r
    have rl0 := r0 _ rel
    obtain ⟨o1, o2⟩ := zqord (r1 _ rel)
    have eo : ∀ j, F0 5 j = zord (zclt F1) (zcth F1) (F1 5) 60 j := fun j => by
      rw [← hF0]
      exact zua_a
    have hb : ∀ j, j < 3721 → 0 ≤ zrwst F0 (F0 5) y (zcnt (zcth F1) 60) 1118 j ∧ zrwst F0 (F0 5) y (zcnt (zcth F1) 60) 1118 j ≤ 9 := fun j hj => by
      have e0 : F0 1118 j = 0 := by
        rw [← hF0, zua_o (by omega), ← hF1]
        exact if_pos ⟨rfl, hj⟩
      refine zrwst_b (by omega) (fun i hi => ?_) _ (Nat.le_refl _)
      rw [eo, o2 i (by omega)]
      obtain ⟨v, v1, v2⟩ := zqvl (g := M.2.1) (q := i) (by omega)
      rw [v2, Int.toNat_natCast, f0 _ _ (by omega) (by omega), (rel.2.1 v v1.1 v1.2).2.1]
      have := (rel.2.1 v v1.1 v1.2).2.2.2.2
      omega
    refine zqAg_ok (m' := m) (fun Q => c184_g hR hy hF1 hF0 rfl (zqR_01 rl0) (fun k hk t => (zqR_bk rl0 k hk).2 t) (zqR_ly rl0) (fun i hi t => by
      obtain ⟨se, so⟩ := zqR_f rl0 hi t
      exact zqE_pk se so) (fun j => by rw [f0 _ _ (by omega) (by omega)]; exact hW.2.2.2.2.1 j) hb) rfl rfl rfl (fun B b1 b2 b3 => ?_)
    have b1' : B.2.1 = zrwst F0 (F0 5) y (zcnt (zcth F1) 60) := b1
    have bn : ∀ b j, b ≠ 5 → b ≠ 1118 → B.2.1 b j = M.2.1 b j := fun b j h1 h2 => by rw [b1', zrwst_o h2]; exact f0 b j h1 h2
    have rl := zqR_tw hW (B := B) (fun b j hb => bn b j (by omega) (by omega)) (fun j => by rw [b2 1162 (by omega)]; rfl) b3 0
    refine ⟨zwI B (zrg (zrtw B.2.1 0)), fun Q => ?_, rfl, rfl, zqW_t hW b3 b2 (fun b j q1 q2 q3 q4 => ?_), ?_⟩
    · have ot := zqord (r1 _ rl)
      have ev : zwl (zrwst F0 (F0 5) y (zcnt (zcth F1) 60) 1118) y 60 = zrwr (zrg (zrtw B.2.1 0)) (y : Int) 60 := by
        refine zqwl (fun x hx => ?_) 60 (Nat.le_refl _)
        have e0 : F0 1118 (61 * y + x) = 0 := by
          rw [← hF0, zua_o (by omega), ← hF1]
          exact if_pos ⟨rfl, by omega⟩
        rw [ot.1, zqrw (r0 _ rl) hx (fun j hj => by rw [eo]; exact ot.2 j hj) e0 _ (Nat.le_refl _)]
        unfold zrca
        rw [zrg_c, Int.toNat_natCast]
        rcases zupm_b (r0 _ rl) (x := 2 * (x : Int) + 1) (y := 2 * (y : Int) + 1) with e | ⟨k, k1, e, t⟩
        · unfold zupm at e
          rw [zqht (r0 _ rl)] at e
          rw [e, if_pos (by omega), if_pos (by omega)]
        · unfold zupm at e
          rw [zqht (r0 _ rl)] at e
          rw [e, if_neg (by omega), if_neg (by omega), Int.toNat_natCast, zrg_o ⟨by omega, by omega⟩]
          exact ((r0 _ rl).2.1 k k1 t).2.1
      rw [ev]
      exact c329_g (by rw [b3]; exact hR) (zqR_rbk rl) (fun j hj => by
        rw [bn _ _ (by omega) (by omega)]
        exact (rel.2.2.2.2.2.1.2 j hj).2) (zqOk rl) (by omega)
    · show zrg (zrtw B.2.1 0) b j = _
      by_cases q : b = 1118
      · omega
      · rw [zrg_o ⟨by omega, by omega⟩]
        unfold zrtw
        rw [zu2_sj (by omega)]
        exact bn b j q1 q
    · show zrg (zrtw B.2.1 0) 1153 0 = 0
      rw [zrg_o ⟨by omega, by omega⟩]
      exact zu2_eq _ _ _ _
  · exact zqAg_no (e := 2) (d := 1) hW (by omega) (fun Q => c184_0 h) (.inl 0) (fun B b1 b2 Q => c329_1 (by omega)) c2
end ZROWQ
/-! areas told by both -/
section ZAREAQ
variable {L m n : Nat} {M B : zM} {s t : Nat} {Q : zO → zM → Prop} {f g : Nat → Nat → Int} {cc : Nat → Int}
theorem zeP_cg {k9 : Int} {X Y U V : Nat → Int} {b : Nat} (hx : ∀ k : Nat, (k : Int) < k9 → U k = X k) (hy : ∀ k : Nat, (k : Int) < k9 → V k = Y k) : ∀ i : Nat, (i : Int) ≤ k9 → zeP k9 U V b i = zeP k9 X Y b i
  | 0, _ => rfl
  | i + 1, h => by
    have hk : (i : Int) < k9 := by omega
    have ha := zaf_lt hk
    have ih := zeP_cg (b := b) hx hy i (by omega)
    have e : zeL k9 U V b i = zeL k9 X Y b i := by
      unfold zeL zle2 zwd
      rw [hx i hk, hx _ ha, hy i hk, hy _ ha]
    show zeP k9 U V b i ++ zeL k9 U V b i = zeP k9 X Y b i ++ zeL k9 X Y b i
    rw [ih, e]
theorem zeS_cg {k k' : Nat → Int} {X Y U V : Nat → Nat → Int} {fb : Nat} : ∀ c : Nat, (∀ p, p < c → k' p = k p ∧ 0 ≤ k p ∧ ∀ j : Nat, (j : Int) < k p → U p j = X p j ∧ V p j = Y p j) → zeS k' U V fb c = zeS k X Y fb c
  | 0, _ => rfl
  | c + 1, h => by
    have ih := zeS_cg (fb := fb) c (fun p hp => h p (by omega))
    obtain ⟨h1, h0, h2⟩ := h c (by omega)
    show zeS k' U V fb c ++ zeP (k' c) (U c) (V c) (2 ^ (fb + c)) (k' c).toNat = zeS k X Y fb c ++ zeP (k c) (X c) (Y c) (2 ^ (fb + c)) (k c).toNat
    rw [ih, h1, zeP_cg (fun j hj => (h2 j hj).1) (fun j hj => (h2 j hj).2) _ (by omega)]
theorem zqeS (h : zqE f g s) (ho : zqO g s) {c fb : Nat} (hc : g 1174 s = (c : Int)) : zeS (zN f (14 + 14 * s)) (zX f (14 + 14 * s)) (zY f (14 + 14 * s)) fb c = zeS (zrN g s) (zrX g s) (zrY g s) fb c := zeS_cg c (fun p hp => by
  obtain ⟨q1, q2⟩ := h.2.2.1 p (by omega)
  have := (ho.2.2 p (by omega)).1
  exact ⟨q1, by omega, fun j hj => q2 j hj⟩)
theorem zqSP (ho : zqO g s) {c : Nat} (hc : g 1174 s = (c : Int)) : zSP (zrN g s) (zrX g s) (zrY g s) c := fun p hp => by
  obtain ⟨a, b, c⟩ := ho.2.2 p (by omega)
  exact ⟨⟨by omega, a.2, fun k hk => by have := c k hk; omega⟩, b⟩
theorem zqSPc (h : zqE f g s) (ho : zqO g s) {c : Nat} (hc : g 1174 s = (c : Int)) : zSP (zN f (14 + 14 * s)) (zX f (14 + 14 * s)) (zY f (14 + 14 * s)) c := fun p hp => by
  have hp2 : (p : Int) < f (14 + 14 * s) 10 := by rw [h.2.1]; omega
  exact ⟨(zqE_sw h ho).2.2 p hp2, (zqE_pr h ho hp2).2⟩
theorem c178_0 {w i j b : Int} (hR : zLay M.2.2.2) (h01 : ∀ k : Nat, k < 60 → M.2.1 (14 + 14 * k) 0 = 0 ∨ M.2.1 (14 + 14 * k) 0 = 1) (hn : ¬ (zth M.2.1 i ∧ zth M.2.1 j)) : zFR (zK L) 178 0 (zcall 178 [.inr (.inr 2), .inl w, .inl i, .inl j, .inl b]) [] M Q = Q (.inr 2) (zthrown M) := by
  refine zFR_det ?_ Q
  by_cases h1 : zth M.2.1 i
  · have h2 : ¬ zth M.2.1 j := fun h2 => hn ⟨h1, h2⟩
    have e1 := fun Q => (c146 (L := L) (M := M) (Q := Q) (i := i) hR h01).trans (zyes h1)
    have e2 := fun Q => (c146 (L := L) (M := M) (Q := Q) (i := j) hR h01).trans (znot h2)
    refine zW_sound 60 [] ?_
    simp only [ZF178, ZR178, zk_2, ZF146.1, ZF146.2.1, ZF146.2.2.1, e1, e2, zR1_p ZF178.2.2.1, zW_succ, zE_iload, zE_aload, zE_lload, zE_iinc, zE_istore, zE_astore, zE_lstore, zE_iconst, zE_ldc2, zE_iadd, zE_isub, zE_imul, zE_idiv, zE_irem, zE_ineg, zE_iand, zE_ior, zE_ixor, zE_ishl, zE_ishr, zE_land, zE_lor, zE_lxor, zE_lshl, zE_lshr, zE_i2l, zE_lcmp, zE_dup_i, zE_dup_a, zE_dup2_ia, zE_pop_i, zE_pop_a, zE_pop2, zE_goto, zE_if_eq, zE_icmp_eq, zE_if_ne, zE_icmp_ne, zE_if_lt, zE_icmp_lt, zE_if_ge, zE_icmp_ge, zE_if_gt, zE_icmp_gt, zE_if_le, zE_icmp_le, zE_iaload, zE_baload, zE_laload, zE_aaload, zE_iastore, zE_bastore, zE_lastore, zE_aastore, zE_alen, zE_getf0, zE_getf1, zE_getf2, zE_getf3, zE_putf0, zE_putf1, zE_putf2, zE_putf3, zE_new, zE_newa, zE_newq, zE_ireturn, zE_lreturn, zE_areturn, zE_return, zE_athrow, zE_st0, zE_vi0, zE_st1, zE_vi1, zE_st2, zE_vi2, zE_st3, zE_vi3, zE_st4, zE_vi4, zE_st5, zE_vi5, zE_st6, zE_vi6, zE_st7, zE_vi7, zE_st8, zE_vi8, zSt_0, zSL_0, zSt_1n, zSt_1i, zSt_1a, zSt_1l, zSt_2n, zSt_2i, zSt_2a, zSt_2l, zSt_3n, zSt_3i, zSt_3a, zSt_3l, zSt_4n, zSt_4i, zSt_4a, zSt_4l, zSt_5n, zSt_5i, zSt_5a, zSt_5l, zSt_6n, zSt_6i, zSt_6a, zSt_6l, zSt_7n, zSt_7i, zSt_7a, zSt_7l, zSt_8n, zSt_8i, zSt_8a, zSt_8l, zSt_9n, zSt_9i, zSt_9a, zSt_9l, zSt_10n, zSt_10i, zSt_10a, zSt_10l, zSt_11n, zSt_11i, zSt_11a, zSt_11l, zSt_12n, zSt_12i, zSt_12a, zSt_12l, zSt_13n, zSt_13i, zSt_13a, zSt_13l, zSL_1n, zSL_1i, zSL_1a, zSL_1l, zSL_2n, zSL_2i, zSL_2a, zSL_2l, zSL_3n, zSL_3i, zSL_3a, zSL_3l, zSL_4n, zSL_4i, zSL_4a, zSL_4l, zSL_5n, zSL_5i, zSL_5a, zSL_5l, zSL_6n, zSL_6i, zSL_6a, zSL_6l, zSL_7n, zSL_7i, zSL_7a, zSL_7l, zSL_8n, zSL_8i, zSL_8a, zSL_8l, zSL_9n, zSL_9i, zSL_9a, zSL_9l, zSL_10n, zSL_10i, zSL_10a, zSL_10l, zSL_11n, zSL_11i, zSL_11a, zSL_11l, zSL_12n, zSL_12i, zSL_12a, zSL_12l, zLI_0, zLL_0, zLA_0, zLI_1, zLL_1, zLA_1, zLI_2, zLL_2, zLA_2, zLI_3, zLL_3, zLA_3, zLI_4, zLL_4, zLA_4, zLI_5, zLL_5, zLA_5, zLI_6, zLL_6, zLA_6, zLI_7, zLL_7, zLA_7, zLI_8, zLL_8, zLA_8, zLI_9, zLL_9, zLA_9, zLI_10, zLL_10, zLA_10, zLI_11, zLL_11, zLA_11, zLI_12, zLL_12, zLA_12, zLI_13, zLL_13, zLA_13, zst_0, zst_1n, zst_1i, zst_1a, zst_2n, zst_2i, zst_2a, zst_3n, zst_3i, zst_3a, zst_4n, zst_4i, zst_4a, zst_5n, zst_5i, zst_5a, zst_6n, zst_6i, zst_6a, zst_7n, zst_7i, zst_7a, zst_8n, zst_8i, zst_8a, zst_9n, zst_9i, zst_9a, zst_10n, zst_10i, zst_10a, zst_11n, zst_11i, zst_11a, zst_12n, zst_12i, zst_12a, zst_13n, zst_13i, zst_13a, zst_14n, zst_14i, zst_14a, zst_15n, zst_15i, zst_15a, zR1_n, zR1_v, zsum_n, zsum_i, zsum_l, zsum_a, zlen_n, zlen_i, zlen_l, zlen_a, List.not_mem_nil, List.mem_cons, or_false, false_or, or_self, ↓reduceIte, if_false, if_true, Nat.reduceEqDiff, Nat.reduceAdd, Nat.reduceLeDiff, true_and, and_true, reduceCtorEq, ne_eq, Int.toNat_natCast, not_true_eq_false, not_false_eq_true, true_implies, false_implies, implies_true, Int.reduceToNat, Int.toNat_zero, Int.reduceLT, Int.reduceLE, Int.reduceEq, Int.reduceAdd, Int.reduceMul, Int.reduceNeg]
  · have e1 := fun Q => (c146 (L := L) (M := M) (Q := Q) (i := i) hR h01).trans (znot h1)
    refine zW_sound 60 [] ?_
    simp only [ZF178, ZR178, zk_2, ZF146.1, ZF146.2.1, ZF146.2.2.1, e1, zR1_p ZF178.2.2.1, zW_succ, zE_iload, zE_aload, zE_lload, zE_iinc, zE_istore, zE_astore, zE_lstore, zE_iconst, zE_ldc2, zE_iadd, zE_isub, zE_imul, zE_idiv, zE_irem, zE_ineg, zE_iand, zE_ior, zE_ixor, zE_ishl, zE_ishr, zE_land, zE_lor, zE_lxor, zE_lshl, zE_lshr, zE_i2l, zE_lcmp, zE_dup_i, zE_dup_a, zE_dup2_ia, zE_pop_i, zE_pop_a, zE_pop2, zE_goto, zE_if_eq, zE_icmp_eq, zE_if_ne, zE_icmp_ne, zE_if_lt, zE_icmp_lt, zE_if_ge, zE_icmp_ge, zE_if_gt, zE_icmp_gt, zE_if_le, zE_icmp_le, zE_iaload, zE_baload, zE_laload, zE_aaload, zE_iastore, zE_bastore, zE_lastore, zE_aastore, zE_alen, zE_getf0, zE_getf1, zE_getf2, zE_getf3, zE_putf0, zE_putf1, zE_putf2, zE_putf3, zE_new, zE_newa, zE_newq, zE_ireturn, zE_lreturn, zE_areturn, zE_return, zE_athrow, zE_st0, zE_vi0, zE_st1, zE_vi1, zE_st2, zE_vi2, zE_st3, zE_vi3, zE_st4, zE_vi4, zE_st5, zE_vi5, zE_st6, zE_vi6, zE_st7, zE_vi7, zE_st8, zE_vi8, zSt_0, zSL_0, zSt_1n, zSt_1i, zSt_1a, zSt_1l, zSt_2n, zSt_2i, zSt_2a, zSt_2l, zSt_3n, zSt_3i, zSt_3a, zSt_3l, zSt_4n, zSt_4i, zSt_4a, zSt_4l, zSt_5n, zSt_5i, zSt_5a, zSt_5l, zSt_6n, zSt_6i, zSt_6a, zSt_6l, zSt_7n, zSt_7i, zSt_7a, zSt_7l, zSt_8n, zSt_8i, zSt_8a, zSt_8l, zSt_9n, zSt_9i, zSt_9a, zSt_9l, zSt_10n, zSt_10i, zSt_10a, zSt_10l, zSt_11n, zSt_11i, zSt_11a, zSt_11l, zSt_12n, zSt_12i, zSt_12a, zSt_12l, zSt_13n, zSt_13i, zSt_13a, zSt_13l, zSL_1n, zSL_1i, zSL_1a, zSL_1l, zSL_2n, zSL_2i, zSL_2a, zSL_2l, zSL_3n, zSL_3i, zSL_3a, zSL_3l, zSL_4n, zSL_4i, zSL_4a, zSL_4l, zSL_5n, zSL_5i, zSL_5a, zSL_5l, zSL_6n, zSL_6i, zSL_6a, zSL_6l, zSL_7n, zSL_7i, zSL_7a, zSL_7l, zSL_8n, zSL_8i, zSL_8a, zSL_8l, zSL_9n, zSL_9i, zSL_9a, zSL_9l, zSL_10n, zSL_10i, zSL_10a, zSL_10l, zSL_11n, zSL_11i, zSL_11a, zSL_11l, zSL_12n, zSL_12i, zSL_12a, zSL_12l, zLI_0, zLL_0, zLA_0, zLI_1, zLL_1, zLA_1, zLI_2, zLL_2, zLA_2, zLI_3, zLL_3, zLA_3, zLI_4, zLL_4, zLA_4, zLI_5, zLL_5, zLA_5, zLI_6, zLL_6, zLA_6, zLI_7, zLL_7, zLA_7, zLI_8, zLL_8, zLA_8, zLI_9, zLL_9, zLA_9, zLI_10, zLL_10, zLA_10, zLI_11, zLL_11, zLA_11, zLI_12, zLL_12, zLA_12, zLI_13, zLL_13, zLA_13, zst_0, zst_1n, zst_1i, zst_1a, zst_2n, zst_2i, zst_2a, zst_3n, zst_3i, zst_3a, zst_4n, zst_4i, zst_4a, zst_5n, zst_5i, zst_5a, zst_6n, zst_6i, zst_6a, zst_7n, zst_7i, zst_7a, zst_8n, zst_8i, zst_8a, zst_9n, zst_9i, zst_9a, zst_10n, zst_10i, zst_10a, zst_11n, zst_11i, zst_11a, zst_12n, zst_12i, zst_12a, zst_13n, zst_13i, zst_13a, zst_14n, zst_14i, zst_14a, zst_15n, zst_15i, zst_15a, zR1_n, zR1_v, zsum_n, zsum_i, zsum_l, zsum_a, zlen_n, zlen_i, zlen_l, zlen_a, List.not_mem_nil, List.mem_cons, or_false, false_or, or_self, ↓reduceIte, if_false, if_true, Nat.reduceEqDiff, Nat.reduceAdd, Nat.reduceLeDiff, true_and, and_true, reduceCtorEq, ne_eq, Int.toNat_natCast, not_true_eq_false, not_false_eq_true, true_implies, false_implies, implies_true, Int.reduceToNat, Int.toNat_zero, Int.reduceLT, Int.reduceLE, Int.reduceEq, Int.reduceAdd, Int.reduceMul, Int.reduceNeg]
theorem c178_1 {w i j b : Int} (hR : zLay M.2.2.2) (h01 : ∀ k : Nat, k < 60 → M.2.1 (14 + 14 * k) 0 = 0 ∨ M.2.1 (14 + 14 * k) 0 = 1) (h1 : zth M.2.1 i) (h2 : zth M.2.1 j) (hn : ¬ (0 ≤ w ∧ w ≤ 3)) : zFR (zK L) 178 0 (zcall 178 [.inr (.inr 2), .inl w, .inl i, .inl j, .inl b]) [] M Q = Q (.inr 0) (zthrown M) := by
  have e1 := fun Q => (c146 (L := L) (M := M) (Q := Q) (i := i) hR h01).trans (zyes h1)
  have e2 := fun Q => (c146 (L := L) (M := M) (Q := Q) (i := j) hR h01).trans (zyes h2)
  refine zFR_det (zW_sound 60 [34] ?_) Q
  simp only [ZF178, ZR178, zk_2, ZF146.1, ZF146.2.1, ZF146.2.2.1, e1, e2, zR1_p ZF178.2.2.1, zE_athrow, zW_succ, zE_iload, zE_aload, zE_lload, zE_iinc, zE_istore, zE_astore, zE_lstore, zE_iconst, zE_ldc2, zE_iadd, zE_isub, zE_imul, zE_idiv, zE_irem, zE_ineg, zE_iand, zE_ior, zE_ixor, zE_ishl, zE_ishr, zE_land, zE_lor, zE_lxor, zE_lshl, zE_lshr, zE_i2l, zE_lcmp, zE_dup_i, zE_dup_a, zE_dup2_ia, zE_pop_i, zE_pop_a, zE_pop2, zE_goto, zE_if_eq, zE_icmp_eq, zE_if_ne, zE_icmp_ne, zE_if_lt, zE_icmp_lt, zE_if_ge, zE_icmp_ge, zE_if_gt, zE_icmp_gt, zE_if_le, zE_icmp_le, zE_iaload, zE_baload, zE_laload, zE_aaload, zE_iastore, zE_bastore, zE_lastore, zE_aastore, zE_alen, zE_getf0, zE_getf1, zE_getf2, zE_getf3, zE_putf0, zE_putf1, zE_putf2, zE_putf3, zE_new, zE_newa, zE_newq, zE_ireturn, zE_lreturn, zE_areturn, zE_return, zE_athrow, zE_st0, zE_vi0, zE_st1, zE_vi1, zE_st2, zE_vi2, zE_st3, zE_vi3, zE_st4, zE_vi4, zE_st5, zE_vi5, zE_st6, zE_vi6, zE_st7, zE_vi7, zE_st8, zE_vi8, zSt_0, zSL_0, zSt_1n, zSt_1i, zSt_1a, zSt_1l, zSt_2n, zSt_2i, zSt_2a, zSt_2l, zSt_3n, zSt_3i, zSt_3a, zSt_3l, zSt_4n, zSt_4i, zSt_4a, zSt_4l, zSt_5n, zSt_5i, zSt_5a, zSt_5l, zSt_6n, zSt_6i, zSt_6a, zSt_6l, zSt_7n, zSt_7i, zSt_7a, zSt_7l, zSt_8n, zSt_8i, zSt_8a, zSt_8l, zSt_9n, zSt_9i, zSt_9a, zSt_9l, zSt_10n, zSt_10i, zSt_10a, zSt_10l, zSt_11n, zSt_11i, zSt_11a, zSt_11l, zSt_12n, zSt_12i, zSt_12a, zSt_12l, zSt_13n, zSt_13i, zSt_13a, zSt_13l, zSL_1n, zSL_1i, zSL_1a, zSL_1l, zSL_2n, zSL_2i, zSL_2a, zSL_2l, zSL_3n, zSL_3i, zSL_3a, zSL_3l, zSL_4n, zSL_4i, zSL_4a, zSL_4l, zSL_5n, zSL_5i, zSL_5a, zSL_5l, zSL_6n, zSL_6i, zSL_6a, zSL_6l, zSL_7n, zSL_7i, zSL_7a, zSL_7l, zSL_8n, zSL_8i, zSL_8a, zSL_8l, zSL_9n, zSL_9i, zSL_9a, zSL_9l, zSL_10n, zSL_10i, zSL_10a, zSL_10l, zSL_11n, zSL_11i, zSL_11a, zSL_11l, zSL_12n, zSL_12i, zSL_12a, zSL_12l, zLI_0, zLL_0, zLA_0, zLI_1, zLL_1, zLA_1, zLI_2, zLL_2, zLA_2, zLI_3, zLL_3, zLA_3, zLI_4, zLL_4, zLA_4, zLI_5, zLL_5, zLA_5, zLI_6, zLL_6, zLA_6, zLI_7, zLL_7, zLA_7, zLI_8, zLL_8, zLA_8, zLI_9, zLL_9, zLA_9, zLI_10, zLL_10, zLA_10, zLI_11, zLL_11, zLA_11, zLI_12, zLL_12, zLA_12, zLI_13, zLL_13, zLA_13, zst_0, zst_1n, zst_1i, zst_1a, zst_2n, zst_2i, zst_2a, zst_3n, zst_3i, zst_3a, zst_4n, zst_4i, zst_4a, zst_5n, zst_5i, zst_5a, zst_6n, zst_6i, zst_6a, zst_7n, zst_7i, zst_7a, zst_8n, zst_8i, zst_8a, zst_9n, zst_9i, zst_9a, zst_10n, zst_10i, zst_10a, zst_11n, zst_11i, zst_11a, zst_12n, zst_12i, zst_12a, zst_13n, zst_13i, zst_13a, zst_14n, zst_14i, zst_14a, zst_15n, zst_15i, zst_15a, zR1_n, zR1_v, zsum_n, zsum_i, zsum_l, zsum_a, zlen_n, zlen_i, zlen_l, zlen_a, List.not_mem_nil, List.mem_cons, or_false, false_or, or_self, ↓reduceIte, if_false, if_true, Nat.reduceEqDiff, Nat.reduceAdd, Nat.reduceLeDiff, true_and, and_true, reduceCtorEq, ne_eq, Int.toNat_natCast, not_true_eq_false, not_false_eq_true, true_implies, false_implies, implies_true, Int.reduceToNat, Int.toNat_zero, Int.reduceLT, Int.reduceLE, Int.reduceEq, Int.reduceAdd, Int.reduceMul, Int.reduceNeg]
  (repeat' (first | with_reducible refine And.intro ?_ ?_ | with_reducible intro _)) <;> try first | with_reducible rfl | with_reducible assumption | omega | (unfold zr32; omega) | contradiction | (exact absurd (by omega) (by assumption)) | rfl | (simp only [Sum.inl.injEq, Option.some.injEq]; omega)
theorem c178_g {w b : Int} {T : Nat} {f' : Nat → Nat → Int} (hR : zLay M.2.2.2) (h01 : ∀ k : Nat, k < 60 → M.2.1 (14 + 14 * k) 0 = 0 ∨ M.2.1 (14 + 14 * k) 0 = 1) (h1 : zth M.2.1 (s : Int)) (h2 : zth M.2.1 (t : Int)) (hw : 0 ≤ w ∧ w ≤ 3) (e105 : ∀ Q : zO → zM → Prop, zFR (zK L) 105 0 (zcall 105 [.inr (.inr 1105), .inr (.inr (14 + 14 * s)), .inr (.inr (14 + 14 * t))]) [] M Q = Q (.inl none) (zwI M f')) (e6 : f' 1106 w.toNat = (T : Int)) (hT : T < 2147483648) : zFR (zK L) 178 0 (zcall 178 [.inr (.inr 2), .inl w, .inl (s : Int), .inl (t : Int), .inl b]) [] M Q = Q (.inl (some (.inl (zltm T 14400 b : Int)))) (zwI M f') := by
  have hF := hR.1
  unfold zLayF at hF
  have e1 := fun Q => (c146 (L := L) (M := M) (Q := Q) (i := (s : Int)) hR h01).trans (zyes h1)
  have e2 := fun Q => (c146 (L := L) (M := M) (Q := Q) (i := (t : Int)) hR h01).trans (zyes h2)
  rw [Int.toNat_natCast] at e1 e2
  have e112 : ∀ Q : zO → zM → Prop, zFR (zK L) 112 0 (zcall 112 [.inl (T : Int), .inl 14400, .inl b]) [] (zwI M f') Q = Q (.inl (some (.inl (zltm T 14400 b : Int)))) (zwI M f') := fun Q => c112 (b := 14400) hT (by omega)
  refine zFR_det (zW_sound 60 [23] ?_) Q
  simp only [ZF178, ZR178, zk_2, zk_1105, zk_1106, hF, zwI_2, zwI_I, e6, ZF146.1, ZF146.2.1, ZF146.2.2.1, ZF105.1, ZF105.2.1, ZF105.2.2.1, ZF112.1, ZF112.2.1, ZF112.2.2.1, e1, e2, e105, e112, zR1_p ZF178.2.2.1, zW_succ, zE_iload, zE_aload, zE_lload, zE_iinc, zE_istore, zE_astore, zE_lstore, zE_iconst, zE_ldc2, zE_iadd, zE_isub, zE_imul, zE_idiv, zE_irem, zE_ineg, zE_iand, zE_ior, zE_ixor, zE_ishl, zE_ishr, zE_land, zE_lor, zE_lxor, zE_lshl, zE_lshr, zE_i2l, zE_lcmp, zE_dup_i, zE_dup_a, zE_dup2_ia, zE_pop_i, zE_pop_a, zE_pop2, zE_goto, zE_if_eq, zE_icmp_eq, zE_if_ne, zE_icmp_ne, zE_if_lt, zE_icmp_lt, zE_if_ge, zE_icmp_ge, zE_if_gt, zE_icmp_gt, zE_if_le, zE_icmp_le, zE_iaload, zE_baload, zE_laload, zE_aaload, zE_iastore, zE_bastore, zE_lastore, zE_aastore, zE_alen, zE_getf0, zE_getf1, zE_getf2, zE_getf3, zE_putf0, zE_putf1, zE_putf2, zE_putf3, zE_new, zE_newa, zE_newq, zE_ireturn, zE_lreturn, zE_areturn, zE_return, zE_athrow, zE_st0, zE_vi0, zE_st1, zE_vi1, zE_st2, zE_vi2, zE_st3, zE_vi3, zE_st4, zE_vi4, zE_st5, zE_vi5, zE_st6, zE_vi6, zE_st7, zE_vi7, zE_st8, zE_vi8, zSt_0, zSL_0, zSt_1n, zSt_1i, zSt_1a, zSt_1l, zSt_2n, zSt_2i, zSt_2a, zSt_2l, zSt_3n, zSt_3i, zSt_3a, zSt_3l, zSt_4n, zSt_4i, zSt_4a, zSt_4l, zSt_5n, zSt_5i, zSt_5a, zSt_5l, zSt_6n, zSt_6i, zSt_6a, zSt_6l, zSt_7n, zSt_7i, zSt_7a, zSt_7l, zSt_8n, zSt_8i, zSt_8a, zSt_8l, zSt_9n, zSt_9i, zSt_9a, zSt_9l, zSt_10n, zSt_10i, zSt_10a, zSt_10l, zSt_11n, zSt_11i, zSt_11a, zSt_11l, zSt_12n, zSt_12i, zSt_12a, zSt_12l, zSt_13n, zSt_13i, zSt_13a, zSt_13l, zSL_1n, zSL_1i, zSL_1a, zSL_1l, zSL_2n, zSL_2i, zSL_2a, zSL_2l, zSL_3n, zSL_3i, zSL_3a, zSL_3l, zSL_4n, zSL_4i, zSL_4a, zSL_4l, zSL_5n, zSL_5i, zSL_5a, zSL_5l, zSL_6n, zSL_6i, zSL_6a, zSL_6l, zSL_7n, zSL_7i, zSL_7a, zSL_7l, zSL_8n, zSL_8i, zSL_8a, zSL_8l, zSL_9n, zSL_9i, zSL_9a, zSL_9l, zSL_10n, zSL_10i, zSL_10a, zSL_10l, zSL_11n, zSL_11i, zSL_11a, zSL_11l, zSL_12n, zSL_12i, zSL_12a, zSL_12l, zLI_0, zLL_0, zLA_0, zLI_1, zLL_1, zLA_1, zLI_2, zLL_2, zLA_2, zLI_3, zLL_3, zLA_3, zLI_4, zLL_4, zLA_4, zLI_5, zLL_5, zLA_5, zLI_6, zLL_6, zLA_6, zLI_7, zLL_7, zLA_7, zLI_8, zLL_8, zLA_8, zLI_9, zLL_9, zLA_9, zLI_10, zLL_10, zLA_10, zLI_11, zLL_11, zLA_11, zLI_12, zLL_12, zLA_12, zLI_13, zLL_13, zLA_13, zst_0, zst_1n, zst_1i, zst_1a, zst_2n, zst_2i, zst_2a, zst_3n, zst_3i, zst_3a, zst_4n, zst_4i, zst_4a, zst_5n, zst_5i, zst_5a, zst_6n, zst_6i, zst_6a, zst_7n, zst_7i, zst_7a, zst_8n, zst_8i, zst_8a, zst_9n, zst_9i, zst_9a, zst_10n, zst_10i, zst_10a, zst_11n, zst_11i, zst_11a, zst_12n, zst_12i, zst_12a, zst_13n, zst_13i, zst_13a, zst_14n, zst_14i, zst_14a, zst_15n, zst_15i, zst_15a, zR1_n, zR1_v, zsum_n, zsum_i, zsum_l, zsum_a, zlen_n, zlen_i, zlen_l, zlen_a, List.not_mem_nil, List.mem_cons, or_false, false_or, or_self, ↓reduceIte, if_false, if_true, Nat.reduceEqDiff, Nat.reduceAdd, Nat.reduceLeDiff, true_and, and_true, reduceCtorEq, ne_eq, Int.toNat_natCast, not_true_eq_false, not_false_eq_true, true_implies, false_implies, implies_true, Int.reduceToNat, Int.toNat_zero, Int.reduceLT, Int.reduceLE, Int.reduceEq, Int.reduceAdd, Int.reduceMul, Int.reduceNeg]
  (repeat' (first | with_reducible refine And.intro ?_ ?_ | with_reducible intro _)) <;> try first | with_reducible rfl | with_reducible assumption | omega | (unfold zr32; omega) | contradiction | (exact absurd (by omega) (by assumption)) | rfl | (simp only [Sum.inl.injEq, Option.some.injEq]; omega)
theorem zqA_178 (hW : zqW m M) (c2 : cc 2 = 1) (c0 : cc 0 = 2) {w i j b : Int} : zqAg L M 178 [.inr (.inr 2), .inl w, .inl i, .inl j, .inl b] 311 [.inr (.inr 1153), .inl w, .inl i, .inl j, .inl b] cc := by
  have hR := hW.1.1
  have rel := hW.1.2.1
  have h01 := zqR_01 rel
  by_cases k0 : zth M.2.1 i ∧ zth M.2.1 j
  · obtain ⟨k1, k2⟩ := k0
    by_cases k3 : 0 ≤ w ∧ w ≤ 3
    · obtain ⟨s, rfl, hs, ts, se, so⟩ := zqsh hW k1
      obtain ⟨t, rfl, ht, tt, te, to⟩ := zqsh hW k2
      obtain ⟨x1, hx1⟩ : ∃ c : Nat, M.2.1 1174 s = (c : Int) := ⟨(M.2.1 1174 s).toNat, by have := so.1; omega⟩
      obtain ⟨x2, hx2⟩ : ∃ c : Nat, M.2.1 1174 t = (c : Int) := ⟨(M.2.1 1174 t).toNat, by have := to.1; omega⟩
      have x14 : x1 ≤ 4 := by have := so.1; omega
      have x24 : x2 ≤ 4 := by have := to.1; omega
      have sw1 := zqO_sw so
      have sw2 := zqO_sw to
      obtain ⟨r, M2, ⟨f', hr, hM, tot, z14, sw⟩, e105⟩ := zFRx (c105 (L := L) (M := M) (s := 14 + 14 * s) (t := 14 + 14 * t) (c1 := x1) (c2 := x2) (f := M.2.1) hR (zShA_i hs) (zShA_i ht) (zqE_sw se so) (zqE_sw te to) (by rw [se.2.1, hx1]) (by rw [te.2.1, hx2]) (zqSPc se so hx1) (zqSPc te to hx2) hW.2.2.2.2.2.1)
      subst hr hM
      have eE : zE2 M.2.1 (14 + 14 * s) (14 + 14 * t) x1 x2 = zeS (zrN M.2.1 s) (zrX M.2.1 s) (zrY M.2.1 s) 0 x1 ++ zeS (zrN M.2.1 t) (zrX M.2.1 t) (zrY M.2.1 t) x1 x2 := by
        unfold zE2
        rw [zqeS se so hx1, zqeS te to hx2]
      have hA := (zEA_2 x14 x24 (zqSP so hx1) (zqSP to hx2)).1
      obtain ⟨T, hT, hT2⟩ := zTot_r hA (zgl w (M.2.1 1175 s) (M.2.1 1175 t) x1)
      have e6 : f' 1106 w.toNat = (T : Int) := by
        rw [tot w.toNat (by omega), eE, se.1, te.1, Int.toNat_of_nonneg k3.1]
        exact hT
      have kp : ∀ b j, b ≠ 5 → b ≠ 9 → b ≠ 10 → (b < 1098 ∨ (1101 ≤ b ∧ b < 1105) ∨ b = 1114 ∨ b = 1123 ∨ b = 1138 ∨ (1154 ≤ b ∧ b < 1184) ∨ (b = 1153 ∧ (j = 3 ∨ j = 5 ∨ j = 7 ∨ j = 8 ∨ j = 33))) → f' b j = M.2.1 b j := fun b j _ _ _ hb => by
        by_cases q : b = 1114
        · subst q
          rw [z14 j, hW.2.2.2.2.2.1 j]
        · rw [sw b (by omega)]
      refine zqAg_ok (m' := m) (fun Q => c178_g hR h01 k1 k2 k3 e105 e6 hT2) rfl rfl rfl (fun B b1 b2 b3 => ?_)
      have b1' : B.2.1 = f' := b1
      have bn : ∀ b j, 1153 ≤ b → B.2.1 b j = M.2.1 b j := fun b j hb => by rw [b1', sw b (by omega)]
      have tw : ∀ b, b ≠ 1153 → 1153 ≤ b → zrtw B.2.1 0 b = M.2.1 b := fun b h1 h2 => funext fun j => (zrtw_a h1).trans (bn b j h2)
      have eN : ∀ v, zrN (zrtw B.2.1 0) v = zrN M.2.1 v ∧ zrX (zrtw B.2.1 0) v = zrX M.2.1 v ∧ zrY (zrtw B.2.1 0) v = zrY M.2.1 v := fun v => zr_view (tw 1176 (by omega) (by omega)) (tw 1177 (by omega) (by omega)) (tw 1178 (by omega) (by omega)) v
      have h66 : B.2.1 1166 = M.2.1 1166 := funext fun j => bn _ _ (by omega)
      obtain ⟨r2, M3, ⟨g', T2, hr2, hM3, hT3, fr1, fr2⟩, e311⟩ := zFRx (c311_g (L := L) (M := B) (s := s) (t := t) (c1 := x1) (c2 := x2) (w := w) (b := b) (f := zrtw B.2.1 0) (by rw [b3]; exact hR) (fun k hk => by rw [h66]; exact zqR_r01 rel k hk) ⟨by omega, by omega, by rw [h66, Int.toNat_natCast]; exact ts⟩ ⟨by omega, by omega, by rw [h66, Int.toNat_natCast]; exact tt⟩ k3 rfl (by rw [tw 1174 (by omega) (by omega)]; exact hx1) (by rw [tw 1174 (by omega) (by omega)]; exact hx2) x14 x24 (by rw [tw 1175 (by omega) (by omega)]; exact sw1.2.1) (by rw [tw 1175 (by omega) (by omega)]; exact sw2.2.1) (by rw [(eN s).1, (eN s).2.1, (eN s).2.2]; exact zqSP so hx1) (by rw [(eN t).1, (eN t).2.1, (eN t).2.2]; exact zqSP to hx2))
      subst hr2 hM3
      have eT : T2 = T := by
        unfold zrE2 at hT3
        rw [(eN s).1, (eN s).2.1, (eN s).2.2, (eN t).1, (eN t).2.1, (eN t).2.2, if_neg (by omega), tw 1175 (by omega) (by omega)] at hT3
        have eg : zg3 w (M.2.1 1175 s) (M.2.1 1175 t) x1 = zgl w (M.2.1 1175 s) (M.2.1 1175 t) x1 := funext fun st => by
          unfold zg3
          rw [if_neg (by omega)]
        rw [eg, hT] at hT3
        omega
      rw [eT] at e311
      refine ⟨zwI B g', e311, rfl, rfl, zqW_t hW b3 b2 (fun b j q1 q2 q3 q4 => ?_), ?_⟩
      · show g' b j = _
        by_cases q : b = 1153
        · subst q
          rw [fr2 j (by omega)]
          unfold zrtw
          rw [zu2_sj (by omega)]
          exact bn _ _ (by omega)
        · rw [fr1 b q (by omega), zrtw_a q, b1']
          exact kp b j q1 q2 q3 q4
      · show g' 1153 0 = 0
        rw [fr2 0 (by omega)]
        exact zu2_eq _ _ _ _
    · exact zqAg_no (e := 0) (d := 2) hW (by omega) (fun Q => c178_1 hR h01 k1 k2 k3) (.inl 0) (fun B b1 b2 Q => c311_2 (by rw [b2]; exact hR) (by rw [b1]; exact zqR_r01 rel) ((zqth_iff hW b1).mp k1) ((zqth_iff hW b1).mp k2) k3) c0
  · exact zqAg_no (e := 2) (d := 1) hW (by omega) (fun Q => c178_0 hR h01 k0) (.inl 0) (fun B b1 b2 Q => c311_1 (by rw [b2]; exact hR) (by rw [b1]; exact zqR_r01 rel) (fun k => k0 ⟨(zqth_iff hW b1).mpr k.1, (zqth_iff hW b1).mpr k.2⟩)) c2
end ZAREAQ
/-! the area of one shape -/
section ZAREA1Q
variable {L m n : Nat} {M B : zM} {s t : Nat} {Q : zO → zM → Prop} {f g : Nat → Nat → Int} {cc : Nat → Int}
theorem c177_0 {i b : Int} (hR : zLay M.2.2.2) (h01 : ∀ k : Nat, k < 60 → M.2.1 (14 + 14 * k) 0 = 0 ∨ M.2.1 (14 + 14 * k) 0 = 1) (hn : ¬ zth M.2.1 i) : zFR (zK L) 177 0 (zcall 177 [.inr (.inr 2), .inl i, .inl b]) [] M Q = Q (.inr 2) (zthrown M) := by
  have e1 := fun Q => (c146 (L := L) (M := M) (Q := Q) (i := i) hR h01).trans (znot hn)
  refine zFR_det (zW_sound 60 [] ?_) Q
  simp only [ZF177, ZR177, zk_2, ZF146.1, ZF146.2.1, ZF146.2.2.1, e1, zR1_p ZF177.2.2.1, zW_succ, zE_iload, zE_aload, zE_lload, zE_iinc, zE_istore, zE_astore, zE_lstore, zE_iconst, zE_ldc2, zE_iadd, zE_isub, zE_imul, zE_idiv, zE_irem, zE_ineg, zE_iand, zE_ior, zE_ixor, zE_ishl, zE_ishr, zE_land, zE_lor, zE_lxor, zE_lshl, zE_lshr, zE_i2l, zE_lcmp, zE_dup_i, zE_dup_a, zE_dup2_ia, zE_pop_i, zE_pop_a, zE_pop2, zE_goto, zE_if_eq, zE_icmp_eq, zE_if_ne, zE_icmp_ne, zE_if_lt, zE_icmp_lt, zE_if_ge, zE_icmp_ge, zE_if_gt, zE_icmp_gt, zE_if_le, zE_icmp_le, zE_iaload, zE_baload, zE_laload, zE_aaload, zE_iastore, zE_bastore, zE_lastore, zE_aastore, zE_alen, zE_getf0, zE_getf1, zE_getf2, zE_getf3, zE_putf0, zE_putf1, zE_putf2, zE_putf3, zE_new, zE_newa, zE_newq, zE_ireturn, zE_lreturn, zE_areturn, zE_return, zE_athrow, zE_st0, zE_vi0, zE_st1, zE_vi1, zE_st2, zE_vi2, zE_st3, zE_vi3, zE_st4, zE_vi4, zE_st5, zE_vi5, zE_st6, zE_vi6, zE_st7, zE_vi7, zE_st8, zE_vi8, zSt_0, zSL_0, zSt_1n, zSt_1i, zSt_1a, zSt_1l, zSt_2n, zSt_2i, zSt_2a, zSt_2l, zSt_3n, zSt_3i, zSt_3a, zSt_3l, zSt_4n, zSt_4i, zSt_4a, zSt_4l, zSt_5n, zSt_5i, zSt_5a, zSt_5l, zSt_6n, zSt_6i, zSt_6a, zSt_6l, zSt_7n, zSt_7i, zSt_7a, zSt_7l, zSt_8n, zSt_8i, zSt_8a, zSt_8l, zSt_9n, zSt_9i, zSt_9a, zSt_9l, zSt_10n, zSt_10i, zSt_10a, zSt_10l, zSt_11n, zSt_11i, zSt_11a, zSt_11l, zSt_12n, zSt_12i, zSt_12a, zSt_12l, zSt_13n, zSt_13i, zSt_13a, zSt_13l, zSL_1n, zSL_1i, zSL_1a, zSL_1l, zSL_2n, zSL_2i, zSL_2a, zSL_2l, zSL_3n, zSL_3i, zSL_3a, zSL_3l, zSL_4n, zSL_4i, zSL_4a, zSL_4l, zSL_5n, zSL_5i, zSL_5a, zSL_5l, zSL_6n, zSL_6i, zSL_6a, zSL_6l, zSL_7n, zSL_7i, zSL_7a, zSL_7l, zSL_8n, zSL_8i, zSL_8a, zSL_8l, zSL_9n, zSL_9i, zSL_9a, zSL_9l, zSL_10n, zSL_10i, zSL_10a, zSL_10l, zSL_11n, zSL_11i, zSL_11a, zSL_11l, zSL_12n, zSL_12i, zSL_12a, zSL_12l, zLI_0, zLL_0, zLA_0, zLI_1, zLL_1, zLA_1, zLI_2, zLL_2, zLA_2, zLI_3, zLL_3, zLA_3, zLI_4, zLL_4, zLA_4, zLI_5, zLL_5, zLA_5, zLI_6, zLL_6, zLA_6, zLI_7, zLL_7, zLA_7, zLI_8, zLL_8, zLA_8, zLI_9, zLL_9, zLA_9, zLI_10, zLL_10, zLA_10, zLI_11, zLL_11, zLA_11, zLI_12, zLL_12, zLA_12, zLI_13, zLL_13, zLA_13, zst_0, zst_1n, zst_1i, zst_1a, zst_2n, zst_2i, zst_2a, zst_3n, zst_3i, zst_3a, zst_4n, zst_4i, zst_4a, zst_5n, zst_5i, zst_5a, zst_6n, zst_6i, zst_6a, zst_7n, zst_7i, zst_7a, zst_8n, zst_8i, zst_8a, zst_9n, zst_9i, zst_9a, zst_10n, zst_10i, zst_10a, zst_11n, zst_11i, zst_11a, zst_12n, zst_12i, zst_12a, zst_13n, zst_13i, zst_13a, zst_14n, zst_14i, zst_14a, zst_15n, zst_15i, zst_15a, zR1_n, zR1_v, zsum_n, zsum_i, zsum_l, zsum_a, zlen_n, zlen_i, zlen_l, zlen_a, List.not_mem_nil, List.mem_cons, or_false, false_or, or_self, ↓reduceIte, if_false, if_true, Nat.reduceEqDiff, Nat.reduceAdd, Nat.reduceLeDiff, true_and, and_true, reduceCtorEq, ne_eq, Int.toNat_natCast, not_true_eq_false, not_false_eq_true, true_implies, false_implies, implies_true, Int.reduceToNat, Int.toNat_zero, Int.reduceLT, Int.reduceLE, Int.reduceEq, Int.reduceAdd, Int.reduceMul, Int.reduceNeg]
theorem c177_g {b : Int} {T : Nat} {f' : Nat → Nat → Int} (hR : zLay M.2.2.2) (h01 : ∀ k : Nat, k < 60 → M.2.1 (14 + 14 * k) 0 = 0 ∨ M.2.1 (14 + 14 * k) 0 = 1) (h1 : zth M.2.1 (s : Int)) (e105 : ∀ Q : zO → zM → Prop, zFR (zK L) 105 0 (zcall 105 [.inr (.inr 1105), .inr (.inr (14 + 14 * s)), .inr (.inr 1138)]) [] M Q = Q (.inl none) (zwI M f')) (e6 : f' 1106 0 = (T : Int)) (hT : T < 2147483648) : zFR (zK L) 177 0 (zcall 177 [.inr (.inr 2), .inl (s : Int), .inl b]) [] M Q = Q (.inl (some (.inl (zltm T 14400 b : Int)))) (zwI M f') := by
  have hF := hR.1
  unfold zLayF at hF
  have e1 := fun Q => (c146 (L := L) (M := M) (Q := Q) (i := (s : Int)) hR h01).trans (zyes h1)
  rw [Int.toNat_natCast] at e1
  have e112 : ∀ Q : zO → zM → Prop, zFR (zK L) 112 0 (zcall 112 [.inl (T : Int), .inl 14400, .inl b]) [] (zwI M f') Q = Q (.inl (some (.inl (zltm T 14400 b : Int)))) (zwI M f') := fun Q => c112 (b := 14400) hT (by omega)
  refine zFR_det (zW_sound 60 [] ?_) Q
  simp only [ZF177, ZR177, zk_2, zk_1105, zk_1106, hF, zwI_2, zwI_I, Int.reduceToNat, e6, ZF146.1, ZF146.2.1, ZF146.2.2.1, ZF105.1, ZF105.2.1, ZF105.2.2.1, ZF112.1, ZF112.2.1, ZF112.2.2.1, e1, e105, e112, zR1_p ZF177.2.2.1, zW_succ, zE_iload, zE_aload, zE_lload, zE_iinc, zE_istore, zE_astore, zE_lstore, zE_iconst, zE_ldc2, zE_iadd, zE_isub, zE_imul, zE_idiv, zE_irem, zE_ineg, zE_iand, zE_ior, zE_ixor, zE_ishl, zE_ishr, zE_land, zE_lor, zE_lxor, zE_lshl, zE_lshr, zE_i2l, zE_lcmp, zE_dup_i, zE_dup_a, zE_dup2_ia, zE_pop_i, zE_pop_a, zE_pop2, zE_goto, zE_if_eq, zE_icmp_eq, zE_if_ne, zE_icmp_ne, zE_if_lt, zE_icmp_lt, zE_if_ge, zE_icmp_ge, zE_if_gt, zE_icmp_gt, zE_if_le, zE_icmp_le, zE_iaload, zE_baload, zE_laload, zE_aaload, zE_iastore, zE_bastore, zE_lastore, zE_aastore, zE_alen, zE_getf0, zE_getf1, zE_getf2, zE_getf3, zE_putf0, zE_putf1, zE_putf2, zE_putf3, zE_new, zE_newa, zE_newq, zE_ireturn, zE_lreturn, zE_areturn, zE_return, zE_athrow, zE_st0, zE_vi0, zE_st1, zE_vi1, zE_st2, zE_vi2, zE_st3, zE_vi3, zE_st4, zE_vi4, zE_st5, zE_vi5, zE_st6, zE_vi6, zE_st7, zE_vi7, zE_st8, zE_vi8, zSt_0, zSL_0, zSt_1n, zSt_1i, zSt_1a, zSt_1l, zSt_2n, zSt_2i, zSt_2a, zSt_2l, zSt_3n, zSt_3i, zSt_3a, zSt_3l, zSt_4n, zSt_4i, zSt_4a, zSt_4l, zSt_5n, zSt_5i, zSt_5a, zSt_5l, zSt_6n, zSt_6i, zSt_6a, zSt_6l, zSt_7n, zSt_7i, zSt_7a, zSt_7l, zSt_8n, zSt_8i, zSt_8a, zSt_8l, zSt_9n, zSt_9i, zSt_9a, zSt_9l, zSt_10n, zSt_10i, zSt_10a, zSt_10l, zSt_11n, zSt_11i, zSt_11a, zSt_11l, zSt_12n, zSt_12i, zSt_12a, zSt_12l, zSt_13n, zSt_13i, zSt_13a, zSt_13l, zSL_1n, zSL_1i, zSL_1a, zSL_1l, zSL_2n, zSL_2i, zSL_2a, zSL_2l, zSL_3n, zSL_3i, zSL_3a, zSL_3l, zSL_4n, zSL_4i, zSL_4a, zSL_4l, zSL_5n, zSL_5i, zSL_5a, zSL_5l, zSL_6n, zSL_6i, zSL_6a, zSL_6l, zSL_7n, zSL_7i, zSL_7a, zSL_7l, zSL_8n, zSL_8i, zSL_8a, zSL_8l, zSL_9n, zSL_9i, zSL_9a, zSL_9l, zSL_10n, zSL_10i, zSL_10a, zSL_10l, zSL_11n, zSL_11i, zSL_11a, zSL_11l, zSL_12n, zSL_12i, zSL_12a, zSL_12l, zLI_0, zLL_0, zLA_0, zLI_1, zLL_1, zLA_1, zLI_2, zLL_2, zLA_2, zLI_3, zLL_3, zLA_3, zLI_4, zLL_4, zLA_4, zLI_5, zLL_5, zLA_5, zLI_6, zLL_6, zLA_6, zLI_7, zLL_7, zLA_7, zLI_8, zLL_8, zLA_8, zLI_9, zLL_9, zLA_9, zLI_10, zLL_10, zLA_10, zLI_11, zLL_11, zLA_11, zLI_12, zLL_12, zLA_12, zLI_13, zLL_13, zLA_13, zst_0, zst_1n, zst_1i, zst_1a, zst_2n, zst_2i, zst_2a, zst_3n, zst_3i, zst_3a, zst_4n, zst_4i, zst_4a, zst_5n, zst_5i, zst_5a, zst_6n, zst_6i, zst_6a, zst_7n, zst_7i, zst_7a, zst_8n, zst_8i, zst_8a, zst_9n, zst_9i, zst_9a, zst_10n, zst_10i, zst_10a, zst_11n, zst_11i, zst_11a, zst_12n, zst_12i, zst_12a, zst_13n, zst_13i, zst_13a, zst_14n, zst_14i, zst_14a, zst_15n, zst_15i, zst_15a, zR1_n, zR1_v, zsum_n, zsum_i, zsum_l, zsum_a, zlen_n, zlen_i, zlen_l, zlen_a, List.not_mem_nil, List.mem_cons, or_false, false_or, or_self, ↓reduceIte, if_false, if_true, Nat.reduceEqDiff, Nat.reduceAdd, Nat.reduceLeDiff, true_and, and_true, reduceCtorEq, ne_eq, Int.toNat_natCast, not_true_eq_false, not_false_eq_true, true_implies, false_implies, implies_true, Int.reduceToNat, Int.toNat_zero, Int.reduceLT, Int.reduceLE, Int.reduceEq, Int.reduceAdd, Int.reduceMul, Int.reduceNeg]
  all_goals ((repeat' (first | with_reducible refine And.intro ?_ ?_ | with_reducible intro _)) <;> try first | with_reducible rfl | with_reducible assumption | omega | (unfold zr32; omega) | contradiction | (exact absurd (by omega) (by assumption)) | rfl | (simp only [Sum.inl.injEq, Option.some.injEq]; omega))
theorem zqA_177 (hW : zqW m M) (c2 : cc 2 = 1) {i b : Int} : zqAg L M 177 [.inr (.inr 2), .inl i, .inl b] 308 [.inr (.inr 1153), .inl i, .inl b] cc := by
  have hR := hW.1.1
  have rel := hW.1.2.1
  have h01 := zqR_01 rel
  by_cases k1 : zth M.2.1 i
  · obtain ⟨s, rfl, hs, ts, se, so⟩ := zqsh hW k1
    obtain ⟨x1, hx1⟩ : ∃ c : Nat, M.2.1 1174 s = (c : Int) := ⟨(M.2.1 1174 s).toNat, by have := so.1; omega⟩
    have x14 : x1 ≤ 4 := by have := so.1; omega
    have sw1 := zqO_sw so
    obtain ⟨z23, z14m, z10, z9⟩ := hW.2.2.2.2
    have wt : zSw M.2.1 1138 := ⟨by rw [z10]; omega, by rw [z9]; omega, fun p hp => by rw [z10] at hp; omega⟩
    obtain ⟨r, M2, ⟨f', hr, hM, tot, z14, sw⟩, e105⟩ := zFRx (c105 (L := L) (M := M) (s := 14 + 14 * s) (t := 1138) (c1 := x1) (c2 := 0) (f := M.2.1) hR (zShA_i hs) (Or.inr (Or.inr rfl)) (zqE_sw se so) wt (by rw [se.2.1, hx1]) z10 (zqSPc se so hx1) (fun p hp => absurd hp (Nat.not_lt_zero p)) z14m)
    subst hr hM
    have eE : zE2 M.2.1 (14 + 14 * s) 1138 x1 0 = zeS (zrN M.2.1 s) (zrX M.2.1 s) (zrY M.2.1 s) 0 x1 ++ [] := by
      unfold zE2
      rw [zqeS se so hx1]
      rfl
    have hA : zEA (zeS (zrN M.2.1 s) (zrX M.2.1 s) (zrY M.2.1 s) 0 x1 ++ []) := (zEA_2 (n' := zrN M.2.1 s) (X' := zrX M.2.1 s) (Y' := zrY M.2.1 s) (c2 := 0) x14 (by omega) (zqSP so hx1) (fun p hp => absurd hp (Nat.not_lt_zero p))).1
    obtain ⟨T, hT, hT2⟩ := zTot_r hA (zg3 (-1) (M.2.1 1175 s) (M.2.1 1175 s) x1)
    have eg : zgl ((0 : Nat) : Int) (M.2.1 1175 s) 0 x1 = zg3 (-1) (M.2.1 1175 s) (M.2.1 1175 s) x1 := funext fun st => by
      unfold zg3 zgl zlawb
      rw [if_pos (show (-1 : Int) < 0 by omega), if_pos (show ((0 : Nat) : Int) = 0 from rfl)]
      have z : zhsb 0 (st / 2 ^ x1) = false := by
        unfold zhsb
        refine decide_eq_false (fun h => ?_)
        rw [show (0 : Int).toNat = 0 from rfl, Nat.zero_div] at h
        exact absurd h (by decide)
      rw [z, Bool.or_false]
    have e6 : f' 1106 0 = (T : Int) := by
      rw [tot 0 (by omega), eE, se.1, z9, eg]
      exact hT
    have kp : ∀ b j, b ≠ 5 → b ≠ 9 → b ≠ 10 → (b < 1098 ∨ (1101 ≤ b ∧ b < 1105) ∨ b = 1114 ∨ b = 1123 ∨ b = 1138 ∨ (1154 ≤ b ∧ b < 1184) ∨ (b = 1153 ∧ (j = 3 ∨ j = 5 ∨ j = 7 ∨ j = 8 ∨ j = 33))) → f' b j = M.2.1 b j := fun b j _ _ _ hb => by
      by_cases q : b = 1114
      · subst q
        rw [z14 j, z14m j]
      · rw [sw b (by omega)]
    refine zqAg_ok (m' := m) (fun Q => c177_g hR h01 k1 e105 e6 hT2) rfl rfl rfl (fun B b1 b2 b3 => ?_)
    have b1' : B.2.1 = f' := b1
    have bn : ∀ b j, 1153 ≤ b → B.2.1 b j = M.2.1 b j := fun b j hb => by rw [b1', sw b (by omega)]
    have tw : ∀ b, b ≠ 1153 → 1153 ≤ b → zrtw B.2.1 0 b = M.2.1 b := fun b h1 h2 => funext fun j => (zrtw_a h1).trans (bn b j h2)
    obtain ⟨eN, eX, eY⟩ := zr_view (f := M.2.1) (g := zrtw B.2.1 0) (tw 1176 (by omega) (by omega)) (tw 1177 (by omega) (by omega)) (tw 1178 (by omega) (by omega)) s
    have h66 : B.2.1 1166 = M.2.1 1166 := funext fun j => bn _ _ (by omega)
    obtain ⟨r2, M3, ⟨g', T2, hr2, hM3, hT3, fr1, fr2⟩, e308⟩ := zFRx (c308_g (L := L) (M := B) (s := s) (c1 := x1) (b := b) (f := zrtw B.2.1 0) (by rw [b3]; exact hR) (fun k hk => by rw [h66]; exact zqR_r01 rel k hk) ⟨by omega, by omega, by rw [h66, Int.toNat_natCast]; exact ts⟩ rfl (by rw [tw 1174 (by omega) (by omega)]; exact hx1) x14 (by rw [tw 1175 (by omega) (by omega)]; exact sw1.2.1) (by rw [eN, eX, eY]; exact zqSP so hx1))
    subst hr2 hM3
    have eT : T2 = T := by
      unfold zrE2 at hT3
      rw [eN, eX, eY, if_pos (show (-1 : Int) < 0 by omega), tw 1175 (by omega) (by omega), hT] at hT3
      omega
    rw [eT] at e308
    refine ⟨zwI B g', e308, rfl, rfl, zqW_t hW b3 b2 (fun b j q1 q2 q3 q4 => ?_), ?_⟩
    · show g' b j = _
      by_cases q : b = 1153
      · subst q
        rw [fr2 j (by omega)]
        unfold zrtw
        rw [zu2_sj (by omega)]
        exact bn _ _ (by omega)
      · rw [fr1 b q (by omega), zrtw_a q, b1']
        exact kp b j q1 q2 q3 q4
    · show g' 1153 0 = 0
      rw [fr2 0 (by omega)]
      exact zu2_eq _ _ _ _
  · exact zqAg_no (e := 2) (d := 1) hW (by omega) (fun Q => c177_0 hR h01 k1) (.inl 0) (fun B b1 b2 Q => c308_1 (by rw [b2]; exact hR) (by rw [b1]; exact zqR_r01 rel) (fun k => k1 ((zqth_iff hW b1).mpr k))) c2
end ZAREA1Q
/-! two rows in order, of the same members -/
section ZSAMEQ
theorem zsame {a b : Nat → Int} {n m : Nat} (ha : ∀ i j, i < j → j < n → a i < a j) (hb : ∀ i j, i < j → j < m → b i < b j) (h : ∀ w, (∃ j, j < n ∧ a j = w) ↔ (∃ j, j < m ∧ b j = w)) : n = m ∧ ∀ i, i < n → a i = b i := by
  have key : ∀ K i, i < K → (i < n → i < m ∧ a i = b i) ∧ (i < m → i < n) := by
    intro K
    induction K with
    | zero => exact fun i hi => absurd hi (Nat.not_lt_zero i)
    | succ K ih =>
      intro i hiK
      constructor
      · intro hi
        obtain ⟨j, j1, j2⟩ := (h (a i)).mp ⟨i, hi, rfl⟩
        have ji : i ≤ j := by
          by_cases c : i ≤ j
          · exact c
          · have e := ((ih j (by omega)).1 (by omega)).2
            have l := ha j i (by omega) hi
            omega
        have im : i < m := by omega
        obtain ⟨k, k1, k2⟩ := (h (b i)).mpr ⟨i, im, rfl⟩
        have ki : i ≤ k := by
          by_cases c : i ≤ k
          · exact c
          · have e := ((ih k (by omega)).1 k1).2
            have l := hb k i (by omega) im
            omega
        have l1 : b i ≤ b j := by
          by_cases e : i = j
          · rw [e]; exact Int.le_refl _
          · have := hb i j (by omega) j1
            omega
        have l2 : a i ≤ a k := by
          by_cases e : i = k
          · rw [e]; exact Int.le_refl _
          · have := ha i k (by omega) k1
            omega
        exact ⟨im, by omega⟩
      · intro hi
        obtain ⟨k, k1, k2⟩ := (h (b i)).mpr ⟨i, hi, rfl⟩
        by_cases c : i < n
        · exact c
        · have e := ((ih k (by omega)).1 k1).2
          have l := hb k i (by omega) hi
          omega
  refine ⟨?_, fun i hi => ((key (i + 1) i (by omega)).1 hi).2⟩
  by_cases c : n < m
  · have := (key (n + 1) n (by omega)).2 c
    omega
  · by_cases d : m < n
    · have := ((key (m + 1) m (by omega)).1 d).1
      omega
    · omega
end ZSAMEQ
