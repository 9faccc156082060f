/-! the class: edges loaded -/
section ZLOAD
variable {L : Nat} {M : zM} {s a b : Nat} {Q : zO → zM → Prop}
theorem zPoA_sw {p : Nat} (h : zPoA p) : p < 1103 ∨ 1114 < p := by
  rcases h with ⟨s, k, hs, hk, rfl⟩ | ⟨i, hi, rfl⟩ | rfl | rfl
  · rcases hs with ⟨i, hi, rfl⟩ | rfl | rfl <;> omega
  · omega
  · omega
  · omega
theorem zegd_l {l : List zEd} {d : zEd} {e : Nat} (h : e < l.length) : zegd (l ++ [d]) e = zegd l e := by
  unfold zegd
  rw [List.getD_eq_getElem?_getD, List.getD_eq_getElem?_getD, List.getElem?_append_left h]
theorem zegd_n {l : List zEd} {d : zEd} : zegd (l ++ [d]) l.length = d := by
  unfold zegd
  rw [List.getD_eq_getElem?_getD, List.getElem?_append_right (Nat.le_refl _), Nat.sub_self]
  rfl
/-- an edge as it must be -/
def zEw (d : zEd) : Prop := (0 ≤ d.1 ∧ d.1 < d.2.1 ∧ d.2.1 ≤ 60) ∧ (-120 ≤ d.2.2.1 ∧ d.2.2.1 ≤ 120) ∧ (0 ≤ d.2.2.2.1 + d.1 * d.2.2.1 ∧ d.2.2.2.1 + d.1 * d.2.2.1 ≤ 120) ∧ (0 ≤ d.2.2.2.1 + d.2.1 * d.2.2.1 ∧ d.2.2.2.1 + d.2.1 * d.2.2.1 ≤ 120) ∧ d.2.2.2.2 < 256
def zEA (l : List zEd) : Prop := ∀ e, e < l.length → zEw (zegd l e)
def zCE (f : Nat → Nat → Int) (l : List zEd) : Prop := f 1105 1 = (l.length : Int) ∧ ∀ e, e < l.length → f 1107 e = 60 * (zegd l e).1 ∧ f 1108 e = 60 * (zegd l e).2.1 ∧ f 1109 e = (zegd l e).2.2.1 ∧ f 1110 e = (zegd l e).2.2.2.1 ∧ f 1111 e = ((zegd l e).2.2.2.2 : Int)
def zCk (f : Nat → Nat → Int) (P : Int → Prop) : Prop := ∀ y : Nat, (f 1114 y = 0 ∨ f 1114 y = 1) ∧ (f 1114 y = 1 ↔ P (y : Int))
def zEnd (l : List zEd) (y : Int) : Prop := ∃ e, e < l.length ∧ (y = 60 * (zegd l e).1 ∨ y = 60 * (zegd l e).2.1)
def zCL (f : Nat → Nat → Int) (l : List zEd) : Prop := (0 ≤ f 1105 10 ∧ f 1105 10 ≤ 3600) ∧ (0 ≤ f 1105 11 ∧ f 1105 11 ≤ 3600) ∧ ∀ e, e < l.length → f 1105 10 ≤ 60 * (zegd l e).1 ∧ 60 * (zegd l e).2.1 ≤ f 1105 11
def zELd (f : Nat → Nat → Int) (l : List zEd) : Prop := zCE f l ∧ zCk f (zEnd l) ∧ zCL f l
def zsw (f g : Nat → Nat → Int) : Prop := ∀ a, a < 1105 ∨ 1114 < a → g a = f a
/-- the edge from a corner -/
def zeL (n : Int) (X Y : Nat → Int) (b i : Nat) : List zEd := if Y i = Y (zaf n i) then [] else [(min (Y i) (Y (zaf n i)), max (Y i) (Y (zaf n i)), zle2 n X Y i, 2 * X i - Y i * zle2 n X Y i, b)]
def zeP (n : Int) (X Y : Nat → Int) (b : Nat) : Nat → List zEd
  | 0 => []
  | i + 1 => zeP n X Y b i ++ zeL n X Y b i
def zeS (n : Nat → Int) (X Y : Nat → Nat → Int) (fb : Nat) : Nat → List zEd
  | 0 => []
  | k + 1 => zeS n X Y fb k ++ zeP (n k) (X k) (Y k) (2 ^ (fb + k)) (n k).toNat
/-- an edge laid behind the others -/
def zce1 (f : Nat → Nat → Int) (n lo hi : Nat) (ln bs : Int) (b : Nat) : Nat → Nat → Int := zu2 (zu2 (zu2 (zu2 (zu2 (zu2 (zu2 (zu2 (zu2 (zu2 f 1107 n ((lo : Int) * 60)) 1108 n ((hi : Int) * 60)) 1109 n ln) 1110 n bs) 1111 n (b : Int)) 1114 (60 * lo) 1) 1114 (60 * hi) 1) 1105 10 (min (f 1105 10) ((lo : Int) * 60))) 1105 11 (max (f 1105 11) ((hi : Int) * 60))) 1105 1 ((n : Int) + 1)
theorem zce1_d {f : Nat → Nat → Int} {l : List zEd} {lo hi b : Nat} {ln bs : Int} (h : zELd f l) (hlh : lo ≤ hi) (hh : hi ≤ 60) : zELd (zce1 f l.length lo hi ln bs b) (l ++ [((lo : Int), (hi : Int), ln, bs, b)]) ∧ zsw f (zce1 f l.length lo hi ln bs b) := by
  obtain ⟨⟨h1, h2⟩, h3, h4, h5, h6⟩ := h
  have el : (l ++ [((lo : Int), (hi : Int), ln, bs, b)]).length = l.length + 1 := by rw [List.length_append]; rfl
  have r : ∀ a j, zce1 f l.length lo hi ln bs b a j = if a = 1105 ∧ j = 1 then ((l.length : Int) + 1) else if a = 1105 ∧ j = 11 then max (f 1105 11) ((hi : Int) * 60) else if a = 1105 ∧ j = 10 then min (f 1105 10) ((lo : Int) * 60) else if a = 1114 ∧ j = 60 * hi then 1 else if a = 1114 ∧ j = 60 * lo then 1 else if a = 1111 ∧ j = l.length then (b : Int) else if a = 1110 ∧ j = l.length then bs else if a = 1109 ∧ j = l.length then ln else if a = 1108 ∧ j = l.length then (hi : Int) * 60 else if a = 1107 ∧ j = l.length then (lo : Int) * 60 else f a j := fun a j => by
    unfold zce1
    simp only [zu2_if]
  refine ⟨⟨⟨?_, fun e he => ?_⟩, fun y => ?_, ?_, ?_, fun e he => ?_⟩, fun a ha => ?_⟩
  · rw [r, el, if_pos ⟨rfl, rfl⟩]; omega
  · rw [el] at he
    by_cases hn : e = l.length
    · subst hn
      rw [zegd_n]
      simp only [r]
      simp
      omega
    · rw [zegd_l (by omega)]
      have h9 := h2 e (by omega)
      simp only [r]
      simp [hn, h9]
  · have h9 := h3 y
    rw [r]
    simp only [show ¬ ((1114 : Nat) = 1105 ∧ y = 1) from fun h => by omega, show ¬ ((1114 : Nat) = 1105 ∧ y = 11) from fun h => by omega, show ¬ ((1114 : Nat) = 1105 ∧ y = 10) from fun h => by omega, show ¬ ((1114 : Nat) = 1111 ∧ y = l.length) from fun h => by omega, show ¬ ((1114 : Nat) = 1110 ∧ y = l.length) from fun h => by omega, show ¬ ((1114 : Nat) = 1109 ∧ y = l.length) from fun h => by omega, show ¬ ((1114 : Nat) = 1108 ∧ y = l.length) from fun h => by omega, show ¬ ((1114 : Nat) = 1107 ∧ y = l.length) from fun h => by omega, if_false, true_and]
    have hz : zEnd (l ++ [((lo : Int), (hi : Int), ln, bs, b)]) (y : Int) ↔ (zEnd l (y : Int) ∨ y = 60 * lo ∨ y = 60 * hi) := by
      unfold zEnd
      rw [el]
      constructor
      · rintro ⟨e, he, hy⟩
        by_cases hn : e = l.length
        · subst hn
          rw [zegd_n] at hy
          right
          dsimp only at hy
          omega
        · rw [zegd_l (by omega)] at hy
          exact Or.inl ⟨e, by omega, hy⟩
      · rintro (⟨e, he, hy⟩ | hy)
        · exact ⟨e, by omega, by rw [zegd_l he]; exact hy⟩
        · refine ⟨l.length, by omega, ?_⟩
          rw [zegd_n]
          dsimp only
          omega
    rw [hz]
    by_cases e1 : y = 60 * hi
    · rw [if_pos e1]
      exact ⟨Or.inr rfl, fun _ => Or.inr (Or.inr e1), fun _ => rfl⟩
    · rw [if_neg e1]
      by_cases e2 : y = 60 * lo
      · rw [if_pos e2]
        exact ⟨Or.inr rfl, fun _ => Or.inr (Or.inl e2), fun _ => rfl⟩
      · rw [if_neg e2]
        refine ⟨h9.1, fun h => Or.inl (h9.2.mp h), fun h => h9.2.mpr (h.elim id (fun h => h.elim (fun h => absurd h e2) (fun h => absurd h e1)))⟩
  · rw [r]; simp; omega
  · rw [r]; simp; omega
  · rw [el] at he
    rw [r, r]
    simp
    by_cases hn : e = l.length
    · subst hn
      rw [zegd_n]
      dsimp only
      omega
    · rw [zegd_l (by omega)]
      have h9 := h6 e (by omega)
      omega
  · funext j
    rw [r]
    rw [if_neg (by omega), if_neg (by omega), if_neg (by omega), if_neg (by omega), if_neg (by omega), if_neg (by omega), if_neg (by omega), if_neg (by omega), if_neg (by omega), if_neg (by omega)]
set_option maxRecDepth 4000 in
theorem c107 {p e bb : Nat} {f : Nat → Nat → Int} {l : List zEd} (hp : zPoA p) (hR : zLay M.2.2.2) (pg : zPg 0 (f p 0) (f (p + 1)) (f (p + 2))) (he : (e : Int) < f p 0) (hn : l.length < 64) (hl : zELd f l) : zFR (zK L) 107 0 (zcall 107 [.inr (.inr 1105), .inr (.inr p), .inl (e : Int), .inl (bb : Int)]) [] (zwI M f) (fun r M2 => ∃ f', r = .inl none ∧ M2 = zwI M f' ∧ zELd f' (l ++ zeL (f p 0) (f (p + 1)) (f (p + 2)) bb e) ∧ zsw f f') := by
  have hF := hR.1
  unfold zLayF at hF
  obtain ⟨k1, k2, k3⟩ := zK_po (L := L) hp
  obtain ⟨r1, r2⟩ := hR.2.1 p hp
  have hsw := zPoA_sw hp
  have p1 := pg.2.2 e he
  have p2 := pg.2.2 (zaf (f p 0) e) (zaf_lt he)
  have pn := pg.2.1
  have e80 := fun Q => c80 (L := L) (M := zwI M f) (Q := Q) (e := e) hp (by omega)
  rw [zwI_I] at e80
  have lb := zle2_b pg he
  unfold zeL
  generalize hY : f (p + 2) e = Y at *
  generalize hZ : f (p + 2) (zaf (f p 0) e) = Z at *
  generalize hQ : (fun r M2 => ∃ f', r = (Sum.inl none : zO) ∧ M2 = zwI M f' ∧ zELd f' (l ++ (if Y = Z then [] else [(min Y Z, max Y Z, zle2 (f p 0) (f (p + 1)) (f (p + 2)) e, 2 * f (p + 1) e - Y * zle2 (f p 0) (f (p + 1)) (f (p + 2)) e, bb)])) ∧ zsw f f') = Q9
  have h15 : f 1105 1 = (l.length : Int) := hl.1.1
  have main : Y ≠ Z → zFR (zK L) 107 60 [some (.inr (.inr 1105)), some (.inr (.inr p)), some (.inl (e : Int)), some (.inl (bb : Int)), some (.inl Y), some (.inl Z)] [] (zwI M f) Q9 := by
    intro hyz
    rw [if_neg hyz] at hQ
    obtain ⟨lo, hlo⟩ : ∃ lo : Nat, min Y Z = (lo : Int) := ⟨(min Y Z).toNat, by omega⟩
    obtain ⟨hi, hhi⟩ : ∃ hi : Nat, max Y Z = (hi : Int) := ⟨(max Y Z).toNat, by omega⟩
    have eT1 : ((lo : Int) * 60).toNat = 60 * lo := by omega
    have eT2 : ((hi : Int) * 60).toNat = 60 * hi := by omega
    have hne : ∀ q : Nat, 1103 ≤ q → q ≤ 1114 → (p = q) = False := fun q h1 h2 => eq_false (by omega)
    have hne1 : ∀ q : Nat, 1104 ≤ q → q ≤ 1114 → (p + 1 = q) = False := fun q h1 h2 => eq_false (by omega)
    have hne2 : ∀ q : Nat, 1105 ≤ q → q ≤ 1114 → (p + 2 = q) = False := fun q h1 h2 => eq_false (by omega)
    have ox : ∀ b j, b = p ∨ b = p + 1 ∨ b = p + 2 → zu2 (zu2 f 1107 l.length ((lo : Int) * 60)) 1108 l.length ((hi : Int) * 60) b j = f b j := fun b j hb => by rw [zu2_a (by omega), zu2_a (by omega)]
    have o0 : ∀ j, zu2 (zu2 f 1107 l.length ((lo : Int) * 60)) 1108 l.length ((hi : Int) * 60) p j = f p j := fun j => ox _ j (Or.inl rfl)
    have o1 : zu2 (zu2 f 1107 l.length ((lo : Int) * 60)) 1108 l.length ((hi : Int) * 60) (p + 1) = f (p + 1) := funext (fun j => ox _ j (Or.inr (Or.inl rfl)))
    have o2 : zu2 (zu2 f 1107 l.length ((lo : Int) * 60)) 1108 l.length ((hi : Int) * 60) (p + 2) = f (p + 2) := funext (fun j => ox _ j (Or.inr (Or.inr rfl)))
    have e83 := fun Q => c83 (L := L) (M := zwI M (zu2 (zu2 f 1107 l.length ((lo : Int) * 60)) 1108 l.length ((hi : Int) * 60))) (Q := Q) (e := e) hp hR (by rw [zwI_I, o0, o1, o2]; exact pg) (by rw [zwI_I, o0]; exact he)
    rw [zwI_I, o0, o1, o2] at e83
    generalize zle2 (f p 0) (f (p + 1)) (f (p + 2)) e = ln at *
    have mb := zmulb (u := Y) (v := ln) (A := 60) (B := 120) (by omega) (by omega) (by omega) (by omega)
    have fin := zce1_d (ln := ln) (bs := 2 * f (p + 1) e - Y * ln) (b := bb) hl (show lo ≤ hi by omega) (show hi ≤ 60 by omega)
    rw [hlo, hhi] at hQ
    have q9 : Q9 (.inl none) (zwI M (zce1 f l.length lo hi ln (2 * f (p + 1) e - Y * ln) bb)) := by
      subst hQ
      exact ⟨_, rfl, rfl, fin.1, fin.2⟩
    unfold zce1 at q9
    have hcl := hl.2.2
    refine zW_sound 100 [] ?_
    simp only [ZR107, zk_1105, zk_1107, zk_1108, zk_1109, zk_1110, zk_1111, zk_1114, k1, k2, k3, r1, r2, hF, h15, hlo, hhi, zwI_I, zwI_2, zsI_w, zsI_wI, zwI_w, zu2_if, hne, hne1, hne2, eT1, eT2, ZF387.1, ZF387.2.1, ZF387.2.2.1, ZF388.1, ZF388.2.1, ZF388.2.2.1, c387, c388, ZF83.1, ZF83.2.1, ZF83.2.2.1, e83, false_and, and_false, zW_succ, zE_iload, zE_aload, zE_lload, zE_iinc, zE_istore, zE_astore, zE_lstore, zE_iconst, zE_ldc2, zE_iadd, zE_isub, zE_imul, zE_idiv, zE_irem, zE_ineg, zE_iand, zE_ior, zE_ixor, zE_ishl, zE_ishr, zE_land, zE_lor, zE_lxor, zE_lshl, zE_lshr, zE_i2l, zE_lcmp, zE_dup_i, zE_dup_a, zE_dup2_ia, zE_pop_i, zE_pop_a, zE_pop2, zE_goto, zE_if_eq, zE_icmp_eq, zE_if_ne, zE_icmp_ne, zE_if_lt, zE_icmp_lt, zE_if_ge, zE_icmp_ge, zE_if_gt, zE_icmp_gt, zE_if_le, zE_icmp_le, zE_iaload, zE_baload, zE_laload, zE_aaload, zE_iastore, zE_bastore, zE_lastore, zE_aastore, zE_alen, zE_getf0, zE_getf1, zE_getf2, zE_getf3, zE_putf0, zE_putf1, zE_putf2, zE_putf3, zE_new, zE_newa, zE_newq, zE_ireturn, zE_lreturn, zE_areturn, zE_return, zE_athrow, zE_st0, zE_vi0, zE_st1, zE_vi1, zE_st2, zE_vi2, zE_st3, zE_vi3, zE_st4, zE_vi4, zE_st5, zE_vi5, zE_st6, zE_vi6, zE_st7, zE_vi7, zE_st8, zE_vi8, zSt_0, zSL_0, zSt_1n, zSt_1i, zSt_1a, zSt_1l, zSt_2n, zSt_2i, zSt_2a, zSt_2l, zSt_3n, zSt_3i, zSt_3a, zSt_3l, zSt_4n, zSt_4i, zSt_4a, zSt_4l, zSt_5n, zSt_5i, zSt_5a, zSt_5l, zSt_6n, zSt_6i, zSt_6a, zSt_6l, zSt_7n, zSt_7i, zSt_7a, zSt_7l, zSt_8n, zSt_8i, zSt_8a, zSt_8l, zSt_9n, zSt_9i, zSt_9a, zSt_9l, zSt_10n, zSt_10i, zSt_10a, zSt_10l, zSt_11n, zSt_11i, zSt_11a, zSt_11l, zSt_12n, zSt_12i, zSt_12a, zSt_12l, zSt_13n, zSt_13i, zSt_13a, zSt_13l, zSL_1n, zSL_1i, zSL_1a, zSL_1l, zSL_2n, zSL_2i, zSL_2a, zSL_2l, zSL_3n, zSL_3i, zSL_3a, zSL_3l, zSL_4n, zSL_4i, zSL_4a, zSL_4l, zSL_5n, zSL_5i, zSL_5a, zSL_5l, zSL_6n, zSL_6i, zSL_6a, zSL_6l, zSL_7n, zSL_7i, zSL_7a, zSL_7l, zSL_8n, zSL_8i, zSL_8a, zSL_8l, zSL_9n, zSL_9i, zSL_9a, zSL_9l, zSL_10n, zSL_10i, zSL_10a, zSL_10l, zSL_11n, zSL_11i, zSL_11a, zSL_11l, zSL_12n, zSL_12i, zSL_12a, zSL_12l, zLI_0, zLL_0, zLA_0, zLI_1, zLL_1, zLA_1, zLI_2, zLL_2, zLA_2, zLI_3, zLL_3, zLA_3, zLI_4, zLL_4, zLA_4, zLI_5, zLL_5, zLA_5, zLI_6, zLL_6, zLA_6, zLI_7, zLL_7, zLA_7, zLI_8, zLL_8, zLA_8, zLI_9, zLL_9, zLA_9, zLI_10, zLL_10, zLA_10, zLI_11, zLL_11, zLA_11, zLI_12, zLL_12, zLA_12, zLI_13, zLL_13, zLA_13, zst_0, zst_1n, zst_1i, zst_1a, zst_2n, zst_2i, zst_2a, zst_3n, zst_3i, zst_3a, zst_4n, zst_4i, zst_4a, zst_5n, zst_5i, zst_5a, zst_6n, zst_6i, zst_6a, zst_7n, zst_7i, zst_7a, zst_8n, zst_8i, zst_8a, zst_9n, zst_9i, zst_9a, zst_10n, zst_10i, zst_10a, zst_11n, zst_11i, zst_11a, zst_12n, zst_12i, zst_12a, zst_13n, zst_13i, zst_13a, zst_14n, zst_14i, zst_14a, zst_15n, zst_15i, zst_15a, zR1_n, zR1_v, zsum_n, zsum_i, zsum_l, zsum_a, zlen_n, zlen_i, zlen_l, zlen_a, List.not_mem_nil, List.mem_cons, or_false, false_or, or_self, ↓reduceIte, if_false, if_true, Nat.reduceEqDiff, Nat.reduceAdd, Nat.reduceLeDiff, true_and, and_true, reduceCtorEq, ne_eq, Int.toNat_natCast, not_true_eq_false, not_false_eq_true, true_implies, false_implies, implies_true, Int.reduceToNat, Int.toNat_zero, Int.reduceLT, Int.reduceLE, Int.reduceEq, Int.reduceAdd, Int.reduceMul, Int.reduceNeg]
    (repeat' (first | with_reducible refine And.intro ?_ ?_ | with_reducible intro _)) <;> try first | with_reducible rfl | with_reducible assumption | omega | (unfold zr32; omega) | contradiction | (exact absurd (by omega) (by assumption)) | rfl | (simp only [Sum.inl.injEq, Option.some.injEq]; omega)
  have hz8 : zaf (f p 0) e < 8 := by have := zaf_lt he; omega
  have qe : Y = Z → Q9 (.inl none) (zwI M f) := by
    intro h
    subst hQ
    rw [if_pos h, List.append_nil]
    exact ⟨f, rfl, rfl, hl, fun a _ => rfl⟩
  refine zW_sound 60 [60] ?_
  simp only [ZF107, ZR107, zk_1105, k1, k3, r2, hF, h15, hY, hZ, zwI_I, zwI_2, ZF80.1, ZF80.2.1, ZF80.2.2.1, e80, ZF127.1, ZF127.2.1, ZF127.2.2.1, c127, zW_succ, zE_iload, zE_aload, zE_lload, zE_iinc, zE_istore, zE_astore, zE_lstore, zE_iconst, zE_ldc2, zE_iadd, zE_isub, zE_imul, zE_idiv, zE_irem, zE_ineg, zE_iand, zE_ior, zE_ixor, zE_ishl, zE_ishr, zE_land, zE_lor, zE_lxor, zE_lshl, zE_lshr, zE_i2l, zE_lcmp, zE_dup_i, zE_dup_a, zE_dup2_ia, zE_pop_i, zE_pop_a, zE_pop2, zE_goto, zE_if_eq, zE_icmp_eq, zE_if_ne, zE_icmp_ne, zE_if_lt, zE_icmp_lt, zE_if_ge, zE_icmp_ge, zE_if_gt, zE_icmp_gt, zE_if_le, zE_icmp_le, zE_iaload, zE_baload, zE_laload, zE_aaload, zE_iastore, zE_bastore, zE_lastore, zE_aastore, zE_alen, zE_getf0, zE_getf1, zE_getf2, zE_getf3, zE_putf0, zE_putf1, zE_putf2, zE_putf3, zE_new, zE_newa, zE_newq, zE_ireturn, zE_lreturn, zE_areturn, zE_return, zE_athrow, zE_st0, zE_vi0, zE_st1, zE_vi1, zE_st2, zE_vi2, zE_st3, zE_vi3, zE_st4, zE_vi4, zE_st5, zE_vi5, zE_st6, zE_vi6, zE_st7, zE_vi7, zE_st8, zE_vi8, zSt_0, zSL_0, zSt_1n, zSt_1i, zSt_1a, zSt_1l, zSt_2n, zSt_2i, zSt_2a, zSt_2l, zSt_3n, zSt_3i, zSt_3a, zSt_3l, zSt_4n, zSt_4i, zSt_4a, zSt_4l, zSt_5n, zSt_5i, zSt_5a, zSt_5l, zSt_6n, zSt_6i, zSt_6a, zSt_6l, zSt_7n, zSt_7i, zSt_7a, zSt_7l, zSt_8n, zSt_8i, zSt_8a, zSt_8l, zSt_9n, zSt_9i, zSt_9a, zSt_9l, zSt_10n, zSt_10i, zSt_10a, zSt_10l, zSt_11n, zSt_11i, zSt_11a, zSt_11l, zSt_12n, zSt_12i, zSt_12a, zSt_12l, zSt_13n, zSt_13i, zSt_13a, zSt_13l, zSL_1n, zSL_1i, zSL_1a, zSL_1l, zSL_2n, zSL_2i, zSL_2a, zSL_2l, zSL_3n, zSL_3i, zSL_3a, zSL_3l, zSL_4n, zSL_4i, zSL_4a, zSL_4l, zSL_5n, zSL_5i, zSL_5a, zSL_5l, zSL_6n, zSL_6i, zSL_6a, zSL_6l, zSL_7n, zSL_7i, zSL_7a, zSL_7l, zSL_8n, zSL_8i, zSL_8a, zSL_8l, zSL_9n, zSL_9i, zSL_9a, zSL_9l, zSL_10n, zSL_10i, zSL_10a, zSL_10l, zSL_11n, zSL_11i, zSL_11a, zSL_11l, zSL_12n, zSL_12i, zSL_12a, zSL_12l, zLI_0, zLL_0, zLA_0, zLI_1, zLL_1, zLA_1, zLI_2, zLL_2, zLA_2, zLI_3, zLL_3, zLA_3, zLI_4, zLL_4, zLA_4, zLI_5, zLL_5, zLA_5, zLI_6, zLL_6, zLA_6, zLI_7, zLL_7, zLA_7, zLI_8, zLL_8, zLA_8, zLI_9, zLL_9, zLA_9, zLI_10, zLL_10, zLA_10, zLI_11, zLL_11, zLA_11, zLI_12, zLL_12, zLA_12, zLI_13, zLL_13, zLA_13, zst_0, zst_1n, zst_1i, zst_1a, zst_2n, zst_2i, zst_2a, zst_3n, zst_3i, zst_3a, zst_4n, zst_4i, zst_4a, zst_5n, zst_5i, zst_5a, zst_6n, zst_6i, zst_6a, zst_7n, zst_7i, zst_7a, zst_8n, zst_8i, zst_8a, zst_9n, zst_9i, zst_9a, zst_10n, zst_10i, zst_10a, zst_11n, zst_11i, zst_11a, zst_12n, zst_12i, zst_12a, zst_13n, zst_13i, zst_13a, zst_14n, zst_14i, zst_14a, zst_15n, zst_15i, zst_15a, zR1_n, zR1_v, zsum_n, zsum_i, zsum_l, zsum_a, zlen_n, zlen_i, zlen_l, zlen_a, List.not_mem_nil, List.mem_cons, or_false, false_or, or_self, ↓reduceIte, if_false, if_true, Nat.reduceEqDiff, Nat.reduceAdd, Nat.reduceLeDiff, true_and, and_true, reduceCtorEq, ne_eq, Int.toNat_natCast, not_true_eq_false, not_false_eq_true, true_implies, false_implies, implies_true, Int.reduceToNat, Int.toNat_zero, Int.reduceLT, Int.reduceLE, Int.reduceEq, Int.reduceAdd, Int.reduceMul, Int.reduceNeg]
  (repeat' (first | with_reducible refine And.intro ?_ ?_ | with_reducible intro _)) <;> first | omega | (unfold zr32; omega) | exact main (by assumption) | exact qe (by assumption) | exact qe (by omega)
end ZLOAD
