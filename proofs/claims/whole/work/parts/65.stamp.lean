/-! a shape stamped -/
section ZSTAMP
variable {L : Nat} {M : zM} {s : Nat} {Q : zO → zM → Prop}
def zhl (f : Nat → Nat → Int) (s : Nat) (x y : Int) : Bool := zhlb (f s 9) (f s 10).toNat (zN f s) (zX f s) (zY f s) x y
/-- a shape as it is seen: its frame holds its corners, its edges go as they may -/
def zPk (f : Nat → Nat → Int) (s : Nat) : Prop := zSw f s ∧ zFm f s ∧ f s 11 ≤ f s 13 ∧ ¬ zhs (f s 9) 0 ∧ ∀ p : Nat, (p : Int) < f s 10 → zpr (zN f s p) (zX f s p) (zY f s p) 0 ∧ ∀ k : Nat, (k : Int) < zN f s p → (f s 11 ≤ zX f s p k ∧ zX f s p k ≤ f s 13) ∧ f s 12 ≤ zY f s p k ∧ zY f s p k ≤ f s 14
theorem zhl_y {f : Nat → Nat → Int} {s : Nat} {x y od : Int} (h : zPk f s) (ho : 0 ≤ od ∧ od ≤ 1) (hy : y < f s 12 ∨ f s 14 ≤ y) : zhl f s x (2 * y + od) = false := by
  obtain ⟨h1, h2, h3, h4, h5⟩ := h
  have e : zpt (fun p => zodd (zN f s p) (zX f s p) (zY f s p) x (2 * y + od) (zN f s p).toNat) (f s 10).toNat = 0 := by
    refine zpt_0 _ (fun p hp => zodd_n (fun k hk hc => ?_) _ (by have := (h1.2.2 p (by omega)).1; omega))
    have a := (h5 p (by omega)).2 k hk
    have b := (h5 p (by omega)).2 (zaf (zN f s p) k) (zaf_lt hk)
    apply hc.1
    omega
  unfold zhl zhlb
  rw [e]
  exact decide_eq_false h4
theorem zpk_q {f : Nat → Nat → Int} {s p k : Nat} {y : Int} (h : zPk f s) (hp : (p : Int) < f s 10) (hk : (k : Int) < zN f s p) (hc : zcut (zN f s p) (zY f s p) k y) : 4 * f s 11 ≤ zqt (zN f s p) (zX f s p) (zY f s p) k y ∧ zqt (zN f s p) (zX f s p) (zY f s p) k y ≤ 4 * f s 13 := by
  obtain ⟨h1, h2, h3, h4, h5⟩ := h
  exact zqt_in ((h5 p hp).1 k (Nat.zero_le _) hk) hc ((h5 p hp).2 k hk).1 ((h5 p hp).2 _ (zaf_lt hk)).1
def zstl (f : Nat → Nat → Int) (s y : Nat) (od mark : Int) : Nat → Nat → Int := fun b j => if b = 1118 ∧ 61 * y ≤ j ∧ j ≤ 61 * y + 60 ∧ zhl f s (2 * ((j - 61 * y : Nat) : Int) + od) (2 * (y : Int) + od) = true then mark else f b j
def zmk (f : Nat → Nat → Int) (t : Int) (F : Nat → Nat) (y : Nat) (mark : Int) (d : Nat) : Nat → Nat → Int := fun b j => if b = 1118 ∧ 61 * y ≤ j ∧ j ≤ 61 * y + 60 ∧ 60 < (j - 61 * y) + d ∧ zhsb t (zsx F (61 - (j - 61 * y))) = true then mark else if b = 1123 then (if 60 < j + d then 0 else (F j : Int)) else f b j
theorem zsx_z {F : Nat → Nat} {r : Nat} (h : ∀ j, r ≤ j → F j = 0) : ∀ d, d ≤ 61 - r → zsx F d = 0
  | 0, _ => rfl
  | d + 1, hd => by
    rw [zsx_s, zsx_z h d (by omega), h _ (by omega)]
    rfl
theorem zmk_18 (f : Nat → Nat → Int) (t : Int) (F : Nat → Nat) (y : Nat) (mark : Int) (d j : Nat) : zmk f t F y mark d 1118 j = if 61 * y ≤ j ∧ j ≤ 61 * y + 60 ∧ 60 < (j - 61 * y) + d ∧ zhsb t (zsx F (61 - (j - 61 * y))) = true then mark else f 1118 j := by
  unfold zmk
  by_cases h : 61 * y ≤ j ∧ j ≤ 61 * y + 60 ∧ 60 < (j - 61 * y) + d ∧ zhsb t (zsx F (61 - (j - 61 * y))) = true
  · rw [if_pos ⟨rfl, h⟩, if_pos h]
  · rw [if_neg (fun h2 => h h2.2), if_neg (show ¬ (1118 : Nat) = 1123 by omega), if_neg h]
theorem zmk_23 (f : Nat → Nat → Int) (t : Int) (F : Nat → Nat) (y : Nat) (mark : Int) (d j : Nat) : zmk f t F y mark d 1123 j = if 60 < j + d then 0 else (F j : Int) := by
  unfold zmk
  rw [if_neg (fun h2 => absurd h2.1 (by omega)), if_pos rfl]
theorem zmk_o (f : Nat → Nat → Int) (t : Int) (F : Nat → Nat) (y : Nat) (mark : Int) (d : Nat) {b : Nat} (h1 : b ≠ 1118) (h2 : b ≠ 1123) (j : Nat) : zmk f t F y mark d b j = f b j := by
  unfold zmk
  rw [if_neg (fun h3 => h1 h3.1), if_neg h2]
theorem zmk_2 {f : Nat → Nat → Int} {t : Int} {F : Nat → Nat} {y : Nat} {mark : Int} {d : Nat} (hd : d ≤ 60) (h : zhsb t (zsx F (d + 1)) = true) : zu2 (zu2 (zmk f t F y mark d) 1123 (60 - d) 0) 1118 (61 * y + (60 - d)) mark = zmk f t F y mark (d + 1) := by
  funext b j
  by_cases h1 : b = 1118
  · subst h1
    rw [zmk_18, zu2_if]
    by_cases h2 : j = 61 * y + (60 - d)
    · rw [if_pos ⟨rfl, h2⟩]
      have c : 61 * y ≤ j ∧ j ≤ 61 * y + 60 ∧ 60 < (j - 61 * y) + (d + 1) ∧ zhsb t (zsx F (61 - (j - 61 * y))) = true := ⟨by omega, by omega, by omega, by rw [show 61 - (j - 61 * y) = d + 1 by omega]; exact h⟩
      rw [if_pos c]
    · rw [if_neg (fun h3 => h2 h3.2), zu2_a (by omega), zmk_18]
      by_cases c : 61 * y ≤ j ∧ j ≤ 61 * y + 60 ∧ 60 < (j - 61 * y) + d ∧ zhsb t (zsx F (61 - (j - 61 * y))) = true
      · have c2 : 61 * y ≤ j ∧ j ≤ 61 * y + 60 ∧ 60 < (j - 61 * y) + (d + 1) ∧ zhsb t (zsx F (61 - (j - 61 * y))) = true := ⟨c.1, c.2.1, by omega, c.2.2.2⟩
        rw [if_pos c, if_pos c2]
      · have c2 : ¬ (61 * y ≤ j ∧ j ≤ 61 * y + 60 ∧ 60 < (j - 61 * y) + (d + 1) ∧ zhsb t (zsx F (61 - (j - 61 * y))) = true) := fun h3 => c ⟨h3.1, h3.2.1, by omega, h3.2.2.2⟩
        rw [if_neg c, if_neg c2]
  · rw [zu2_a h1]
    by_cases h2 : b = 1123
    · subst h2
      rw [zmk_23, zu2_if]
      by_cases h3 : j = 60 - d
      · rw [if_pos ⟨rfl, h3⟩, if_pos (by omega)]
      · rw [if_neg (fun h4 => h3 h4.2), zmk_23]
        by_cases h5 : 60 < j + d
        · rw [if_pos h5, if_pos (show 60 < j + (d + 1) by omega)]
        · rw [if_neg h5, if_neg (show ¬ 60 < j + (d + 1) by omega)]
    · rw [zu2_a h2, zmk_o _ _ _ _ _ _ h1 h2, zmk_o _ _ _ _ _ _ h1 h2]
theorem zmk_1 {f : Nat → Nat → Int} {t : Int} {F : Nat → Nat} {y : Nat} {mark : Int} {d : Nat} (hd : d ≤ 60) (h : ¬ zhsb t (zsx F (d + 1)) = true) : zu2 (zmk f t F y mark d) 1123 (60 - d) 0 = zmk f t F y mark (d + 1) := by
  funext b j
  by_cases h1 : b = 1118
  · subst h1
    rw [zmk_18, zu2_a (by omega), zmk_18]
    by_cases c : 61 * y ≤ j ∧ j ≤ 61 * y + 60 ∧ 60 < (j - 61 * y) + d ∧ zhsb t (zsx F (61 - (j - 61 * y))) = true
    · have c2 : 61 * y ≤ j ∧ j ≤ 61 * y + 60 ∧ 60 < (j - 61 * y) + (d + 1) ∧ zhsb t (zsx F (61 - (j - 61 * y))) = true := ⟨c.1, c.2.1, by omega, c.2.2.2⟩
      rw [if_pos c, if_pos c2]
    · have c2 : ¬ (61 * y ≤ j ∧ j ≤ 61 * y + 60 ∧ 60 < (j - 61 * y) + (d + 1) ∧ zhsb t (zsx F (61 - (j - 61 * y))) = true) := by
        intro h3
        by_cases h4 : 61 - (j - 61 * y) = d + 1
        · have h5 := h3.2.2.2
          rw [h4] at h5
          exact h h5
        · exact c ⟨h3.1, h3.2.1, by omega, h3.2.2.2⟩
      rw [if_neg c, if_neg c2]
  · by_cases h2 : b = 1123
    · subst h2
      rw [zmk_23, zu2_if]
      by_cases h3 : j = 60 - d
      · rw [if_pos ⟨rfl, h3⟩, if_pos (by omega)]
      · rw [if_neg (fun h4 => h3 h4.2), zmk_23]
        by_cases h5 : 60 < j + d
        · rw [if_pos h5, if_pos (show 60 < j + (d + 1) by omega)]
        · rw [if_neg h5, if_neg (show ¬ 60 < j + (d + 1) by omega)]
    · rw [zu2_a h2, zmk_o _ _ _ _ _ _ h1 h2, zmk_o _ _ _ _ _ _ h1 h2]
theorem c66 {y : Nat} {od mark : Int} (hs : zShA s) (hR : zLay M.2.2.2) (h : zPk M.2.1 s) (hy : y ≤ 60) (ho : 0 ≤ od ∧ od ≤ 1) (hfl : ∀ j, M.2.1 1123 j = 0) : zFR (zK L) 66 0 (zcall 66 [.inr (.inr 1117), .inr (.inr s), .inl (y : Int), .inl od, .inl mark]) [] M Q = Q (.inl none) (zwI M (zstl M.2.1 s y od mark)) := by
  have hF := hR.1
  unfold zLayF at hF
  obtain ⟨k1, k2⟩ := zK_sh (L := L) hs
  obtain ⟨r1, r2⟩ := hR.2.2.1 s hs
  have hsl := zShA_lt hs
  have sne : s ≠ 1118 ∧ s ≠ 1123 := by
    rcases hs with ⟨i, hi, rfl⟩ | rfl | rfl <;> omega
  refine zFR_det ?_ Q
  by_cases hyf : M.2.1 s 12 ≤ (y : Int) ∧ (y : Int) < M.2.1 s 14
  · obtain ⟨h1, h2, h3, h4, h5⟩ := h
    have h9 : zPk M.2.1 s := ⟨h1, h2, h3, h4, h5⟩
    obtain ⟨c, hc⟩ : ∃ c : Nat, M.2.1 s 10 = (c : Int) := ⟨(M.2.1 s 10).toNat, by have := h1.1; omega⟩
    obtain ⟨r, hr⟩ : ∃ r : Nat, M.2.1 s 13 = (r : Int) := ⟨(M.2.1 s 13).toNat, by have := h2.2.2.1; omega⟩
    obtain ⟨l, hl⟩ : ∃ l : Nat, M.2.1 s 11 = (l : Int) := ⟨(M.2.1 s 11).toNat, by have := h2.1; omega⟩
    have hr60 : r ≤ 60 := by have := h2.2.2.1; omega
    have hlr : l ≤ r := by omega
    have hc4 : c ≤ 4 := by have := h1.1; omega
    have FB := zfls_b (zN M.2.1 s) (zX M.2.1 s) (zY M.2.1 s) (2 * (y : Int) + od) od c hc4
    have FZ := zfls_z (n := zN M.2.1 s) (X := zX M.2.1 s) (Y := zY M.2.1 s) (dy := 2 * (y : Int) + od) (od := od) (lo := (l : Int)) (hi := (r : Int)) ho c (fun p hp => ⟨(h1.2.2 p (by omega)).1, fun k hk hcut => by rw [← hl, ← hr]; exact zpk_q h9 (by omega) hk hcut⟩)
    have FX := fun d hd => zsx_f (n := zN M.2.1 s) (X := zX M.2.1 s) (Y := zY M.2.1 s) (y := (y : Int)) (od := od) (d := d) hd c (fun p hp => ⟨(h1.2.2 p (by omega)).1, fun k hk hcut => by have := (zpk_q h9 (p := p) (by omega) hk hcut).2; omega⟩)
    have f0 : zfla M.2.1 (fun _ => 0) = M.2.1 := by
      funext b j
      unfold zfla zua
      by_cases hb : b = 1123
      · rw [if_pos hb, hb, hfl j]; rfl
      · rw [if_neg hb]
    generalize hQ : (fun r M2 => r = (Sum.inl none : zO) ∧ M2 = zwI M (zstl M.2.1 s y od mark)) = Q9
    generalize hG : zfls (zN M.2.1 s) (zX M.2.1 s) (zY M.2.1 s) (2 * (y : Int) + od) od c = F at *
    have zi : zfla M.2.1 F = zmk M.2.1 (M.2.1 s 9) F y mark (60 - r) := by
      funext b j
      by_cases hb : b = 1118
      · subst hb
        have nz : ¬ (61 * y ≤ j ∧ j ≤ 61 * y + 60 ∧ 60 < (j - 61 * y) + (60 - r) ∧ zhsb (M.2.1 s 9) (zsx F (61 - (j - 61 * y))) = true) := by
          intro ⟨a2, a3, a4, a5⟩
          rw [zsx_z (r := r) (fun j hj => FZ j (by omega)) _ (by omega)] at a5
          exact h4 (zhsb_iff.mp a5)
        rw [zmk_18, if_neg nz]
        exact zua_o (by omega) _ j
      · by_cases hb2 : b = 1123
        · subst hb2
          rw [zmk_23]
          refine (zua_a).trans ?_
          by_cases h6 : 60 < j + (60 - r)
          · rw [if_pos h6, FZ j (by omega)]; rfl
          · rw [if_neg h6]
        · rw [zmk_o _ _ _ _ _ _ hb hb2]
          exact zua_o hb2 _ j
    have ze : ∀ e : Nat, e ≤ 61 → (∀ x : Nat, x ≤ 60 → (x + e ≤ 60 ↔ (x : Int) < (l : Int) - 1)) → zmk M.2.1 (M.2.1 s 9) F y mark e = zstl M.2.1 s y od mark := by
      intro e he hx
      funext b j
      have key : 61 * y ≤ j → j ≤ 61 * y + 60 → ((60 < (j - 61 * y) + e ∧ zhsb (M.2.1 s 9) (zsx F (61 - (j - 61 * y))) = true) ↔ zhl M.2.1 s (2 * ((j - 61 * y : Nat) : Int) + od) (2 * (y : Int) + od) = true) := by
        intro b2 b3
        have hh : zhl M.2.1 s (2 * ((j - 61 * y : Nat) : Int) + od) (2 * (y : Int) + od) = zhsb (M.2.1 s 9) (zpt (fun p => zodd (zN M.2.1 s p) (zX M.2.1 s p) (zY M.2.1 s p) (2 * ((j - 61 * y : Nat) : Int) + od) (2 * (y : Int) + od) (zN M.2.1 s p).toNat) c) := by
          unfold zhl zhlb
          rw [hc, Int.toNat_natCast]
        rw [hh]
        have hx2 := hx (j - 61 * y) (by omega)
        have fx := FX (61 - (j - 61 * y)) (by omega)
        rw [show (61 : Int) - ((61 - (j - 61 * y) : Nat) : Int) = ((j - 61 * y : Nat) : Int) by omega] at fx
        rw [fx]
        by_cases h6 : 60 < (j - 61 * y) + e
        · exact ⟨fun h7 => h7.2, fun h7 => ⟨h6, h7⟩⟩
        · refine ⟨fun h7 => absurd h7.1 h6, fun h7 => ?_⟩
          rw [zpt_0 c (fun p hp => zodd_c (fun k hk hcut => by
            have := (zpk_q h9 (p := p) (by omega) hk hcut).1
            omega))] at h7
          exact absurd (zhsb_iff.mp h7) h4
      by_cases hb : b = 1118
      · subst hb
        rw [zmk_18]
        unfold zstl
        by_cases h6 : 61 * y ≤ j ∧ j ≤ 61 * y + 60 ∧ zhl M.2.1 s (2 * ((j - 61 * y : Nat) : Int) + od) (2 * (y : Int) + od) = true
        · have h7 := (key h6.1 h6.2.1).mpr h6.2.2
          have h8 : 61 * y ≤ j ∧ j ≤ 61 * y + 60 ∧ 60 < (j - 61 * y) + e ∧ zhsb (M.2.1 s 9) (zsx F (61 - (j - 61 * y))) = true := ⟨h6.1, h6.2.1, h7⟩
          rw [if_pos h8, if_pos ⟨rfl, h6⟩]
        · have h8 : ¬ (61 * y ≤ j ∧ j ≤ 61 * y + 60 ∧ 60 < (j - 61 * y) + e ∧ zhsb (M.2.1 s 9) (zsx F (61 - (j - 61 * y))) = true) := fun h7 => h6 ⟨h7.1, h7.2.1, (key h7.1 h7.2.1).mp h7.2.2⟩
          rw [if_neg h8, if_neg (fun h7 => h6 h7.2)]
      · unfold zstl
        rw [if_neg (fun h7 => hb h7.1)]
        by_cases hb2 : b = 1123
        · subst hb2
          rw [zmk_23, hfl]
          by_cases h7 : 60 < j + e
          · rw [if_pos h7]
          · rw [if_neg h7, FZ j (Or.inl ((hx j (by omega)).mp (by omega)))]; rfl
        · rw [zmk_o _ _ _ _ _ _ hb hb2]
    have second : ∀ d : Nat, d ≤ 61 - (l - 1) → zFR (zK L) 66 80 [some (.inr (.inr 1117)), some (.inr (.inr s)), some (.inl (y : Int)), some (.inl od), some (.inl mark), some (.inl (zsx F d : Int)), some (.inl (60 - (d : Int)))] [] (zwI M (zmk M.2.1 (M.2.1 s 9) F y mark d)) Q9 := by
      have om : ∀ d j, zmk M.2.1 (M.2.1 s 9) F y mark d s j = M.2.1 s j := by
        intro d j
        exact zmk_o _ _ _ _ _ _ sne.1 sne.2 j
      refine zloop ?_ ?_
      · refine zW_sound 60 [96] ?_
        simp only [ZR66, k1, zwI_I, om, hl, zW_succ, zE_iload, zE_aload, zE_lload, zE_iinc, zE_istore, zE_astore, zE_lstore, zE_iconst, zE_ldc2, zE_iadd, zE_isub, zE_imul, zE_idiv, zE_irem, zE_ineg, zE_iand, zE_ior, zE_ixor, zE_ishl, zE_ishr, zE_land, zE_lor, zE_lxor, zE_lshl, zE_lshr, zE_i2l, zE_lcmp, zE_dup_i, zE_dup_a, zE_dup2_ia, zE_pop_i, zE_pop_a, zE_pop2, zE_goto, zE_if_eq, zE_icmp_eq, zE_if_ne, zE_icmp_ne, zE_if_lt, zE_icmp_lt, zE_if_ge, zE_icmp_ge, zE_if_gt, zE_icmp_gt, zE_if_le, zE_icmp_le, zE_iaload, zE_baload, zE_laload, zE_aaload, zE_iastore, zE_bastore, zE_lastore, zE_aastore, zE_alen, zE_getf0, zE_getf1, zE_getf2, zE_getf3, zE_putf0, zE_putf1, zE_putf2, zE_putf3, zE_new, zE_newa, zE_newq, zE_ireturn, zE_lreturn, zE_areturn, zE_return, zE_athrow, zE_st0, zE_vi0, zE_st1, zE_vi1, zE_st2, zE_vi2, zE_st3, zE_vi3, zE_st4, zE_vi4, zE_st5, zE_vi5, zE_st6, zE_vi6, zE_st7, zE_vi7, zE_st8, zE_vi8, zSt_0, zSL_0, zSt_1n, zSt_1i, zSt_1a, zSt_1l, zSt_2n, zSt_2i, zSt_2a, zSt_2l, zSt_3n, zSt_3i, zSt_3a, zSt_3l, zSt_4n, zSt_4i, zSt_4a, zSt_4l, zSt_5n, zSt_5i, zSt_5a, zSt_5l, zSt_6n, zSt_6i, zSt_6a, zSt_6l, zSt_7n, zSt_7i, zSt_7a, zSt_7l, zSt_8n, zSt_8i, zSt_8a, zSt_8l, zSt_9n, zSt_9i, zSt_9a, zSt_9l, zSt_10n, zSt_10i, zSt_10a, zSt_10l, zSt_11n, zSt_11i, zSt_11a, zSt_11l, zSt_12n, zSt_12i, zSt_12a, zSt_12l, zSt_13n, zSt_13i, zSt_13a, zSt_13l, zSL_1n, zSL_1i, zSL_1a, zSL_1l, zSL_2n, zSL_2i, zSL_2a, zSL_2l, zSL_3n, zSL_3i, zSL_3a, zSL_3l, zSL_4n, zSL_4i, zSL_4a, zSL_4l, zSL_5n, zSL_5i, zSL_5a, zSL_5l, zSL_6n, zSL_6i, zSL_6a, zSL_6l, zSL_7n, zSL_7i, zSL_7a, zSL_7l, zSL_8n, zSL_8i, zSL_8a, zSL_8l, zSL_9n, zSL_9i, zSL_9a, zSL_9l, zSL_10n, zSL_10i, zSL_10a, zSL_10l, zSL_11n, zSL_11i, zSL_11a, zSL_11l, zSL_12n, zSL_12i, zSL_12a, zSL_12l, zLI_0, zLL_0, zLA_0, zLI_1, zLL_1, zLA_1, zLI_2, zLL_2, zLA_2, zLI_3, zLL_3, zLA_3, zLI_4, zLL_4, zLA_4, zLI_5, zLL_5, zLA_5, zLI_6, zLL_6, zLA_6, zLI_7, zLL_7, zLA_7, zLI_8, zLL_8, zLA_8, zLI_9, zLL_9, zLA_9, zLI_10, zLL_10, zLA_10, zLI_11, zLL_11, zLA_11, zLI_12, zLL_12, zLA_12, zLI_13, zLL_13, zLA_13, zst_0, zst_1n, zst_1i, zst_1a, zst_2n, zst_2i, zst_2a, zst_3n, zst_3i, zst_3a, zst_4n, zst_4i, zst_4a, zst_5n, zst_5i, zst_5a, zst_6n, zst_6i, zst_6a, zst_7n, zst_7i, zst_7a, zst_8n, zst_8i, zst_8a, zst_9n, zst_9i, zst_9a, zst_10n, zst_10i, zst_10a, zst_11n, zst_11i, zst_11a, zst_12n, zst_12i, zst_12a, zst_13n, zst_13i, zst_13a, zst_14n, zst_14i, zst_14a, zst_15n, zst_15i, zst_15a, zR1_n, zR1_v, zsum_n, zsum_i, zsum_l, zsum_a, zlen_n, zlen_i, zlen_l, zlen_a, List.not_mem_nil, List.mem_cons, or_false, false_or, or_self, ↓reduceIte, if_false, if_true, Nat.reduceEqDiff, Nat.reduceAdd, Nat.reduceLeDiff, true_and, and_true, reduceCtorEq, ne_eq, Int.toNat_natCast, not_true_eq_false, not_false_eq_true, true_implies, false_implies, implies_true, Int.reduceToNat, Int.toNat_zero, Int.reduceLT, Int.reduceLE, Int.reduceEq, Int.reduceAdd, Int.reduceMul, Int.reduceNeg]
        rw [ze (61 - (l - 1)) (by omega) (fun x hx => by omega)]
        subst hQ
        exact ⟨fun _ => ⟨rfl, rfl⟩, fun h => ⟨by unfold zr32; omega, fun _ => ⟨rfl, rfl⟩, fun h2 => absurd (by omega) h2⟩⟩
      · intro d hd ih
        have sb : ∀ e, zsx F e < 16 := by
          intro e
          induction e with
          | zero => show 0 < 16; omega
          | succ e ih => rw [zsx_s]; exact Nat.xor_lt_two_pow (n := 4) (FB _) ih
        have m1 := zmk_1 (f := M.2.1) (t := M.2.1 s 9) (F := F) (y := y) (mark := mark) (d := d) (by omega)
        have m2 := zmk_2 (f := M.2.1) (t := M.2.1 s 9) (F := F) (y := y) (mark := mark) (d := d) (by omega)
        have hv : zmk M.2.1 (M.2.1 s 9) F y mark d 1123 (60 - d) = (F (60 - d) : Int) := by
          rw [zmk_23, if_neg (by omega)]
        have eT : (60 - (d : Int)).toNat = 60 - d := by omega
        have hx := zxor_n (a := zsx F d) (b := F (60 - d)) (by have := sb d; omega) (by have := FB (60 - d); omega)
        rw [Nat.xor_comm, ← zsx_s] at hx
        have e92 : ∀ (m : Nat → Nat → Int) (Q : zO → zM → Prop), m s 9 = M.2.1 s 9 → zFR (zK L) 92 0 (zcall 92 [.inr (.inr s), .inl (zsx F (d + 1) : Int)]) [] (zwI M m) Q = ((zhs (M.2.1 s 9) (zsx F (d + 1)) → Q (.inl (some (.inl 1))) (zwI M m)) ∧ (¬ zhs (M.2.1 s 9) (zsx F (d + 1)) → Q (.inl (some (.inl 0))) (zwI M m))) := by
          intro m Q hm
          have := c92 (L := L) (M := zwI M m) (Q := Q) (v := zsx F (d + 1)) hs (by have := sb (d + 1); omega) (by rw [zwI_I, hm]; exact h1.2.1)
          rw [zwI_I, hm] at this
          exact this
        have eT2 : ((y : Int) * 61 + (60 - (d : Int))).toNat = 61 * y + (60 - d) := by omega
        refine zW_sound 60 [80, 145] ?_
        simp only [ZR66, k1, hF, zk_1117, zk_1118, zk_1123, zwI_I, zwI_2, zsI_wI, zwI_w, om, hl, eT, eT2, hv, hx, ZF92.1, ZF92.2.1, ZF92.2.2.1, e92 _ _ (show zu2 (zmk M.2.1 (M.2.1 s 9) F y mark d) 1123 (60 - d) 0 s 9 = M.2.1 s 9 by rw [zu2_a sne.2, om]), zW_succ, zE_iload, zE_aload, zE_lload, zE_iinc, zE_istore, zE_astore, zE_lstore, zE_iconst, zE_ldc2, zE_iadd, zE_isub, zE_imul, zE_idiv, zE_irem, zE_ineg, zE_iand, zE_ior, zE_ixor, zE_ishl, zE_ishr, zE_land, zE_lor, zE_lxor, zE_lshl, zE_lshr, zE_i2l, zE_lcmp, zE_dup_i, zE_dup_a, zE_dup2_ia, zE_pop_i, zE_pop_a, zE_pop2, zE_goto, zE_if_eq, zE_icmp_eq, zE_if_ne, zE_icmp_ne, zE_if_lt, zE_icmp_lt, zE_if_ge, zE_icmp_ge, zE_if_gt, zE_icmp_gt, zE_if_le, zE_icmp_le, zE_iaload, zE_baload, zE_laload, zE_aaload, zE_iastore, zE_bastore, zE_lastore, zE_aastore, zE_alen, zE_getf0, zE_getf1, zE_getf2, zE_getf3, zE_putf0, zE_putf1, zE_putf2, zE_putf3, zE_new, zE_newa, zE_newq, zE_ireturn, zE_lreturn, zE_areturn, zE_return, zE_athrow, zE_st0, zE_vi0, zE_st1, zE_vi1, zE_st2, zE_vi2, zE_st3, zE_vi3, zE_st4, zE_vi4, zE_st5, zE_vi5, zE_st6, zE_vi6, zE_st7, zE_vi7, zE_st8, zE_vi8, zSt_0, zSL_0, zSt_1n, zSt_1i, zSt_1a, zSt_1l, zSt_2n, zSt_2i, zSt_2a, zSt_2l, zSt_3n, zSt_3i, zSt_3a, zSt_3l, zSt_4n, zSt_4i, zSt_4a, zSt_4l, zSt_5n, zSt_5i, zSt_5a, zSt_5l, zSt_6n, zSt_6i, zSt_6a, zSt_6l, zSt_7n, zSt_7i, zSt_7a, zSt_7l, zSt_8n, zSt_8i, zSt_8a, zSt_8l, zSt_9n, zSt_9i, zSt_9a, zSt_9l, zSt_10n, zSt_10i, zSt_10a, zSt_10l, zSt_11n, zSt_11i, zSt_11a, zSt_11l, zSt_12n, zSt_12i, zSt_12a, zSt_12l, zSt_13n, zSt_13i, zSt_13a, zSt_13l, zSL_1n, zSL_1i, zSL_1a, zSL_1l, zSL_2n, zSL_2i, zSL_2a, zSL_2l, zSL_3n, zSL_3i, zSL_3a, zSL_3l, zSL_4n, zSL_4i, zSL_4a, zSL_4l, zSL_5n, zSL_5i, zSL_5a, zSL_5l, zSL_6n, zSL_6i, zSL_6a, zSL_6l, zSL_7n, zSL_7i, zSL_7a, zSL_7l, zSL_8n, zSL_8i, zSL_8a, zSL_8l, zSL_9n, zSL_9i, zSL_9a, zSL_9l, zSL_10n, zSL_10i, zSL_10a, zSL_10l, zSL_11n, zSL_11i, zSL_11a, zSL_11l, zSL_12n, zSL_12i, zSL_12a, zSL_12l, zLI_0, zLL_0, zLA_0, zLI_1, zLL_1, zLA_1, zLI_2, zLL_2, zLA_2, zLI_3, zLL_3, zLA_3, zLI_4, zLL_4, zLA_4, zLI_5, zLL_5, zLA_5, zLI_6, zLL_6, zLA_6, zLI_7, zLL_7, zLA_7, zLI_8, zLL_8, zLA_8, zLI_9, zLL_9, zLA_9, zLI_10, zLL_10, zLA_10, zLI_11, zLL_11, zLA_11, zLI_12, zLL_12, zLA_12, zLI_13, zLL_13, zLA_13, zst_0, zst_1n, zst_1i, zst_1a, zst_2n, zst_2i, zst_2a, zst_3n, zst_3i, zst_3a, zst_4n, zst_4i, zst_4a, zst_5n, zst_5i, zst_5a, zst_6n, zst_6i, zst_6a, zst_7n, zst_7i, zst_7a, zst_8n, zst_8i, zst_8a, zst_9n, zst_9i, zst_9a, zst_10n, zst_10i, zst_10a, zst_11n, zst_11i, zst_11a, zst_12n, zst_12i, zst_12a, zst_13n, zst_13i, zst_13a, zst_14n, zst_14i, zst_14a, zst_15n, zst_15i, zst_15a, zR1_n, zR1_v, zsum_n, zsum_i, zsum_l, zsum_a, zlen_n, zlen_i, zlen_l, zlen_a, List.not_mem_nil, List.mem_cons, or_false, false_or, or_self, ↓reduceIte, if_false, if_true, Nat.reduceEqDiff, Nat.reduceAdd, Nat.reduceLeDiff, true_and, and_true, reduceCtorEq, ne_eq, Int.toNat_natCast, not_true_eq_false, not_false_eq_true, true_implies, false_implies, implies_true, Int.reduceToNat, Int.toNat_zero, Int.reduceLT, Int.reduceLE, Int.reduceEq, Int.reduceAdd, Int.reduceMul, Int.reduceNeg]
        rw [show 60 - (d : Int) + -1 = 60 - ((d + 1 : Nat) : Int) by omega]
        refine ⟨fun h => absurd h (by omega), fun _ => ⟨by unfold zr32; omega, fun h => absurd h (by omega), fun _ => ⟨by omega, by omega, fun hh => ⟨by unfold zr32; omega, by unfold zr32; omega, by omega, by unfold zr32; omega, ?_⟩, fun hh => ⟨by unfold zr32; omega, ?_⟩⟩⟩⟩
        · rw [m2 (zhsb_iff.mpr hh)]
          exact ih
        · rw [m1 (fun h => hh (zhsb_iff.mp h))]
          exact ih
    have first : ∀ k : Nat, k ≤ c → ∀ y6, zFR (zK L) 66 30 [some (.inr (.inr 1117)), some (.inr (.inr s)), some (.inl (y : Int)), some (.inl od), some (.inl mark), some (.inl (k : Int)), y6] [] (zwI M (zfla M.2.1 (zfls (zN M.2.1 s) (zX M.2.1 s) (zY M.2.1 s) (2 * (y : Int) + od) od k))) Q9 := by
      have oa : ∀ (fl : Nat → Nat) j, zfla M.2.1 fl s j = M.2.1 s j := fun fl j => zua_o sne.2 _ j
      refine zloop ?_ ?_
      · intro y6
        rw [hG, zi]
        have o9 := second (60 - r) (by omega)
        rw [zsx_z (r := r) (fun j hj => FZ j (by omega)) _ (by omega)] at o9
        have om : ∀ d j, zmk M.2.1 (M.2.1 s 9) F y mark d s j = M.2.1 s j := by
          intro d j
          exact zmk_o _ _ _ _ _ _ sne.1 sne.2 j
        refine zW_sound 60 [39, 80] ?_
        simp only [ZR66, k1, zwI_I, om, hc, hr, ZF387.1, ZF387.2.1, ZF387.2.2.1, c387, zW_succ, zE_iload, zE_aload, zE_lload, zE_iinc, zE_istore, zE_astore, zE_lstore, zE_iconst, zE_ldc2, zE_iadd, zE_isub, zE_imul, zE_idiv, zE_irem, zE_ineg, zE_iand, zE_ior, zE_ixor, zE_ishl, zE_ishr, zE_land, zE_lor, zE_lxor, zE_lshl, zE_lshr, zE_i2l, zE_lcmp, zE_dup_i, zE_dup_a, zE_dup2_ia, zE_pop_i, zE_pop_a, zE_pop2, zE_goto, zE_if_eq, zE_icmp_eq, zE_if_ne, zE_icmp_ne, zE_if_lt, zE_icmp_lt, zE_if_ge, zE_icmp_ge, zE_if_gt, zE_icmp_gt, zE_if_le, zE_icmp_le, zE_iaload, zE_baload, zE_laload, zE_aaload, zE_iastore, zE_bastore, zE_lastore, zE_aastore, zE_alen, zE_getf0, zE_getf1, zE_getf2, zE_getf3, zE_putf0, zE_putf1, zE_putf2, zE_putf3, zE_new, zE_newa, zE_newq, zE_ireturn, zE_lreturn, zE_areturn, zE_return, zE_athrow, zE_st0, zE_vi0, zE_st1, zE_vi1, zE_st2, zE_vi2, zE_st3, zE_vi3, zE_st4, zE_vi4, zE_st5, zE_vi5, zE_st6, zE_vi6, zE_st7, zE_vi7, zE_st8, zE_vi8, zSt_0, zSL_0, zSt_1n, zSt_1i, zSt_1a, zSt_1l, zSt_2n, zSt_2i, zSt_2a, zSt_2l, zSt_3n, zSt_3i, zSt_3a, zSt_3l, zSt_4n, zSt_4i, zSt_4a, zSt_4l, zSt_5n, zSt_5i, zSt_5a, zSt_5l, zSt_6n, zSt_6i, zSt_6a, zSt_6l, zSt_7n, zSt_7i, zSt_7a, zSt_7l, zSt_8n, zSt_8i, zSt_8a, zSt_8l, zSt_9n, zSt_9i, zSt_9a, zSt_9l, zSt_10n, zSt_10i, zSt_10a, zSt_10l, zSt_11n, zSt_11i, zSt_11a, zSt_11l, zSt_12n, zSt_12i, zSt_12a, zSt_12l, zSt_13n, zSt_13i, zSt_13a, zSt_13l, zSL_1n, zSL_1i, zSL_1a, zSL_1l, zSL_2n, zSL_2i, zSL_2a, zSL_2l, zSL_3n, zSL_3i, zSL_3a, zSL_3l, zSL_4n, zSL_4i, zSL_4a, zSL_4l, zSL_5n, zSL_5i, zSL_5a, zSL_5l, zSL_6n, zSL_6i, zSL_6a, zSL_6l, zSL_7n, zSL_7i, zSL_7a, zSL_7l, zSL_8n, zSL_8i, zSL_8a, zSL_8l, zSL_9n, zSL_9i, zSL_9a, zSL_9l, zSL_10n, zSL_10i, zSL_10a, zSL_10l, zSL_11n, zSL_11i, zSL_11a, zSL_11l, zSL_12n, zSL_12i, zSL_12a, zSL_12l, zLI_0, zLL_0, zLA_0, zLI_1, zLL_1, zLA_1, zLI_2, zLL_2, zLA_2, zLI_3, zLL_3, zLA_3, zLI_4, zLL_4, zLA_4, zLI_5, zLL_5, zLA_5, zLI_6, zLL_6, zLA_6, zLI_7, zLL_7, zLA_7, zLI_8, zLL_8, zLA_8, zLI_9, zLL_9, zLA_9, zLI_10, zLL_10, zLA_10, zLI_11, zLL_11, zLA_11, zLI_12, zLL_12, zLA_12, zLI_13, zLL_13, zLA_13, zst_0, zst_1n, zst_1i, zst_1a, zst_2n, zst_2i, zst_2a, zst_3n, zst_3i, zst_3a, zst_4n, zst_4i, zst_4a, zst_5n, zst_5i, zst_5a, zst_6n, zst_6i, zst_6a, zst_7n, zst_7i, zst_7a, zst_8n, zst_8i, zst_8a, zst_9n, zst_9i, zst_9a, zst_10n, zst_10i, zst_10a, zst_11n, zst_11i, zst_11a, zst_12n, zst_12i, zst_12a, zst_13n, zst_13i, zst_13a, zst_14n, zst_14i, zst_14a, zst_15n, zst_15i, zst_15a, zR1_n, zR1_v, zsum_n, zsum_i, zsum_l, zsum_a, zlen_n, zlen_i, zlen_l, zlen_a, List.not_mem_nil, List.mem_cons, or_false, false_or, or_self, ↓reduceIte, if_false, if_true, Nat.reduceEqDiff, Nat.reduceAdd, Nat.reduceLeDiff, true_and, and_true, reduceCtorEq, ne_eq, Int.toNat_natCast, not_true_eq_false, not_false_eq_true, true_implies, false_implies, implies_true, Int.reduceToNat, Int.toNat_zero, Int.reduceLT, Int.reduceLE, Int.reduceEq, Int.reduceAdd, Int.reduceMul, Int.reduceNeg]
        rw [show min (r : Int) 60 = 60 - ((60 - r : Nat) : Int) by omega]
        exact ⟨fun _ => o9, fun h => absurd (Int.le_refl _) h⟩
      · intro k hk ih y6
        have fb := zfls_b (zN M.2.1 s) (zX M.2.1 s) (zY M.2.1 s) (2 * (y : Int) + od) od k (by omega)
        have p16 : 2 ^ k < 16 := Nat.lt_of_lt_of_le (Nat.pow_lt_pow_right (by omega) (show k < 4 by omega)) (Nat.le_refl _)
        have e67 := fun Q => c67 (L := L) (M := M) (Q := Q) (a := s + 2 + 3 * k) (f := M.2.1) (dy := 2 * (y : Int) + od) (od := od) (bit := 2 ^ k) (fl := zfls (zN M.2.1 s) (zX M.2.1 s) (zY M.2.1 s) (2 * (y : Int) + od) od k) (zPoA_sh hs (by omega)) hR (h1.2.2 k (by omega)) (by omega) ho p16 fb
        have ez : zfls (zN M.2.1 s) (zX M.2.1 s) (zY M.2.1 s) (2 * (y : Int) + od) od (k + 1) = zflp (M.2.1 (s + 2 + 3 * k) 0) (M.2.1 (s + 2 + 3 * k + 1)) (M.2.1 (s + 2 + 3 * k + 2)) (2 * (y : Int) + od) od (2 ^ k) (M.2.1 (s + 2 + 3 * k) 0).toNat (zfls (zN M.2.1 s) (zX M.2.1 s) (zY M.2.1 s) (2 * (y : Int) + od) od k) := rfl
        rw [← ez] at e67
        refine zW_sound 60 [30, 66] ?_
        simp only [ZR66, k1, k2, r1, r2 k (by omega), zwI_I, zwI_2, oa, hc, zshl1 (show k < 31 by omega), ZF67.1, ZF67.2.1, ZF67.2.2.1, e67, zk_1117, zW_succ, zE_iload, zE_aload, zE_lload, zE_iinc, zE_istore, zE_astore, zE_lstore, zE_iconst, zE_ldc2, zE_iadd, zE_isub, zE_imul, zE_idiv, zE_irem, zE_ineg, zE_iand, zE_ior, zE_ixor, zE_ishl, zE_ishr, zE_land, zE_lor, zE_lxor, zE_lshl, zE_lshr, zE_i2l, zE_lcmp, zE_dup_i, zE_dup_a, zE_dup2_ia, zE_pop_i, zE_pop_a, zE_pop2, zE_goto, zE_if_eq, zE_icmp_eq, zE_if_ne, zE_icmp_ne, zE_if_lt, zE_icmp_lt, zE_if_ge, zE_icmp_ge, zE_if_gt, zE_icmp_gt, zE_if_le, zE_icmp_le, zE_iaload, zE_baload, zE_laload, zE_aaload, zE_iastore, zE_bastore, zE_lastore, zE_aastore, zE_alen, zE_getf0, zE_getf1, zE_getf2, zE_getf3, zE_putf0, zE_putf1, zE_putf2, zE_putf3, zE_new, zE_newa, zE_newq, zE_ireturn, zE_lreturn, zE_areturn, zE_return, zE_athrow, zE_st0, zE_vi0, zE_st1, zE_vi1, zE_st2, zE_vi2, zE_st3, zE_vi3, zE_st4, zE_vi4, zE_st5, zE_vi5, zE_st6, zE_vi6, zE_st7, zE_vi7, zE_st8, zE_vi8, zSt_0, zSL_0, zSt_1n, zSt_1i, zSt_1a, zSt_1l, zSt_2n, zSt_2i, zSt_2a, zSt_2l, zSt_3n, zSt_3i, zSt_3a, zSt_3l, zSt_4n, zSt_4i, zSt_4a, zSt_4l, zSt_5n, zSt_5i, zSt_5a, zSt_5l, zSt_6n, zSt_6i, zSt_6a, zSt_6l, zSt_7n, zSt_7i, zSt_7a, zSt_7l, zSt_8n, zSt_8i, zSt_8a, zSt_8l, zSt_9n, zSt_9i, zSt_9a, zSt_9l, zSt_10n, zSt_10i, zSt_10a, zSt_10l, zSt_11n, zSt_11i, zSt_11a, zSt_11l, zSt_12n, zSt_12i, zSt_12a, zSt_12l, zSt_13n, zSt_13i, zSt_13a, zSt_13l, zSL_1n, zSL_1i, zSL_1a, zSL_1l, zSL_2n, zSL_2i, zSL_2a, zSL_2l, zSL_3n, zSL_3i, zSL_3a, zSL_3l, zSL_4n, zSL_4i, zSL_4a, zSL_4l, zSL_5n, zSL_5i, zSL_5a, zSL_5l, zSL_6n, zSL_6i, zSL_6a, zSL_6l, zSL_7n, zSL_7i, zSL_7a, zSL_7l, zSL_8n, zSL_8i, zSL_8a, zSL_8l, zSL_9n, zSL_9i, zSL_9a, zSL_9l, zSL_10n, zSL_10i, zSL_10a, zSL_10l, zSL_11n, zSL_11i, zSL_11a, zSL_11l, zSL_12n, zSL_12i, zSL_12a, zSL_12l, zLI_0, zLL_0, zLA_0, zLI_1, zLL_1, zLA_1, zLI_2, zLL_2, zLA_2, zLI_3, zLL_3, zLA_3, zLI_4, zLL_4, zLA_4, zLI_5, zLL_5, zLA_5, zLI_6, zLL_6, zLA_6, zLI_7, zLL_7, zLA_7, zLI_8, zLL_8, zLA_8, zLI_9, zLL_9, zLA_9, zLI_10, zLL_10, zLA_10, zLI_11, zLL_11, zLA_11, zLI_12, zLL_12, zLA_12, zLI_13, zLL_13, zLA_13, zst_0, zst_1n, zst_1i, zst_1a, zst_2n, zst_2i, zst_2a, zst_3n, zst_3i, zst_3a, zst_4n, zst_4i, zst_4a, zst_5n, zst_5i, zst_5a, zst_6n, zst_6i, zst_6a, zst_7n, zst_7i, zst_7a, zst_8n, zst_8i, zst_8a, zst_9n, zst_9i, zst_9a, zst_10n, zst_10i, zst_10a, zst_11n, zst_11i, zst_11a, zst_12n, zst_12i, zst_12a, zst_13n, zst_13i, zst_13a, zst_14n, zst_14i, zst_14a, zst_15n, zst_15i, zst_15a, zR1_n, zR1_v, zsum_n, zsum_i, zsum_l, zsum_a, zlen_n, zlen_i, zlen_l, zlen_a, List.not_mem_nil, List.mem_cons, or_false, false_or, or_self, ↓reduceIte, if_false, if_true, Nat.reduceEqDiff, Nat.reduceAdd, Nat.reduceLeDiff, true_and, and_true, reduceCtorEq, ne_eq, Int.toNat_natCast, not_true_eq_false, not_false_eq_true, true_implies, false_implies, implies_true, Int.reduceToNat, Int.toNat_zero, Int.reduceLT, Int.reduceLE, Int.reduceEq, Int.reduceAdd, Int.reduceMul, Int.reduceNeg]
        exact ⟨fun h => absurd h (by omega), fun _ => ⟨by omega, by unfold zr32; omega, by unfold zr32; omega, by unfold zr32; omega, ih _⟩⟩
    have o9 := first 0 (Nat.zero_le _) none
    rw [show zfls (zN M.2.1 s) (zX M.2.1 s) (zY M.2.1 s) (2 * (y : Int) + od) od 0 = fun _ => 0 from rfl, f0] at o9
    refine zW_sound 60 [30] ?_
    simp only [ZF66, ZR66, k1, zW_succ, zE_iload, zE_aload, zE_lload, zE_iinc, zE_istore, zE_astore, zE_lstore, zE_iconst, zE_ldc2, zE_iadd, zE_isub, zE_imul, zE_idiv, zE_irem, zE_ineg, zE_iand, zE_ior, zE_ixor, zE_ishl, zE_ishr, zE_land, zE_lor, zE_lxor, zE_lshl, zE_lshr, zE_i2l, zE_lcmp, zE_dup_i, zE_dup_a, zE_dup2_ia, zE_pop_i, zE_pop_a, zE_pop2, zE_goto, zE_if_eq, zE_icmp_eq, zE_if_ne, zE_icmp_ne, zE_if_lt, zE_icmp_lt, zE_if_ge, zE_icmp_ge, zE_if_gt, zE_icmp_gt, zE_if_le, zE_icmp_le, zE_iaload, zE_baload, zE_laload, zE_aaload, zE_iastore, zE_bastore, zE_lastore, zE_aastore, zE_alen, zE_getf0, zE_getf1, zE_getf2, zE_getf3, zE_putf0, zE_putf1, zE_putf2, zE_putf3, zE_new, zE_newa, zE_newq, zE_ireturn, zE_lreturn, zE_areturn, zE_return, zE_athrow, zE_st0, zE_vi0, zE_st1, zE_vi1, zE_st2, zE_vi2, zE_st3, zE_vi3, zE_st4, zE_vi4, zE_st5, zE_vi5, zE_st6, zE_vi6, zE_st7, zE_vi7, zE_st8, zE_vi8, zSt_0, zSL_0, zSt_1n, zSt_1i, zSt_1a, zSt_1l, zSt_2n, zSt_2i, zSt_2a, zSt_2l, zSt_3n, zSt_3i, zSt_3a, zSt_3l, zSt_4n, zSt_4i, zSt_4a, zSt_4l, zSt_5n, zSt_5i, zSt_5a, zSt_5l, zSt_6n, zSt_6i, zSt_6a, zSt_6l, zSt_7n, zSt_7i, zSt_7a, zSt_7l, zSt_8n, zSt_8i, zSt_8a, zSt_8l, zSt_9n, zSt_9i, zSt_9a, zSt_9l, zSt_10n, zSt_10i, zSt_10a, zSt_10l, zSt_11n, zSt_11i, zSt_11a, zSt_11l, zSt_12n, zSt_12i, zSt_12a, zSt_12l, zSt_13n, zSt_13i, zSt_13a, zSt_13l, zSL_1n, zSL_1i, zSL_1a, zSL_1l, zSL_2n, zSL_2i, zSL_2a, zSL_2l, zSL_3n, zSL_3i, zSL_3a, zSL_3l, zSL_4n, zSL_4i, zSL_4a, zSL_4l, zSL_5n, zSL_5i, zSL_5a, zSL_5l, zSL_6n, zSL_6i, zSL_6a, zSL_6l, zSL_7n, zSL_7i, zSL_7a, zSL_7l, zSL_8n, zSL_8i, zSL_8a, zSL_8l, zSL_9n, zSL_9i, zSL_9a, zSL_9l, zSL_10n, zSL_10i, zSL_10a, zSL_10l, zSL_11n, zSL_11i, zSL_11a, zSL_11l, zSL_12n, zSL_12i, zSL_12a, zSL_12l, zLI_0, zLL_0, zLA_0, zLI_1, zLL_1, zLA_1, zLI_2, zLL_2, zLA_2, zLI_3, zLL_3, zLA_3, zLI_4, zLL_4, zLA_4, zLI_5, zLL_5, zLA_5, zLI_6, zLL_6, zLA_6, zLI_7, zLL_7, zLA_7, zLI_8, zLL_8, zLA_8, zLI_9, zLL_9, zLA_9, zLI_10, zLL_10, zLA_10, zLI_11, zLL_11, zLA_11, zLI_12, zLL_12, zLA_12, zLI_13, zLL_13, zLA_13, zst_0, zst_1n, zst_1i, zst_1a, zst_2n, zst_2i, zst_2a, zst_3n, zst_3i, zst_3a, zst_4n, zst_4i, zst_4a, zst_5n, zst_5i, zst_5a, zst_6n, zst_6i, zst_6a, zst_7n, zst_7i, zst_7a, zst_8n, zst_8i, zst_8a, zst_9n, zst_9i, zst_9a, zst_10n, zst_10i, zst_10a, zst_11n, zst_11i, zst_11a, zst_12n, zst_12i, zst_12a, zst_13n, zst_13i, zst_13a, zst_14n, zst_14i, zst_14a, zst_15n, zst_15i, zst_15a, zR1_n, zR1_v, zsum_n, zsum_i, zsum_l, zsum_a, zlen_n, zlen_i, zlen_l, zlen_a, List.not_mem_nil, List.mem_cons, or_false, false_or, or_self, ↓reduceIte, if_false, if_true, Nat.reduceEqDiff, Nat.reduceAdd, Nat.reduceLeDiff, true_and, and_true, reduceCtorEq, ne_eq, Int.toNat_natCast, not_true_eq_false, not_false_eq_true, true_implies, false_implies, implies_true, Int.reduceToNat, Int.toNat_zero, Int.reduceLT, Int.reduceLE, Int.reduceEq, Int.reduceAdd, Int.reduceMul, Int.reduceNeg]
    exact ⟨fun h => absurd h (by omega), fun _ => ⟨fun h => absurd h (by omega), fun _ => ⟨fun h => absurd h (by omega), fun _ => ⟨fun _ => o9, fun h => absurd (by omega) h⟩⟩⟩⟩
  · have hz : zstl M.2.1 s y od mark = M.2.1 := by
      funext b j
      unfold zstl
      rw [if_neg (fun h6 => by
        rw [zhl_y h ho (by omega)] at h6
        exact absurd h6.2.2.2 (by decide))]
    rw [hz]
    refine zW_sound 60 [27] ?_
    simp only [ZF66, ZR66, k1, zW_succ, zE_iload, zE_aload, zE_lload, zE_iinc, zE_istore, zE_astore, zE_lstore, zE_iconst, zE_ldc2, zE_iadd, zE_isub, zE_imul, zE_idiv, zE_irem, zE_ineg, zE_iand, zE_ior, zE_ixor, zE_ishl, zE_ishr, zE_land, zE_lor, zE_lxor, zE_lshl, zE_lshr, zE_i2l, zE_lcmp, zE_dup_i, zE_dup_a, zE_dup2_ia, zE_pop_i, zE_pop_a, zE_pop2, zE_goto, zE_if_eq, zE_icmp_eq, zE_if_ne, zE_icmp_ne, zE_if_lt, zE_icmp_lt, zE_if_ge, zE_icmp_ge, zE_if_gt, zE_icmp_gt, zE_if_le, zE_icmp_le, zE_iaload, zE_baload, zE_laload, zE_aaload, zE_iastore, zE_bastore, zE_lastore, zE_aastore, zE_alen, zE_getf0, zE_getf1, zE_getf2, zE_getf3, zE_putf0, zE_putf1, zE_putf2, zE_putf3, zE_new, zE_newa, zE_newq, zE_ireturn, zE_lreturn, zE_areturn, zE_return, zE_athrow, zE_st0, zE_vi0, zE_st1, zE_vi1, zE_st2, zE_vi2, zE_st3, zE_vi3, zE_st4, zE_vi4, zE_st5, zE_vi5, zE_st6, zE_vi6, zE_st7, zE_vi7, zE_st8, zE_vi8, zSt_0, zSL_0, zSt_1n, zSt_1i, zSt_1a, zSt_1l, zSt_2n, zSt_2i, zSt_2a, zSt_2l, zSt_3n, zSt_3i, zSt_3a, zSt_3l, zSt_4n, zSt_4i, zSt_4a, zSt_4l, zSt_5n, zSt_5i, zSt_5a, zSt_5l, zSt_6n, zSt_6i, zSt_6a, zSt_6l, zSt_7n, zSt_7i, zSt_7a, zSt_7l, zSt_8n, zSt_8i, zSt_8a, zSt_8l, zSt_9n, zSt_9i, zSt_9a, zSt_9l, zSt_10n, zSt_10i, zSt_10a, zSt_10l, zSt_11n, zSt_11i, zSt_11a, zSt_11l, zSt_12n, zSt_12i, zSt_12a, zSt_12l, zSt_13n, zSt_13i, zSt_13a, zSt_13l, zSL_1n, zSL_1i, zSL_1a, zSL_1l, zSL_2n, zSL_2i, zSL_2a, zSL_2l, zSL_3n, zSL_3i, zSL_3a, zSL_3l, zSL_4n, zSL_4i, zSL_4a, zSL_4l, zSL_5n, zSL_5i, zSL_5a, zSL_5l, zSL_6n, zSL_6i, zSL_6a, zSL_6l, zSL_7n, zSL_7i, zSL_7a, zSL_7l, zSL_8n, zSL_8i, zSL_8a, zSL_8l, zSL_9n, zSL_9i, zSL_9a, zSL_9l, zSL_10n, zSL_10i, zSL_10a, zSL_10l, zSL_11n, zSL_11i, zSL_11a, zSL_11l, zSL_12n, zSL_12i, zSL_12a, zSL_12l, zLI_0, zLL_0, zLA_0, zLI_1, zLL_1, zLA_1, zLI_2, zLL_2, zLA_2, zLI_3, zLL_3, zLA_3, zLI_4, zLL_4, zLA_4, zLI_5, zLL_5, zLA_5, zLI_6, zLL_6, zLA_6, zLI_7, zLL_7, zLA_7, zLI_8, zLL_8, zLA_8, zLI_9, zLL_9, zLA_9, zLI_10, zLL_10, zLA_10, zLI_11, zLL_11, zLA_11, zLI_12, zLL_12, zLA_12, zLI_13, zLL_13, zLA_13, zst_0, zst_1n, zst_1i, zst_1a, zst_2n, zst_2i, zst_2a, zst_3n, zst_3i, zst_3a, zst_4n, zst_4i, zst_4a, zst_5n, zst_5i, zst_5a, zst_6n, zst_6i, zst_6a, zst_7n, zst_7i, zst_7a, zst_8n, zst_8i, zst_8a, zst_9n, zst_9i, zst_9a, zst_10n, zst_10i, zst_10a, zst_11n, zst_11i, zst_11a, zst_12n, zst_12i, zst_12a, zst_13n, zst_13i, zst_13a, zst_14n, zst_14i, zst_14a, zst_15n, zst_15i, zst_15a, zR1_n, zR1_v, zsum_n, zsum_i, zsum_l, zsum_a, zlen_n, zlen_i, zlen_l, zlen_a, List.not_mem_nil, List.mem_cons, or_false, false_or, or_self, ↓reduceIte, if_false, if_true, Nat.reduceEqDiff, Nat.reduceAdd, Nat.reduceLeDiff, true_and, and_true, reduceCtorEq, ne_eq, Int.toNat_natCast, not_true_eq_false, not_false_eq_true, true_implies, false_implies, implies_true, Int.reduceToNat, Int.toNat_zero, Int.reduceLT, Int.reduceLE, Int.reduceEq, Int.reduceAdd, Int.reduceMul, Int.reduceNeg]
    exact ⟨fun _ => rfl, fun h1 => ⟨fun _ => rfl, fun h2 => absurd ⟨by omega, by omega⟩ hyf⟩⟩
theorem zvw_f {f g : Nat → Nat → Int} {s : Nat} (h : ∀ b j, s ≤ b → b < s + 14 → f b j = g b j) {p : Nat} (hp : p < 4) : zN f s p = zN g s p ∧ zX f s p = zX g s p ∧ zY f s p = zY g s p := ⟨h _ _ (by omega) (by omega), funext (fun j => h _ _ (by omega) (by omega)), funext (fun j => h _ _ (by omega) (by omega))⟩
theorem zpt_cong {g g' : Nat → Int} : ∀ c, (∀ p, p < c → g p = g' p) → zpt g c = zpt g' c
  | 0, _ => rfl
  | c + 1, h => by
    have ih := zpt_cong c (fun p hp => h p (by omega))
    unfold zpt
    rw [ih, h c (by omega)]
theorem zhl_f {f g : Nat → Nat → Int} {s : Nat} (h : ∀ b j, s ≤ b → b < s + 14 → f b j = g b j) (hw : zSw g s) (x y : Int) : zhl f s x y = zhl g s x y := by
  have e9 : f s 9 = g s 9 := h _ _ (by omega) (by omega)
  have e10 : f s 10 = g s 10 := h _ _ (by omega) (by omega)
  have h1 := hw.1
  unfold zhl zhlb
  rw [e9, e10]
  congr 1
  refine zpt_cong _ (fun p hp => ?_)
  obtain ⟨a1, a2, a3⟩ := zvw_f h (p := p) (by omega)
  rw [a1, a2, a3]
theorem zSw_g {f g : Nat → Nat → Int} {s : Nat} (h : ∀ b j, s ≤ b → b < s + 14 → f b j = g b j) (hg : zSw g s) : zSw f s := by
  obtain ⟨h1, h2, h3⟩ := hg
  have e10 : f s 10 = g s 10 := h _ _ (by omega) (by omega)
  refine ⟨by rw [e10]; exact h1, by rw [h _ _ (by omega) (by omega)]; exact h2, fun p hp => ?_⟩
  rw [e10] at hp
  obtain ⟨a1, a2, a3⟩ := zvw_f h (p := p) (by omega)
  rw [a1, a2, a3]
  exact h3 p hp
theorem zFm_g {f g : Nat → Nat → Int} {s : Nat} (h : ∀ b j, s ≤ b → b < s + 14 → f b j = g b j) (hg : zFm g s) : zFm f s := by
  unfold zFm at hg ⊢
  rw [h s 11 (by omega) (by omega), h s 12 (by omega) (by omega), h s 13 (by omega) (by omega), h s 14 (by omega) (by omega)]
  exact hg
theorem zPk_g {f g : Nat → Nat → Int} {s : Nat} (h : ∀ b j, s ≤ b → b < s + 14 → f b j = g b j) (hg : zPk g s) : zPk f s := by
  obtain ⟨h1, h2, h3, h4, h5⟩ := hg
  have e : ∀ j, f s j = g s j := fun j => h s j (by omega) (by omega)
  have c4 := h1.1
  refine ⟨zSw_g h h1, zFm_g h h2, by rw [e, e]; exact h3, by rw [e]; exact h4, fun p hp => ?_⟩
  rw [e] at hp
  obtain ⟨a1, a2, a3⟩ := zvw_f h (p := p) (by omega)
  rw [a1, a2, a3, e, e, e, e]
  exact h5 p hp
/-- the rows below k stamped -/
def zstk (f : Nat → Nat → Int) (s : Nat) (od mark : Int) (k : Nat) : Nat → Nat → Int := fun b j => if b = 1118 ∧ j < 61 * k ∧ zhl f s (2 * ((j % 61 : Nat) : Int) + od) (2 * ((j / 61 : Nat) : Int) + od) = true then mark else f b j
def zsta (f : Nat → Nat → Int) (s : Nat) (od mark : Int) : Nat → Nat → Int := zstk f s od mark 61
theorem zstk_o {f : Nat → Nat → Int} {s k b : Nat} {od mark : Int} (h : b ≠ 1118) (j : Nat) : zstk f s od mark k b j = f b j := if_neg (fun h2 => h h2.1)
theorem zstk_s {f : Nat → Nat → Int} {s k : Nat} {od mark : Int} (hs : s + 14 ≤ 1118 ∨ 1118 < s) (hw : zSw f s) : zstl (zstk f s od mark k) s k od mark = zstk f s od mark (k + 1) := by
  funext b j
  unfold zstl
  rw [zhl_f (g := f) (fun b j h1 h2 => zstk_o (by omega) j) hw]
  by_cases hb : b = 1118
  · subst hb
    by_cases h1 : 61 * k ≤ j ∧ j ≤ 61 * k + 60
    · have e1 : j % 61 = j - 61 * k := by omega
      have e2 : j / 61 = k := by omega
      unfold zstk
      by_cases h2 : zhl f s (2 * ((j - 61 * k : Nat) : Int) + od) (2 * (k : Int) + od) = true
      · have h3 : 61 * k ≤ j ∧ j ≤ 61 * k + 60 ∧ zhl f s (2 * ((j - 61 * k : Nat) : Int) + od) (2 * (k : Int) + od) = true := ⟨h1.1, h1.2, h2⟩
        have h4 : j < 61 * (k + 1) ∧ zhl f s (2 * ((j % 61 : Nat) : Int) + od) (2 * ((j / 61 : Nat) : Int) + od) = true := ⟨by omega, by rw [e1, e2]; exact h2⟩
        rw [if_pos ⟨rfl, h3⟩, if_pos ⟨rfl, h4⟩]
      · have h3 : ¬ (1118 = 1118 ∧ 61 * k ≤ j ∧ j ≤ 61 * k + 60 ∧ zhl f s (2 * ((j - 61 * k : Nat) : Int) + od) (2 * (k : Int) + od) = true) := fun h => h2 h.2.2.2
        have h4 : ¬ (1118 = 1118 ∧ j < 61 * (k + 1) ∧ zhl f s (2 * ((j % 61 : Nat) : Int) + od) (2 * ((j / 61 : Nat) : Int) + od) = true) := fun h => by
          have h5 := h.2.2
          rw [e1, e2] at h5
          exact h2 h5
        have h6 : ¬ (1118 = 1118 ∧ j < 61 * k ∧ zhl f s (2 * ((j % 61 : Nat) : Int) + od) (2 * ((j / 61 : Nat) : Int) + od) = true) := fun h => absurd h.2.1 (by omega)
        rw [if_neg h3, if_neg h4, if_neg h6]
    · have h3 : ¬ (1118 = 1118 ∧ 61 * k ≤ j ∧ j ≤ 61 * k + 60 ∧ zhl f s (2 * ((j - 61 * k : Nat) : Int) + od) (2 * (k : Int) + od) = true) := fun h => h1 ⟨h.2.1, h.2.2.1⟩
      rw [if_neg h3]
      unfold zstk
      by_cases h2 : 1118 = 1118 ∧ j < 61 * k ∧ zhl f s (2 * ((j % 61 : Nat) : Int) + od) (2 * ((j / 61 : Nat) : Int) + od) = true
      · have h4 : 1118 = 1118 ∧ j < 61 * (k + 1) ∧ zhl f s (2 * ((j % 61 : Nat) : Int) + od) (2 * ((j / 61 : Nat) : Int) + od) = true := ⟨rfl, by omega, h2.2.2⟩
        rw [if_pos h2, if_pos h4]
      · have h4 : ¬ (1118 = 1118 ∧ j < 61 * (k + 1) ∧ zhl f s (2 * ((j % 61 : Nat) : Int) + od) (2 * ((j / 61 : Nat) : Int) + od) = true) := fun h => h2 ⟨rfl, by omega, h.2.2⟩
        rw [if_neg h2, if_neg h4]
  · rw [if_neg (fun h => hb h.1), zstk_o hb, zstk_o hb]
theorem zstk_e {f : Nat → Nat → Int} {s k k' : Nat} {od mark : Int} (h : ∀ j : Nat, k ≤ j / 61 → j / 61 < k' → zhl f s (2 * ((j % 61 : Nat) : Int) + od) (2 * ((j / 61 : Nat) : Int) + od) = false) (hk : k ≤ k') : zstk f s od mark k = zstk f s od mark k' := by
  funext b j
  unfold zstk
  by_cases h1 : b = 1118 ∧ j < 61 * k ∧ zhl f s (2 * ((j % 61 : Nat) : Int) + od) (2 * ((j / 61 : Nat) : Int) + od) = true
  · have h2 : b = 1118 ∧ j < 61 * k' ∧ zhl f s (2 * ((j % 61 : Nat) : Int) + od) (2 * ((j / 61 : Nat) : Int) + od) = true := ⟨h1.1, by omega, h1.2.2⟩
    rw [if_pos h1, if_pos h2]
  · have h2 : ¬ (b = 1118 ∧ j < 61 * k' ∧ zhl f s (2 * ((j % 61 : Nat) : Int) + od) (2 * ((j / 61 : Nat) : Int) + od) = true) := by
      intro h3
      by_cases h4 : j < 61 * k
      · exact h1 ⟨h3.1, h4, h3.2.2⟩
      · rw [h j (by omega) (by omega)] at h3
        exact absurd h3.2.2 (by decide)
    rw [if_neg h1, if_neg h2]
theorem c65 {od mark : Int} (hs : zShA s) (hR : zLay M.2.2.2) (h : zPk M.2.1 s) (ho : 0 ≤ od ∧ od ≤ 1) (hfl : ∀ j, M.2.1 1123 j = 0) : zFR (zK L) 65 0 (zcall 65 [.inr (.inr 1117), .inr (.inr s), .inl od, .inl mark]) [] M Q = Q (.inl none) (zwI M (zsta M.2.1 s od mark)) := by
  have hF := hR.1
  unfold zLayF at hF
  obtain ⟨k1, k2⟩ := zK_sh (L := L) hs
  have sne : s + 14 ≤ 1118 ∨ 1118 < s := by
    rcases hs with ⟨i, hi, rfl⟩ | rfl | rfl <;> omega
  have hfm := h.2.1
  obtain ⟨lo, hlo⟩ : ∃ r : Nat, M.2.1 s 12 = (r : Int) := ⟨(M.2.1 s 12).toNat, by have := hfm.2.1; omega⟩
  obtain ⟨up, hup⟩ : ∃ r : Nat, M.2.1 s 14 = (r : Int) := ⟨(M.2.1 s 14).toNat, by have := hfm.2.2.2; omega⟩
  have hup60 : up ≤ 60 := by have := hfm.2.2.2; omega
  have hlo60 : lo ≤ 60 := by have := hfm.2.1; omega
  have hz := fun (x y : Int) hy => zhl_y (x := x) (y := y) h ho hy
  have e0 : zstk M.2.1 s od mark lo = M.2.1 := by
    rw [← zstk_e (k := 0) (k' := lo) (fun j h1 h2 => hz _ _ (Or.inl (by omega))) (Nat.zero_le _)]
    funext b j
    unfold zstk
    rw [if_neg (by omega)]
  have e1 : zstk M.2.1 s od mark (max lo up) = zsta M.2.1 s od mark := zstk_e (fun j h1 h2 => hz _ _ (Or.inr (by omega))) (by omega)
  refine zFR_det ?_ Q
  generalize hQ : (fun r M2 => r = (Sum.inl none : zO) ∧ M2 = zwI M (zsta M.2.1 s od mark)) = Q9
  have om : ∀ k j, zstk M.2.1 s od mark k s j = M.2.1 s j := fun k j => zstk_o (by omega) j
  have loop : ∀ k : Nat, k ≤ max lo up → lo ≤ k → zFR (zK L) 65 10 [some (.inr (.inr 1117)), some (.inr (.inr s)), some (.inl od), some (.inl mark), some (.inl (k : Int))] [] (zwI M (zstk M.2.1 s od mark k)) Q9 := by
    refine zloop ?_ ?_
    · intro _
      rw [e1]
      have om2 : ∀ j, zsta M.2.1 s od mark s j = M.2.1 s j := om 61
      refine zW_sound 60 [19] ?_
      simp only [ZR65, k1, zwI_I, om2, hup, zW_succ, zE_iload, zE_aload, zE_lload, zE_iinc, zE_istore, zE_astore, zE_lstore, zE_iconst, zE_ldc2, zE_iadd, zE_isub, zE_imul, zE_idiv, zE_irem, zE_ineg, zE_iand, zE_ior, zE_ixor, zE_ishl, zE_ishr, zE_land, zE_lor, zE_lxor, zE_lshl, zE_lshr, zE_i2l, zE_lcmp, zE_dup_i, zE_dup_a, zE_dup2_ia, zE_pop_i, zE_pop_a, zE_pop2, zE_goto, zE_if_eq, zE_icmp_eq, zE_if_ne, zE_icmp_ne, zE_if_lt, zE_icmp_lt, zE_if_ge, zE_icmp_ge, zE_if_gt, zE_icmp_gt, zE_if_le, zE_icmp_le, zE_iaload, zE_baload, zE_laload, zE_aaload, zE_iastore, zE_bastore, zE_lastore, zE_aastore, zE_alen, zE_getf0, zE_getf1, zE_getf2, zE_getf3, zE_putf0, zE_putf1, zE_putf2, zE_putf3, zE_new, zE_newa, zE_newq, zE_ireturn, zE_lreturn, zE_areturn, zE_return, zE_athrow, zE_st0, zE_vi0, zE_st1, zE_vi1, zE_st2, zE_vi2, zE_st3, zE_vi3, zE_st4, zE_vi4, zE_st5, zE_vi5, zE_st6, zE_vi6, zE_st7, zE_vi7, zE_st8, zE_vi8, zSt_0, zSL_0, zSt_1n, zSt_1i, zSt_1a, zSt_1l, zSt_2n, zSt_2i, zSt_2a, zSt_2l, zSt_3n, zSt_3i, zSt_3a, zSt_3l, zSt_4n, zSt_4i, zSt_4a, zSt_4l, zSt_5n, zSt_5i, zSt_5a, zSt_5l, zSt_6n, zSt_6i, zSt_6a, zSt_6l, zSt_7n, zSt_7i, zSt_7a, zSt_7l, zSt_8n, zSt_8i, zSt_8a, zSt_8l, zSt_9n, zSt_9i, zSt_9a, zSt_9l, zSt_10n, zSt_10i, zSt_10a, zSt_10l, zSt_11n, zSt_11i, zSt_11a, zSt_11l, zSt_12n, zSt_12i, zSt_12a, zSt_12l, zSt_13n, zSt_13i, zSt_13a, zSt_13l, zSL_1n, zSL_1i, zSL_1a, zSL_1l, zSL_2n, zSL_2i, zSL_2a, zSL_2l, zSL_3n, zSL_3i, zSL_3a, zSL_3l, zSL_4n, zSL_4i, zSL_4a, zSL_4l, zSL_5n, zSL_5i, zSL_5a, zSL_5l, zSL_6n, zSL_6i, zSL_6a, zSL_6l, zSL_7n, zSL_7i, zSL_7a, zSL_7l, zSL_8n, zSL_8i, zSL_8a, zSL_8l, zSL_9n, zSL_9i, zSL_9a, zSL_9l, zSL_10n, zSL_10i, zSL_10a, zSL_10l, zSL_11n, zSL_11i, zSL_11a, zSL_11l, zSL_12n, zSL_12i, zSL_12a, zSL_12l, zLI_0, zLL_0, zLA_0, zLI_1, zLL_1, zLA_1, zLI_2, zLL_2, zLA_2, zLI_3, zLL_3, zLA_3, zLI_4, zLL_4, zLA_4, zLI_5, zLL_5, zLA_5, zLI_6, zLL_6, zLA_6, zLI_7, zLL_7, zLA_7, zLI_8, zLL_8, zLA_8, zLI_9, zLL_9, zLA_9, zLI_10, zLL_10, zLA_10, zLI_11, zLL_11, zLA_11, zLI_12, zLL_12, zLA_12, zLI_13, zLL_13, zLA_13, zst_0, zst_1n, zst_1i, zst_1a, zst_2n, zst_2i, zst_2a, zst_3n, zst_3i, zst_3a, zst_4n, zst_4i, zst_4a, zst_5n, zst_5i, zst_5a, zst_6n, zst_6i, zst_6a, zst_7n, zst_7i, zst_7a, zst_8n, zst_8i, zst_8a, zst_9n, zst_9i, zst_9a, zst_10n, zst_10i, zst_10a, zst_11n, zst_11i, zst_11a, zst_12n, zst_12i, zst_12a, zst_13n, zst_13i, zst_13a, zst_14n, zst_14i, zst_14a, zst_15n, zst_15i, zst_15a, zR1_n, zR1_v, zsum_n, zsum_i, zsum_l, zsum_a, zlen_n, zlen_i, zlen_l, zlen_a, List.not_mem_nil, List.mem_cons, or_false, false_or, or_self, ↓reduceIte, if_false, if_true, Nat.reduceEqDiff, Nat.reduceAdd, Nat.reduceLeDiff, true_and, and_true, reduceCtorEq, ne_eq, Int.toNat_natCast, not_true_eq_false, not_false_eq_true, true_implies, false_implies, implies_true, Int.reduceToNat, Int.toNat_zero, Int.reduceLT, Int.reduceLE, Int.reduceEq, Int.reduceAdd, Int.reduceMul, Int.reduceNeg]
      subst hQ
      exact ⟨fun _ => ⟨rfl, rfl⟩, fun h => absurd (by omega) h⟩
    · intro k hk ih hlk
      have e66 := fun Q => c66 (L := L) (M := zwI M (zstk M.2.1 s od mark k)) (Q := Q) (y := k) (od := od) (mark := mark) hs hR (zPk_g (fun b j h1 h2 => zstk_o (by omega) j) h) (by omega) ho (fun j => by rw [zwI_I, zstk_o (by omega)]; exact hfl j)
      simp only [zwI_I, zwI_w, zstk_s sne h.1] at e66
      refine zW_sound 60 [10, 34] ?_
      simp only [ZR65, k1, zk_1117, zwI_I, om, hup, ZF66.1, ZF66.2.1, ZF66.2.2.1, e66, zW_succ, zE_iload, zE_aload, zE_lload, zE_iinc, zE_istore, zE_astore, zE_lstore, zE_iconst, zE_ldc2, zE_iadd, zE_isub, zE_imul, zE_idiv, zE_irem, zE_ineg, zE_iand, zE_ior, zE_ixor, zE_ishl, zE_ishr, zE_land, zE_lor, zE_lxor, zE_lshl, zE_lshr, zE_i2l, zE_lcmp, zE_dup_i, zE_dup_a, zE_dup2_ia, zE_pop_i, zE_pop_a, zE_pop2, zE_goto, zE_if_eq, zE_icmp_eq, zE_if_ne, zE_icmp_ne, zE_if_lt, zE_icmp_lt, zE_if_ge, zE_icmp_ge, zE_if_gt, zE_icmp_gt, zE_if_le, zE_icmp_le, zE_iaload, zE_baload, zE_laload, zE_aaload, zE_iastore, zE_bastore, zE_lastore, zE_aastore, zE_alen, zE_getf0, zE_getf1, zE_getf2, zE_getf3, zE_putf0, zE_putf1, zE_putf2, zE_putf3, zE_new, zE_newa, zE_newq, zE_ireturn, zE_lreturn, zE_areturn, zE_return, zE_athrow, zE_st0, zE_vi0, zE_st1, zE_vi1, zE_st2, zE_vi2, zE_st3, zE_vi3, zE_st4, zE_vi4, zE_st5, zE_vi5, zE_st6, zE_vi6, zE_st7, zE_vi7, zE_st8, zE_vi8, zSt_0, zSL_0, zSt_1n, zSt_1i, zSt_1a, zSt_1l, zSt_2n, zSt_2i, zSt_2a, zSt_2l, zSt_3n, zSt_3i, zSt_3a, zSt_3l, zSt_4n, zSt_4i, zSt_4a, zSt_4l, zSt_5n, zSt_5i, zSt_5a, zSt_5l, zSt_6n, zSt_6i, zSt_6a, zSt_6l, zSt_7n, zSt_7i, zSt_7a, zSt_7l, zSt_8n, zSt_8i, zSt_8a, zSt_8l, zSt_9n, zSt_9i, zSt_9a, zSt_9l, zSt_10n, zSt_10i, zSt_10a, zSt_10l, zSt_11n, zSt_11i, zSt_11a, zSt_11l, zSt_12n, zSt_12i, zSt_12a, zSt_12l, zSt_13n, zSt_13i, zSt_13a, zSt_13l, zSL_1n, zSL_1i, zSL_1a, zSL_1l, zSL_2n, zSL_2i, zSL_2a, zSL_2l, zSL_3n, zSL_3i, zSL_3a, zSL_3l, zSL_4n, zSL_4i, zSL_4a, zSL_4l, zSL_5n, zSL_5i, zSL_5a, zSL_5l, zSL_6n, zSL_6i, zSL_6a, zSL_6l, zSL_7n, zSL_7i, zSL_7a, zSL_7l, zSL_8n, zSL_8i, zSL_8a, zSL_8l, zSL_9n, zSL_9i, zSL_9a, zSL_9l, zSL_10n, zSL_10i, zSL_10a, zSL_10l, zSL_11n, zSL_11i, zSL_11a, zSL_11l, zSL_12n, zSL_12i, zSL_12a, zSL_12l, zLI_0, zLL_0, zLA_0, zLI_1, zLL_1, zLA_1, zLI_2, zLL_2, zLA_2, zLI_3, zLL_3, zLA_3, zLI_4, zLL_4, zLA_4, zLI_5, zLL_5, zLA_5, zLI_6, zLL_6, zLA_6, zLI_7, zLL_7, zLA_7, zLI_8, zLL_8, zLA_8, zLI_9, zLL_9, zLA_9, zLI_10, zLL_10, zLA_10, zLI_11, zLL_11, zLA_11, zLI_12, zLL_12, zLA_12, zLI_13, zLL_13, zLA_13, zst_0, zst_1n, zst_1i, zst_1a, zst_2n, zst_2i, zst_2a, zst_3n, zst_3i, zst_3a, zst_4n, zst_4i, zst_4a, zst_5n, zst_5i, zst_5a, zst_6n, zst_6i, zst_6a, zst_7n, zst_7i, zst_7a, zst_8n, zst_8i, zst_8a, zst_9n, zst_9i, zst_9a, zst_10n, zst_10i, zst_10a, zst_11n, zst_11i, zst_11a, zst_12n, zst_12i, zst_12a, zst_13n, zst_13i, zst_13a, zst_14n, zst_14i, zst_14a, zst_15n, zst_15i, zst_15a, zR1_n, zR1_v, zsum_n, zsum_i, zsum_l, zsum_a, zlen_n, zlen_i, zlen_l, zlen_a, List.not_mem_nil, List.mem_cons, or_false, false_or, or_self, ↓reduceIte, if_false, if_true, Nat.reduceEqDiff, Nat.reduceAdd, Nat.reduceLeDiff, true_and, and_true, reduceCtorEq, ne_eq, Int.toNat_natCast, not_true_eq_false, not_false_eq_true, true_implies, false_implies, implies_true, Int.reduceToNat, Int.toNat_zero, Int.reduceLT, Int.reduceLE, Int.reduceEq, Int.reduceAdd, Int.reduceMul, Int.reduceNeg]
      exact ⟨fun h => absurd h (by omega), fun _ => ⟨by unfold zr32; omega, ih (by omega)⟩⟩
  have o9 := loop lo (by omega) (Nat.le_refl _)
  rw [e0] at o9
  refine zW_sound 60 [10] ?_
  simp only [ZF65, ZR65, k1, hlo, ZF388.1, ZF388.2.1, ZF388.2.2.1, c388, zW_succ, zE_iload, zE_aload, zE_lload, zE_iinc, zE_istore, zE_astore, zE_lstore, zE_iconst, zE_ldc2, zE_iadd, zE_isub, zE_imul, zE_idiv, zE_irem, zE_ineg, zE_iand, zE_ior, zE_ixor, zE_ishl, zE_ishr, zE_land, zE_lor, zE_lxor, zE_lshl, zE_lshr, zE_i2l, zE_lcmp, zE_dup_i, zE_dup_a, zE_dup2_ia, zE_pop_i, zE_pop_a, zE_pop2, zE_goto, zE_if_eq, zE_icmp_eq, zE_if_ne, zE_icmp_ne, zE_if_lt, zE_icmp_lt, zE_if_ge, zE_icmp_ge, zE_if_gt, zE_icmp_gt, zE_if_le, zE_icmp_le, zE_iaload, zE_baload, zE_laload, zE_aaload, zE_iastore, zE_bastore, zE_lastore, zE_aastore, zE_alen, zE_getf0, zE_getf1, zE_getf2, zE_getf3, zE_putf0, zE_putf1, zE_putf2, zE_putf3, zE_new, zE_newa, zE_newq, zE_ireturn, zE_lreturn, zE_areturn, zE_return, zE_athrow, zE_st0, zE_vi0, zE_st1, zE_vi1, zE_st2, zE_vi2, zE_st3, zE_vi3, zE_st4, zE_vi4, zE_st5, zE_vi5, zE_st6, zE_vi6, zE_st7, zE_vi7, zE_st8, zE_vi8, zSt_0, zSL_0, zSt_1n, zSt_1i, zSt_1a, zSt_1l, zSt_2n, zSt_2i, zSt_2a, zSt_2l, zSt_3n, zSt_3i, zSt_3a, zSt_3l, zSt_4n, zSt_4i, zSt_4a, zSt_4l, zSt_5n, zSt_5i, zSt_5a, zSt_5l, zSt_6n, zSt_6i, zSt_6a, zSt_6l, zSt_7n, zSt_7i, zSt_7a, zSt_7l, zSt_8n, zSt_8i, zSt_8a, zSt_8l, zSt_9n, zSt_9i, zSt_9a, zSt_9l, zSt_10n, zSt_10i, zSt_10a, zSt_10l, zSt_11n, zSt_11i, zSt_11a, zSt_11l, zSt_12n, zSt_12i, zSt_12a, zSt_12l, zSt_13n, zSt_13i, zSt_13a, zSt_13l, zSL_1n, zSL_1i, zSL_1a, zSL_1l, zSL_2n, zSL_2i, zSL_2a, zSL_2l, zSL_3n, zSL_3i, zSL_3a, zSL_3l, zSL_4n, zSL_4i, zSL_4a, zSL_4l, zSL_5n, zSL_5i, zSL_5a, zSL_5l, zSL_6n, zSL_6i, zSL_6a, zSL_6l, zSL_7n, zSL_7i, zSL_7a, zSL_7l, zSL_8n, zSL_8i, zSL_8a, zSL_8l, zSL_9n, zSL_9i, zSL_9a, zSL_9l, zSL_10n, zSL_10i, zSL_10a, zSL_10l, zSL_11n, zSL_11i, zSL_11a, zSL_11l, zSL_12n, zSL_12i, zSL_12a, zSL_12l, zLI_0, zLL_0, zLA_0, zLI_1, zLL_1, zLA_1, zLI_2, zLL_2, zLA_2, zLI_3, zLL_3, zLA_3, zLI_4, zLL_4, zLA_4, zLI_5, zLL_5, zLA_5, zLI_6, zLL_6, zLA_6, zLI_7, zLL_7, zLA_7, zLI_8, zLL_8, zLA_8, zLI_9, zLL_9, zLA_9, zLI_10, zLL_10, zLA_10, zLI_11, zLL_11, zLA_11, zLI_12, zLL_12, zLA_12, zLI_13, zLL_13, zLA_13, zst_0, zst_1n, zst_1i, zst_1a, zst_2n, zst_2i, zst_2a, zst_3n, zst_3i, zst_3a, zst_4n, zst_4i, zst_4a, zst_5n, zst_5i, zst_5a, zst_6n, zst_6i, zst_6a, zst_7n, zst_7i, zst_7a, zst_8n, zst_8i, zst_8a, zst_9n, zst_9i, zst_9a, zst_10n, zst_10i, zst_10a, zst_11n, zst_11i, zst_11a, zst_12n, zst_12i, zst_12a, zst_13n, zst_13i, zst_13a, zst_14n, zst_14i, zst_14a, zst_15n, zst_15i, zst_15a, zR1_n, zR1_v, zsum_n, zsum_i, zsum_l, zsum_a, zlen_n, zlen_i, zlen_l, zlen_a, List.not_mem_nil, List.mem_cons, or_false, false_or, or_self, ↓reduceIte, if_false, if_true, Nat.reduceEqDiff, Nat.reduceAdd, Nat.reduceLeDiff, true_and, and_true, reduceCtorEq, ne_eq, Int.toNat_natCast, not_true_eq_false, not_false_eq_true, true_implies, false_implies, implies_true, Int.reduceToNat, Int.toNat_zero, Int.reduceLT, Int.reduceLE, Int.reduceEq, Int.reduceAdd, Int.reduceMul, Int.reduceNeg]
  rw [show max (lo : Int) 0 = (lo : Int) by omega]
  exact o9
theorem c64 (hR : zLay M.2.2.2) : zFR (zK L) 64 0 (zcall 64 [.inr (.inr 1117)]) [] M Q = Q (.inl none) (zwI M (zfil M.2.1 1118 3721 0)) := by
  have hF := hR.1
  unfold zLayF at hF
  have e385 := fun Q => c385 (L := L) (M := M) (Q := Q) (a := 1118) (n := 3721) (v := 0) zk_1118 (by omega) (by omega)
  refine zFR_det (zW_sound 60 [] ?_) Q
  simp only [ZF64, ZR64, zk_1117, hF, ZF385.1, ZF385.2.1, ZF385.2.2.1, e385, zW_succ, zE_iload, zE_aload, zE_lload, zE_iinc, zE_istore, zE_astore, zE_lstore, zE_iconst, zE_ldc2, zE_iadd, zE_isub, zE_imul, zE_idiv, zE_irem, zE_ineg, zE_iand, zE_ior, zE_ixor, zE_ishl, zE_ishr, zE_land, zE_lor, zE_lxor, zE_lshl, zE_lshr, zE_i2l, zE_lcmp, zE_dup_i, zE_dup_a, zE_dup2_ia, zE_pop_i, zE_pop_a, zE_pop2, zE_goto, zE_if_eq, zE_icmp_eq, zE_if_ne, zE_icmp_ne, zE_if_lt, zE_icmp_lt, zE_if_ge, zE_icmp_ge, zE_if_gt, zE_icmp_gt, zE_if_le, zE_icmp_le, zE_iaload, zE_baload, zE_laload, zE_aaload, zE_iastore, zE_bastore, zE_lastore, zE_aastore, zE_alen, zE_getf0, zE_getf1, zE_getf2, zE_getf3, zE_putf0, zE_putf1, zE_putf2, zE_putf3, zE_new, zE_newa, zE_newq, zE_ireturn, zE_lreturn, zE_areturn, zE_return, zE_athrow, zE_st0, zE_vi0, zE_st1, zE_vi1, zE_st2, zE_vi2, zE_st3, zE_vi3, zE_st4, zE_vi4, zE_st5, zE_vi5, zE_st6, zE_vi6, zE_st7, zE_vi7, zE_st8, zE_vi8, zSt_0, zSL_0, zSt_1n, zSt_1i, zSt_1a, zSt_1l, zSt_2n, zSt_2i, zSt_2a, zSt_2l, zSt_3n, zSt_3i, zSt_3a, zSt_3l, zSt_4n, zSt_4i, zSt_4a, zSt_4l, zSt_5n, zSt_5i, zSt_5a, zSt_5l, zSt_6n, zSt_6i, zSt_6a, zSt_6l, zSt_7n, zSt_7i, zSt_7a, zSt_7l, zSt_8n, zSt_8i, zSt_8a, zSt_8l, zSt_9n, zSt_9i, zSt_9a, zSt_9l, zSt_10n, zSt_10i, zSt_10a, zSt_10l, zSt_11n, zSt_11i, zSt_11a, zSt_11l, zSt_12n, zSt_12i, zSt_12a, zSt_12l, zSt_13n, zSt_13i, zSt_13a, zSt_13l, zSL_1n, zSL_1i, zSL_1a, zSL_1l, zSL_2n, zSL_2i, zSL_2a, zSL_2l, zSL_3n, zSL_3i, zSL_3a, zSL_3l, zSL_4n, zSL_4i, zSL_4a, zSL_4l, zSL_5n, zSL_5i, zSL_5a, zSL_5l, zSL_6n, zSL_6i, zSL_6a, zSL_6l, zSL_7n, zSL_7i, zSL_7a, zSL_7l, zSL_8n, zSL_8i, zSL_8a, zSL_8l, zSL_9n, zSL_9i, zSL_9a, zSL_9l, zSL_10n, zSL_10i, zSL_10a, zSL_10l, zSL_11n, zSL_11i, zSL_11a, zSL_11l, zSL_12n, zSL_12i, zSL_12a, zSL_12l, zLI_0, zLL_0, zLA_0, zLI_1, zLL_1, zLA_1, zLI_2, zLL_2, zLA_2, zLI_3, zLL_3, zLA_3, zLI_4, zLL_4, zLA_4, zLI_5, zLL_5, zLA_5, zLI_6, zLL_6, zLA_6, zLI_7, zLL_7, zLA_7, zLI_8, zLL_8, zLA_8, zLI_9, zLL_9, zLA_9, zLI_10, zLL_10, zLA_10, zLI_11, zLL_11, zLA_11, zLI_12, zLL_12, zLA_12, zLI_13, zLL_13, zLA_13, zst_0, zst_1n, zst_1i, zst_1a, zst_2n, zst_2i, zst_2a, zst_3n, zst_3i, zst_3a, zst_4n, zst_4i, zst_4a, zst_5n, zst_5i, zst_5a, zst_6n, zst_6i, zst_6a, zst_7n, zst_7i, zst_7a, zst_8n, zst_8i, zst_8a, zst_9n, zst_9i, zst_9a, zst_10n, zst_10i, zst_10a, zst_11n, zst_11i, zst_11a, zst_12n, zst_12i, zst_12a, zst_13n, zst_13i, zst_13a, zst_14n, zst_14i, zst_14a, zst_15n, zst_15i, zst_15a, zR1_n, zR1_v, zsum_n, zsum_i, zsum_l, zsum_a, zlen_n, zlen_i, zlen_l, zlen_a, List.not_mem_nil, List.mem_cons, or_false, false_or, or_self, ↓reduceIte, if_false, if_true, Nat.reduceEqDiff, Nat.reduceAdd, Nat.reduceLeDiff, true_and, and_true, reduceCtorEq, ne_eq, Int.toNat_natCast, not_true_eq_false, not_false_eq_true, true_implies, false_implies, implies_true, Int.reduceToNat, Int.toNat_zero, Int.reduceLT, Int.reduceLE, Int.reduceEq, Int.reduceAdd, Int.reduceMul, Int.reduceNeg]
end ZSTAMP
