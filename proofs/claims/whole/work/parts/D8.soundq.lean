/-! whether all is sound: both tell the same -/
section ZSOUNDQ
variable {L m n : Nat} {M B : zM} {s t : Nat} {Q : zO → zM → Prop} {f g G F0 : Nat → Nat → Int} {o : Nat → Int} {cc : Nat → Int}
theorem zrng_x {nx : Nat → Int} {s : Int} : ∀ (k n K : Nat) (x : Int), 1 ≤ n → zrng nx s k n x ≠ 0 → zrne nx K x → ∃ K', K' ≤ K ∧ zrne nx K' s
  | 0, n, K, x, hn, h, _ => absurd rfl h
  | k + 1, n, K, x, hn, h, e => by
    rw [zrng_s] at h
    by_cases c1 : x = -1
    · rw [if_pos c1] at h
      exact absurd rfl h
    · rw [if_neg c1] at h
      by_cases c2 : x = s
      · rw [← c2]
        exact ⟨K, Nat.le_refl K, e⟩
      · rw [if_neg c2] at h
        cases K with
        | zero => exact False.elim e
        | succ K =>
          rcases e with e | e
          · exact absurd e c1
          · obtain ⟨K', k1, k2⟩ := zrng_x k (n + 1) K _ (by omega) h e
            exact ⟨K', by omega, k2⟩
theorem zrng_0 {nx : Nat → Int} {s : Nat} : ∀ K, zrne nx K (nx s) → zrng nx (s : Int) 60 1 (nx s) = 0 := by
  intro K
  induction K using Nat.strongRecOn with
  | ind K ih =>
    intro h
    by_cases c : zrng nx (s : Int) 60 1 (nx s) = 0
    · exact c
    · obtain ⟨K', k1, k2⟩ := zrng_x 60 1 K (nx s) (by omega) c h
      cases K' with
      | zero => exact False.elim k2
      | succ K' =>
        rcases k2 with k2 | k2
        · omega
        · rw [Int.toNat_natCast] at k2
          exact ih K' (by omega) k2
theorem zchd_e {nx : Nat → Int} (h : ∀ i : Nat, i < 60 → nx i = -1 ∨ ((i : Int) < nx i ∧ nx i < 60)) : ∀ (k : Nat) (x : Int), (x = -1 ∨ (0 ≤ x ∧ x < 60 ∧ 60 - (k : Int) ≤ x)) → zchd nx k x = -1
  | 0, x, hx => by
    show x = -1
    omega
  | k + 1, x, hx => by
    show (if x = -1 then -1 else zchd nx k (nx x.toNat)) = -1
    by_cases c : x = -1
    · rw [if_pos c]
    · rw [if_neg c]
      refine zchd_e h k _ ?_
      have := h x.toNat (by omega)
      omega
theorem zqWK (h : zqR n f g) : zWK f := by
  refine ⟨zqR_bk h, zqR_ld h, zqR_gr h, fun s hs t => ?_⟩
  obtain ⟨se, so⟩ := zqR_f h hs t
  have ts : g 1166 s = 1 := by rw [← zqR_t h hs]; exact t
  obtain ⟨k1, k2, k3, k4, _⟩ := h.2.2.1.1 s hs ts
  have c14 := so.1
  have hn := h.1.1
  refine ⟨⟨zqE_sw se so, by rw [se.2.1]; omega, by rw [se.1, se.2.1]; exact so.2.1.2.1, fun p hp => zqE_pr se so hp, by omega, by omega, by omega⟩, ?_, ?_⟩
  · obtain ⟨l1, _, _⟩ := h.2.2.2.1.1 s hs ts
    obtain ⟨b1, b2, b3⟩ := h.2.2.2.1.2.1 s hs
    by_cases c : g 1172 s = -1
    · exact Or.inl (l1.trans c)
    · refine Or.inr ?_
      have tl := (b3 (by omega)).2
      rw [l1]
      refine ⟨by rw [zqR_t h (by omega)]; exact tl, ?_⟩
      rw [zqrng (P := fun i => i < 60 ∧ g 1166 i = 1) (zqR_lv h) _ 60 1 _ (Or.inr ⟨by omega, by omega, tl⟩)]
      exact zrng_0 60 (h.2.2.2.1.2.2 s hs)
  · obtain ⟨g1, g2, g3⟩ := h.2.2.2.2.1 s hs
    rw [(g1 ts).1]
    refine zchd_e (fun i hi => ?_) 60 _ (by omega)
    obtain ⟨q1, q2, q3⟩ := h.2.2.2.2.1 i hi
    rcases zqR_r01 h i hi with e | e
    · rw [q2 e]
      omega
    · exact Or.inl (q1 e).2
/-- the area of two shapes joined, as the class has it -/
noncomputable def zcA (f : Nat → Nat → Int) (w : Int) (s t : Nat) : Int := (zTot (zE2 f s t (f s 10).toNat (f t 10).toNat) (zgl w (f s 9) (f t 9) (f s 10).toNat) 3601).2
def zcWl (f : Nat → Nat → Int) (s : Nat) : Prop := zShA s ∧ zSw f s ∧ zSP (zN f s) (zX f s) (zY f s) (f s 10).toNat
theorem zcA_b {w : Int} (ws : zcWl f s) (wt : zcWl f t) : 0 ≤ zcA f w s t ∧ zcA f w s t ≤ 51900000 := by
  have a1 := ws.2.1.1
  have a2 := wt.2.1.1
  have hA := (zEA_2 (c1 := (f s 10).toNat) (c2 := (f t 10).toNat) (by omega) (by omega) ws.2.2 wt.2.2).1
  have b := zTot_b hA (zgl w (f s 9) (f t 9) (f s 10).toNat) 3601
  have c := zTot_c (zeS (zN f s) (zX f s) (zY f s) 0 (f s 10).toNat ++ zeS (zN f t) (zX f t) (zY f t) (f s 10).toNat (f t 10).toNat) (zgl w (f s 9) (f t 9) (f s 10).toNat) 3601
  unfold zcA zE2
  generalize zTot (zeS (zN f s) (zX f s) (zY f s) 0 (f s 10).toNat ++ zeS (zN f t) (zX f t) (zY f t) (f s 10).toNat (f t 10).toNat) (zgl w (f s 9) (f t 9) (f s 10).toNat) 3601 = T at *
  have c1 : T.1 ≤ 3601 := by
    rcases c with ⟨h, _⟩ | ⟨u, h, h2, _⟩
    · omega
    · omega
  clear c hA
  split at b <;> omega
theorem c105v (hR : zLay M.2.2.2) (ws : zcWl f s) (wt : zcWl f t) (hz : zsw f g) (h0 : ∀ y, g 1114 y = 0) : ∃ g', zsw f g' ∧ (∀ y, g' 1114 y = 0) ∧ (∀ w : Nat, w < 4 → g' 1106 w = zcA f (w : Int) s t) ∧ ∀ Q : zO → zM → Prop, zFR (zK L) 105 0 (zcall 105 [.inr (.inr 1105), .inr (.inr s), .inr (.inr t)]) [] (zwI M g) Q = Q (.inl none) (zwI M g') := by
  obtain ⟨hs, ws1, ws2⟩ := ws
  obtain ⟨ht, wt1, wt2⟩ := wt
  have as := zShA_sw hs
  have at' := zShA_sw ht
  have a1 := ws1.1
  have a2 := wt1.1
  have g1 : ∀ b j, (b < 1105 ∨ 1114 < b) → g b j = f b j := fun b j hb => by rw [hz b hb]
  obtain ⟨r, M2, ⟨f', hr, hM, tot, z14, sw⟩, e105⟩ := zFRx (c105 (L := L) (M := M) (s := s) (t := t) (c1 := (f s 10).toNat) (c2 := (f t 10).toNat) (f := g) hR hs ht (zSw_g (fun b j q1 q2 => g1 b j (by omega)) ws1) (zSw_g (fun b j q1 q2 => g1 b j (by omega)) wt1) (by rw [g1 _ _ (by omega)]; omega) (by rw [g1 _ _ (by omega)]; omega) (zSP_sw hz hs (by omega) ws2) (zSP_sw hz ht (by omega) wt2) h0)
  subst hr hM
  refine ⟨f', fun a ha => (sw a ha).trans (hz a ha), z14, fun w hw => ?_, e105⟩
  have t1 := tot w hw
  rw [zE2_sw hz hs ht (by omega) (by omega) ws2 wt2, g1 s 9 (by omega), g1 t 9 (by omega)] at t1
  exact t1
def zcsC (f : Nat → Nat → Int) (p u : Nat) : Prop := zcA f 0 (14 + 14 * p) (14 + 14 * u) + zcA f 1 (14 + 14 * p) (14 + 14 * u) = zcA f 0 (14 + 14 * p) 1138 + zcA f 0 (14 + 14 * u) 1138 ∧ zcA f 2 (14 + 14 * p) (14 + 14 * u) + zcA f 1 (14 + 14 * p) (14 + 14 * u) = zcA f 0 (14 + 14 * p) 1138
def zcgd (f : Nat → Nat → Int) (o : Nat → Int) : Nat → Prop
  | 0 => True
  | k + 1 => zcgd f o k ∧ (k = 0 ∨ zcsC f (o (k - 1)).toNat (o k).toNat)
theorem zcgd_le {k : Nat} : ∀ n, k ≤ n → zcgd f o n → zcgd f o k
  | 0, h, hh => by rw [show k = 0 by omega]; exact hh
  | n + 1, h, hh => by
    by_cases c : k = n + 1
    · rw [c]; exact hh
    · exact zcgd_le n (by omega) hh.1
noncomputable def zcbf (f : Nat → Nat → Int) (o : Nat → Int) (i : Nat) : Int := if i = 0 then 0 else zcA f 0 (14 + 14 * (o (i - 1)).toNat) 1138
set_option maxRecDepth 8000 in
theorem c128_l {c : Nat} (hR : zLay M.2.2.2) (hc6 : c ≤ 60) (hF0 : F0 5 = o) (ho : ∀ i, i < c → ∃ v : Nat, v < 60 ∧ o i = (v : Int) ∧ zcWl F0 (14 + 14 * v)) (we : zcWl F0 1138) (hz : ∀ y, F0 1114 y = 0) : zFR (zK L) 128 12 [some (.inr (.inr 2)), some (.inl (c : Int)), some (.inl 0), some (.inl 0), none, none] [] (zwI M F0) (fun r M2 => ∃ v f', r = .inl (some (.inl v)) ∧ M2 = zwI M f' ∧ zsw F0 f' ∧ (∀ y, f' 1114 y = 0) ∧ zV1 v (zcgd F0 o c)) := by
  have hF := hR.1
  unfold zLayF at hF
  generalize hQ : (fun (r : zO) M2 => ∃ v f', r = .inl (some (.inl v)) ∧ M2 = zwI M f' ∧ zsw F0 f' ∧ (∀ y, f' 1114 y = 0) ∧ zV1 v (zcgd F0 o c)) = Q9
  have loop : ∀ i : Nat, i ≤ c → ∀ g (y4 y5 : Option zV), zsw F0 g → (∀ y, g 1114 y = 0) → zcgd F0 o i → zFR (zK L) 128 12 [some (.inr (.inr 2)), some (.inl (c : Int)), some (.inl (zcbf F0 o i)), some (.inl (i : Int)), y4, y5] [] (zwI M g) Q9 := by
    refine zloop ?_ ?_
    · intro g y4 y5 hg hg0 hd
      have q9 : Q9 (.inl (some (.inl 1))) (zwI M g) := by
        subst hQ
        exact ⟨1, g, rfl, rfl, hg, hg0, Or.inl ⟨rfl, hd⟩⟩
      refine zW_sound 60 [17] ?_
      simp only [ZR128, zW_succ, zE_iload, zE_aload, zE_lload, zE_iinc, zE_istore, zE_astore, zE_lstore, zE_iconst, zE_ldc2, zE_iadd, zE_isub, zE_imul, zE_idiv, zE_irem, zE_ineg, zE_iand, zE_ior, zE_ixor, zE_ishl, zE_ishr, zE_land, zE_lor, zE_lxor, zE_lshl, zE_lshr, zE_i2l, zE_lcmp, zE_dup_i, zE_dup_a, zE_dup2_ia, zE_pop_i, zE_pop_a, zE_pop2, zE_goto, zE_if_eq, zE_icmp_eq, zE_if_ne, zE_icmp_ne, zE_if_lt, zE_icmp_lt, zE_if_ge, zE_icmp_ge, zE_if_gt, zE_icmp_gt, zE_if_le, zE_icmp_le, zE_iaload, zE_baload, zE_laload, zE_aaload, zE_iastore, zE_bastore, zE_lastore, zE_aastore, zE_alen, zE_getf0, zE_getf1, zE_getf2, zE_getf3, zE_putf0, zE_putf1, zE_putf2, zE_putf3, zE_new, zE_newa, zE_newq, zE_ireturn, zE_lreturn, zE_areturn, zE_return, zE_athrow, zE_st0, zE_vi0, zE_st1, zE_vi1, zE_st2, zE_vi2, zE_st3, zE_vi3, zE_st4, zE_vi4, zE_st5, zE_vi5, zE_st6, zE_vi6, zE_st7, zE_vi7, zE_st8, zE_vi8, zSt_0, zSL_0, zSt_1n, zSt_1i, zSt_1a, zSt_1l, zSt_2n, zSt_2i, zSt_2a, zSt_2l, zSt_3n, zSt_3i, zSt_3a, zSt_3l, zSt_4n, zSt_4i, zSt_4a, zSt_4l, zSt_5n, zSt_5i, zSt_5a, zSt_5l, zSt_6n, zSt_6i, zSt_6a, zSt_6l, zSt_7n, zSt_7i, zSt_7a, zSt_7l, zSt_8n, zSt_8i, zSt_8a, zSt_8l, zSt_9n, zSt_9i, zSt_9a, zSt_9l, zSt_10n, zSt_10i, zSt_10a, zSt_10l, zSt_11n, zSt_11i, zSt_11a, zSt_11l, zSt_12n, zSt_12i, zSt_12a, zSt_12l, zSt_13n, zSt_13i, zSt_13a, zSt_13l, zSL_1n, zSL_1i, zSL_1a, zSL_1l, zSL_2n, zSL_2i, zSL_2a, zSL_2l, zSL_3n, zSL_3i, zSL_3a, zSL_3l, zSL_4n, zSL_4i, zSL_4a, zSL_4l, zSL_5n, zSL_5i, zSL_5a, zSL_5l, zSL_6n, zSL_6i, zSL_6a, zSL_6l, zSL_7n, zSL_7i, zSL_7a, zSL_7l, zSL_8n, zSL_8i, zSL_8a, zSL_8l, zSL_9n, zSL_9i, zSL_9a, zSL_9l, zSL_10n, zSL_10i, zSL_10a, zSL_10l, zSL_11n, zSL_11i, zSL_11a, zSL_11l, zSL_12n, zSL_12i, zSL_12a, zSL_12l, zLI_0, zLL_0, zLA_0, zLI_1, zLL_1, zLA_1, zLI_2, zLL_2, zLA_2, zLI_3, zLL_3, zLA_3, zLI_4, zLL_4, zLA_4, zLI_5, zLL_5, zLA_5, zLI_6, zLL_6, zLA_6, zLI_7, zLL_7, zLA_7, zLI_8, zLL_8, zLA_8, zLI_9, zLL_9, zLA_9, zLI_10, zLL_10, zLA_10, zLI_11, zLL_11, zLA_11, zLI_12, zLL_12, zLA_12, zLI_13, zLL_13, zLA_13, zst_0, zst_1n, zst_1i, zst_1a, zst_2n, zst_2i, zst_2a, zst_3n, zst_3i, zst_3a, zst_4n, zst_4i, zst_4a, zst_5n, zst_5i, zst_5a, zst_6n, zst_6i, zst_6a, zst_7n, zst_7i, zst_7a, zst_8n, zst_8i, zst_8a, zst_9n, zst_9i, zst_9a, zst_10n, zst_10i, zst_10a, zst_11n, zst_11i, zst_11a, zst_12n, zst_12i, zst_12a, zst_13n, zst_13i, zst_13a, zst_14n, zst_14i, zst_14a, zst_15n, zst_15i, zst_15a, zR1_n, zR1_v, zsum_n, zsum_i, zsum_l, zsum_a, zlen_n, zlen_i, zlen_l, zlen_a, List.not_mem_nil, List.mem_cons, or_false, false_or, or_self, ↓reduceIte, if_false, if_true, Nat.reduceEqDiff, Nat.reduceAdd, Nat.reduceLeDiff, true_and, and_true, reduceCtorEq, ne_eq, Int.toNat_natCast, not_true_eq_false, not_false_eq_true, true_implies, false_implies, implies_true, Int.reduceToNat, Int.toNat_zero, Int.reduceLT, Int.reduceLE, Int.reduceEq, Int.reduceAdd, Int.reduceMul, Int.reduceNeg]
      (repeat' (first | with_reducible refine And.intro ?_ ?_ | with_reducible intro _)) <;> try first | with_reducible rfl | with_reducible assumption | omega | (unfold zr32; omega) | contradiction | (exact absurd (by omega) (by assumption)) | rfl | (simp only [Sum.inl.injEq, Option.some.injEq]; omega)
    · intro i hi ih g y4 y5 hg hg0 hd
      obtain ⟨v, v1, v2, wv⟩ := ho i hi
      have eo : g 5 i = (v : Int) := by rw [hg 5 (by omega), hF0, v2]
      obtain ⟨g1, hg1, z1, t1, e1⟩ := c105v (L := L) (M := M) (g := g) hR wv we hg hg0
      have a10 := t1 0 (by omega)
      have bA := zcA_b (w := 0) wv we
      rw [show ((0 : Nat) : Int) = 0 from rfl] at a10
      have ebf : zcbf F0 o (i + 1) = zcA F0 0 (14 + 14 * v) 1138 := by
        unfold zcbf
        rw [if_neg (by omega), show i + 1 - 1 = i by omega, v2, Int.toNat_natCast]
      by_cases c0 : i = 0
      · have o9 := ih g1 (some (.inr (.inr (14 + 14 * v)))) (some (.inl (zcA F0 0 (14 + 14 * v) 1138))) hg1 z1 ⟨hd, Or.inl c0⟩
        rw [ebf, Int.natCast_succ] at o9
        generalize zcA F0 0 (14 + 14 * v) 1138 = A1 at *
        generalize zcbf F0 o i = bf at *
        refine zW_sound 60 [12, 152, 64] ?_
        simp only [ZR128, zk_2, zk_3, zk_4, zk_5, zk_1105, zk_1106, hF, (hR.2.2.2 v v1).1, zwI_I, zwI_2, Int.toNat_natCast, Int.reduceToNat, eo, a10, ZF105.1, ZF105.2.1, ZF105.2.2.1, e1, zW_succ, zE_iload, zE_aload, zE_lload, zE_iinc, zE_istore, zE_astore, zE_lstore, zE_iconst, zE_ldc2, zE_iadd, zE_isub, zE_imul, zE_idiv, zE_irem, zE_ineg, zE_iand, zE_ior, zE_ixor, zE_ishl, zE_ishr, zE_land, zE_lor, zE_lxor, zE_lshl, zE_lshr, zE_i2l, zE_lcmp, zE_dup_i, zE_dup_a, zE_dup2_ia, zE_pop_i, zE_pop_a, zE_pop2, zE_goto, zE_if_eq, zE_icmp_eq, zE_if_ne, zE_icmp_ne, zE_if_lt, zE_icmp_lt, zE_if_ge, zE_icmp_ge, zE_if_gt, zE_icmp_gt, zE_if_le, zE_icmp_le, zE_iaload, zE_baload, zE_laload, zE_aaload, zE_iastore, zE_bastore, zE_lastore, zE_aastore, zE_alen, zE_getf0, zE_getf1, zE_getf2, zE_getf3, zE_putf0, zE_putf1, zE_putf2, zE_putf3, zE_new, zE_newa, zE_newq, zE_ireturn, zE_lreturn, zE_areturn, zE_return, zE_athrow, zE_st0, zE_vi0, zE_st1, zE_vi1, zE_st2, zE_vi2, zE_st3, zE_vi3, zE_st4, zE_vi4, zE_st5, zE_vi5, zE_st6, zE_vi6, zE_st7, zE_vi7, zE_st8, zE_vi8, zSt_0, zSL_0, zSt_1n, zSt_1i, zSt_1a, zSt_1l, zSt_2n, zSt_2i, zSt_2a, zSt_2l, zSt_3n, zSt_3i, zSt_3a, zSt_3l, zSt_4n, zSt_4i, zSt_4a, zSt_4l, zSt_5n, zSt_5i, zSt_5a, zSt_5l, zSt_6n, zSt_6i, zSt_6a, zSt_6l, zSt_7n, zSt_7i, zSt_7a, zSt_7l, zSt_8n, zSt_8i, zSt_8a, zSt_8l, zSt_9n, zSt_9i, zSt_9a, zSt_9l, zSt_10n, zSt_10i, zSt_10a, zSt_10l, zSt_11n, zSt_11i, zSt_11a, zSt_11l, zSt_12n, zSt_12i, zSt_12a, zSt_12l, zSt_13n, zSt_13i, zSt_13a, zSt_13l, zSL_1n, zSL_1i, zSL_1a, zSL_1l, zSL_2n, zSL_2i, zSL_2a, zSL_2l, zSL_3n, zSL_3i, zSL_3a, zSL_3l, zSL_4n, zSL_4i, zSL_4a, zSL_4l, zSL_5n, zSL_5i, zSL_5a, zSL_5l, zSL_6n, zSL_6i, zSL_6a, zSL_6l, zSL_7n, zSL_7i, zSL_7a, zSL_7l, zSL_8n, zSL_8i, zSL_8a, zSL_8l, zSL_9n, zSL_9i, zSL_9a, zSL_9l, zSL_10n, zSL_10i, zSL_10a, zSL_10l, zSL_11n, zSL_11i, zSL_11a, zSL_11l, zSL_12n, zSL_12i, zSL_12a, zSL_12l, zLI_0, zLL_0, zLA_0, zLI_1, zLL_1, zLA_1, zLI_2, zLL_2, zLA_2, zLI_3, zLL_3, zLA_3, zLI_4, zLL_4, zLA_4, zLI_5, zLL_5, zLA_5, zLI_6, zLL_6, zLA_6, zLI_7, zLL_7, zLA_7, zLI_8, zLL_8, zLA_8, zLI_9, zLL_9, zLA_9, zLI_10, zLL_10, zLA_10, zLI_11, zLL_11, zLA_11, zLI_12, zLL_12, zLA_12, zLI_13, zLL_13, zLA_13, zst_0, zst_1n, zst_1i, zst_1a, zst_2n, zst_2i, zst_2a, zst_3n, zst_3i, zst_3a, zst_4n, zst_4i, zst_4a, zst_5n, zst_5i, zst_5a, zst_6n, zst_6i, zst_6a, zst_7n, zst_7i, zst_7a, zst_8n, zst_8i, zst_8a, zst_9n, zst_9i, zst_9a, zst_10n, zst_10i, zst_10a, zst_11n, zst_11i, zst_11a, zst_12n, zst_12i, zst_12a, zst_13n, zst_13i, zst_13a, zst_14n, zst_14i, zst_14a, zst_15n, zst_15i, zst_15a, zR1_n, zR1_v, zsum_n, zsum_i, zsum_l, zsum_a, zlen_n, zlen_i, zlen_l, zlen_a, List.not_mem_nil, List.mem_cons, or_false, false_or, or_self, ↓reduceIte, if_false, if_true, Nat.reduceEqDiff, Nat.reduceAdd, Nat.reduceLeDiff, true_and, and_true, reduceCtorEq, ne_eq, Int.toNat_natCast, not_true_eq_false, not_false_eq_true, true_implies, false_implies, implies_true, Int.reduceToNat, Int.toNat_zero, Int.reduceLT, Int.reduceLE, Int.reduceEq, Int.reduceAdd, Int.reduceMul, Int.reduceNeg]
        (repeat' (first | with_reducible refine And.intro ?_ ?_ | with_reducible intro _)) <;> try first | with_reducible rfl | with_reducible assumption | omega | (unfold zr32; omega) | contradiction | (exact absurd (by omega) (by assumption)) | rfl | (simp only [Sum.inl.injEq, Option.some.injEq]; omega)
      · obtain ⟨p, p1, p2, wp⟩ := ho (i - 1) (by omega)
        have eo1 : g1 5 (i - 1) = (p : Int) := by rw [hg1 5 (by omega), hF0, p2]
        have ei : (i : Int) - 1 = ((i - 1 : Nat) : Int) := by omega
        obtain ⟨g2, hg2, z2, t2, e2⟩ := c105v (L := L) (M := M) (g := g1) hR wp wv hg1 z1
        have a20 := t2 0 (by omega)
        have a21 := t2 1 (by omega)
        have a22 := t2 2 (by omega)
        rw [show ((0 : Nat) : Int) = 0 from rfl] at a20
        rw [show ((1 : Nat) : Int) = 1 from rfl] at a21
        rw [show ((2 : Nat) : Int) = 2 from rfl] at a22
        have b0 := zcA_b (w := 0) wp wv
        have b1 := zcA_b (w := 1) wp wv
        have b2 := zcA_b (w := 2) wp wv
        have bP := zcA_b (w := 0) wp we
        have ebp : zcbf F0 o i = zcA F0 0 (14 + 14 * p) 1138 := by
          unfold zcbf
          rw [if_neg c0, p2, Int.toNat_natCast]
        have es : zcgd F0 o (i + 1) ↔ zcsC F0 p v := by
          show (zcgd F0 o i ∧ (i = 0 ∨ zcsC F0 (o (i - 1)).toNat (o i).toNat)) ↔ _
          rw [p2, v2, Int.toNat_natCast, Int.toNat_natCast]
          exact ⟨fun h => h.2.resolve_left c0, fun h => ⟨hd, Or.inr h⟩⟩
        have nxt := fun hs => ih g2 (some (.inr (.inr (14 + 14 * v)))) (some (.inl (zcA F0 0 (14 + 14 * v) 1138))) hg2 z2 (es.mpr hs)
        have stop : ¬ zcsC F0 p v → Q9 (.inl (some (.inl 0))) (zwI M g2) := fun hs => by
          subst hQ
          exact ⟨0, g2, rfl, rfl, hg2, z2, Or.inr ⟨rfl, fun hh => hs (es.mp (zcgd_le _ (by omega) hh))⟩⟩
        rw [ebf, Int.natCast_succ] at nxt
        rw [ebp]
        unfold zcsC at nxt stop
        clear es ebf ebp
        generalize zcA F0 0 (14 + 14 * v) 1138 = A1 at *
        generalize zcA F0 0 (14 + 14 * p) 1138 = A2 at *
        generalize zcA F0 0 (14 + 14 * p) (14 + 14 * v) = B0 at *
        generalize zcA F0 1 (14 + 14 * p) (14 + 14 * v) = B1 at *
        generalize zcA F0 2 (14 + 14 * p) (14 + 14 * v) = B2 at *
        generalize i - 1 = ii at *
        by_cases q1 : B0 + B1 = A2 + A1
        · by_cases q2 : B2 + B1 = A2
          · have o9 := nxt ⟨q1, q2⟩
            clear nxt stop
            refine zW_sound 90 [12, 152] ?_
            simp only [ZR128, zk_2, zk_3, zk_4, zk_5, zk_1105, zk_1106, hF, (hR.2.2.2 v v1).1, (hR.2.2.2 p p1).1, zwI_I, zwI_2, Int.toNat_natCast, Int.reduceToNat, eo, eo1, ei, a10, a20, a21, a22, ZF105.1, ZF105.2.1, ZF105.2.2.1, e1, e2, zW_succ, zE_iload, zE_aload, zE_lload, zE_iinc, zE_istore, zE_astore, zE_lstore, zE_iconst, zE_ldc2, zE_iadd, zE_isub, zE_imul, zE_idiv, zE_irem, zE_ineg, zE_iand, zE_ior, zE_ixor, zE_ishl, zE_ishr, zE_land, zE_lor, zE_lxor, zE_lshl, zE_lshr, zE_i2l, zE_lcmp, zE_dup_i, zE_dup_a, zE_dup2_ia, zE_pop_i, zE_pop_a, zE_pop2, zE_goto, zE_if_eq, zE_icmp_eq, zE_if_ne, zE_icmp_ne, zE_if_lt, zE_icmp_lt, zE_if_ge, zE_icmp_ge, zE_if_gt, zE_icmp_gt, zE_if_le, zE_icmp_le, zE_iaload, zE_baload, zE_laload, zE_aaload, zE_iastore, zE_bastore, zE_lastore, zE_aastore, zE_alen, zE_getf0, zE_getf1, zE_getf2, zE_getf3, zE_putf0, zE_putf1, zE_putf2, zE_putf3, zE_new, zE_newa, zE_newq, zE_ireturn, zE_lreturn, zE_areturn, zE_return, zE_athrow, zE_st0, zE_vi0, zE_st1, zE_vi1, zE_st2, zE_vi2, zE_st3, zE_vi3, zE_st4, zE_vi4, zE_st5, zE_vi5, zE_st6, zE_vi6, zE_st7, zE_vi7, zE_st8, zE_vi8, zSt_0, zSL_0, zSt_1n, zSt_1i, zSt_1a, zSt_1l, zSt_2n, zSt_2i, zSt_2a, zSt_2l, zSt_3n, zSt_3i, zSt_3a, zSt_3l, zSt_4n, zSt_4i, zSt_4a, zSt_4l, zSt_5n, zSt_5i, zSt_5a, zSt_5l, zSt_6n, zSt_6i, zSt_6a, zSt_6l, zSt_7n, zSt_7i, zSt_7a, zSt_7l, zSt_8n, zSt_8i, zSt_8a, zSt_8l, zSt_9n, zSt_9i, zSt_9a, zSt_9l, zSt_10n, zSt_10i, zSt_10a, zSt_10l, zSt_11n, zSt_11i, zSt_11a, zSt_11l, zSt_12n, zSt_12i, zSt_12a, zSt_12l, zSt_13n, zSt_13i, zSt_13a, zSt_13l, zSL_1n, zSL_1i, zSL_1a, zSL_1l, zSL_2n, zSL_2i, zSL_2a, zSL_2l, zSL_3n, zSL_3i, zSL_3a, zSL_3l, zSL_4n, zSL_4i, zSL_4a, zSL_4l, zSL_5n, zSL_5i, zSL_5a, zSL_5l, zSL_6n, zSL_6i, zSL_6a, zSL_6l, zSL_7n, zSL_7i, zSL_7a, zSL_7l, zSL_8n, zSL_8i, zSL_8a, zSL_8l, zSL_9n, zSL_9i, zSL_9a, zSL_9l, zSL_10n, zSL_10i, zSL_10a, zSL_10l, zSL_11n, zSL_11i, zSL_11a, zSL_11l, zSL_12n, zSL_12i, zSL_12a, zSL_12l, zLI_0, zLL_0, zLA_0, zLI_1, zLL_1, zLA_1, zLI_2, zLL_2, zLA_2, zLI_3, zLL_3, zLA_3, zLI_4, zLL_4, zLA_4, zLI_5, zLL_5, zLA_5, zLI_6, zLL_6, zLA_6, zLI_7, zLL_7, zLA_7, zLI_8, zLL_8, zLA_8, zLI_9, zLL_9, zLA_9, zLI_10, zLL_10, zLA_10, zLI_11, zLL_11, zLA_11, zLI_12, zLL_12, zLA_12, zLI_13, zLL_13, zLA_13, zst_0, zst_1n, zst_1i, zst_1a, zst_2n, zst_2i, zst_2a, zst_3n, zst_3i, zst_3a, zst_4n, zst_4i, zst_4a, zst_5n, zst_5i, zst_5a, zst_6n, zst_6i, zst_6a, zst_7n, zst_7i, zst_7a, zst_8n, zst_8i, zst_8a, zst_9n, zst_9i, zst_9a, zst_10n, zst_10i, zst_10a, zst_11n, zst_11i, zst_11a, zst_12n, zst_12i, zst_12a, zst_13n, zst_13i, zst_13a, zst_14n, zst_14i, zst_14a, zst_15n, zst_15i, zst_15a, zR1_n, zR1_v, zsum_n, zsum_i, zsum_l, zsum_a, zlen_n, zlen_i, zlen_l, zlen_a, List.not_mem_nil, List.mem_cons, or_false, false_or, or_self, ↓reduceIte, if_false, if_true, Nat.reduceEqDiff, Nat.reduceAdd, Nat.reduceLeDiff, true_and, and_true, reduceCtorEq, ne_eq, Int.toNat_natCast, not_true_eq_false, not_false_eq_true, true_implies, false_implies, implies_true, Int.reduceToNat, Int.toNat_zero, Int.reduceLT, Int.reduceLE, Int.reduceEq, Int.reduceAdd, Int.reduceMul, Int.reduceNeg]
            (repeat' (first | with_reducible refine And.intro ?_ ?_ | with_reducible intro _)) <;> try first | with_reducible rfl | with_reducible assumption | omega | (unfold zr32; omega) | contradiction | (exact absurd (by omega) (by assumption)) | rfl | (simp only [Sum.inl.injEq, Option.some.injEq]; omega)
          · have o9 := stop (fun h => q2 h.2)
            clear nxt stop
            refine zW_sound 90 [12, 152] ?_
            simp only [ZR128, zk_2, zk_3, zk_4, zk_5, zk_1105, zk_1106, hF, (hR.2.2.2 v v1).1, (hR.2.2.2 p p1).1, zwI_I, zwI_2, Int.toNat_natCast, Int.reduceToNat, eo, eo1, ei, a10, a20, a21, a22, ZF105.1, ZF105.2.1, ZF105.2.2.1, e1, e2, zW_succ, zE_iload, zE_aload, zE_lload, zE_iinc, zE_istore, zE_astore, zE_lstore, zE_iconst, zE_ldc2, zE_iadd, zE_isub, zE_imul, zE_idiv, zE_irem, zE_ineg, zE_iand, zE_ior, zE_ixor, zE_ishl, zE_ishr, zE_land, zE_lor, zE_lxor, zE_lshl, zE_lshr, zE_i2l, zE_lcmp, zE_dup_i, zE_dup_a, zE_dup2_ia, zE_pop_i, zE_pop_a, zE_pop2, zE_goto, zE_if_eq, zE_icmp_eq, zE_if_ne, zE_icmp_ne, zE_if_lt, zE_icmp_lt, zE_if_ge, zE_icmp_ge, zE_if_gt, zE_icmp_gt, zE_if_le, zE_icmp_le, zE_iaload, zE_baload, zE_laload, zE_aaload, zE_iastore, zE_bastore, zE_lastore, zE_aastore, zE_alen, zE_getf0, zE_getf1, zE_getf2, zE_getf3, zE_putf0, zE_putf1, zE_putf2, zE_putf3, zE_new, zE_newa, zE_newq, zE_ireturn, zE_lreturn, zE_areturn, zE_return, zE_athrow, zE_st0, zE_vi0, zE_st1, zE_vi1, zE_st2, zE_vi2, zE_st3, zE_vi3, zE_st4, zE_vi4, zE_st5, zE_vi5, zE_st6, zE_vi6, zE_st7, zE_vi7, zE_st8, zE_vi8, zSt_0, zSL_0, zSt_1n, zSt_1i, zSt_1a, zSt_1l, zSt_2n, zSt_2i, zSt_2a, zSt_2l, zSt_3n, zSt_3i, zSt_3a, zSt_3l, zSt_4n, zSt_4i, zSt_4a, zSt_4l, zSt_5n, zSt_5i, zSt_5a, zSt_5l, zSt_6n, zSt_6i, zSt_6a, zSt_6l, zSt_7n, zSt_7i, zSt_7a, zSt_7l, zSt_8n, zSt_8i, zSt_8a, zSt_8l, zSt_9n, zSt_9i, zSt_9a, zSt_9l, zSt_10n, zSt_10i, zSt_10a, zSt_10l, zSt_11n, zSt_11i, zSt_11a, zSt_11l, zSt_12n, zSt_12i, zSt_12a, zSt_12l, zSt_13n, zSt_13i, zSt_13a, zSt_13l, zSL_1n, zSL_1i, zSL_1a, zSL_1l, zSL_2n, zSL_2i, zSL_2a, zSL_2l, zSL_3n, zSL_3i, zSL_3a, zSL_3l, zSL_4n, zSL_4i, zSL_4a, zSL_4l, zSL_5n, zSL_5i, zSL_5a, zSL_5l, zSL_6n, zSL_6i, zSL_6a, zSL_6l, zSL_7n, zSL_7i, zSL_7a, zSL_7l, zSL_8n, zSL_8i, zSL_8a, zSL_8l, zSL_9n, zSL_9i, zSL_9a, zSL_9l, zSL_10n, zSL_10i, zSL_10a, zSL_10l, zSL_11n, zSL_11i, zSL_11a, zSL_11l, zSL_12n, zSL_12i, zSL_12a, zSL_12l, zLI_0, zLL_0, zLA_0, zLI_1, zLL_1, zLA_1, zLI_2, zLL_2, zLA_2, zLI_3, zLL_3, zLA_3, zLI_4, zLL_4, zLA_4, zLI_5, zLL_5, zLA_5, zLI_6, zLL_6, zLA_6, zLI_7, zLL_7, zLA_7, zLI_8, zLL_8, zLA_8, zLI_9, zLL_9, zLA_9, zLI_10, zLL_10, zLA_10, zLI_11, zLL_11, zLA_11, zLI_12, zLL_12, zLA_12, zLI_13, zLL_13, zLA_13, zst_0, zst_1n, zst_1i, zst_1a, zst_2n, zst_2i, zst_2a, zst_3n, zst_3i, zst_3a, zst_4n, zst_4i, zst_4a, zst_5n, zst_5i, zst_5a, zst_6n, zst_6i, zst_6a, zst_7n, zst_7i, zst_7a, zst_8n, zst_8i, zst_8a, zst_9n, zst_9i, zst_9a, zst_10n, zst_10i, zst_10a, zst_11n, zst_11i, zst_11a, zst_12n, zst_12i, zst_12a, zst_13n, zst_13i, zst_13a, zst_14n, zst_14i, zst_14a, zst_15n, zst_15i, zst_15a, zR1_n, zR1_v, zsum_n, zsum_i, zsum_l, zsum_a, zlen_n, zlen_i, zlen_l, zlen_a, List.not_mem_nil, List.mem_cons, or_false, false_or, or_self, ↓reduceIte, if_false, if_true, Nat.reduceEqDiff, Nat.reduceAdd, Nat.reduceLeDiff, true_and, and_true, reduceCtorEq, ne_eq, Int.toNat_natCast, not_true_eq_false, not_false_eq_true, true_implies, false_implies, implies_true, Int.reduceToNat, Int.toNat_zero, Int.reduceLT, Int.reduceLE, Int.reduceEq, Int.reduceAdd, Int.reduceMul, Int.reduceNeg]
            (repeat' (first | with_reducible refine And.intro ?_ ?_ | with_reducible intro _)) <;> try first | with_reducible rfl | with_reducible assumption | omega | (unfold zr32; omega) | contradiction | (exact absurd (by omega) (by assumption)) | rfl | (simp only [Sum.inl.injEq, Option.some.injEq]; omega)
        · have o9 := stop (fun h => q1 h.1)
          clear nxt stop
          refine zW_sound 90 [12, 152] ?_
          simp only [ZR128, zk_2, zk_3, zk_4, zk_5, zk_1105, zk_1106, hF, (hR.2.2.2 v v1).1, (hR.2.2.2 p p1).1, zwI_I, zwI_2, Int.toNat_natCast, Int.reduceToNat, eo, eo1, ei, a10, a20, a21, a22, ZF105.1, ZF105.2.1, ZF105.2.2.1, e1, e2, zW_succ, zE_iload, zE_aload, zE_lload, zE_iinc, zE_istore, zE_astore, zE_lstore, zE_iconst, zE_ldc2, zE_iadd, zE_isub, zE_imul, zE_idiv, zE_irem, zE_ineg, zE_iand, zE_ior, zE_ixor, zE_ishl, zE_ishr, zE_land, zE_lor, zE_lxor, zE_lshl, zE_lshr, zE_i2l, zE_lcmp, zE_dup_i, zE_dup_a, zE_dup2_ia, zE_pop_i, zE_pop_a, zE_pop2, zE_goto, zE_if_eq, zE_icmp_eq, zE_if_ne, zE_icmp_ne, zE_if_lt, zE_icmp_lt, zE_if_ge, zE_icmp_ge, zE_if_gt, zE_icmp_gt, zE_if_le, zE_icmp_le, zE_iaload, zE_baload, zE_laload, zE_aaload, zE_iastore, zE_bastore, zE_lastore, zE_aastore, zE_alen, zE_getf0, zE_getf1, zE_getf2, zE_getf3, zE_putf0, zE_putf1, zE_putf2, zE_putf3, zE_new, zE_newa, zE_newq, zE_ireturn, zE_lreturn, zE_areturn, zE_return, zE_athrow, zE_st0, zE_vi0, zE_st1, zE_vi1, zE_st2, zE_vi2, zE_st3, zE_vi3, zE_st4, zE_vi4, zE_st5, zE_vi5, zE_st6, zE_vi6, zE_st7, zE_vi7, zE_st8, zE_vi8, zSt_0, zSL_0, zSt_1n, zSt_1i, zSt_1a, zSt_1l, zSt_2n, zSt_2i, zSt_2a, zSt_2l, zSt_3n, zSt_3i, zSt_3a, zSt_3l, zSt_4n, zSt_4i, zSt_4a, zSt_4l, zSt_5n, zSt_5i, zSt_5a, zSt_5l, zSt_6n, zSt_6i, zSt_6a, zSt_6l, zSt_7n, zSt_7i, zSt_7a, zSt_7l, zSt_8n, zSt_8i, zSt_8a, zSt_8l, zSt_9n, zSt_9i, zSt_9a, zSt_9l, zSt_10n, zSt_10i, zSt_10a, zSt_10l, zSt_11n, zSt_11i, zSt_11a, zSt_11l, zSt_12n, zSt_12i, zSt_12a, zSt_12l, zSt_13n, zSt_13i, zSt_13a, zSt_13l, zSL_1n, zSL_1i, zSL_1a, zSL_1l, zSL_2n, zSL_2i, zSL_2a, zSL_2l, zSL_3n, zSL_3i, zSL_3a, zSL_3l, zSL_4n, zSL_4i, zSL_4a, zSL_4l, zSL_5n, zSL_5i, zSL_5a, zSL_5l, zSL_6n, zSL_6i, zSL_6a, zSL_6l, zSL_7n, zSL_7i, zSL_7a, zSL_7l, zSL_8n, zSL_8i, zSL_8a, zSL_8l, zSL_9n, zSL_9i, zSL_9a, zSL_9l, zSL_10n, zSL_10i, zSL_10a, zSL_10l, zSL_11n, zSL_11i, zSL_11a, zSL_11l, zSL_12n, zSL_12i, zSL_12a, zSL_12l, zLI_0, zLL_0, zLA_0, zLI_1, zLL_1, zLA_1, zLI_2, zLL_2, zLA_2, zLI_3, zLL_3, zLA_3, zLI_4, zLL_4, zLA_4, zLI_5, zLL_5, zLA_5, zLI_6, zLL_6, zLA_6, zLI_7, zLL_7, zLA_7, zLI_8, zLL_8, zLA_8, zLI_9, zLL_9, zLA_9, zLI_10, zLL_10, zLA_10, zLI_11, zLL_11, zLA_11, zLI_12, zLL_12, zLA_12, zLI_13, zLL_13, zLA_13, zst_0, zst_1n, zst_1i, zst_1a, zst_2n, zst_2i, zst_2a, zst_3n, zst_3i, zst_3a, zst_4n, zst_4i, zst_4a, zst_5n, zst_5i, zst_5a, zst_6n, zst_6i, zst_6a, zst_7n, zst_7i, zst_7a, zst_8n, zst_8i, zst_8a, zst_9n, zst_9i, zst_9a, zst_10n, zst_10i, zst_10a, zst_11n, zst_11i, zst_11a, zst_12n, zst_12i, zst_12a, zst_13n, zst_13i, zst_13a, zst_14n, zst_14i, zst_14a, zst_15n, zst_15i, zst_15a, zR1_n, zR1_v, zsum_n, zsum_i, zsum_l, zsum_a, zlen_n, zlen_i, zlen_l, zlen_a, List.not_mem_nil, List.mem_cons, or_false, false_or, or_self, ↓reduceIte, if_false, if_true, Nat.reduceEqDiff, Nat.reduceAdd, Nat.reduceLeDiff, true_and, and_true, reduceCtorEq, ne_eq, Int.toNat_natCast, not_true_eq_false, not_false_eq_true, true_implies, false_implies, implies_true, Int.reduceToNat, Int.toNat_zero, Int.reduceLT, Int.reduceLE, Int.reduceEq, Int.reduceAdd, Int.reduceMul, Int.reduceNeg]
          (repeat' (first | with_reducible refine And.intro ?_ ?_ | with_reducible intro _)) <;> try first | with_reducible rfl | with_reducible assumption | omega | (unfold zr32; omega) | contradiction | (exact absurd (by omega) (by assumption)) | rfl | (simp only [Sum.inl.injEq, Option.some.injEq]; omega)
  exact loop 0 (Nat.zero_le _) F0 none none (fun a _ => rfl) hz True.intro
theorem c126_g {F1 : Nat → Nat → Int} {v : Int} {f' : Nat → Nat → Int} (hR : zLay M.2.2.2) (e2 : ∀ Q : zO → zM → Prop, zFR (zK L) 2 0 (zcall 2 [.inr (.inr 3)]) [] M Q = Q (.inl (some (.inl 1))) (zwI M F1)) (e128 : ∀ Q : zO → zM → Prop, zFR (zK L) 128 0 (zcall 128 [.inr (.inr 2)]) [] (zwI M F1) Q = Q (.inl (some (.inl v))) (zwI M f')) (hv : v = 1 ∨ v = 0) : zFR (zK L) 126 0 (zcall 126 [.inr (.inr 2)]) [] M Q = Q (.inl (some (.inl v))) (zwI M f') := by
  have hF := hR.1
  unfold zLayF at hF
  refine zFR_det ?_ Q
  rcases hv with rfl | rfl
  · refine zW_sound 60 [21] ?_
    simp only [ZF126, ZR126, zk_2, hF, ZF2.1, ZF2.2.1, ZF2.2.2.1, e2, ZF128.1, ZF128.2.1, ZF128.2.2.1, e128, zW_succ, zE_iload, zE_aload, zE_lload, zE_iinc, zE_istore, zE_astore, zE_lstore, zE_iconst, zE_ldc2, zE_iadd, zE_isub, zE_imul, zE_idiv, zE_irem, zE_ineg, zE_iand, zE_ior, zE_ixor, zE_ishl, zE_ishr, zE_land, zE_lor, zE_lxor, zE_lshl, zE_lshr, zE_i2l, zE_lcmp, zE_dup_i, zE_dup_a, zE_dup2_ia, zE_pop_i, zE_pop_a, zE_pop2, zE_goto, zE_if_eq, zE_icmp_eq, zE_if_ne, zE_icmp_ne, zE_if_lt, zE_icmp_lt, zE_if_ge, zE_icmp_ge, zE_if_gt, zE_icmp_gt, zE_if_le, zE_icmp_le, zE_iaload, zE_baload, zE_laload, zE_aaload, zE_iastore, zE_bastore, zE_lastore, zE_aastore, zE_alen, zE_getf0, zE_getf1, zE_getf2, zE_getf3, zE_putf0, zE_putf1, zE_putf2, zE_putf3, zE_new, zE_newa, zE_newq, zE_ireturn, zE_lreturn, zE_areturn, zE_return, zE_athrow, zE_st0, zE_vi0, zE_st1, zE_vi1, zE_st2, zE_vi2, zE_st3, zE_vi3, zE_st4, zE_vi4, zE_st5, zE_vi5, zE_st6, zE_vi6, zE_st7, zE_vi7, zE_st8, zE_vi8, zSt_0, zSL_0, zSt_1n, zSt_1i, zSt_1a, zSt_1l, zSt_2n, zSt_2i, zSt_2a, zSt_2l, zSt_3n, zSt_3i, zSt_3a, zSt_3l, zSt_4n, zSt_4i, zSt_4a, zSt_4l, zSt_5n, zSt_5i, zSt_5a, zSt_5l, zSt_6n, zSt_6i, zSt_6a, zSt_6l, zSt_7n, zSt_7i, zSt_7a, zSt_7l, zSt_8n, zSt_8i, zSt_8a, zSt_8l, zSt_9n, zSt_9i, zSt_9a, zSt_9l, zSt_10n, zSt_10i, zSt_10a, zSt_10l, zSt_11n, zSt_11i, zSt_11a, zSt_11l, zSt_12n, zSt_12i, zSt_12a, zSt_12l, zSt_13n, zSt_13i, zSt_13a, zSt_13l, zSL_1n, zSL_1i, zSL_1a, zSL_1l, zSL_2n, zSL_2i, zSL_2a, zSL_2l, zSL_3n, zSL_3i, zSL_3a, zSL_3l, zSL_4n, zSL_4i, zSL_4a, zSL_4l, zSL_5n, zSL_5i, zSL_5a, zSL_5l, zSL_6n, zSL_6i, zSL_6a, zSL_6l, zSL_7n, zSL_7i, zSL_7a, zSL_7l, zSL_8n, zSL_8i, zSL_8a, zSL_8l, zSL_9n, zSL_9i, zSL_9a, zSL_9l, zSL_10n, zSL_10i, zSL_10a, zSL_10l, zSL_11n, zSL_11i, zSL_11a, zSL_11l, zSL_12n, zSL_12i, zSL_12a, zSL_12l, zLI_0, zLL_0, zLA_0, zLI_1, zLL_1, zLA_1, zLI_2, zLL_2, zLA_2, zLI_3, zLL_3, zLA_3, zLI_4, zLL_4, zLA_4, zLI_5, zLL_5, zLA_5, zLI_6, zLL_6, zLA_6, zLI_7, zLL_7, zLA_7, zLI_8, zLL_8, zLA_8, zLI_9, zLL_9, zLA_9, zLI_10, zLL_10, zLA_10, zLI_11, zLL_11, zLA_11, zLI_12, zLL_12, zLA_12, zLI_13, zLL_13, zLA_13, zst_0, zst_1n, zst_1i, zst_1a, zst_2n, zst_2i, zst_2a, zst_3n, zst_3i, zst_3a, zst_4n, zst_4i, zst_4a, zst_5n, zst_5i, zst_5a, zst_6n, zst_6i, zst_6a, zst_7n, zst_7i, zst_7a, zst_8n, zst_8i, zst_8a, zst_9n, zst_9i, zst_9a, zst_10n, zst_10i, zst_10a, zst_11n, zst_11i, zst_11a, zst_12n, zst_12i, zst_12a, zst_13n, zst_13i, zst_13a, zst_14n, zst_14i, zst_14a, zst_15n, zst_15i, zst_15a, zR1_n, zR1_v, zsum_n, zsum_i, zsum_l, zsum_a, zlen_n, zlen_i, zlen_l, zlen_a, List.not_mem_nil, List.mem_cons, or_false, false_or, or_self, ↓reduceIte, if_false, if_true, Nat.reduceEqDiff, Nat.reduceAdd, Nat.reduceLeDiff, true_and, and_true, reduceCtorEq, ne_eq, Int.toNat_natCast, not_true_eq_false, not_false_eq_true, true_implies, false_implies, implies_true, Int.reduceToNat, Int.toNat_zero, Int.reduceLT, Int.reduceLE, Int.reduceEq, Int.reduceAdd, Int.reduceMul, Int.reduceNeg]
    (repeat' (first | with_reducible refine And.intro ?_ ?_ | with_reducible intro _)) <;> try first | with_reducible rfl | with_reducible assumption | omega | (unfold zr32; omega) | contradiction | (exact absurd (by omega) (by assumption)) | rfl | (simp only [Sum.inl.injEq, Option.some.injEq]; omega)
  · refine zW_sound 60 [17] ?_
    simp only [ZF126, ZR126, zk_2, hF, ZF2.1, ZF2.2.1, ZF2.2.2.1, e2, ZF128.1, ZF128.2.1, ZF128.2.2.1, e128, zW_succ, zE_iload, zE_aload, zE_lload, zE_iinc, zE_istore, zE_astore, zE_lstore, zE_iconst, zE_ldc2, zE_iadd, zE_isub, zE_imul, zE_idiv, zE_irem, zE_ineg, zE_iand, zE_ior, zE_ixor, zE_ishl, zE_ishr, zE_land, zE_lor, zE_lxor, zE_lshl, zE_lshr, zE_i2l, zE_lcmp, zE_dup_i, zE_dup_a, zE_dup2_ia, zE_pop_i, zE_pop_a, zE_pop2, zE_goto, zE_if_eq, zE_icmp_eq, zE_if_ne, zE_icmp_ne, zE_if_lt, zE_icmp_lt, zE_if_ge, zE_icmp_ge, zE_if_gt, zE_icmp_gt, zE_if_le, zE_icmp_le, zE_iaload, zE_baload, zE_laload, zE_aaload, zE_iastore, zE_bastore, zE_lastore, zE_aastore, zE_alen, zE_getf0, zE_getf1, zE_getf2, zE_getf3, zE_putf0, zE_putf1, zE_putf2, zE_putf3, zE_new, zE_newa, zE_newq, zE_ireturn, zE_lreturn, zE_areturn, zE_return, zE_athrow, zE_st0, zE_vi0, zE_st1, zE_vi1, zE_st2, zE_vi2, zE_st3, zE_vi3, zE_st4, zE_vi4, zE_st5, zE_vi5, zE_st6, zE_vi6, zE_st7, zE_vi7, zE_st8, zE_vi8, zSt_0, zSL_0, zSt_1n, zSt_1i, zSt_1a, zSt_1l, zSt_2n, zSt_2i, zSt_2a, zSt_2l, zSt_3n, zSt_3i, zSt_3a, zSt_3l, zSt_4n, zSt_4i, zSt_4a, zSt_4l, zSt_5n, zSt_5i, zSt_5a, zSt_5l, zSt_6n, zSt_6i, zSt_6a, zSt_6l, zSt_7n, zSt_7i, zSt_7a, zSt_7l, zSt_8n, zSt_8i, zSt_8a, zSt_8l, zSt_9n, zSt_9i, zSt_9a, zSt_9l, zSt_10n, zSt_10i, zSt_10a, zSt_10l, zSt_11n, zSt_11i, zSt_11a, zSt_11l, zSt_12n, zSt_12i, zSt_12a, zSt_12l, zSt_13n, zSt_13i, zSt_13a, zSt_13l, zSL_1n, zSL_1i, zSL_1a, zSL_1l, zSL_2n, zSL_2i, zSL_2a, zSL_2l, zSL_3n, zSL_3i, zSL_3a, zSL_3l, zSL_4n, zSL_4i, zSL_4a, zSL_4l, zSL_5n, zSL_5i, zSL_5a, zSL_5l, zSL_6n, zSL_6i, zSL_6a, zSL_6l, zSL_7n, zSL_7i, zSL_7a, zSL_7l, zSL_8n, zSL_8i, zSL_8a, zSL_8l, zSL_9n, zSL_9i, zSL_9a, zSL_9l, zSL_10n, zSL_10i, zSL_10a, zSL_10l, zSL_11n, zSL_11i, zSL_11a, zSL_11l, zSL_12n, zSL_12i, zSL_12a, zSL_12l, zLI_0, zLL_0, zLA_0, zLI_1, zLL_1, zLA_1, zLI_2, zLL_2, zLA_2, zLI_3, zLL_3, zLA_3, zLI_4, zLL_4, zLA_4, zLI_5, zLL_5, zLA_5, zLI_6, zLL_6, zLA_6, zLI_7, zLL_7, zLA_7, zLI_8, zLL_8, zLA_8, zLI_9, zLL_9, zLA_9, zLI_10, zLL_10, zLA_10, zLI_11, zLL_11, zLA_11, zLI_12, zLL_12, zLA_12, zLI_13, zLL_13, zLA_13, zst_0, zst_1n, zst_1i, zst_1a, zst_2n, zst_2i, zst_2a, zst_3n, zst_3i, zst_3a, zst_4n, zst_4i, zst_4a, zst_5n, zst_5i, zst_5a, zst_6n, zst_6i, zst_6a, zst_7n, zst_7i, zst_7a, zst_8n, zst_8i, zst_8a, zst_9n, zst_9i, zst_9a, zst_10n, zst_10i, zst_10a, zst_11n, zst_11i, zst_11a, zst_12n, zst_12i, zst_12a, zst_13n, zst_13i, zst_13a, zst_14n, zst_14i, zst_14a, zst_15n, zst_15i, zst_15a, zR1_n, zR1_v, zsum_n, zsum_i, zsum_l, zsum_a, zlen_n, zlen_i, zlen_l, zlen_a, List.not_mem_nil, List.mem_cons, or_false, false_or, or_self, ↓reduceIte, if_false, if_true, Nat.reduceEqDiff, Nat.reduceAdd, Nat.reduceLeDiff, true_and, and_true, reduceCtorEq, ne_eq, Int.toNat_natCast, not_true_eq_false, not_false_eq_true, true_implies, false_implies, implies_true, Int.reduceToNat, Int.toNat_zero, Int.reduceLT, Int.reduceLE, Int.reduceEq, Int.reduceAdd, Int.reduceMul, Int.reduceNeg]
    (repeat' (first | with_reducible refine And.intro ?_ ?_ | with_reducible intro _)) <;> try first | with_reducible rfl | with_reducible assumption | omega | (unfold zr32; omega) | contradiction | (exact absurd (by omega) (by assumption)) | rfl | (simp only [Sum.inl.injEq, Option.some.injEq]; omega)
theorem zqA_126 (hW : zqW m M) : zqAg L M 126 [.inr (.inr 2)] 340 [.inr (.inr 1153)] cc := by
  have hR := hW.1.1
  have rel := hW.1.2.1
  have hF := hR.1
  unfold zLayF at hF
  obtain ⟨o1, o2⟩ := zqord rel
  obtain ⟨F1, hF1⟩ : ∃ F1, zua M.2.1 5 (zord (zclt M.2.1) (zcth M.2.1) (M.2.1 5) 60) = F1 := ⟨_, rfl⟩
  have f1 : ∀ b j, b ≠ 5 → F1 b j = M.2.1 b j := fun b j hb => by
    rw [← hF1]
    exact zua_o hb _ _
  have r1 : ∀ G, zqR m M.2.1 G → zqR m F1 G := fun G r => zqR_keep3 (fun b j hb => f1 b j (by omega)) (fun j hj => by rw [f1 8 j (by omega)]; exact zqR_ch r j hj) (fun _ _ _ => rfl) rfl r
  obtain ⟨F0, hF0⟩ : ∃ F0, zua F1 5 (zord (zclt F1) (zcth F1) (F1 5) 60) = F0 := ⟨_, rfl⟩
  have f0 : ∀ b j, b ≠ 5 → F0 b j = M.2.1 b j := fun b j hb => by
    rw [← hF0, zua_o hb]
    exact f1 b j hb
  have r0 : ∀ G, zqR m M.2.1 G → zqR m F0 G := fun G r => zqR_keep3 (fun b j hb => f0 b j (by omega)) (fun j hj => by rw [f0 8 j (by omega)]; exact zqR_ch r j hj) (fun _ _ _ => rfl) rfl r
  have rl0 := r0 _ rel
  have e2 := fun Q => c2 (L := L) (M := M) (Q := Q) hR (zqWK rel) (fun i hi => zord_sorted (P := zqth2 M.2.1) (zclt_tr rel) (zclt_tot rel) 60 (fun v hv tv => ⟨hv, by rw [← zqR_t rel hv]; exact of_decide_eq_true tv⟩) i (i + 1) (by omega) hi)
  rw [hF1] at e2
  have hk := zqR_bk (r1 _ rel)
  have e3 := fun Q => c3 (L := L) (M := zwI M F1) (Q := Q) hR (fun i hi => (hk i hi).1) (fun i hi => (hk i hi).2)
  rw [zwI_I, zwI_w, hF0] at e3
  obtain ⟨p1, p2⟩ := zqord (r1 _ rel)
  have eo : ∀ j, j < zrct M.2.1 → F0 5 j = zrod M.2.1 j := fun j hj => by
    rw [← hF0]
    exact zua_a.trans (p2 j hj)
  have wl : ∀ v, v < 60 → F0 (14 + 14 * v) 0 = 1 → zcWl F0 (14 + 14 * v) := fun v hv t => by
    obtain ⟨se, so⟩ := zqR_f rl0 hv t
    have c14 := so.1
    exact ⟨zShA_i hv, zqE_sw se so, zqSPc se so (by rw [se.2.1]; omega)⟩
  obtain ⟨z23, z14m, z10, z9⟩ := hW.2.2.2.2
  have e10 : F0 1138 10 = 0 := (f0 _ _ (by omega)).trans z10
  have e9 : F0 1138 9 = 0 := (f0 _ _ (by omega)).trans z9
  have we : zcWl F0 1138 := ⟨Or.inr (Or.inr rfl), ⟨by rw [e10]; omega, by rw [e9]; omega, fun p hp => by rw [e10] at hp; omega⟩, fun p hp => by rw [e10] at hp; exact absurd hp (Nat.not_lt_zero p)⟩
  have lp := c128_l (L := L) (M := M) (F0 := F0) (o := F0 5) (c := zrct M.2.1) hR (zcnt_le _ _) rfl (fun i hi => by
    obtain ⟨v, v1, v2⟩ := zqvl (g := M.2.1) hi
    exact ⟨v, v1.1, by rw [eo i hi]; exact v2, wl v v1.1 (by rw [zqR_t rl0 v1.1]; exact v1.2)⟩) we (fun y => by rw [f0 _ _ (by omega)]; exact z14m y)
  have c128 : zFR (zK L) 128 0 (zcall 128 [.inr (.inr 2)]) [] (zwI M F1) (fun r M2 => ∃ v f', r = .inl (some (.inl v)) ∧ M2 = zwI M f' ∧ zsw F0 f' ∧ (∀ y, f' 1114 y = 0) ∧ zV1 v (zcgd F0 (F0 5) (zrct M.2.1))) := by
    refine zW_sound 60 [12] ?_
    rw [p1] at e3
    simp only [ZF128, ZR128, zk_2, zk_3, hF, zwI_2, ZF3.1, ZF3.2.1, ZF3.2.2.1, e3, zW_succ, zE_iload, zE_aload, zE_lload, zE_iinc, zE_istore, zE_astore, zE_lstore, zE_iconst, zE_ldc2, zE_iadd, zE_isub, zE_imul, zE_idiv, zE_irem, zE_ineg, zE_iand, zE_ior, zE_ixor, zE_ishl, zE_ishr, zE_land, zE_lor, zE_lxor, zE_lshl, zE_lshr, zE_i2l, zE_lcmp, zE_dup_i, zE_dup_a, zE_dup2_ia, zE_pop_i, zE_pop_a, zE_pop2, zE_goto, zE_if_eq, zE_icmp_eq, zE_if_ne, zE_icmp_ne, zE_if_lt, zE_icmp_lt, zE_if_ge, zE_icmp_ge, zE_if_gt, zE_icmp_gt, zE_if_le, zE_icmp_le, zE_iaload, zE_baload, zE_laload, zE_aaload, zE_iastore, zE_bastore, zE_lastore, zE_aastore, zE_alen, zE_getf0, zE_getf1, zE_getf2, zE_getf3, zE_putf0, zE_putf1, zE_putf2, zE_putf3, zE_new, zE_newa, zE_newq, zE_ireturn, zE_lreturn, zE_areturn, zE_return, zE_athrow, zE_st0, zE_vi0, zE_st1, zE_vi1, zE_st2, zE_vi2, zE_st3, zE_vi3, zE_st4, zE_vi4, zE_st5, zE_vi5, zE_st6, zE_vi6, zE_st7, zE_vi7, zE_st8, zE_vi8, zSt_0, zSL_0, zSt_1n, zSt_1i, zSt_1a, zSt_1l, zSt_2n, zSt_2i, zSt_2a, zSt_2l, zSt_3n, zSt_3i, zSt_3a, zSt_3l, zSt_4n, zSt_4i, zSt_4a, zSt_4l, zSt_5n, zSt_5i, zSt_5a, zSt_5l, zSt_6n, zSt_6i, zSt_6a, zSt_6l, zSt_7n, zSt_7i, zSt_7a, zSt_7l, zSt_8n, zSt_8i, zSt_8a, zSt_8l, zSt_9n, zSt_9i, zSt_9a, zSt_9l, zSt_10n, zSt_10i, zSt_10a, zSt_10l, zSt_11n, zSt_11i, zSt_11a, zSt_11l, zSt_12n, zSt_12i, zSt_12a, zSt_12l, zSt_13n, zSt_13i, zSt_13a, zSt_13l, zSL_1n, zSL_1i, zSL_1a, zSL_1l, zSL_2n, zSL_2i, zSL_2a, zSL_2l, zSL_3n, zSL_3i, zSL_3a, zSL_3l, zSL_4n, zSL_4i, zSL_4a, zSL_4l, zSL_5n, zSL_5i, zSL_5a, zSL_5l, zSL_6n, zSL_6i, zSL_6a, zSL_6l, zSL_7n, zSL_7i, zSL_7a, zSL_7l, zSL_8n, zSL_8i, zSL_8a, zSL_8l, zSL_9n, zSL_9i, zSL_9a, zSL_9l, zSL_10n, zSL_10i, zSL_10a, zSL_10l, zSL_11n, zSL_11i, zSL_11a, zSL_11l, zSL_12n, zSL_12i, zSL_12a, zSL_12l, zLI_0, zLL_0, zLA_0, zLI_1, zLL_1, zLA_1, zLI_2, zLL_2, zLA_2, zLI_3, zLL_3, zLA_3, zLI_4, zLL_4, zLA_4, zLI_5, zLL_5, zLA_5, zLI_6, zLL_6, zLA_6, zLI_7, zLL_7, zLA_7, zLI_8, zLL_8, zLA_8, zLI_9, zLL_9, zLA_9, zLI_10, zLL_10, zLA_10, zLI_11, zLL_11, zLA_11, zLI_12, zLL_12, zLA_12, zLI_13, zLL_13, zLA_13, zst_0, zst_1n, zst_1i, zst_1a, zst_2n, zst_2i, zst_2a, zst_3n, zst_3i, zst_3a, zst_4n, zst_4i, zst_4a, zst_5n, zst_5i, zst_5a, zst_6n, zst_6i, zst_6a, zst_7n, zst_7i, zst_7a, zst_8n, zst_8i, zst_8a, zst_9n, zst_9i, zst_9a, zst_10n, zst_10i, zst_10a, zst_11n, zst_11i, zst_11a, zst_12n, zst_12i, zst_12a, zst_13n, zst_13i, zst_13a, zst_14n, zst_14i, zst_14a, zst_15n, zst_15i, zst_15a, zR1_n, zR1_v, zsum_n, zsum_i, zsum_l, zsum_a, zlen_n, zlen_i, zlen_l, zlen_a, List.not_mem_nil, List.mem_cons, or_false, false_or, or_self, ↓reduceIte, if_false, if_true, Nat.reduceEqDiff, Nat.reduceAdd, Nat.reduceLeDiff, true_and, and_true, reduceCtorEq, ne_eq, Int.toNat_natCast, not_true_eq_false, not_false_eq_true, true_implies, false_implies, implies_true, Int.reduceToNat, Int.toNat_zero, Int.reduceLT, Int.reduceLE, Int.reduceEq, Int.reduceAdd, Int.reduceMul, Int.reduceNeg]
    exact lp
  obtain ⟨r, M2, ⟨v, f', hr, hM, sw, z14, hv⟩, e128⟩ := zFRx c128
  subst hr hM
  refine zqAg_ok (m' := m) (fun Q => c126_g hR e2 e128 (hv.elim (fun a => Or.inl a.1) (fun a => Or.inr a.1))) rfl rfl rfl (fun B b1 b2 b3 => ?_)
  have b1' : B.2.1 = f' := b1
  have bn : ∀ b j, b ≠ 5 → (b < 1105 ∨ 1113 < b) → B.2.1 b j = M.2.1 b j := fun b j h5 q => by
    rw [b1']
    by_cases c : b = 1114
    · subst c
      rw [z14 j, z14m j]
    · rw [sw b (by omega)]
      exact f0 b j h5
  have rl := zqR_tw hW (B := B) (fun b j hb => bn b j (by omega) (by omega)) (fun j => by rw [b2 1162 (by omega)]; rfl) b3 0
  have rG := zqR_zrg (r0 _ rl)
  obtain ⟨G0, hG0⟩ : ∃ G0, zrtw B.2.1 0 = G0 := ⟨_, rfl⟩
  rw [hG0] at rl rG
  have ct : zrct G0 = zrct M.2.1 := by
    rw [← (zqord rl).1]
    exact o1
  have od : ∀ j, j < zrct M.2.1 → F0 5 j = zrod G0 j := fun j hj => by
    rw [eo j hj, ← (zqord rl).2 j (by rw [ct]; exact hj)]
    exact (o2 j hj).symm
  have er : ∀ j, zrg G0 1184 j = zrod G0 j := fun j => zrg_r j
  obtain ⟨r2, M3, ⟨v', g', hr2, hM3, fr, hv'⟩, e340⟩ := zFRx (c340 (L := L) (M := B) (f := zrg G0) (n := zrct G0) (by rw [b3]; exact hR) (by rw [hG0]; exact zqR_rbk rl) (by rw [hG0]) (zrg_c) (zcnt_le _ _) (fun j hj => by
    obtain ⟨u, u1, u2⟩ := zqvl (g := G0) hj
    have ut : zrg G0 1166 u = 1 := (zrg_o ⟨by omega, by omega⟩).trans u1.2
    obtain ⟨se, so⟩ := rG.2.2.2.2.2.2.2.1 u u1.1 ut
    have c14 := so.1
    exact ⟨u, u1.1, (er j).trans u2, ((zqR_rbk rG u u1.1).2 ut), ⟨zqO_sw so, zqSP so (by omega)⟩, (rG.2.2.2.1.2.1 u u1.1).2.1⟩))
  subst hr2 hM3
  have key : ∀ k, k ≤ zrct G0 → (zcgd F0 (F0 5) k ↔ zrgd (zrg G0) k) := by
    intro k
    induction k with
    | zero => exact fun _ => Iff.rfl
    | succ k ih =>
      intro hk
      have ih := ih (by omega)
      obtain ⟨u, u1, u2⟩ := zqvl (g := G0) (q := k) (by omega)
      have ut : zrg G0 1166 u = 1 := (zrg_o ⟨by omega, by omega⟩).trans u1.2
      have hA : zrsA (zrg G0) u := by
        obtain ⟨_, _, k3, k4, _⟩ := rG.2.2.1.1 u u1.1 ut
        obtain ⟨b1, b2, b3⟩ := rG.2.2.2.1.2.1 u u1.1
        refine ⟨by omega, by omega, ?_⟩
        by_cases c : zrg G0 1172 u < 0
        · exact Or.inl c
        · have := (b3 (by omega)).2
          exact Or.inr (by omega)
      have eU : F0 5 k = (u : Int) := (od k (by omega)).trans u2
      have eU2 : zrg G0 1184 k = (u : Int) := (er k).trans u2
      show (zcgd F0 (F0 5) k ∧ (k = 0 ∨ zcsC F0 (F0 5 (k - 1)).toNat (F0 5 k).toNat)) ↔ (zrgd (zrg G0) k ∧ zrsA (zrg G0) (zrg G0 1184 k).toNat ∧ zrsB (zrg G0) k ∧ (k = 0 ∨ zrsC (zrg G0) (zrg G0 1184 (k - 1)).toNat (zrg G0 1184 k).toNat))
      rw [ih, eU, eU2, Int.toNat_natCast]
      by_cases c0 : k = 0
      · exact ⟨fun h => ⟨h.1, hA, Or.inl c0, Or.inl c0⟩, fun h => ⟨h.1, Or.inl c0⟩⟩
      · obtain ⟨p, q1, q2⟩ := zqvl (g := G0) (q := k - 1) (by omega)
        have pt : zrg G0 1166 p = 1 := (zrg_o ⟨by omega, by omega⟩).trans q1.2
        have eP : F0 5 (k - 1) = (p : Int) := (od (k - 1) (by omega)).trans q2
        have eP2 : zrg G0 1184 (k - 1) = (p : Int) := (er (k - 1)).trans q2
        have hB : zrsB (zrg G0) k := by
          refine Or.inr ?_
          rw [er, er]
          have := zqso rl.2.2.1 (q := k - 1) (r := k) (by omega) (by omega)
          unfold zrlt at this ⊢
          rw [zrg_o ⟨by omega, by omega⟩, zrg_o ⟨by omega, by omega⟩, zrg_o ⟨by omega, by omega⟩, zrg_o ⟨by omega, by omega⟩, zrg_o ⟨by omega, by omega⟩, zrg_o ⟨by omega, by omega⟩]
          exact this
        have ex : ∀ v, v < 60 → zrg G0 1166 v = 1 → zqE F0 (zrg G0) v ∧ zqO (zrg G0) v := fun v hv tv => rG.2.2.2.2.2.2.2.1 v hv tv
        obtain ⟨eu, ou⟩ := ex u u1.1 ut
        obtain ⟨ep, op⟩ := ex p q1.1 pt
        have two : ∀ w : Int, 0 ≤ w → zcA F0 w (14 + 14 * p) (14 + 14 * u) = zra (zrg G0) w p u := fun w hw => by
          have c1 := op.1
          have c2 := ou.1
          have eg : zg3 w (zrg G0 1175 p) (zrg G0 1175 u) (zrg G0 1174 p).toNat = zgl w (zrg G0 1175 p) (zrg G0 1175 u) (zrg G0 1174 p).toNat := funext fun st => by
            unfold zg3
            rw [if_neg (by omega)]
          unfold zcA zra zE2 zrE2
          rw [ep.1, ep.2.1, eu.1, eu.2.1, zqeS ep op (by omega), zqeS eu ou (by omega), if_neg (by omega), eg]
        have one : ∀ v, zqE F0 (zrg G0) v → zqO (zrg G0) v → zcA F0 0 (14 + 14 * v) 1138 = zra (zrg G0) (-1) v v := fun v ev ov => by
          have c1 := ov.1
          have eg : zgl 0 (zrg G0 1175 v) 0 (zrg G0 1174 v).toNat = zg3 (-1) (zrg G0 1175 v) (zrg G0 1175 v) (zrg G0 1174 v).toNat := funext fun st => by
            unfold zg3 zgl zlawb
            rw [if_pos (show (-1 : Int) < 0 by omega), if_pos (show (0 : Int) = 0 from rfl)]
            have z : zhsb 0 (st / 2 ^ (zrg G0 1174 v).toNat) = false := by
              unfold zhsb
              refine decide_eq_false (fun h => ?_)
              rw [show (0 : Int).toNat = 0 from rfl, Nat.zero_div] at h
              exact absurd h (by decide)
            rw [z, Bool.or_false]
          have e0 : (0 : Int).toNat = 0 := rfl
          have ez : zeS (zN F0 1138) (zX F0 1138) (zY F0 1138) (zrg G0 1174 v).toNat 0 = [] := rfl
          unfold zcA zra zE2 zrE2
          rw [ev.1, ev.2.1, e9, e10, e0, ez, zqeS ev ov (by omega), eg, if_pos (show (-1 : Int) < 0 by omega)]
        have eC : zcsC F0 p u ↔ zrsC (zrg G0) p u := by
          unfold zcsC zrsC
          rw [two 0 (by omega), two 1 (by omega), two 2 (by omega), one p ep op, one u eu ou]
        rw [eP, eP2, Int.toNat_natCast, eC]
        exact ⟨fun h => ⟨h.1, hA, hB, h.2⟩, fun h => ⟨h.1, h.2.2.2⟩⟩
  have ev : v' = v := by
    have kk := key (zrct G0) (Nat.le_refl _)
    rw [← ct] at hv
    rcases hv with ⟨a1, a2⟩ | ⟨a1, a2⟩
    · rcases hv' with ⟨d1, d2⟩ | ⟨d1, d2⟩
      · omega
      · exact absurd (kk.mp a2) d2
    · rcases hv' with ⟨d1, d2⟩ | ⟨d1, d2⟩
      · exact absurd (kk.mpr d2) a2
      · omega
  rw [ev] at e340
  refine ⟨zwI B g', e340, rfl, rfl, zqW_t hW b3 b2 (fun b j q1 q2 q3 q4 => ?_), ?_⟩
  · show g' b j = _
    by_cases q : b = 1153
    · subst q
      rw [fr.2 j (by omega), zrg_o ⟨by omega, by omega⟩, ← hG0]
      unfold zrtw
      rw [zu2_sj (by omega)]
      exact bn _ _ (by omega) (by omega)
    · rw [fr.1 b q (by omega), zrg_o ⟨by omega, by omega⟩, ← hG0]
      unfold zrtw
      rw [zu2_sj (by omega)]
      exact bn b j q1 (by omega)
  · show g' 1153 0 = 0
    rw [fr.2 0 (by omega), zrg_o ⟨by omega, by omega⟩, ← hG0]
    exact zu2_eq _ _ _ _
end ZSOUNDQ
