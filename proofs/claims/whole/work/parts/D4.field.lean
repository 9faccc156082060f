/-! a field: both count alike -/
section ZFIELDQ
variable {L m n : Nat} {M B : zM} {s : Nat} {Q : zO → zM → Prop} {f G F0 : Nat → Nat → Int} {o : Nat → Int} {cc : Nat → Int}
def ze61 (x y : Nat) : Nat := 61 * y + x
theorem ze61_i : zEi ze61 := by
  intro x y u v hx hu h
  unfold ze61 at h
  omega
def zcFS (c : Nat → Nat → Int) (col : Int) (x y K n : Nat) (f : Nat → Nat → Int) : Prop := f 1117 6 = (n : Int) ∧ zFI ze61 c col x y (fun u v => f 1118 (ze61 u v)) (f 1119) n ∧ ∀ k, k < K → k < n → ∀ u v, u < 60 → v < 60 → f 1119 k = (ze61 u v : Int) → zCl c col (fun u v => f 1118 (ze61 u v)) u v
/-- one cell taken, or not -/
theorem zcFS_s {c : Nat → Nat → Int} {col : Int} {x y K qx qy : Nat} {X Y : Int} (h : zcFS c col x y K n f) (hcol : col ≠ -1) (hK : K < n) (hx : qx < 60) (hy : qy < 60) (hq : f 1119 K = (ze61 qx qy : Int)) (ha : ∀ u v : Nat, X = (u : Int) → Y = (v : Int) → zadj qx qy u v) : ∃ n', n ≤ n' ∧ zcFS c col x y K n' (ztk f X Y col) ∧ ztk f X Y col 1119 K = f 1119 K ∧ (∀ p, f 1118 p = -1 → ztk f X Y col 1118 p = -1) ∧ ∀ u v : Nat, u < 60 → v < 60 → X = (u : Int) → Y = (v : Int) → c u v = col → ztk f X Y col 1118 (ze61 u v) = -1 := by
  obtain ⟨h0, h1, h3⟩ := h
  unfold ztk
  by_cases hh : (0 ≤ X ∧ X < 60 ∧ 0 ≤ Y ∧ Y < 60) ∧ f 1118 (Y * 61 + X).toNat = col
  · rw [if_pos hh]
    obtain ⟨hr, hv⟩ := hh
    obtain ⟨u, hu⟩ : ∃ u : Nat, X = (u : Int) := ⟨X.toNat, by omega⟩
    obtain ⟨v, hvv⟩ : ∃ v : Nat, Y = (v : Int) := ⟨Y.toNat, by omega⟩
    subst hu hvv
    have e1 : ((v : Int) * 61 + (u : Int)).toNat = ze61 u v := by unfold ze61; omega
    have e2 : (f 1117 6).toNat = n := by omega
    have e3 : (v : Int) * 61 + (u : Int) = (ze61 u v : Int) := by unfold ze61; omega
    rw [e1] at hv
    rw [e1, e2, e3, h0]
    have hu6 : u < 60 := by omega
    have hv6 : v < 60 := by omega
    have hs := zFI_s ze61_i h1 hu6 hv6 hv hcol hK hx hy hq (ha u v rfl rfl)
    have m8 : ∀ p, zu2 (zu2 (zu2 f 1118 (ze61 u v) (-1)) 1119 n (ze61 u v : Int)) 1117 6 ((n : Int) + 1) 1118 p = if p = ze61 u v then -1 else f 1118 p := fun p => by
      rw [zu2_a (by omega), zu2_a (by omega), zu2_if]
      by_cases e : p = ze61 u v
      · rw [if_pos ⟨rfl, e⟩, if_pos e]
      · rw [if_neg (fun h => e h.2), if_neg e]
    have m9 : ∀ p, zu2 (zu2 (zu2 f 1118 (ze61 u v) (-1)) 1119 n (ze61 u v : Int)) 1117 6 ((n : Int) + 1) 1119 p = if p = n then (ze61 u v : Int) else f 1119 p := fun p => by
      rw [zu2_a (by omega), zu2_if]
      by_cases e : p = n
      · rw [if_pos ⟨rfl, e⟩, if_pos e]
      · rw [if_neg (fun h => e h.2), if_neg e, zu2_a (by omega)]
    have m7 : zu2 (zu2 (zu2 f 1118 (ze61 u v) (-1)) 1119 n (ze61 u v : Int)) 1117 6 ((n : Int) + 1) 1117 6 = (n : Int) + 1 := zu2_eq _ _ _ _
    generalize zu2 (zu2 (zu2 f 1118 (ze61 u v) (-1)) 1119 n (ze61 u v : Int)) 1117 6 ((n : Int) + 1) = F at *
    refine ⟨n + 1, by omega, ⟨by rw [m7]; omega, zFI_c hs (fun a b ha hb => ?_) (fun j hj => ?_), fun k hk hkn a b ha hb hq2 => ?_⟩, ?_, fun p hp => ?_, fun a b ha hb e1 e2 hc => ?_⟩
    · show F 1118 (ze61 a b) = if a = u ∧ b = v then -1 else f 1118 (ze61 a b)
      rw [m8]
      by_cases e : a = u ∧ b = v
      · rw [if_pos e, if_pos (by rw [e.1, e.2])]
      · rw [if_neg e, if_neg (fun h => e (ze61_i a b u v ha hu6 h))]
    · show F 1119 j = if j = n then (ze61 u v : Int) else f 1119 j
      exact m9 j
    · rw [m9, if_neg (by omega)] at hq2
      have hc := h3 k hk (by omega) a b ha hb hq2
      intro p q hp hq' had hcc
      show F 1118 (ze61 p q) = -1
      rw [m8]
      split
      · rfl
      · exact hc p q hp hq' had hcc
    · rw [m9, if_neg (by omega)]
    · rw [m8]
      split
      · rfl
      · exact hp
    · rw [m8, if_pos (by rw [show a = u by omega, show b = v by omega])]
  · rw [if_neg hh]
    refine ⟨n, Nat.le_refl n, ⟨h0, h1, h3⟩, rfl, fun p hp => hp, fun u v hu hv e1 e2 hc => ?_⟩
    rcases h1.2.1 u v hu hv with ⟨a1, _⟩ | ⟨a1, _⟩
    · exact a1
    · refine absurd ⟨⟨by omega, by omega, by omega, by omega⟩, ?_⟩ hh
      rw [show (Y * 61 + X).toNat = ze61 u v by unfold ze61; omega]
      exact a1.trans hc
theorem zcFS_4 {c : Nat → Nat → Int} {col : Int} {x y K : Nat} (h : zcFS c col x y K n f) (hcol : col ≠ -1) (hK : K < n) : ∃ n', n ≤ n' ∧ zcFS c col x y (K + 1) n' (zt4 f col K) := by
  obtain ⟨qx, qy, b1, b2, b3, b4, b5⟩ := h.2.1.1 K hK
  have em : f 1119 K % 61 = (qx : Int) := by rw [b3]; unfold ze61; omega
  have ed : f 1119 K / 61 = (qy : Int) := by rw [b3]; unfold ze61; omega
  unfold zt4
  rw [em, ed]
  obtain ⟨n1, g1, s1, k1, t1, u1⟩ := zcFS_s (X := (qx : Int) - 1) (Y := (qy : Int)) h hcol hK b1 b2 b3 (fun u v h1 h2 => by unfold zadj; omega)
  generalize ztk f ((qx : Int) - 1) (qy : Int) col = f1 at *
  obtain ⟨n2, g2, s2, k2, t2, u2⟩ := zcFS_s (X := (qx : Int) + 1) (Y := (qy : Int)) s1 hcol (by omega) b1 b2 (k1.trans b3) (fun u v h1 h2 => by unfold zadj; omega)
  generalize ztk f1 ((qx : Int) + 1) (qy : Int) col = f2 at *
  obtain ⟨n3, g3, s3, k3, t3, u3⟩ := zcFS_s (X := (qx : Int)) (Y := (qy : Int) - 1) s2 hcol (by omega) b1 b2 (k2.trans (k1.trans b3)) (fun u v h1 h2 => by unfold zadj; omega)
  generalize ztk f2 (qx : Int) ((qy : Int) - 1) col = f3 at *
  obtain ⟨n4, g4, s4, k4, t4, u4⟩ := zcFS_s (X := (qx : Int)) (Y := (qy : Int) + 1) s3 hcol (by omega) b1 b2 (k3.trans (k2.trans (k1.trans b3))) (fun u v h1 h2 => by unfold zadj; omega)
  generalize ztk f3 (qx : Int) ((qy : Int) + 1) col = f4 at *
  refine ⟨n4, by omega, s4.1, s4.2.1, fun k hk hkn u v hu hv hq => ?_⟩
  by_cases e : k = K
  · subst e
    have e9 : f4 1119 k = (ze61 qx qy : Int) := k4.trans (k3.trans (k2.trans (k1.trans b3)))
    obtain ⟨rfl, rfl⟩ := ze61_i u v qx qy hu b1 (by omega)
    intro p q hp hq' had hcc
    show f4 1118 (ze61 p q) = -1
    unfold zadj at had
    rcases had with ⟨e1, e2 | e2⟩ | ⟨e1, e2 | e2⟩
    · exact t4 _ (u3 p q hp hq' (by omega) (by omega) hcc)
    · exact u4 p q hp hq' (by omega) (by omega) hcc
    · exact t4 _ (t3 _ (t2 _ (u1 p q hp hq' (by omega) (by omega) hcc)))
    · exact t4 _ (t3 _ (u2 p q hp hq' (by omega) (by omega) hcc))
  · exact s4.2.2 k (by omega) hkn u v hu hv hq
theorem zcFl {c : Nat → Nat → Int} {g : Nat → Nat → Int} {col : Int} {x y : Nat} (hcol : col ≠ -1) (h0 : zcFS c col x y 0 1 g) : ∃ K, K ≤ 3600 ∧ (∀ k : Nat, k < K → (k : Int) < ztn g col k 1117 6) ∧ ztn g col K 1117 6 = (K : Int) ∧ zFl ze61 c col x y (fun u v => ztn g col K 1118 (ze61 u v)) (ztn g col K 1119) K := by
  have fin : ∀ k : Nat, zcFS c col x y k k (ztn g col k) → (∀ j : Nat, j < k → (j : Int) < ztn g col j 1117 6) → ∃ K, K ≤ 3600 ∧ (∀ k : Nat, k < K → (k : Int) < ztn g col k 1117 6) ∧ ztn g col K 1117 6 = (K : Int) ∧ zFl ze61 c col x y (fun u v => ztn g col K 1118 (ze61 u v)) (ztn g col K 1119) K := fun k hS hj => ⟨k, zFI_n hS.2.1, hj, hS.1, hS.2.1, fun j hjk => hS.2.2 j hjk hjk⟩
  have step : ∀ d k n : Nat, 3600 - k = d → k ≤ n → zcFS c col x y k n (ztn g col k) → (∀ j : Nat, j < k → (j : Int) < ztn g col j 1117 6) → ∃ K, K ≤ 3600 ∧ (∀ k : Nat, k < K → (k : Int) < ztn g col k 1117 6) ∧ ztn g col K 1117 6 = (K : Int) ∧ zFl ze61 c col x y (fun u v => ztn g col K 1118 (ze61 u v)) (ztn g col K 1119) K := by
    intro d
    induction d with
    | zero =>
      intro k n hd hkn hS hj
      have hn := zFI_n hS.2.1
      have e : k = n := by omega
      subst e
      exact fin k hS hj
    | succ d ih =>
      intro k n hd hkn hS hj
      by_cases e : k = n
      · subst e
        exact fin k hS hj
      · obtain ⟨n', g1, s1⟩ := zcFS_4 hS hcol (by omega)
        rw [← ztn_s] at s1
        refine ih (k + 1) n' (by omega) (by omega) s1 (fun j hj2 => ?_)
        by_cases e2 : j = k
        · rw [e2, hS.1]; omega
        · exact hj j (by omega)
  exact step 3600 0 1 rfl (by omega) h0 (fun j hj => absurd hj (Nat.not_lt_zero j))
theorem zcFS_0 {c : Nat → Nat → Int} {x y : Nat} {col : Int} (hx : x < 60) (hy : y < 60) (hc : ∀ u v, u < 60 → v < 60 → f 1118 (ze61 u v) = c u v) (hn : ∀ u v, u < 60 → v < 60 → c u v ≠ -1) (ec : col = f 1118 ((y : Int) * 61 + (x : Int)).toNat) : zcFS c col x y 0 1 (zfd0 f (x : Int) (y : Int)) := by
  have e1 : ((y : Int) * 61 + (x : Int)).toNat = ze61 x y := by unfold ze61; omega
  have e3 : (y : Int) * 61 + (x : Int) = (ze61 x y : Int) := by unfold ze61; omega
  have e4 : (zu2 f 1117 6 0) 1118 (ze61 x y) = f 1118 (ze61 x y) := zu2_a (by omega) _ _ _ _
  have e5 : zu2 f 1117 6 0 1117 6 = 0 := zu2_eq _ _ _ _
  rw [e1] at ec
  have hcc : c x y = col := by rw [ec]; exact (hc x y hx hy).symm
  unfold zfd0 ztk
  rw [e1, e3, if_pos ⟨⟨by omega, by omega, by omega, by omega⟩, e4⟩, e5, show (0 : Int).toNat = 0 from rfl, show (0 : Int) + 1 = 1 from rfl]
  have m8 : ∀ p, zu2 (zu2 (zu2 (zu2 f 1117 6 0) 1118 (ze61 x y) (-1)) 1119 0 (ze61 x y : Int)) 1117 6 1 1118 p = if p = ze61 x y then -1 else f 1118 p := fun p => by
    rw [zu2_a (by omega), zu2_a (by omega), zu2_if]
    by_cases e : p = ze61 x y
    · rw [if_pos ⟨rfl, e⟩, if_pos e]
    · rw [if_neg (fun h => e h.2), if_neg e, zu2_a (by omega)]
  have m9 : zu2 (zu2 (zu2 (zu2 f 1117 6 0) 1118 (ze61 x y) (-1)) 1119 0 (ze61 x y : Int)) 1117 6 1 1119 0 = (ze61 x y : Int) := by rw [zu2_a (by omega), zu2_eq]
  have m7 : zu2 (zu2 (zu2 (zu2 f 1117 6 0) 1118 (ze61 x y) (-1)) 1119 0 (ze61 x y : Int)) 1117 6 1 1117 6 = 1 := zu2_eq _ _ _ _
  generalize zu2 (zu2 (zu2 (zu2 f 1117 6 0) 1118 (ze61 x y) (-1)) 1119 0 (ze61 x y : Int)) 1117 6 1 = F at *
  refine ⟨m7, zFI_c (zFI_0 hx hy hcc hn m9) (fun a b ha hb => ?_) (fun j hj => rfl), fun k hk => absurd hk (Nat.not_lt_zero k)⟩
  show F 1118 (ze61 a b) = if a = x ∧ b = y then -1 else c a b
  rw [m8]
  by_cases e : a = x ∧ b = y
  · rw [if_pos e, if_pos (by rw [e.1, e.2])]
  · rw [if_neg e, if_neg (fun h => e (ze61_i a b x y ha hx h))]
    exact hc a b ha hb
theorem zFl_c {e : Nat → Nat → Nat} {c c' : Nat → Nat → Int} {col : Int} {sx sy : Nat} {m : Nat → Nat → Int} {q : Nat → Int} {n : Nat} (h : zFl e c col sx sy m q n) (hc : ∀ u v, u < 60 → v < 60 → c' u v = c u v) : zFl e c' col sx sy m q n := by
  obtain ⟨⟨h1, h2, h3, h4, h5⟩, h6⟩ := h
  refine ⟨⟨fun k hk => ?_, fun x y hx hy => ?_, h3, h4, h5⟩, fun k hk x y hx hy hq u v hu hv ha he => h6 k hk x y hx hy hq u v hu hv ha (by rw [← hc u v hu hv]; exact he)⟩
  · obtain ⟨x, y, a1, a2, a3, a4, a5⟩ := h1 k hk
    exact ⟨x, y, a1, a2, a3, by rw [hc x y a1 a2]; exact a4, a5⟩
  · rcases h2 x y hx hy with hh | ⟨hh, hh2⟩
    · exact Or.inl hh
    · exact Or.inr ⟨by rw [hc x y hx hy]; exact hh, hh2⟩
theorem ztk_o {b j : Nat} {x y c : Int} (h : b < 1117 ∨ 1119 < b) : ztk f x y c b j = f b j := by
  unfold ztk
  split
  · rw [zu2_a (by omega), zu2_a (by omega), zu2_a (by omega)]
  · rfl
theorem ztn_o {b j : Nat} {c : Int} (h : b < 1117 ∨ 1119 < b) : ∀ k, ztn f c k b j = f b j
  | 0 => rfl
  | k + 1 => by
    rw [ztn_s]
    unfold zt4
    rw [ztk_o h, ztk_o h, ztk_o h, ztk_o h]
    exact ztn_o h k
theorem zfd0_o {b j : Nat} {x y : Int} (h : b < 1117 ∨ 1119 < b) : zfd0 f x y b j = f b j := by
  unfold zfd0
  rw [ztk_o h, zu2_a (by omega)]
/-- what the class lays for a field: the visible shapes in their order -/
def zrpst (f : Nat → Nat → Int) (o : Nat → Int) : Nat → Nat → Nat → Int
  | 0 => f
  | i + 1 => if zsee f (o i).toNat = true then zsta (zrpst f o i) (14 + 14 * (o i).toNat) 1 (f (14 + 14 * (o i).toNat) 2) else zrpst f o i
theorem zrpst_s (f : Nat → Nat → Int) (o : Nat → Int) (i : Nat) : zrpst f o (i + 1) = if zsee f (o i).toNat = true then zsta (zrpst f o i) (14 + 14 * (o i).toNat) 1 (f (14 + 14 * (o i).toNat) 2) else zrpst f o i := rfl
theorem zsta_o {od mark : Int} {b j : Nat} (h : b ≠ 1118) : zsta f s od mark b j = f b j := zstk_o h j
theorem zrpst_o {b j : Nat} (h : b ≠ 1118) : ∀ i, zrpst f o i b j = f b j
  | 0 => rfl
  | i + 1 => by
    rw [zrpst_s]
    split
    · rw [zsta_o h, zrpst_o h i]
    · exact zrpst_o h i
theorem zrpst_b {j c : Nat} (h0 : 0 ≤ F0 1118 j ∧ F0 1118 j ≤ 9) (hv : ∀ i, i < c → 0 ≤ F0 (14 + 14 * (o i).toNat) 2 ∧ F0 (14 + 14 * (o i).toNat) 2 ≤ 9) : ∀ i, i ≤ c → 0 ≤ zrpst F0 o i 1118 j ∧ zrpst F0 o i 1118 j ≤ 9
  | 0, _ => h0
  | i + 1, hi => by
    have ih := zrpst_b h0 hv i (by omega)
    have hvi := hv i (by omega)
    rw [zrpst_s]
    split
    · unfold zsta zstk
      split
      · exact hvi
      · exact ih
    · exact ih
theorem c185_0 {x y : Int} (hn : ¬ ((0 ≤ x ∧ x < 60) ∧ 0 ≤ y ∧ y < 60)) : zFR (zK L) 185 0 (zcall 185 [.inr (.inr 2), .inl x, .inl y]) [] M Q = Q (.inr 2) (zthrown M) := by
  have e2 := fun Q => (c183 (L := L) (M := M) (Q := Q) (x := x) (y := y)).trans (znot hn)
  refine zFR_det (zW_sound 60 [] ?_) Q
  simp only [ZF185, ZR185, zk_2, ZF183.1, ZF183.2.1, ZF183.2.2.1, e2, zR1_p ZF185.2.2.1, zW_succ, zE_iload, zE_aload, zE_lload, zE_iinc, zE_istore, zE_astore, zE_lstore, zE_iconst, zE_ldc2, zE_iadd, zE_isub, zE_imul, zE_idiv, zE_irem, zE_ineg, zE_iand, zE_ior, zE_ixor, zE_ishl, zE_ishr, zE_land, zE_lor, zE_lxor, zE_lshl, zE_lshr, zE_i2l, zE_lcmp, zE_dup_i, zE_dup_a, zE_dup2_ia, zE_pop_i, zE_pop_a, zE_pop2, zE_goto, zE_if_eq, zE_icmp_eq, zE_if_ne, zE_icmp_ne, zE_if_lt, zE_icmp_lt, zE_if_ge, zE_icmp_ge, zE_if_gt, zE_icmp_gt, zE_if_le, zE_icmp_le, zE_iaload, zE_baload, zE_laload, zE_aaload, zE_iastore, zE_bastore, zE_lastore, zE_aastore, zE_alen, zE_getf0, zE_getf1, zE_getf2, zE_getf3, zE_putf0, zE_putf1, zE_putf2, zE_putf3, zE_new, zE_newa, zE_newq, zE_ireturn, zE_lreturn, zE_areturn, zE_return, zE_athrow, zE_st0, zE_vi0, zE_st1, zE_vi1, zE_st2, zE_vi2, zE_st3, zE_vi3, zE_st4, zE_vi4, zE_st5, zE_vi5, zE_st6, zE_vi6, zE_st7, zE_vi7, zE_st8, zE_vi8, zSt_0, zSL_0, zSt_1n, zSt_1i, zSt_1a, zSt_1l, zSt_2n, zSt_2i, zSt_2a, zSt_2l, zSt_3n, zSt_3i, zSt_3a, zSt_3l, zSt_4n, zSt_4i, zSt_4a, zSt_4l, zSt_5n, zSt_5i, zSt_5a, zSt_5l, zSt_6n, zSt_6i, zSt_6a, zSt_6l, zSt_7n, zSt_7i, zSt_7a, zSt_7l, zSt_8n, zSt_8i, zSt_8a, zSt_8l, zSt_9n, zSt_9i, zSt_9a, zSt_9l, zSt_10n, zSt_10i, zSt_10a, zSt_10l, zSt_11n, zSt_11i, zSt_11a, zSt_11l, zSt_12n, zSt_12i, zSt_12a, zSt_12l, zSt_13n, zSt_13i, zSt_13a, zSt_13l, zSL_1n, zSL_1i, zSL_1a, zSL_1l, zSL_2n, zSL_2i, zSL_2a, zSL_2l, zSL_3n, zSL_3i, zSL_3a, zSL_3l, zSL_4n, zSL_4i, zSL_4a, zSL_4l, zSL_5n, zSL_5i, zSL_5a, zSL_5l, zSL_6n, zSL_6i, zSL_6a, zSL_6l, zSL_7n, zSL_7i, zSL_7a, zSL_7l, zSL_8n, zSL_8i, zSL_8a, zSL_8l, zSL_9n, zSL_9i, zSL_9a, zSL_9l, zSL_10n, zSL_10i, zSL_10a, zSL_10l, zSL_11n, zSL_11i, zSL_11a, zSL_11l, zSL_12n, zSL_12i, zSL_12a, zSL_12l, zLI_0, zLL_0, zLA_0, zLI_1, zLL_1, zLA_1, zLI_2, zLL_2, zLA_2, zLI_3, zLL_3, zLA_3, zLI_4, zLL_4, zLA_4, zLI_5, zLL_5, zLA_5, zLI_6, zLL_6, zLA_6, zLI_7, zLL_7, zLA_7, zLI_8, zLL_8, zLA_8, zLI_9, zLL_9, zLA_9, zLI_10, zLL_10, zLA_10, zLI_11, zLL_11, zLA_11, zLI_12, zLL_12, zLA_12, zLI_13, zLL_13, zLA_13, zst_0, zst_1n, zst_1i, zst_1a, zst_2n, zst_2i, zst_2a, zst_3n, zst_3i, zst_3a, zst_4n, zst_4i, zst_4a, zst_5n, zst_5i, zst_5a, zst_6n, zst_6i, zst_6a, zst_7n, zst_7i, zst_7a, zst_8n, zst_8i, zst_8a, zst_9n, zst_9i, zst_9a, zst_10n, zst_10i, zst_10a, zst_11n, zst_11i, zst_11a, zst_12n, zst_12i, zst_12a, zst_13n, zst_13i, zst_13a, zst_14n, zst_14i, zst_14a, zst_15n, zst_15i, zst_15a, zR1_n, zR1_v, zsum_n, zsum_i, zsum_l, zsum_a, zlen_n, zlen_i, zlen_l, zlen_a, List.not_mem_nil, List.mem_cons, or_false, false_or, or_self, ↓reduceIte, if_false, if_true, Nat.reduceEqDiff, Nat.reduceAdd, Nat.reduceLeDiff, true_and, and_true, reduceCtorEq, ne_eq, Int.toNat_natCast, not_true_eq_false, not_false_eq_true, true_implies, false_implies, implies_true, Int.reduceToNat, Int.toNat_zero, Int.reduceLT, Int.reduceLE, Int.reduceEq, Int.reduceAdd, Int.reduceMul, Int.reduceNeg]
theorem c185_l {x y c K : Nat} {col : Int} (hR : zLay M.2.2.2) (hx : x < 60) (hy : y < 60) (hc6 : c ≤ 60) (hF0 : F0 5 = o) (ho : ∀ i, i < c → ∃ v : Nat, v < 60 ∧ o i = (v : Int) ∧ F0 (14 + 14 * v) 0 = 1) (h01 : ∀ k : Nat, k < 60 → F0 (14 + 14 * k) 0 = 0 ∨ F0 (14 + 14 * k) 0 = 1) (hl : zLy F0) (hpk : ∀ i, i < 60 → F0 (14 + 14 * i) 0 = 1 → zPk F0 (14 + 14 * i)) (hfl : ∀ j, F0 1123 j = 0) (hb : ∀ j, j < 3721 → 0 ≤ zrpst F0 o c 1118 j ∧ zrpst F0 o c 1118 j ≤ 9) (ec : col = zrpst F0 o c 1118 ((y : Int) * 61 + (x : Int)).toNat) (hK : K ≤ 3600) (h1 : ∀ k : Nat, k < K → (k : Int) < ztn (zfd0 (zrpst F0 o c) (x : Int) (y : Int)) col k 1117 6) (h2 : ztn (zfd0 (zrpst F0 o c) (x : Int) (y : Int)) col K 1117 6 = (K : Int)) : zFR (zK L) 185 24 [some (.inr (.inr 2)), some (.inl (x : Int)), some (.inl (y : Int)), some (.inl (c : Int)), some (.inl 0), none] [] (zwI M F0) Q = Q (.inl (some (.inl (K : Int)))) (zwI M (ztn (zfd0 (zrpst F0 o c) (x : Int) (y : Int)) col K)) := by
  have hF := hR.1
  unfold zLayF at hF
  have e73 : ∀ Q : zO → zM → Prop, zFR (zK L) 73 0 (zcall 73 [.inr (.inr 1117), .inl (x : Int), .inl (y : Int)]) [] (zwI M (zrpst F0 o c)) Q = Q (.inl (some (.inl (K : Int)))) (zwI M (ztn (zfd0 (zrpst F0 o c) (x : Int) (y : Int)) col K)) := fun Q => by
    have hh := c73r (L := L) (M := zwI M (zrpst F0 o c)) (Q := Q) (x := (x : Int)) (y := (y : Int)) (c := col) (K := K) hR (by omega) (by omega) (fun j hj => by have := hb j hj; rw [zwI_I]; omega) ec (by omega) h1 (Int.le_of_eq h2)
    rw [zwI_I, zwI_w, h2] at hh
    exact hh
  refine zFR_det ?_ Q
  generalize hQ : (fun (rr : zO) M2 => rr = .inl (some (.inl (K : Int))) ∧ M2 = zwI M (ztn (zfd0 (zrpst F0 o c) (x : Int) (y : Int)) col K)) = Q9
  have loop : ∀ i : Nat, i ≤ c → ∀ y5 : Option zV, zFR (zK L) 185 24 [some (.inr (.inr 2)), some (.inl (x : Int)), some (.inl (y : Int)), some (.inl (c : Int)), some (.inl (i : Int)), y5] [] (zwI M (zrpst F0 o i)) Q9 := by
    refine zloop ?_ ?_
    · intro y5
      refine zW_sound 60 [30] ?_
      simp only [ZR185, zk_2, hF, zwI_2, ZF73.1, ZF73.2.1, ZF73.2.2.1, e73, zW_succ, zE_iload, zE_aload, zE_lload, zE_iinc, zE_istore, zE_astore, zE_lstore, zE_iconst, zE_ldc2, zE_iadd, zE_isub, zE_imul, zE_idiv, zE_irem, zE_ineg, zE_iand, zE_ior, zE_ixor, zE_ishl, zE_ishr, zE_land, zE_lor, zE_lxor, zE_lshl, zE_lshr, zE_i2l, zE_lcmp, zE_dup_i, zE_dup_a, zE_dup2_ia, zE_pop_i, zE_pop_a, zE_pop2, zE_goto, zE_if_eq, zE_icmp_eq, zE_if_ne, zE_icmp_ne, zE_if_lt, zE_icmp_lt, zE_if_ge, zE_icmp_ge, zE_if_gt, zE_icmp_gt, zE_if_le, zE_icmp_le, zE_iaload, zE_baload, zE_laload, zE_aaload, zE_iastore, zE_bastore, zE_lastore, zE_aastore, zE_alen, zE_getf0, zE_getf1, zE_getf2, zE_getf3, zE_putf0, zE_putf1, zE_putf2, zE_putf3, zE_new, zE_newa, zE_newq, zE_ireturn, zE_lreturn, zE_areturn, zE_return, zE_athrow, zE_st0, zE_vi0, zE_st1, zE_vi1, zE_st2, zE_vi2, zE_st3, zE_vi3, zE_st4, zE_vi4, zE_st5, zE_vi5, zE_st6, zE_vi6, zE_st7, zE_vi7, zE_st8, zE_vi8, zSt_0, zSL_0, zSt_1n, zSt_1i, zSt_1a, zSt_1l, zSt_2n, zSt_2i, zSt_2a, zSt_2l, zSt_3n, zSt_3i, zSt_3a, zSt_3l, zSt_4n, zSt_4i, zSt_4a, zSt_4l, zSt_5n, zSt_5i, zSt_5a, zSt_5l, zSt_6n, zSt_6i, zSt_6a, zSt_6l, zSt_7n, zSt_7i, zSt_7a, zSt_7l, zSt_8n, zSt_8i, zSt_8a, zSt_8l, zSt_9n, zSt_9i, zSt_9a, zSt_9l, zSt_10n, zSt_10i, zSt_10a, zSt_10l, zSt_11n, zSt_11i, zSt_11a, zSt_11l, zSt_12n, zSt_12i, zSt_12a, zSt_12l, zSt_13n, zSt_13i, zSt_13a, zSt_13l, zSL_1n, zSL_1i, zSL_1a, zSL_1l, zSL_2n, zSL_2i, zSL_2a, zSL_2l, zSL_3n, zSL_3i, zSL_3a, zSL_3l, zSL_4n, zSL_4i, zSL_4a, zSL_4l, zSL_5n, zSL_5i, zSL_5a, zSL_5l, zSL_6n, zSL_6i, zSL_6a, zSL_6l, zSL_7n, zSL_7i, zSL_7a, zSL_7l, zSL_8n, zSL_8i, zSL_8a, zSL_8l, zSL_9n, zSL_9i, zSL_9a, zSL_9l, zSL_10n, zSL_10i, zSL_10a, zSL_10l, zSL_11n, zSL_11i, zSL_11a, zSL_11l, zSL_12n, zSL_12i, zSL_12a, zSL_12l, zLI_0, zLL_0, zLA_0, zLI_1, zLL_1, zLA_1, zLI_2, zLL_2, zLA_2, zLI_3, zLL_3, zLA_3, zLI_4, zLL_4, zLA_4, zLI_5, zLL_5, zLA_5, zLI_6, zLL_6, zLA_6, zLI_7, zLL_7, zLA_7, zLI_8, zLL_8, zLA_8, zLI_9, zLL_9, zLA_9, zLI_10, zLL_10, zLA_10, zLI_11, zLL_11, zLA_11, zLI_12, zLL_12, zLA_12, zLI_13, zLL_13, zLA_13, zst_0, zst_1n, zst_1i, zst_1a, zst_2n, zst_2i, zst_2a, zst_3n, zst_3i, zst_3a, zst_4n, zst_4i, zst_4a, zst_5n, zst_5i, zst_5a, zst_6n, zst_6i, zst_6a, zst_7n, zst_7i, zst_7a, zst_8n, zst_8i, zst_8a, zst_9n, zst_9i, zst_9a, zst_10n, zst_10i, zst_10a, zst_11n, zst_11i, zst_11a, zst_12n, zst_12i, zst_12a, zst_13n, zst_13i, zst_13a, zst_14n, zst_14i, zst_14a, zst_15n, zst_15i, zst_15a, zR1_n, zR1_v, zsum_n, zsum_i, zsum_l, zsum_a, zlen_n, zlen_i, zlen_l, zlen_a, List.not_mem_nil, List.mem_cons, or_false, false_or, or_self, ↓reduceIte, if_false, if_true, Nat.reduceEqDiff, Nat.reduceAdd, Nat.reduceLeDiff, true_and, and_true, reduceCtorEq, ne_eq, Int.toNat_natCast, not_true_eq_false, not_false_eq_true, true_implies, false_implies, implies_true, Int.reduceToNat, Int.toNat_zero, Int.reduceLT, Int.reduceLE, Int.reduceEq, Int.reduceAdd, Int.reduceMul, Int.reduceNeg]
      subst hQ
      (repeat' (first | with_reducible refine And.intro ?_ ?_ | with_reducible intro _)) <;> try first | with_reducible rfl | with_reducible assumption | omega | (unfold zr32; omega) | contradiction | (exact absurd (by omega) (by assumption)) | rfl | (simp only [Sum.inl.injEq, Option.some.injEq]; omega)
    · intro i hi ih y5
      obtain ⟨v, v1, v2, v3⟩ := ho i hi
      have g1 : ∀ b j, b ≠ 1118 → zrpst F0 o i b j = F0 b j := fun b j hb => zrpst_o hb i
      have eo : zrpst F0 o i 5 i = (v : Int) := by
        rw [g1 5 i (by omega), hF0, v2]
      have e46 := fun Q => c46 (L := L) (M := zwI M (zrpst F0 o i)) (Q := Q) (s := v) hR v1 (fun k hk => by rw [zwI_I, g1 _ _ (by omega)]; exact h01 k hk) (fun t => by
        rw [zwI_I, g1 _ _ (by omega)] at t ⊢
        exact hl.1 v v1 t) (fun j hj => by rw [zwI_I, g1 _ _ (by omega)]; exact hl.2 j hj)
      rw [zwI_I, g1 (14 + 14 * v) 0 (by omega), g1 (14 + 14 * v) 1 (by omega), g1 6 _ (by omega)] at e46
      have nx : zFR (zK L) 185 85 [some (.inr (.inr 2)), some (.inl (x : Int)), some (.inl (y : Int)), some (.inl (c : Int)), some (.inl (i : Int)), y5] [] (zwI M (zrpst F0 o (i + 1))) Q9 ∧ ∀ w : zV, zFR (zK L) 185 85 [some (.inr (.inr 2)), some (.inl (x : Int)), some (.inl (y : Int)), some (.inl (c : Int)), some (.inl (i : Int)), some w] [] (zwI M (zrpst F0 o (i + 1))) Q9 := by
        have a := ih y5
        have b := fun w : zV => ih (some w)
        rw [Int.natCast_succ] at a b
        refine ⟨?_, fun w => ?_⟩
        · refine zW_sound 60 [24] ?_
          simp only [ZR185, zW_succ, zE_iload, zE_aload, zE_lload, zE_iinc, zE_istore, zE_astore, zE_lstore, zE_iconst, zE_ldc2, zE_iadd, zE_isub, zE_imul, zE_idiv, zE_irem, zE_ineg, zE_iand, zE_ior, zE_ixor, zE_ishl, zE_ishr, zE_land, zE_lor, zE_lxor, zE_lshl, zE_lshr, zE_i2l, zE_lcmp, zE_dup_i, zE_dup_a, zE_dup2_ia, zE_pop_i, zE_pop_a, zE_pop2, zE_goto, zE_if_eq, zE_icmp_eq, zE_if_ne, zE_icmp_ne, zE_if_lt, zE_icmp_lt, zE_if_ge, zE_icmp_ge, zE_if_gt, zE_icmp_gt, zE_if_le, zE_icmp_le, zE_iaload, zE_baload, zE_laload, zE_aaload, zE_iastore, zE_bastore, zE_lastore, zE_aastore, zE_alen, zE_getf0, zE_getf1, zE_getf2, zE_getf3, zE_putf0, zE_putf1, zE_putf2, zE_putf3, zE_new, zE_newa, zE_newq, zE_ireturn, zE_lreturn, zE_areturn, zE_return, zE_athrow, zE_st0, zE_vi0, zE_st1, zE_vi1, zE_st2, zE_vi2, zE_st3, zE_vi3, zE_st4, zE_vi4, zE_st5, zE_vi5, zE_st6, zE_vi6, zE_st7, zE_vi7, zE_st8, zE_vi8, zSt_0, zSL_0, zSt_1n, zSt_1i, zSt_1a, zSt_1l, zSt_2n, zSt_2i, zSt_2a, zSt_2l, zSt_3n, zSt_3i, zSt_3a, zSt_3l, zSt_4n, zSt_4i, zSt_4a, zSt_4l, zSt_5n, zSt_5i, zSt_5a, zSt_5l, zSt_6n, zSt_6i, zSt_6a, zSt_6l, zSt_7n, zSt_7i, zSt_7a, zSt_7l, zSt_8n, zSt_8i, zSt_8a, zSt_8l, zSt_9n, zSt_9i, zSt_9a, zSt_9l, zSt_10n, zSt_10i, zSt_10a, zSt_10l, zSt_11n, zSt_11i, zSt_11a, zSt_11l, zSt_12n, zSt_12i, zSt_12a, zSt_12l, zSt_13n, zSt_13i, zSt_13a, zSt_13l, zSL_1n, zSL_1i, zSL_1a, zSL_1l, zSL_2n, zSL_2i, zSL_2a, zSL_2l, zSL_3n, zSL_3i, zSL_3a, zSL_3l, zSL_4n, zSL_4i, zSL_4a, zSL_4l, zSL_5n, zSL_5i, zSL_5a, zSL_5l, zSL_6n, zSL_6i, zSL_6a, zSL_6l, zSL_7n, zSL_7i, zSL_7a, zSL_7l, zSL_8n, zSL_8i, zSL_8a, zSL_8l, zSL_9n, zSL_9i, zSL_9a, zSL_9l, zSL_10n, zSL_10i, zSL_10a, zSL_10l, zSL_11n, zSL_11i, zSL_11a, zSL_11l, zSL_12n, zSL_12i, zSL_12a, zSL_12l, zLI_0, zLL_0, zLA_0, zLI_1, zLL_1, zLA_1, zLI_2, zLL_2, zLA_2, zLI_3, zLL_3, zLA_3, zLI_4, zLL_4, zLA_4, zLI_5, zLL_5, zLA_5, zLI_6, zLL_6, zLA_6, zLI_7, zLL_7, zLA_7, zLI_8, zLL_8, zLA_8, zLI_9, zLL_9, zLA_9, zLI_10, zLL_10, zLA_10, zLI_11, zLL_11, zLA_11, zLI_12, zLL_12, zLA_12, zLI_13, zLL_13, zLA_13, zst_0, zst_1n, zst_1i, zst_1a, zst_2n, zst_2i, zst_2a, zst_3n, zst_3i, zst_3a, zst_4n, zst_4i, zst_4a, zst_5n, zst_5i, zst_5a, zst_6n, zst_6i, zst_6a, zst_7n, zst_7i, zst_7a, zst_8n, zst_8i, zst_8a, zst_9n, zst_9i, zst_9a, zst_10n, zst_10i, zst_10a, zst_11n, zst_11i, zst_11a, zst_12n, zst_12i, zst_12a, zst_13n, zst_13i, zst_13a, zst_14n, zst_14i, zst_14a, zst_15n, zst_15i, zst_15a, zR1_n, zR1_v, zsum_n, zsum_i, zsum_l, zsum_a, zlen_n, zlen_i, zlen_l, zlen_a, List.not_mem_nil, List.mem_cons, or_false, false_or, or_self, ↓reduceIte, if_false, if_true, Nat.reduceEqDiff, Nat.reduceAdd, Nat.reduceLeDiff, true_and, and_true, reduceCtorEq, ne_eq, Int.toNat_natCast, not_true_eq_false, not_false_eq_true, true_implies, false_implies, implies_true, Int.reduceToNat, Int.toNat_zero, Int.reduceLT, Int.reduceLE, Int.reduceEq, Int.reduceAdd, Int.reduceMul, Int.reduceNeg]
          (repeat' (first | with_reducible refine And.intro ?_ ?_ | with_reducible intro _)) <;> try first | with_reducible rfl | with_reducible assumption | omega | (unfold zr32; omega) | contradiction | (exact absurd (by omega) (by assumption)) | rfl | (simp only [Sum.inl.injEq, Option.some.injEq]; omega)
        · have bw := b w
          refine zW_sound 60 [24] ?_
          simp only [ZR185, zW_succ, zE_iload, zE_aload, zE_lload, zE_iinc, zE_istore, zE_astore, zE_lstore, zE_iconst, zE_ldc2, zE_iadd, zE_isub, zE_imul, zE_idiv, zE_irem, zE_ineg, zE_iand, zE_ior, zE_ixor, zE_ishl, zE_ishr, zE_land, zE_lor, zE_lxor, zE_lshl, zE_lshr, zE_i2l, zE_lcmp, zE_dup_i, zE_dup_a, zE_dup2_ia, zE_pop_i, zE_pop_a, zE_pop2, zE_goto, zE_if_eq, zE_icmp_eq, zE_if_ne, zE_icmp_ne, zE_if_lt, zE_icmp_lt, zE_if_ge, zE_icmp_ge, zE_if_gt, zE_icmp_gt, zE_if_le, zE_icmp_le, zE_iaload, zE_baload, zE_laload, zE_aaload, zE_iastore, zE_bastore, zE_lastore, zE_aastore, zE_alen, zE_getf0, zE_getf1, zE_getf2, zE_getf3, zE_putf0, zE_putf1, zE_putf2, zE_putf3, zE_new, zE_newa, zE_newq, zE_ireturn, zE_lreturn, zE_areturn, zE_return, zE_athrow, zE_st0, zE_vi0, zE_st1, zE_vi1, zE_st2, zE_vi2, zE_st3, zE_vi3, zE_st4, zE_vi4, zE_st5, zE_vi5, zE_st6, zE_vi6, zE_st7, zE_vi7, zE_st8, zE_vi8, zSt_0, zSL_0, zSt_1n, zSt_1i, zSt_1a, zSt_1l, zSt_2n, zSt_2i, zSt_2a, zSt_2l, zSt_3n, zSt_3i, zSt_3a, zSt_3l, zSt_4n, zSt_4i, zSt_4a, zSt_4l, zSt_5n, zSt_5i, zSt_5a, zSt_5l, zSt_6n, zSt_6i, zSt_6a, zSt_6l, zSt_7n, zSt_7i, zSt_7a, zSt_7l, zSt_8n, zSt_8i, zSt_8a, zSt_8l, zSt_9n, zSt_9i, zSt_9a, zSt_9l, zSt_10n, zSt_10i, zSt_10a, zSt_10l, zSt_11n, zSt_11i, zSt_11a, zSt_11l, zSt_12n, zSt_12i, zSt_12a, zSt_12l, zSt_13n, zSt_13i, zSt_13a, zSt_13l, zSL_1n, zSL_1i, zSL_1a, zSL_1l, zSL_2n, zSL_2i, zSL_2a, zSL_2l, zSL_3n, zSL_3i, zSL_3a, zSL_3l, zSL_4n, zSL_4i, zSL_4a, zSL_4l, zSL_5n, zSL_5i, zSL_5a, zSL_5l, zSL_6n, zSL_6i, zSL_6a, zSL_6l, zSL_7n, zSL_7i, zSL_7a, zSL_7l, zSL_8n, zSL_8i, zSL_8a, zSL_8l, zSL_9n, zSL_9i, zSL_9a, zSL_9l, zSL_10n, zSL_10i, zSL_10a, zSL_10l, zSL_11n, zSL_11i, zSL_11a, zSL_11l, zSL_12n, zSL_12i, zSL_12a, zSL_12l, zLI_0, zLL_0, zLA_0, zLI_1, zLL_1, zLA_1, zLI_2, zLL_2, zLA_2, zLI_3, zLL_3, zLA_3, zLI_4, zLL_4, zLA_4, zLI_5, zLL_5, zLA_5, zLI_6, zLL_6, zLA_6, zLI_7, zLL_7, zLA_7, zLI_8, zLL_8, zLA_8, zLI_9, zLL_9, zLA_9, zLI_10, zLL_10, zLA_10, zLI_11, zLL_11, zLA_11, zLI_12, zLL_12, zLA_12, zLI_13, zLL_13, zLA_13, zst_0, zst_1n, zst_1i, zst_1a, zst_2n, zst_2i, zst_2a, zst_3n, zst_3i, zst_3a, zst_4n, zst_4i, zst_4a, zst_5n, zst_5i, zst_5a, zst_6n, zst_6i, zst_6a, zst_7n, zst_7i, zst_7a, zst_8n, zst_8i, zst_8a, zst_9n, zst_9i, zst_9a, zst_10n, zst_10i, zst_10a, zst_11n, zst_11i, zst_11a, zst_12n, zst_12i, zst_12a, zst_13n, zst_13i, zst_13a, zst_14n, zst_14i, zst_14a, zst_15n, zst_15i, zst_15a, zR1_n, zR1_v, zsum_n, zsum_i, zsum_l, zsum_a, zlen_n, zlen_i, zlen_l, zlen_a, List.not_mem_nil, List.mem_cons, or_false, false_or, or_self, ↓reduceIte, if_false, if_true, Nat.reduceEqDiff, Nat.reduceAdd, Nat.reduceLeDiff, true_and, and_true, reduceCtorEq, ne_eq, Int.toNat_natCast, not_true_eq_false, not_false_eq_true, true_implies, false_implies, implies_true, Int.reduceToNat, Int.toNat_zero, Int.reduceLT, Int.reduceLE, Int.reduceEq, Int.reduceAdd, Int.reduceMul, Int.reduceNeg]
          (repeat' (first | with_reducible refine And.intro ?_ ?_ | with_reducible intro _)) <;> try first | with_reducible rfl | with_reducible assumption | omega | (unfold zr32; omega) | contradiction | (exact absurd (by omega) (by assumption)) | rfl | (simp only [Sum.inl.injEq, Option.some.injEq]; omega)
      obtain ⟨nx1, nx2⟩ := nx
      by_cases cs : F0 (14 + 14 * v) 0 = 1 ∧ F0 6 (F0 (14 + 14 * v) 1).toNat = 0
      · have e46' := fun Q => (e46 Q).trans (zyes cs)
        have se : zsee F0 v = true := decide_eq_true cs
        rw [zrpst_s, v2, Int.toNat_natCast, if_pos se] at nx2
        have pk : zPk (zrpst F0 o i) (14 + 14 * v) := zPk_g (fun b j h1 h2 => g1 b j (by omega)) (hpk v v1 v3)
        have e65 := fun Q => c65 (L := L) (M := zwI M (zrpst F0 o i)) (Q := Q) (s := 14 + 14 * v) (od := 1) (mark := F0 (14 + 14 * v) 2) (zShA_i v1) hR pk (by omega) (fun j => by rw [zwI_I, g1 _ _ (by omega)]; exact hfl j)
        rw [zwI_I, zwI_w] at e65
        obtain ⟨k1, k2⟩ := zK_sh (L := L) (zShA_i v1)
        refine zW_sound 60 [85, 91] ?_
        simp only [ZR185, zk_2, zk_3, zk_4, zk_5, k1, hF, (hR.2.2.2 v v1).1, zwI_I, zwI_2, Int.toNat_natCast, eo, g1 (14 + 14 * v) 2 (by omega), ZF46.1, ZF46.2.1, ZF46.2.2.1, e46', ZF65.1, ZF65.2.1, ZF65.2.2.1, e65, zW_succ, zE_iload, zE_aload, zE_lload, zE_iinc, zE_istore, zE_astore, zE_lstore, zE_iconst, zE_ldc2, zE_iadd, zE_isub, zE_imul, zE_idiv, zE_irem, zE_ineg, zE_iand, zE_ior, zE_ixor, zE_ishl, zE_ishr, zE_land, zE_lor, zE_lxor, zE_lshl, zE_lshr, zE_i2l, zE_lcmp, zE_dup_i, zE_dup_a, zE_dup2_ia, zE_pop_i, zE_pop_a, zE_pop2, zE_goto, zE_if_eq, zE_icmp_eq, zE_if_ne, zE_icmp_ne, zE_if_lt, zE_icmp_lt, zE_if_ge, zE_icmp_ge, zE_if_gt, zE_icmp_gt, zE_if_le, zE_icmp_le, zE_iaload, zE_baload, zE_laload, zE_aaload, zE_iastore, zE_bastore, zE_lastore, zE_aastore, zE_alen, zE_getf0, zE_getf1, zE_getf2, zE_getf3, zE_putf0, zE_putf1, zE_putf2, zE_putf3, zE_new, zE_newa, zE_newq, zE_ireturn, zE_lreturn, zE_areturn, zE_return, zE_athrow, zE_st0, zE_vi0, zE_st1, zE_vi1, zE_st2, zE_vi2, zE_st3, zE_vi3, zE_st4, zE_vi4, zE_st5, zE_vi5, zE_st6, zE_vi6, zE_st7, zE_vi7, zE_st8, zE_vi8, zSt_0, zSL_0, zSt_1n, zSt_1i, zSt_1a, zSt_1l, zSt_2n, zSt_2i, zSt_2a, zSt_2l, zSt_3n, zSt_3i, zSt_3a, zSt_3l, zSt_4n, zSt_4i, zSt_4a, zSt_4l, zSt_5n, zSt_5i, zSt_5a, zSt_5l, zSt_6n, zSt_6i, zSt_6a, zSt_6l, zSt_7n, zSt_7i, zSt_7a, zSt_7l, zSt_8n, zSt_8i, zSt_8a, zSt_8l, zSt_9n, zSt_9i, zSt_9a, zSt_9l, zSt_10n, zSt_10i, zSt_10a, zSt_10l, zSt_11n, zSt_11i, zSt_11a, zSt_11l, zSt_12n, zSt_12i, zSt_12a, zSt_12l, zSt_13n, zSt_13i, zSt_13a, zSt_13l, zSL_1n, zSL_1i, zSL_1a, zSL_1l, zSL_2n, zSL_2i, zSL_2a, zSL_2l, zSL_3n, zSL_3i, zSL_3a, zSL_3l, zSL_4n, zSL_4i, zSL_4a, zSL_4l, zSL_5n, zSL_5i, zSL_5a, zSL_5l, zSL_6n, zSL_6i, zSL_6a, zSL_6l, zSL_7n, zSL_7i, zSL_7a, zSL_7l, zSL_8n, zSL_8i, zSL_8a, zSL_8l, zSL_9n, zSL_9i, zSL_9a, zSL_9l, zSL_10n, zSL_10i, zSL_10a, zSL_10l, zSL_11n, zSL_11i, zSL_11a, zSL_11l, zSL_12n, zSL_12i, zSL_12a, zSL_12l, zLI_0, zLL_0, zLA_0, zLI_1, zLL_1, zLA_1, zLI_2, zLL_2, zLA_2, zLI_3, zLL_3, zLA_3, zLI_4, zLL_4, zLA_4, zLI_5, zLL_5, zLA_5, zLI_6, zLL_6, zLA_6, zLI_7, zLL_7, zLA_7, zLI_8, zLL_8, zLA_8, zLI_9, zLL_9, zLA_9, zLI_10, zLL_10, zLA_10, zLI_11, zLL_11, zLA_11, zLI_12, zLL_12, zLA_12, zLI_13, zLL_13, zLA_13, zst_0, zst_1n, zst_1i, zst_1a, zst_2n, zst_2i, zst_2a, zst_3n, zst_3i, zst_3a, zst_4n, zst_4i, zst_4a, zst_5n, zst_5i, zst_5a, zst_6n, zst_6i, zst_6a, zst_7n, zst_7i, zst_7a, zst_8n, zst_8i, zst_8a, zst_9n, zst_9i, zst_9a, zst_10n, zst_10i, zst_10a, zst_11n, zst_11i, zst_11a, zst_12n, zst_12i, zst_12a, zst_13n, zst_13i, zst_13a, zst_14n, zst_14i, zst_14a, zst_15n, zst_15i, zst_15a, zR1_n, zR1_v, zsum_n, zsum_i, zsum_l, zsum_a, zlen_n, zlen_i, zlen_l, zlen_a, List.not_mem_nil, List.mem_cons, or_false, false_or, or_self, ↓reduceIte, if_false, if_true, Nat.reduceEqDiff, Nat.reduceAdd, Nat.reduceLeDiff, true_and, and_true, reduceCtorEq, ne_eq, Int.toNat_natCast, not_true_eq_false, not_false_eq_true, true_implies, false_implies, implies_true, Int.reduceToNat, Int.toNat_zero, Int.reduceLT, Int.reduceLE, Int.reduceEq, Int.reduceAdd, Int.reduceMul, Int.reduceNeg]
        (repeat' (first | with_reducible refine And.intro ?_ ?_ | with_reducible intro _)) <;> try first | with_reducible rfl | with_reducible assumption | omega | (unfold zr32; omega) | contradiction | (exact absurd (by omega) (by assumption)) | rfl | (simp only [Sum.inl.injEq, Option.some.injEq]; omega)
        all_goals exact nx2 _
      · have e46' := fun Q => (e46 Q).trans (znot cs)
        have se : ¬ zsee F0 v = true := fun h => cs (of_decide_eq_true h)
        rw [zrpst_s, v2, Int.toNat_natCast, if_neg se] at nx1
        refine zW_sound 60 [85, 91] ?_
        simp only [ZR185, zk_2, zk_3, zk_4, zk_5, hF, zwI_I, zwI_2, Int.toNat_natCast, eo, ZF46.1, ZF46.2.1, ZF46.2.2.1, e46', zW_succ, zE_iload, zE_aload, zE_lload, zE_iinc, zE_istore, zE_astore, zE_lstore, zE_iconst, zE_ldc2, zE_iadd, zE_isub, zE_imul, zE_idiv, zE_irem, zE_ineg, zE_iand, zE_ior, zE_ixor, zE_ishl, zE_ishr, zE_land, zE_lor, zE_lxor, zE_lshl, zE_lshr, zE_i2l, zE_lcmp, zE_dup_i, zE_dup_a, zE_dup2_ia, zE_pop_i, zE_pop_a, zE_pop2, zE_goto, zE_if_eq, zE_icmp_eq, zE_if_ne, zE_icmp_ne, zE_if_lt, zE_icmp_lt, zE_if_ge, zE_icmp_ge, zE_if_gt, zE_icmp_gt, zE_if_le, zE_icmp_le, zE_iaload, zE_baload, zE_laload, zE_aaload, zE_iastore, zE_bastore, zE_lastore, zE_aastore, zE_alen, zE_getf0, zE_getf1, zE_getf2, zE_getf3, zE_putf0, zE_putf1, zE_putf2, zE_putf3, zE_new, zE_newa, zE_newq, zE_ireturn, zE_lreturn, zE_areturn, zE_return, zE_athrow, zE_st0, zE_vi0, zE_st1, zE_vi1, zE_st2, zE_vi2, zE_st3, zE_vi3, zE_st4, zE_vi4, zE_st5, zE_vi5, zE_st6, zE_vi6, zE_st7, zE_vi7, zE_st8, zE_vi8, zSt_0, zSL_0, zSt_1n, zSt_1i, zSt_1a, zSt_1l, zSt_2n, zSt_2i, zSt_2a, zSt_2l, zSt_3n, zSt_3i, zSt_3a, zSt_3l, zSt_4n, zSt_4i, zSt_4a, zSt_4l, zSt_5n, zSt_5i, zSt_5a, zSt_5l, zSt_6n, zSt_6i, zSt_6a, zSt_6l, zSt_7n, zSt_7i, zSt_7a, zSt_7l, zSt_8n, zSt_8i, zSt_8a, zSt_8l, zSt_9n, zSt_9i, zSt_9a, zSt_9l, zSt_10n, zSt_10i, zSt_10a, zSt_10l, zSt_11n, zSt_11i, zSt_11a, zSt_11l, zSt_12n, zSt_12i, zSt_12a, zSt_12l, zSt_13n, zSt_13i, zSt_13a, zSt_13l, zSL_1n, zSL_1i, zSL_1a, zSL_1l, zSL_2n, zSL_2i, zSL_2a, zSL_2l, zSL_3n, zSL_3i, zSL_3a, zSL_3l, zSL_4n, zSL_4i, zSL_4a, zSL_4l, zSL_5n, zSL_5i, zSL_5a, zSL_5l, zSL_6n, zSL_6i, zSL_6a, zSL_6l, zSL_7n, zSL_7i, zSL_7a, zSL_7l, zSL_8n, zSL_8i, zSL_8a, zSL_8l, zSL_9n, zSL_9i, zSL_9a, zSL_9l, zSL_10n, zSL_10i, zSL_10a, zSL_10l, zSL_11n, zSL_11i, zSL_11a, zSL_11l, zSL_12n, zSL_12i, zSL_12a, zSL_12l, zLI_0, zLL_0, zLA_0, zLI_1, zLL_1, zLA_1, zLI_2, zLL_2, zLA_2, zLI_3, zLL_3, zLA_3, zLI_4, zLL_4, zLA_4, zLI_5, zLL_5, zLA_5, zLI_6, zLL_6, zLA_6, zLI_7, zLL_7, zLA_7, zLI_8, zLL_8, zLA_8, zLI_9, zLL_9, zLA_9, zLI_10, zLL_10, zLA_10, zLI_11, zLL_11, zLA_11, zLI_12, zLL_12, zLA_12, zLI_13, zLL_13, zLA_13, zst_0, zst_1n, zst_1i, zst_1a, zst_2n, zst_2i, zst_2a, zst_3n, zst_3i, zst_3a, zst_4n, zst_4i, zst_4a, zst_5n, zst_5i, zst_5a, zst_6n, zst_6i, zst_6a, zst_7n, zst_7i, zst_7a, zst_8n, zst_8i, zst_8a, zst_9n, zst_9i, zst_9a, zst_10n, zst_10i, zst_10a, zst_11n, zst_11i, zst_11a, zst_12n, zst_12i, zst_12a, zst_13n, zst_13i, zst_13a, zst_14n, zst_14i, zst_14a, zst_15n, zst_15i, zst_15a, zR1_n, zR1_v, zsum_n, zsum_i, zsum_l, zsum_a, zlen_n, zlen_i, zlen_l, zlen_a, List.not_mem_nil, List.mem_cons, or_false, false_or, or_self, ↓reduceIte, if_false, if_true, Nat.reduceEqDiff, Nat.reduceAdd, Nat.reduceLeDiff, true_and, and_true, reduceCtorEq, ne_eq, Int.toNat_natCast, not_true_eq_false, not_false_eq_true, true_implies, false_implies, implies_true, Int.reduceToNat, Int.toNat_zero, Int.reduceLT, Int.reduceLE, Int.reduceEq, Int.reduceAdd, Int.reduceMul, Int.reduceNeg]
        (repeat' (first | with_reducible refine And.intro ?_ ?_ | with_reducible intro _)) <;> try first | with_reducible rfl | with_reducible assumption | omega | (unfold zr32; omega) | contradiction | (exact absurd (by omega) (by assumption)) | rfl | (simp only [Sum.inl.injEq, Option.some.injEq]; omega)
        all_goals exact nx1
  exact loop 0 (Nat.zero_le _) none
theorem c185_g {x y K : Nat} {col : Int} {F1 : Nat → Nat → Int} (hR : zLay M.2.2.2) (hx : x < 60) (hy : y < 60) (hF1 : zfil M.2.1 1118 3721 0 = F1) (hF0 : zua F1 5 (zord (zclt F1) (zcth F1) (F1 5) 60) = F0) (ho : F0 5 = o) (h01 : ∀ k : Nat, k < 60 → F0 (14 + 14 * k) 0 = 0 ∨ F0 (14 + 14 * k) 0 = 1) (hk : ∀ k, k < 60 → F0 (14 + 14 * k) 0 = 1 → zKy F0 (14 + 14 * k)) (hl : zLy F0) (hpk : ∀ i, i < 60 → F0 (14 + 14 * i) 0 = 1 → zPk F0 (14 + 14 * i)) (hfl : ∀ j, F0 1123 j = 0) (hb : ∀ j, j < 3721 → 0 ≤ zrpst F0 o (zcnt (zcth F1) 60) 1118 j ∧ zrpst F0 o (zcnt (zcth F1) 60) 1118 j ≤ 9) (ec : col = zrpst F0 o (zcnt (zcth F1) 60) 1118 ((y : Int) * 61 + (x : Int)).toNat) (hK : K ≤ 3600) (h1 : ∀ k : Nat, k < K → (k : Int) < ztn (zfd0 (zrpst F0 o (zcnt (zcth F1) 60)) (x : Int) (y : Int)) col k 1117 6) (h2 : ztn (zfd0 (zrpst F0 o (zcnt (zcth F1) 60)) (x : Int) (y : Int)) col K 1117 6 = (K : Int)) : zFR (zK L) 185 0 (zcall 185 [.inr (.inr 2), .inl (x : Int), .inl (y : Int)]) [] M Q = Q (.inl (some (.inl (K : Int)))) (zwI M (ztn (zfd0 (zrpst F0 o (zcnt (zcth F1) 60)) (x : Int) (y : Int)) col K)) := by
  have hF := hR.1
  unfold zLayF at hF
  have f01 : ∀ b j, b ≠ 5 → F0 b j = F1 b j := fun b j hb => by
    rw [← hF0]
    exact zua_o hb _ _
  have e2 := fun Q => (c183 (L := L) (M := M) (Q := Q) (x := (x : Int)) (y := (y : Int))).trans (zyes (by omega))
  have e64 := fun Q => c64 (L := L) (M := M) (Q := Q) hR
  rw [hF1] at e64
  have e3 := fun Q => c3 (L := L) (M := zwI M F1) (Q := Q) hR (fun k hk => by rw [zwI_I, ← f01 _ _ (by omega)]; exact h01 k hk) (fun k hk1 t => by
    rw [zwI_I, ← f01 _ _ (by omega)] at t
    have := hk k hk1 t
    unfold zKy at *
    rw [zwI_I, ← f01 _ _ (by omega), ← f01 _ _ (by omega)]
    exact this)
  rw [zwI_I, zwI_w, hF0] at e3
  refine zFR_det ?_ Q
  have lp := c185_l (L := L) (M := M) (o := o) (F0 := F0) (x := x) (y := y) (c := zcnt (zcth F1) 60) (K := K) (col := col) (Q := fun r M2 => r = (Sum.inl (some (Sum.inl (K : Int))) : zO) ∧ M2 = zwI M (ztn (zfd0 (zrpst F0 o (zcnt (zcth F1) 60)) (x : Int) (y : Int)) col K)) hR hx hy (zcnt_le _ _) ho (fun i hi => by
    obtain ⟨k, k1, k2, k3⟩ := zord_v (zclt F1) (zcth F1) (F1 5) 60 i hi
    refine ⟨k, k1, ?_, ?_⟩
    · rw [← ho, ← hF0]
      exact zua_a.trans k3
    · rw [f01 _ _ (by omega)]
      exact of_decide_eq_true k2) h01 hl hpk hfl hb ec hK h1 h2
  have lp2 := lp.mpr ⟨rfl, rfl⟩
  refine zW_sound 60 [24] ?_
  simp only [ZF185, ZR185, zk_2, zk_3, zk_1117, hF, zwI_2, ZF183.1, ZF183.2.1, ZF183.2.2.1, ZF64.1, ZF64.2.1, ZF64.2.2.1, ZF3.1, ZF3.2.1, ZF3.2.2.1, e2, e64, e3, zR1_p ZF185.2.2.1, zW_succ, zE_iload, zE_aload, zE_lload, zE_iinc, zE_istore, zE_astore, zE_lstore, zE_iconst, zE_ldc2, zE_iadd, zE_isub, zE_imul, zE_idiv, zE_irem, zE_ineg, zE_iand, zE_ior, zE_ixor, zE_ishl, zE_ishr, zE_land, zE_lor, zE_lxor, zE_lshl, zE_lshr, zE_i2l, zE_lcmp, zE_dup_i, zE_dup_a, zE_dup2_ia, zE_pop_i, zE_pop_a, zE_pop2, zE_goto, zE_if_eq, zE_icmp_eq, zE_if_ne, zE_icmp_ne, zE_if_lt, zE_icmp_lt, zE_if_ge, zE_icmp_ge, zE_if_gt, zE_icmp_gt, zE_if_le, zE_icmp_le, zE_iaload, zE_baload, zE_laload, zE_aaload, zE_iastore, zE_bastore, zE_lastore, zE_aastore, zE_alen, zE_getf0, zE_getf1, zE_getf2, zE_getf3, zE_putf0, zE_putf1, zE_putf2, zE_putf3, zE_new, zE_newa, zE_newq, zE_ireturn, zE_lreturn, zE_areturn, zE_return, zE_athrow, zE_st0, zE_vi0, zE_st1, zE_vi1, zE_st2, zE_vi2, zE_st3, zE_vi3, zE_st4, zE_vi4, zE_st5, zE_vi5, zE_st6, zE_vi6, zE_st7, zE_vi7, zE_st8, zE_vi8, zSt_0, zSL_0, zSt_1n, zSt_1i, zSt_1a, zSt_1l, zSt_2n, zSt_2i, zSt_2a, zSt_2l, zSt_3n, zSt_3i, zSt_3a, zSt_3l, zSt_4n, zSt_4i, zSt_4a, zSt_4l, zSt_5n, zSt_5i, zSt_5a, zSt_5l, zSt_6n, zSt_6i, zSt_6a, zSt_6l, zSt_7n, zSt_7i, zSt_7a, zSt_7l, zSt_8n, zSt_8i, zSt_8a, zSt_8l, zSt_9n, zSt_9i, zSt_9a, zSt_9l, zSt_10n, zSt_10i, zSt_10a, zSt_10l, zSt_11n, zSt_11i, zSt_11a, zSt_11l, zSt_12n, zSt_12i, zSt_12a, zSt_12l, zSt_13n, zSt_13i, zSt_13a, zSt_13l, zSL_1n, zSL_1i, zSL_1a, zSL_1l, zSL_2n, zSL_2i, zSL_2a, zSL_2l, zSL_3n, zSL_3i, zSL_3a, zSL_3l, zSL_4n, zSL_4i, zSL_4a, zSL_4l, zSL_5n, zSL_5i, zSL_5a, zSL_5l, zSL_6n, zSL_6i, zSL_6a, zSL_6l, zSL_7n, zSL_7i, zSL_7a, zSL_7l, zSL_8n, zSL_8i, zSL_8a, zSL_8l, zSL_9n, zSL_9i, zSL_9a, zSL_9l, zSL_10n, zSL_10i, zSL_10a, zSL_10l, zSL_11n, zSL_11i, zSL_11a, zSL_11l, zSL_12n, zSL_12i, zSL_12a, zSL_12l, zLI_0, zLL_0, zLA_0, zLI_1, zLL_1, zLA_1, zLI_2, zLL_2, zLA_2, zLI_3, zLL_3, zLA_3, zLI_4, zLL_4, zLA_4, zLI_5, zLL_5, zLA_5, zLI_6, zLL_6, zLA_6, zLI_7, zLL_7, zLA_7, zLI_8, zLL_8, zLA_8, zLI_9, zLL_9, zLA_9, zLI_10, zLL_10, zLA_10, zLI_11, zLL_11, zLA_11, zLI_12, zLL_12, zLA_12, zLI_13, zLL_13, zLA_13, zst_0, zst_1n, zst_1i, zst_1a, zst_2n, zst_2i, zst_2a, zst_3n, zst_3i, zst_3a, zst_4n, zst_4i, zst_4a, zst_5n, zst_5i, zst_5a, zst_6n, zst_6i, zst_6a, zst_7n, zst_7i, zst_7a, zst_8n, zst_8i, zst_8a, zst_9n, zst_9i, zst_9a, zst_10n, zst_10i, zst_10a, zst_11n, zst_11i, zst_11a, zst_12n, zst_12i, zst_12a, zst_13n, zst_13i, zst_13a, zst_14n, zst_14i, zst_14a, zst_15n, zst_15i, zst_15a, zR1_n, zR1_v, zsum_n, zsum_i, zsum_l, zsum_a, zlen_n, zlen_i, zlen_l, zlen_a, List.not_mem_nil, List.mem_cons, or_false, false_or, or_self, ↓reduceIte, if_false, if_true, Nat.reduceEqDiff, Nat.reduceAdd, Nat.reduceLeDiff, true_and, and_true, reduceCtorEq, ne_eq, Int.toNat_natCast, not_true_eq_false, not_false_eq_true, true_implies, false_implies, implies_true, Int.reduceToNat, Int.toNat_zero, Int.reduceLT, Int.reduceLE, Int.reduceEq, Int.reduceAdd, Int.reduceMul, Int.reduceNeg]
  exact lp2
/-- what is laid is what the reference tells -/
theorem zqrp (h : zqR n F0 G) {y x : Nat} (hx : x < 60) (hy : y < 60) (ho : ∀ j, j < zrct G → o j = zrod G j) (h0 : F0 1118 (61 * y + x) = 0) : ∀ i, i ≤ zrct G → zrpst F0 o i 1118 (61 * y + x) = if zrht (zrg G) (2 * (x : Int) + 1) (2 * (y : Int) + 1) i < 0 then 0 else F0 (14 + 14 * (zrht (zrg G) (2 * (x : Int) + 1) (2 * (y : Int) + 1) i).toNat) 2
  | 0, _ => by
    show F0 1118 (61 * y + x) = if (-1 : Int) < 0 then 0 else _
    rw [if_pos (by omega)]
    exact h0
  | i + 1, hi => by
    have ih := zqrp h hx hy ho h0 i (by omega)
    obtain ⟨v, v1, v2⟩ := zqvl (g := G) (q := i) (by omega)
    have v6 := v1.1
    have vt : F0 (14 + 14 * v) 0 = 1 := by rw [zqR_t h v1.1]; exact v1.2
    obtain ⟨se, so⟩ := zqR_f h v1.1 vt
    have cd := zqcd h (x := 2 * (x : Int) + 1) (y := 2 * (y : Int) + 1) v1.1
    have ev : zshb F0 (2 * (x : Int) + 1) (2 * (y : Int) + 1) v = (zsee F0 v && zhl F0 (14 + 14 * v) (2 * (x : Int) + 1) (2 * (y : Int) + 1)) := rfl
    have er : zrg G 1184 i = (v : Int) := (zrg_r i).trans v2
    have ex : (61 * y + x) % 61 = x := by omega
    have ey : (61 * y + x) / 61 = y := by omega
    rw [zrpst_s, zrht_s, ho i (by omega), v2, er, Int.toNat_natCast]
    by_cases c : zshb F0 (2 * (x : Int) + 1) (2 * (y : Int) + 1) v = true
    · rw [if_pos (cd.mp c).2]
      rw [ev, Bool.and_eq_true] at c
      have hz : zhl (zrpst F0 o i) (14 + 14 * v) (2 * (((61 * y + x) % 61 : Nat) : Int) + 1) (2 * (((61 * y + x) / 61 : Nat) : Int) + 1) = true := by
        rw [zhl_f (g := F0) (fun b j h1 h2 => zrpst_o (by omega) i) (zqE_sw se so), ex, ey]
        exact c.2
      rw [if_pos c.1, if_neg (by omega), Int.toNat_natCast]
      unfold zsta zstk
      rw [if_pos ⟨rfl, by omega, hz⟩]
    · rw [if_neg (fun t => c (cd.mpr ⟨v1, t⟩)), ← ih]
      by_cases s1 : zsee F0 v = true
      · rw [if_pos s1]
        unfold zsta zstk
        rw [if_neg]
        rintro ⟨_, _, hz⟩
        rw [zhl_f (g := F0) (fun b j h1 h2 => zrpst_o (by omega) i) (zqE_sw se so), ex, ey] at hz
        exact c (by rw [ev, Bool.and_eq_true]; exact ⟨s1, hz⟩)
      · rw [if_neg s1]
theorem zqA_185 (hW : zqW m M) (c2 : cc 2 = 1) {x y : Int} : zqAg L M 185 [.inr (.inr 2), .inl x, .inl y] 330 [.inr (.inr 1153), .inl x, .inl y] cc := by
  have hR := hW.1.1
  have rel := hW.1.2.1
  by_cases h : (0 ≤ x ∧ x < 60) ∧ 0 ≤ y ∧ y < 60
  · obtain ⟨x, rfl⟩ : ∃ k : Nat, x = (k : Int) := ⟨x.toNat, by omega⟩
    obtain ⟨y, rfl⟩ : ∃ k : Nat, y = (k : Int) := ⟨y.toNat, by omega⟩
    have hx : x < 60 := by omega
    have hy : y < 60 := by omega
    obtain ⟨F1, hF1⟩ : ∃ F1, zfil M.2.1 1118 3721 0 = F1 := ⟨_, rfl⟩
    obtain ⟨F0, hF0⟩ : ∃ F0, zua F1 5 (zord (zclt F1) (zcth F1) (F1 5) 60) = F0 := ⟨_, rfl⟩
    have f1 : ∀ b j, b ≠ 1118 → F1 b j = M.2.1 b j := fun b j hb => by
      rw [← hF1]
      exact if_neg (fun h => hb h.1)
    have f0 : ∀ b j, b ≠ 5 → b ≠ 1118 → F0 b j = M.2.1 b j := fun b j h1 h2 => by
      rw [← hF0, zua_o h1, f1 b j h2]
    have r0 : ∀ G, zqR m M.2.1 G → zqR m F0 G := fun G r => zqR_keep3 (fun b j hb => f0 b j (by omega) (by omega)) (fun j hj => by rw [f0 8 j (by omega) (by omega)]; exact zqR_ch r j hj) (fun _ _ _ => rfl) rfl r
    have r1 : ∀ G, zqR m M.2.1 G → zqR m F1 G := fun G r => zqR_keep3 (fun b j hb => f1 b j (by omega)) (fun j hj => by rw [f1 8 j (by omega)]; exact zqR_ch r j hj) (fun _ _ _ => rfl) rfl r
    have rl0 := r0 _ rel
    obtain ⟨o1, o2⟩ := zqord (r1 _ rel)
    have eo : ∀ j, F0 5 j = zord (zclt F1) (zcth F1) (F1 5) 60 j := fun j => by
      rw [← hF0]
      exact zua_a
    have z0 : ∀ j, j < 3721 → F0 1118 j = 0 := fun j hj => by
      rw [← hF0, zua_o (by omega), ← hF1]
      exact if_pos ⟨rfl, hj⟩
    have hb : ∀ j, j < 3721 → 0 ≤ zrpst F0 (F0 5) (zcnt (zcth F1) 60) 1118 j ∧ zrpst F0 (F0 5) (zcnt (zcth F1) 60) 1118 j ≤ 9 := fun j hj => by
      have e0 := z0 j hj
      refine zrpst_b (by omega) (fun i hi => ?_) _ (Nat.le_refl _)
      rw [eo, o2 i (by omega)]
      obtain ⟨v, v1, v2⟩ := zqvl (g := M.2.1) (q := i) (by omega)
      rw [v2, Int.toNat_natCast, f0 _ _ (by omega) (by omega), (rel.2.1 v v1.1 v1.2).2.1]
      have := (rel.2.1 v v1.1 v1.2).2.2.2.2
      omega
    obtain ⟨col, ec⟩ : ∃ col, col = zrpst F0 (F0 5) (zcnt (zcth F1) 60) 1118 ((y : Int) * 61 + (x : Int)).toNat := ⟨_, rfl⟩
    have b61 : ∀ u v, u < 60 → v < 60 → ze61 u v < 3721 := fun u v hu hv => by unfold ze61; omega
    have hcol : col ≠ -1 := by
      have := hb ((y : Int) * 61 + (x : Int)).toNat (by omega)
      omega
    obtain ⟨K, hK, h1, h2, fl⟩ := zcFl (c := fun u v => zrpst F0 (F0 5) (zcnt (zcth F1) 60) 1118 (ze61 u v)) hcol (zcFS_0 (f := zrpst F0 (F0 5) (zcnt (zcth F1) 60)) hx hy (fun u v hu hv => rfl) (fun u v hu hv => by
      have := hb (ze61 u v) (b61 u v hu hv)
      omega) ec)
    refine zqAg_ok (m' := m) (fun Q => c185_g hR hx hy hF1 hF0 rfl (zqR_01 rl0) (fun k hk t => (zqR_bk rl0 k hk).2 t) (zqR_ly rl0) (fun i hi t => by
      obtain ⟨se, so⟩ := zqR_f rl0 hi t
      exact zqE_pk se so) (fun j => by rw [f0 _ _ (by omega) (by omega)]; exact hW.2.2.2.2.1 j) hb ec hK h1 h2) rfl rfl rfl (fun B b1 b2 b3 => ?_)
    have b1' : B.2.1 = ztn (zfd0 (zrpst F0 (F0 5) (zcnt (zcth F1) 60)) (x : Int) (y : Int)) col K := b1
    have bn : ∀ b j, b ≠ 5 → (b < 1117 ∨ 1119 < b) → B.2.1 b j = M.2.1 b j := fun b j q1 q2 => by rw [b1', ztn_o q2, zfd0_o q2, zrpst_o (by omega)]; exact f0 b j q1 (by omega)
    have rl := zqR_tw hW (B := B) (fun b j hb => bn b j (by omega) (by omega)) (fun j => by rw [b2 1162 (by omega)]; rfl) b3 0
    have ot := zqord (r1 _ rl)
    have ev : ∀ u v, u < 60 → v < 60 → zrpst F0 (F0 5) (zcnt (zcth F1) 60) 1118 (ze61 u v) = zrca (zrg (zrtw B.2.1 0)) (u : Int) (v : Int) := fun u v hu hv => by
      rw [ot.1]
      refine (zqrp (r0 _ rl) hu hv (fun j hj => by rw [eo]; exact ot.2 j hj) (z0 _ (by omega)) _ (Nat.le_refl _)).trans ?_
      unfold zrca
      rw [zrg_c, Int.toNat_natCast]
      rcases zupm_b (r0 _ rl) (x := 2 * (u : Int) + 1) (y := 2 * (v : Int) + 1) with e | ⟨k, k1, e, t⟩
      · unfold zupm at e
        rw [zqht (r0 _ rl)] at e
        rw [e, if_pos (by omega), if_pos (by omega)]
      · unfold zupm at e
        rw [zqht (r0 _ rl)] at e
        rw [e, if_neg (by omega), if_neg (by omega), Int.toNat_natCast, zrg_o ⟨by omega, by omega⟩]
        exact ((r0 _ rl).2.1 k k1 t).2.1
    have ecl : col = zrca (zrg (zrtw B.2.1 0)) (x : Int) (y : Int) := by
      rw [← ev x y hx hy, ec]
      exact congrArg _ (by unfold ze61; omega)
    obtain ⟨r, M2, ⟨N, g, hr, hM, fr, fl2⟩, e330⟩ := zFRx (c330_g (L := L) (M := B) (n := zrct (zrtw B.2.1 0)) (x := x) (y := y) (by rw [b3]; exact hR) (zqR_rbk rl) (fun j hj => by
      rw [bn _ _ (by omega) (by omega)]
      exact (rel.2.2.2.2.2.1.2 j hj).2) (zqOk rl) hx hy)
    subst hr hM
    have fl' := zFl_c fl (c' := fun u v => zrca (zrg (zrtw B.2.1 0)) (u : Int) (v : Int)) (fun u v hu hv => (ev u v hu hv).symm)
    rw [ecl] at fl'
    have eN : N = K := zFl_eq ze60_i ze61_i hx fl2 fl'
    subst eN
    refine ⟨zwI B g, e330, rfl, rfl, zqW_t hW b3 b2 (fun b j q1 q2 q3 q4 => ?_), ?_⟩
    · show g b j = _
      rw [fr b (by omega) (by omega), zrg_o ⟨by omega, by omega⟩]
      unfold zrtw
      rw [zu2_sj (by omega)]
      exact bn b j q1 (by omega)
    · show g 1153 0 = 0
      rw [fr 1153 (by omega) (by omega), zrg_o ⟨by omega, by omega⟩]
      exact zu2_eq _ _ _ _
  · exact zqAg_no (e := 2) (d := 1) hW (by omega) (fun Q => c185_0 h) (.inl 0) (fun B b1 b2 Q => c330_1 (by omega)) c2
end ZFIELDQ
