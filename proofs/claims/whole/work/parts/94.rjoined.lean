/-! the reference: joined -/
section ZRJOINED
variable {L : Nat} {M : zM} {s : Nat} {Q : zO → zM → Prop}
/-- polygons copied to a shape of the reference, each from its place -/
def zrjk (f : Nat → Nat → Int) (s : Nat) (src : Nat → Nat) (c k i : Nat) : Nat → Nat → Int := fun d j => if d = 1176 ∧ 4 * s ≤ j ∧ j < 4 * s + c then f 1176 (src (j - 4 * s)) else if (d = 1177 ∨ d = 1178) ∧ (32 * s ≤ j ∧ j < 32 * s + 32) ∧ ((j - 32 * s) / 8 < k ∨ ((j - 32 * s) / 8 = k ∧ (j - 32 * s) % 8 < i)) ∧ (((j - 32 * s) % 8 : Nat) : Int) < f 1176 (src ((j - 32 * s) / 8)) then f d (8 * src ((j - 32 * s) / 8) + (j - 32 * s) % 8) else f d j
theorem zrjk_0 (f : Nat → Nat → Int) (s : Nat) (src : Nat → Nat) : zrjk f s src 0 0 0 = f := by
  funext d j
  unfold zrjk
  rw [if_neg (by omega), if_neg (by omega)]
theorem zrjk_o {f : Nat → Nat → Int} {s c k i d j : Nat} {src : Nat → Nat} (h : d ≠ 1176 ∧ d ≠ 1177 ∧ d ≠ 1178) : zrjk f s src c k i d j = f d j := by
  unfold zrjk
  rw [if_neg (by omega), if_neg (by omega)]
theorem zrjk_6 {f : Nat → Nat → Int} {s c k i j : Nat} {src : Nat → Nat} (h : ¬ (4 * s ≤ j ∧ j < 4 * s + c)) : zrjk f s src c k i 1176 j = f 1176 j := by
  unfold zrjk
  rw [if_neg (by omega), if_neg (by omega)]
theorem zrjk_a {f : Nat → Nat → Int} {s c k i p : Nat} {src : Nat → Nat} (h : p < c) : zrjk f s src c k i 1176 (4 * s + p) = f 1176 (src p) := by
  unfold zrjk
  rw [if_pos (by omega), show 4 * s + p - 4 * s = p by omega]
theorem zrjk_p {f : Nat → Nat → Int} {s c k i d j : Nat} {src : Nat → Nat} (hd : d = 1177 ∨ d = 1178) (h : ¬ (32 * s ≤ j ∧ j < 32 * s + 32)) : zrjk f s src c k i d j = f d j := by
  unfold zrjk
  rw [if_neg (by omega), if_neg (by omega)]
theorem zrjk_x {f : Nat → Nat → Int} {s c k p i : Nat} {src : Nat → Nat} {d : Nat} (hd : d = 1177 ∨ d = 1178) (hp : p < k) (hp4 : p < 4) (hi : i < 8) (hn : (i : Int) < f 1176 (src p)) : zrjk f s src c k 0 d (32 * s + 8 * p + i) = f d (8 * src p + i) := by
  have e1 : (32 * s + 8 * p + i - 32 * s) / 8 = p := by omega
  have e2 : (32 * s + 8 * p + i - 32 * s) % 8 = i := by omega
  unfold zrjk
  rw [if_neg (by omega), e1, e2, if_pos ⟨hd, by omega, Or.inl hp, hn⟩]
theorem zrjk_n {f : Nat → Nat → Int} {s k : Nat} {src : Nat → Nat} : zu2 (zrjk f s src k k 0) 1176 (4 * s + k) (f 1176 (src k)) = zrjk f s src (k + 1) k 0 := by
  funext d j
  rw [zu2_if]
  unfold zrjk
  by_cases h : d = 1176 ∧ j = 4 * s + k
  · obtain ⟨h1, h2⟩ := h
    subst h1 h2
    rw [if_pos ⟨rfl, rfl⟩, if_pos (by omega), show 4 * s + k - 4 * s = k by omega]
  · rw [if_neg h]
    by_cases h1 : d = 1176 ∧ 4 * s ≤ j ∧ j < 4 * s + k
    · rw [if_pos h1, if_pos ⟨h1.1, h1.2.1, by omega⟩]
    · rw [if_neg h1, if_neg (show ¬ (d = 1176 ∧ 4 * s ≤ j ∧ j < 4 * s + (k + 1)) from fun h3 => by
        by_cases e : j = 4 * s + k
        · exact h ⟨h3.1, e⟩
        · exact h1 ⟨h3.1, h3.2.1, by omega⟩)]
theorem zrjk_s {f : Nat → Nat → Int} {s c k i : Nat} {src : Nat → Nat} {x y : Int} (hi : i < 8) (hk : k < 4) (hn : (i : Int) < f 1176 (src k)) (hx : x = f 1177 (8 * src k + i)) (hy : y = f 1178 (8 * src k + i)) : zu2 (zu2 (zrjk f s src c k i) 1177 (32 * s + 8 * k + i) x) 1178 (32 * s + 8 * k + i) y = zrjk f s src c k (i + 1) := by
  have e1 : (32 * s + 8 * k + i - 32 * s) / 8 = k := by omega
  have e2 : (32 * s + 8 * k + i - 32 * s) % 8 = i := by omega
  funext d j
  rw [zu2_if, zu2_if]
  unfold zrjk
  by_cases hj : j = 32 * s + 8 * k + i
  · subst hj
    rw [e1, e2]
    by_cases h8 : d = 1178
    · subst h8
      rw [if_pos ⟨rfl, rfl⟩, if_neg (show ¬ ((1178 : Nat) = 1176 ∧ 4 * s ≤ 32 * s + 8 * k + i ∧ 32 * s + 8 * k + i < 4 * s + c) from fun h => absurd h.1 (by omega)), if_pos ⟨Or.inr rfl, by omega, by omega, hn⟩, hy]
    · rw [if_neg (fun h => h8 h.1)]
      by_cases h7 : d = 1177
      · subst h7
        rw [if_pos ⟨rfl, rfl⟩, if_neg (show ¬ ((1177 : Nat) = 1176 ∧ 4 * s ≤ 32 * s + 8 * k + i ∧ 32 * s + 8 * k + i < 4 * s + c) from fun h => absurd h.1 (by omega)), if_pos ⟨Or.inl rfl, by omega, by omega, hn⟩, hx]
      · have n1 : ∀ P : Prop, ¬ ((d = 1177 ∨ d = 1178) ∧ P) := fun P h => h.1.elim h7 h8
        rw [if_neg (fun h => h7 h.1), if_neg (n1 _), if_neg (n1 _)]
  · rw [if_neg (fun h => hj h.2), if_neg (fun h => hj h.2)]
    by_cases h6 : d = 1176 ∧ 4 * s ≤ j ∧ j < 4 * s + c
    · rw [if_pos h6, if_pos h6]
    · rw [if_neg h6, if_neg h6]
      by_cases h : (d = 1177 ∨ d = 1178) ∧ (32 * s ≤ j ∧ j < 32 * s + 32) ∧ ((j - 32 * s) / 8 < k ∨ ((j - 32 * s) / 8 = k ∧ (j - 32 * s) % 8 < i)) ∧ (((j - 32 * s) % 8 : Nat) : Int) < f 1176 (src ((j - 32 * s) / 8))
      · have h2 : (d = 1177 ∨ d = 1178) ∧ (32 * s ≤ j ∧ j < 32 * s + 32) ∧ ((j - 32 * s) / 8 < k ∨ ((j - 32 * s) / 8 = k ∧ (j - 32 * s) % 8 < i + 1)) ∧ (((j - 32 * s) % 8 : Nat) : Int) < f 1176 (src ((j - 32 * s) / 8)) := ⟨h.1, h.2.1, by omega, h.2.2.2⟩
        rw [if_pos h, if_pos h2]
      · have h2 : ¬ ((d = 1177 ∨ d = 1178) ∧ (32 * s ≤ j ∧ j < 32 * s + 32) ∧ ((j - 32 * s) / 8 < k ∨ ((j - 32 * s) / 8 = k ∧ (j - 32 * s) % 8 < i + 1)) ∧ (((j - 32 * s) % 8 : Nat) : Int) < f 1176 (src ((j - 32 * s) / 8))) := fun h3 => h ⟨h3.1, h3.2.1, by omega, h3.2.2.2⟩
        rw [if_neg h, if_neg h2]
theorem zrjk_c {f : Nat → Nat → Int} {s c k : Nat} {src : Nat → Nat} (hn : f 1176 (src k) ≤ 8) : zrjk f s src c k (f 1176 (src k)).toNat = zrjk f s src c (k + 1) 0 := by
  funext d j
  unfold zrjk
  by_cases h6 : d = 1176 ∧ 4 * s ≤ j ∧ j < 4 * s + c
  · rw [if_pos h6, if_pos h6]
  · rw [if_neg h6, if_neg h6]
    by_cases h : (d = 1177 ∨ d = 1178) ∧ (32 * s ≤ j ∧ j < 32 * s + 32) ∧ ((j - 32 * s) / 8 < k ∨ ((j - 32 * s) / 8 = k ∧ (j - 32 * s) % 8 < (f 1176 (src k)).toNat)) ∧ (((j - 32 * s) % 8 : Nat) : Int) < f 1176 (src ((j - 32 * s) / 8))
    · have h2 : (d = 1177 ∨ d = 1178) ∧ (32 * s ≤ j ∧ j < 32 * s + 32) ∧ ((j - 32 * s) / 8 < k + 1 ∨ ((j - 32 * s) / 8 = k + 1 ∧ (j - 32 * s) % 8 < 0)) ∧ (((j - 32 * s) % 8 : Nat) : Int) < f 1176 (src ((j - 32 * s) / 8)) := ⟨h.1, h.2.1, by omega, h.2.2.2⟩
      rw [if_pos h, if_pos h2]
    · have h2 : ¬ ((d = 1177 ∨ d = 1178) ∧ (32 * s ≤ j ∧ j < 32 * s + 32) ∧ ((j - 32 * s) / 8 < k + 1 ∨ ((j - 32 * s) / 8 = k + 1 ∧ (j - 32 * s) % 8 < 0)) ∧ (((j - 32 * s) % 8 : Nat) : Int) < f 1176 (src ((j - 32 * s) / 8))) := by
        intro h3
        apply h
        refine ⟨h3.1, h3.2.1, ?_, h3.2.2.2⟩
        by_cases e : (j - 32 * s) / 8 = k
        · right
          have h4 := h3.2.2.2
          rw [e] at h4
          exact ⟨e, by omega⟩
        · omega
      rw [if_neg h, if_neg h2]
def zrjs (a b na : Nat) (p : Nat) : Nat := if p < na then 4 * a + p else 4 * b + (p - na)
theorem zrjs_a {a b na p : Nat} (h : p < na) : zrjs a b na p = 4 * a + p := if_pos h
theorem zrjs_b {a b na p : Nat} (h : ¬ p < na) : zrjs a b na p = 4 * b + (p - na) := if_neg h
/-- the copied polygons, number and table -/
def zrj0 (f : Nat → Nat → Int) (s a b : Nat) (w : Int) : Nat → Nat → Int := zu2 (zu2 (zrjk f s (zrjs a b (f 1174 a).toNat) ((f 1174 a).toNat + (f 1174 b).toNat) ((f 1174 a).toNat + (f 1174 b).toNat) 0) 1174 s (f 1174 a + f 1174 b)) 1175 s (zjt w (f 1175 a) (f 1175 b) (f 1174 a).toNat (2 ^ ((f 1174 a).toNat + (f 1174 b).toNat)) : Int)
/-- the memory of the reference when two shapes were joined -/
def zrjo (f : Nat → Nat → Int) (s a b : Nat) (w : Int) : Nat → Nat → Int := zrcm (zrj0 f s a b w) s (f 1167 a) (f 1168 a)
theorem zrj0_o {f : Nat → Nat → Int} {s a b d j : Nat} {w : Int} (h : d < 1174 ∨ 1178 < d) : zrj0 f s a b w d j = f d j := by
  unfold zrj0
  rw [zu2_a (by omega), zu2_a (by omega), zrjk_o (by omega)]
theorem c206 {w : Int} {a b : Nat} (hR : zLay M.2.2.2) (hb : ∀ i, i < 60 → i ≠ s → (M.2.1 1166 i = 0 ∨ M.2.1 1166 i = 1) ∧ (M.2.1 1166 i = 1 → zrKy M.2.1 i)) (hs : s < 60) (ha : a < 60) (hbb : b < 60) (hsa : s ≠ a) (hsb : s ≠ b) (wa : zrSw M.2.1 a) (wb : zrSw M.2.1 b) : zFR (zK L) 206 0 (zcall 206 [.inr (.inr 1153), .inl (s : Int), .inl w, .inl (a : Int), .inl (b : Int)]) [] M Q = ((¬ M.2.1 1174 a + M.2.1 1174 b ≤ 4 → Q (.inl (some (.inl 0))) M) ∧ (M.2.1 1174 a + M.2.1 1174 b ≤ 4 → Q (.inl (some (.inl 1))) (zwI M (zrjo M.2.1 s a b w)))) := by
  have hF := hR.1
  unfold zLayF at hF
  obtain ⟨wa1, wa2, wa3⟩ := wa
  obtain ⟨wb1, wb2, wb3⟩ := wb
  obtain ⟨na, hna⟩ : ∃ n : Nat, M.2.1 1174 a = (n : Int) := ⟨(M.2.1 1174 a).toNat, by omega⟩
  obtain ⟨nb, hnb⟩ : ∃ n : Nat, M.2.1 1174 b = (n : Int) := ⟨(M.2.1 1174 b).toNat, by omega⟩
  have hj : zrjo M.2.1 s a b w = zrjo M.2.1 s a b w := rfl
  conv at hj => rhs; unfold zrjo zrj0; rw [hna, hnb, Int.toNat_natCast, Int.toNat_natCast]
  rw [hna] at wa1 wa3
  rw [hnb] at wb1 wb3
  by_cases h4 : M.2.1 1174 a + M.2.1 1174 b ≤ 4
  · have run : zFR (zK L) 206 0 (zcall 206 [.inr (.inr 1153), .inl (s : Int), .inl w, .inl (a : Int), .inl (b : Int)]) [] M (fun rr M2 => rr = .inl (some (.inl 1)) ∧ M2 = zwI M (zrjo M.2.1 s a b w)) := by
      generalize hQ : (fun (rr : zO) M2 => rr = .inl (some (.inl 1)) ∧ M2 = zwI M (zrjo M.2.1 s a b w)) = Q9
      have h4n : na + nb ≤ 4 := by omega
      have h16 := (zp4 (c := na + nb) (by omega)).2
      obtain ⟨ta, hta⟩ : ∃ n : Nat, M.2.1 1175 a = (n : Int) := ⟨(M.2.1 1175 a).toNat, by omega⟩
      obtain ⟨tb, htb⟩ : ∃ n : Nat, M.2.1 1175 b = (n : Int) := ⟨(M.2.1 1175 b).toNat, by omega⟩
      rw [hta] at wa2
      rw [htb] at wb2
      rw [hta, htb] at hj
      have t16 := zjt_16 w (ta : Int) (tb : Int) na h16
      generalize zjt w (ta : Int) (tb : Int) na (2 ^ (na + nb)) = T at *
      have src8 : ∀ p, p < na + nb → 0 ≤ M.2.1 1176 (zrjs a b na p) ∧ M.2.1 1176 (zrjs a b na p) ≤ 8 := by
        intro p hp
        by_cases h : p < na
        · rw [zrjs_a h]
          have := wa3 p (by omega)
          exact ⟨this.1, this.2.1⟩
        · rw [zrjs_b h]
          have := wb3 (p - na) (by omega)
          exact ⟨this.1, this.2.1⟩
      have copy : ∀ k : Nat, k ≤ na + nb → ∀ y9 y10 y11, zFR (zK L) 206 131 [some (.inr (.inr 1153)), some (.inl (s : Int)), some (.inl w), some (.inl (a : Int)), some (.inl (b : Int)), some (.inl (na : Int)), some (.inl ((na + nb : Nat) : Int)), some (.inl (T : Int)), some (.inl (k : Int)), y9, y10, y11] [] (zwI M (zrjk M.2.1 s (zrjs a b na) k k 0)) Q9 := by
        refine zloop ?_ ?_
        · intro y9 y10 y11
          have e195 := fun Q => c195 (L := L) (M := zwI M (zu2 (zu2 (zrjk M.2.1 s (zrjs a b na) (na + nb) (na + nb) 0) 1174 s ((na + nb : Nat) : Int)) 1175 s (T : Int))) (Q := Q) (s := s) (l := M.2.1 1167 a) (c := M.2.1 1168 a) hR (by
            intro i hi e
            unfold zrKy
            rw [zwI_I]
            simp only [zu2_a (show (1166 : Nat) ≠ 1175 by omega), zu2_a (show (1166 : Nat) ≠ 1174 by omega), zu2_a (show (1169 : Nat) ≠ 1175 by omega), zu2_a (show (1169 : Nat) ≠ 1174 by omega), zu2_a (show (1170 : Nat) ≠ 1175 by omega), zu2_a (show (1170 : Nat) ≠ 1174 by omega), zrjk_o (show (1166 : Nat) ≠ 1176 ∧ (1166 : Nat) ≠ 1177 ∧ (1166 : Nat) ≠ 1178 by omega), zrjk_o (show (1169 : Nat) ≠ 1176 ∧ (1169 : Nat) ≠ 1177 ∧ (1169 : Nat) ≠ 1178 by omega), zrjk_o (show (1170 : Nat) ≠ 1176 ∧ (1170 : Nat) ≠ 1177 ∧ (1170 : Nat) ≠ 1178 by omega)]
            exact hb i hi e) hs
          rw [zwI_I, zwI_w] at e195
          refine zW_sound 60 [138] ?_
          simp only [ZR206, zk_1153, zk_1174, zk_1175, zk_1167, zk_1168, hF, zwI_I, zwI_2, zsI_wI, zwI_w, ZF195.1, ZF195.2.1, ZF195.2.2.1, zu2_a (show (1167 : Nat) ≠ 1175 by omega), zu2_a (show (1167 : Nat) ≠ 1174 by omega), zu2_a (show (1168 : Nat) ≠ 1175 by omega), zu2_a (show (1168 : Nat) ≠ 1174 by omega), zrjk_o (show (1167 : Nat) ≠ 1176 ∧ (1167 : Nat) ≠ 1177 ∧ (1167 : Nat) ≠ 1178 by omega), zrjk_o (show (1168 : Nat) ≠ 1176 ∧ (1168 : Nat) ≠ 1177 ∧ (1168 : Nat) ≠ 1178 by omega), e195, zW_succ, zE_iload, zE_aload, zE_lload, zE_iinc, zE_istore, zE_astore, zE_lstore, zE_iconst, zE_ldc2, zE_iadd, zE_isub, zE_imul, zE_idiv, zE_irem, zE_ineg, zE_iand, zE_ior, zE_ixor, zE_ishl, zE_ishr, zE_land, zE_lor, zE_lxor, zE_lshl, zE_lshr, zE_i2l, zE_lcmp, zE_dup_i, zE_dup_a, zE_dup2_ia, zE_pop_i, zE_pop_a, zE_pop2, zE_goto, zE_if_eq, zE_icmp_eq, zE_if_ne, zE_icmp_ne, zE_if_lt, zE_icmp_lt, zE_if_ge, zE_icmp_ge, zE_if_gt, zE_icmp_gt, zE_if_le, zE_icmp_le, zE_iaload, zE_baload, zE_laload, zE_aaload, zE_iastore, zE_bastore, zE_lastore, zE_aastore, zE_alen, zE_getf0, zE_getf1, zE_getf2, zE_getf3, zE_putf0, zE_putf1, zE_putf2, zE_putf3, zE_new, zE_newa, zE_newq, zE_ireturn, zE_lreturn, zE_areturn, zE_return, zE_athrow, zE_st0, zE_vi0, zE_st1, zE_vi1, zE_st2, zE_vi2, zE_st3, zE_vi3, zE_st4, zE_vi4, zE_st5, zE_vi5, zE_st6, zE_vi6, zE_st7, zE_vi7, zE_st8, zE_vi8, zSt_0, zSL_0, zSt_1n, zSt_1i, zSt_1a, zSt_1l, zSt_2n, zSt_2i, zSt_2a, zSt_2l, zSt_3n, zSt_3i, zSt_3a, zSt_3l, zSt_4n, zSt_4i, zSt_4a, zSt_4l, zSt_5n, zSt_5i, zSt_5a, zSt_5l, zSt_6n, zSt_6i, zSt_6a, zSt_6l, zSt_7n, zSt_7i, zSt_7a, zSt_7l, zSt_8n, zSt_8i, zSt_8a, zSt_8l, zSt_9n, zSt_9i, zSt_9a, zSt_9l, zSt_10n, zSt_10i, zSt_10a, zSt_10l, zSt_11n, zSt_11i, zSt_11a, zSt_11l, zSt_12n, zSt_12i, zSt_12a, zSt_12l, zSt_13n, zSt_13i, zSt_13a, zSt_13l, zSL_1n, zSL_1i, zSL_1a, zSL_1l, zSL_2n, zSL_2i, zSL_2a, zSL_2l, zSL_3n, zSL_3i, zSL_3a, zSL_3l, zSL_4n, zSL_4i, zSL_4a, zSL_4l, zSL_5n, zSL_5i, zSL_5a, zSL_5l, zSL_6n, zSL_6i, zSL_6a, zSL_6l, zSL_7n, zSL_7i, zSL_7a, zSL_7l, zSL_8n, zSL_8i, zSL_8a, zSL_8l, zSL_9n, zSL_9i, zSL_9a, zSL_9l, zSL_10n, zSL_10i, zSL_10a, zSL_10l, zSL_11n, zSL_11i, zSL_11a, zSL_11l, zSL_12n, zSL_12i, zSL_12a, zSL_12l, zLI_0, zLL_0, zLA_0, zLI_1, zLL_1, zLA_1, zLI_2, zLL_2, zLA_2, zLI_3, zLL_3, zLA_3, zLI_4, zLL_4, zLA_4, zLI_5, zLL_5, zLA_5, zLI_6, zLL_6, zLA_6, zLI_7, zLL_7, zLA_7, zLI_8, zLL_8, zLA_8, zLI_9, zLL_9, zLA_9, zLI_10, zLL_10, zLA_10, zLI_11, zLL_11, zLA_11, zLI_12, zLL_12, zLA_12, zLI_13, zLL_13, zLA_13, zst_0, zst_1n, zst_1i, zst_1a, zst_2n, zst_2i, zst_2a, zst_3n, zst_3i, zst_3a, zst_4n, zst_4i, zst_4a, zst_5n, zst_5i, zst_5a, zst_6n, zst_6i, zst_6a, zst_7n, zst_7i, zst_7a, zst_8n, zst_8i, zst_8a, zst_9n, zst_9i, zst_9a, zst_10n, zst_10i, zst_10a, zst_11n, zst_11i, zst_11a, zst_12n, zst_12i, zst_12a, zst_13n, zst_13i, zst_13a, zst_14n, zst_14i, zst_14a, zst_15n, zst_15i, zst_15a, zR1_n, zR1_v, zsum_n, zsum_i, zsum_l, zsum_a, zlen_n, zlen_i, zlen_l, zlen_a, List.not_mem_nil, List.mem_cons, or_false, false_or, or_self, ↓reduceIte, if_false, if_true, Nat.reduceEqDiff, Nat.reduceAdd, Nat.reduceLeDiff, true_and, and_true, reduceCtorEq, ne_eq, Int.toNat_natCast, not_true_eq_false, not_false_eq_true, true_implies, false_implies, implies_true, Int.reduceToNat, Int.toNat_zero, Int.reduceLT, Int.reduceLE, Int.reduceEq, Int.reduceAdd, Int.reduceMul, Int.reduceNeg]
          done
        · intro k hk ih y9 y10 y11
          done
      done
    rw [zFR_det run Q]
    exact propext ⟨fun h => ⟨fun h2 => absurd h4 h2, fun _ => h⟩, fun h => h.2 h4⟩
  · have run : zFR (zK L) 206 0 (zcall 206 [.inr (.inr 1153), .inl (s : Int), .inl w, .inl (a : Int), .inl (b : Int)]) [] M (fun rr M2 => rr = .inl (some (.inl 0)) ∧ M2 = M) := by
      refine zW_sound 60 [28] ?_
      simp only [ZF206, ZR206, zk_1153, zk_1174, hF, hna, hnb, zW_succ, zE_iload, zE_aload, zE_lload, zE_iinc, zE_istore, zE_astore, zE_lstore, zE_iconst, zE_ldc2, zE_iadd, zE_isub, zE_imul, zE_idiv, zE_irem, zE_ineg, zE_iand, zE_ior, zE_ixor, zE_ishl, zE_ishr, zE_land, zE_lor, zE_lxor, zE_lshl, zE_lshr, zE_i2l, zE_lcmp, zE_dup_i, zE_dup_a, zE_dup2_ia, zE_pop_i, zE_pop_a, zE_pop2, zE_goto, zE_if_eq, zE_icmp_eq, zE_if_ne, zE_icmp_ne, zE_if_lt, zE_icmp_lt, zE_if_ge, zE_icmp_ge, zE_if_gt, zE_icmp_gt, zE_if_le, zE_icmp_le, zE_iaload, zE_baload, zE_laload, zE_aaload, zE_iastore, zE_bastore, zE_lastore, zE_aastore, zE_alen, zE_getf0, zE_getf1, zE_getf2, zE_getf3, zE_putf0, zE_putf1, zE_putf2, zE_putf3, zE_new, zE_newa, zE_newq, zE_ireturn, zE_lreturn, zE_areturn, zE_return, zE_athrow, zE_st0, zE_vi0, zE_st1, zE_vi1, zE_st2, zE_vi2, zE_st3, zE_vi3, zE_st4, zE_vi4, zE_st5, zE_vi5, zE_st6, zE_vi6, zE_st7, zE_vi7, zE_st8, zE_vi8, zSt_0, zSL_0, zSt_1n, zSt_1i, zSt_1a, zSt_1l, zSt_2n, zSt_2i, zSt_2a, zSt_2l, zSt_3n, zSt_3i, zSt_3a, zSt_3l, zSt_4n, zSt_4i, zSt_4a, zSt_4l, zSt_5n, zSt_5i, zSt_5a, zSt_5l, zSt_6n, zSt_6i, zSt_6a, zSt_6l, zSt_7n, zSt_7i, zSt_7a, zSt_7l, zSt_8n, zSt_8i, zSt_8a, zSt_8l, zSt_9n, zSt_9i, zSt_9a, zSt_9l, zSt_10n, zSt_10i, zSt_10a, zSt_10l, zSt_11n, zSt_11i, zSt_11a, zSt_11l, zSt_12n, zSt_12i, zSt_12a, zSt_12l, zSt_13n, zSt_13i, zSt_13a, zSt_13l, zSL_1n, zSL_1i, zSL_1a, zSL_1l, zSL_2n, zSL_2i, zSL_2a, zSL_2l, zSL_3n, zSL_3i, zSL_3a, zSL_3l, zSL_4n, zSL_4i, zSL_4a, zSL_4l, zSL_5n, zSL_5i, zSL_5a, zSL_5l, zSL_6n, zSL_6i, zSL_6a, zSL_6l, zSL_7n, zSL_7i, zSL_7a, zSL_7l, zSL_8n, zSL_8i, zSL_8a, zSL_8l, zSL_9n, zSL_9i, zSL_9a, zSL_9l, zSL_10n, zSL_10i, zSL_10a, zSL_10l, zSL_11n, zSL_11i, zSL_11a, zSL_11l, zSL_12n, zSL_12i, zSL_12a, zSL_12l, zLI_0, zLL_0, zLA_0, zLI_1, zLL_1, zLA_1, zLI_2, zLL_2, zLA_2, zLI_3, zLL_3, zLA_3, zLI_4, zLL_4, zLA_4, zLI_5, zLL_5, zLA_5, zLI_6, zLL_6, zLA_6, zLI_7, zLL_7, zLA_7, zLI_8, zLL_8, zLA_8, zLI_9, zLL_9, zLA_9, zLI_10, zLL_10, zLA_10, zLI_11, zLL_11, zLA_11, zLI_12, zLL_12, zLA_12, zLI_13, zLL_13, zLA_13, zst_0, zst_1n, zst_1i, zst_1a, zst_2n, zst_2i, zst_2a, zst_3n, zst_3i, zst_3a, zst_4n, zst_4i, zst_4a, zst_5n, zst_5i, zst_5a, zst_6n, zst_6i, zst_6a, zst_7n, zst_7i, zst_7a, zst_8n, zst_8i, zst_8a, zst_9n, zst_9i, zst_9a, zst_10n, zst_10i, zst_10a, zst_11n, zst_11i, zst_11a, zst_12n, zst_12i, zst_12a, zst_13n, zst_13i, zst_13a, zst_14n, zst_14i, zst_14a, zst_15n, zst_15i, zst_15a, zR1_n, zR1_v, zsum_n, zsum_i, zsum_l, zsum_a, zlen_n, zlen_i, zlen_l, zlen_a, List.not_mem_nil, List.mem_cons, or_false, false_or, or_self, ↓reduceIte, if_false, if_true, Nat.reduceEqDiff, Nat.reduceAdd, Nat.reduceLeDiff, true_and, and_true, reduceCtorEq, ne_eq, Int.toNat_natCast, not_true_eq_false, not_false_eq_true, true_implies, false_implies, implies_true, Int.reduceToNat, Int.toNat_zero, Int.reduceLT, Int.reduceLE, Int.reduceEq, Int.reduceAdd, Int.reduceMul, Int.reduceNeg]
      done
    rw [zFR_det run Q]
    exact propext ⟨fun h => ⟨fun _ => h, fun h2 => absurd h2 h4⟩, fun h => h.1 h4⟩
end ZRJOINED
