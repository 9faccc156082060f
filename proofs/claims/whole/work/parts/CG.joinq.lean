/-! joined, in both programs -/
section ZJOINQ
variable {n : Nat} {f g f' g' : Nat → Nat → Int} {i s : Nat}
theorem zjt_0 {w t1 t2 : Int} (hw : 0 ≤ w ∧ w ≤ 3) (h1 : ¬ zhs t1 0) (h2 : ¬ zhs t2 0) (m : Nat) : ∀ k, zjt w t1 t2 m k % 2 = 0
  | 0 => rfl
  | k + 1 => by
    have ih := zjt_0 hw h1 h2 m k
    rw [zjt_s]
    by_cases c : zlawb w (zhsb t1 (k % 2 ^ m)) (zhsb t2 (k / 2 ^ m)) = true
    · rw [if_pos c]
      cases k with
      | zero =>
        have e1 : zhsb t1 0 = false := by
          cases q : zhsb t1 0
          · rfl
          · exact absurd (zhsb_iff.mp q) h1
        have e2 : zhsb t2 0 = false := by
          cases q : zhsb t2 0
          · rfl
          · exact absurd (zhsb_iff.mp q) h2
        rw [Nat.zero_mod, Nat.zero_div, e1, e2] at c
        unfold zlawb at c
        rcases (show w = 0 ∨ w = 1 ∨ w = 2 ∨ w = 3 by omega) with q | q | q | q <;> subst q <;> exact absurd c (by decide)
      | succ k =>
        have e : zjt w t1 t2 m (k + 1) ||| 2 ^ (k + 1) = (zjt w t1 t2 m (k + 1) ||| 2 ^ (k + 1)) := rfl
        have b := Nat.testBit_or (zjt w t1 t2 m (k + 1)) (2 ^ (k + 1)) 0
        rw [Nat.testBit_zero, Nat.testBit_zero, ih, Nat.testBit_zero] at b
        have p2 : 2 ^ (k + 1) % 2 = 0 := by rw [Nat.pow_succ]; omega
        rw [p2] at b
        have := of_decide_eq_false b
        omega
    · rw [if_neg c]
      exact ih
variable {L k : Nat} {M N : zM}
/-- what a joining notes in both journals -/
def zqJ17 (M N : zM) (k : Nat) : Prop := zqJw M N k 17 ∧ M.2.1 (855 + 4 * k) 1 = N.2.1 1159 k ∧ (M.2.1 (855 + 4 * k) 2 = N.2.1 1161 (4 * k + 1) ∧ 0 ≤ N.2.1 1161 (4 * k + 1) ∧ N.2.1 1161 (4 * k + 1) < 60) ∧ (M.2.1 (855 + 4 * k) 3 = N.2.1 1161 (4 * k + 2) ∧ 0 ≤ N.2.1 1161 (4 * k + 2) ∧ N.2.1 1161 (4 * k + 2) < 60) ∧ (M.2.1 (855 + 4 * k) 8 = N.2.1 1161 (4 * k) ∧ 0 ≤ N.2.1 1161 (4 * k) ∧ N.2.1 1161 (4 * k) ≤ 3)
/-- the corners of what is joined -/
theorem zqjC {a b w : Int} {i j : Nat} {P R : Nat → Nat → Int} {k : Nat} (hi : i ≠ k) (hj : j ≠ k) (hEi : zqC f g i) (hOi : zqO g i) (hEj : zqC f g j) (hOj : zqO g j) (h4 : g 1174 i + g 1174 j ≤ 4) (hw : 0 ≤ w ∧ w ≤ 3) {f0 : Nat → Nat → Int} (hf0 : ∀ b j, b ≠ 14 + 14 * k → f0 b j = f b j) (hf9 : ∀ b j, 9 ≤ j → f0 b j = f b j) (eP : zu2 (zjmm f0 (14 + 14 * k) (14 + 14 * i) (14 + 14 * j) ((f0 (14 + 14 * i) 10).toNat + (f0 (14 + 14 * j) 10).toNat)) (14 + 14 * k) 9 (zjt w (f0 (14 + 14 * i) 9) (f0 (14 + 14 * j) 9) (f0 (14 + 14 * i) 10).toNat (2 ^ ((f0 (14 + 14 * i) 10).toNat + (f0 (14 + 14 * j) 10).toNat)) : Int) = P) (eR : zrj0 g k i j w = R) : zqC P R k ∧ zqO R k := by
  obtain ⟨i1, i2, i3⟩ := hEi
  obtain ⟨o1, o2, o3⟩ := hOi
  obtain ⟨j1, j2, j3⟩ := hEj
  obtain ⟨q1, q2, q3⟩ := hOj
  have e10i : f0 (14 + 14 * i) 10 = g 1174 i := (hf9 _ _ (by omega)).trans i2
  have e10j : f0 (14 + 14 * j) 10 = g 1174 j := (hf9 _ _ (by omega)).trans j2
  have e9i : f0 (14 + 14 * i) 9 = g 1175 i := (hf9 _ _ (by omega)).trans i1
  have e9j : f0 (14 + 14 * j) 9 = g 1175 j := (hf9 _ _ (by omega)).trans j1
  rw [e10i, e10j, e9i, e9j] at eP
  generalize ea : (g 1174 i).toNat = na at *
  generalize eb : (g 1174 j).toNat = nb at *
  have lt16 : 2 ^ (na + nb) ≤ 16 := by
    have : 2 ^ (na + nb) ≤ 2 ^ 4 := Nat.pow_le_pow_right (by omega) (by omega)
    omega
  have tl := zjt_lt w (g 1175 i) (g 1175 j) na (2 ^ (na + nb))
  have tz := zjt_0 hw o2.2.2 q2.2.2 na (2 ^ (na + nb))
  have R4 : R 1174 k = ((na + nb : Nat) : Int) := by
    rw [← eR]
    unfold zrj0
    rw [zu2_a (by omega), zu2_eq]
    omega
  have R5 : R 1175 k = (zjt w (g 1175 i) (g 1175 j) na (2 ^ (na + nb)) : Int) := by
    rw [← eR]
    unfold zrj0
    rw [zu2_eq, ea, eb]
  -- where a polygon of the new shape comes from
  have src : ∀ p : Nat, p < na + nb → ∃ (u q : Nat), ((u = i ∧ q < na) ∨ (u = j ∧ q < nb)) ∧ zjsr (14 + 14 * i) (14 + 14 * j) na p = 14 + 14 * u + 2 + 3 * q ∧ zrjs i j na p = 4 * u + q := fun p hp => by
    by_cases c : p < na
    · exact ⟨i, p, Or.inl ⟨rfl, c⟩, by unfold zjsr; rw [if_pos c], zrjs_a c⟩
    · exact ⟨j, p - na, Or.inr ⟨rfl, by omega⟩, by unfold zjsr; rw [if_neg c], zrjs_b c⟩
  have pick : ∀ (u q : Nat), ((u = i ∧ q < na) ∨ (u = j ∧ q < nb)) → u ≠ k ∧ q < 4 ∧ zN f (14 + 14 * u) q = zrN g u q ∧ (3 ≤ zrN g u q ∧ zrN g u q ≤ 8) ∧ zpr (zrN g u q) (zrX g u q) (zrY g u q) 0 ∧ ∀ c : Nat, (c : Int) < zrN g u q → zX f (14 + 14 * u) q c = zrX g u q c ∧ zY f (14 + 14 * u) q c = zrY g u q c ∧ (0 ≤ zrX g u q c ∧ zrX g u q c ≤ 60) ∧ 0 ≤ zrY g u q c ∧ zrY g u q c ≤ 60 := fun u q h => by
    rcases h with ⟨e, h⟩ | ⟨e, h⟩
    · subst e
      obtain ⟨a1, a2⟩ := i3 q (by omega)
      obtain ⟨b1, b2, b3⟩ := o3 q (by omega)
      exact ⟨hi, by omega, a1, b1, b2, fun c hc => ⟨(a2 c hc).1, (a2 c hc).2, b3 c hc⟩⟩
    · subst e
      obtain ⟨a1, a2⟩ := j3 q (by omega)
      obtain ⟨b1, b2, b3⟩ := q3 q (by omega)
      exact ⟨hj, by omega, a1, b1, b2, fun c hc => ⟨(a2 c hc).1, (a2 c hc).2, b3 c hc⟩⟩
  have RN : ∀ p : Nat, p < na + nb → ∀ u q : Nat, zrjs i j na p = 4 * u + q → zrN R k p = zrN g u q := fun p hp u q e => by
    rw [← eR]
    unfold zrj0 zrN
    rw [zu2_a (by omega), zu2_a (by omega), ea, eb, zrjk_a hp, e]
  have RXY : ∀ p : Nat, p < na + nb → ∀ u q : Nat, q < 4 → zrjs i j na p = 4 * u + q → ∀ c : Nat, c < 8 → (c : Int) < zrN g u q → zrX R k p c = zrX g u q c ∧ zrY R k p c = zrY g u q c := fun p hp u q q4 e c c8 hc => by
    have e8 : 8 * zrjs i j na p + c = 32 * u + 8 * q + c := by omega
    have hc2 : (c : Int) < g 1176 (zrjs i j na p) := by rw [e]; exact hc
    rw [← eR]
    unfold zrj0 zrX zrY
    rw [zu2_a (by omega), zu2_a (by omega), zu2_a (by omega), zu2_a (by omega), ea, eb, zrjk_x (Or.inl rfl) hp (by omega) c8 hc2, zrjk_x (Or.inr rfl) hp (by omega) c8 hc2, e8]
    exact ⟨rfl, rfl⟩
  have Pm : ∀ b j2, b ≠ 14 + 14 * k → P b j2 = zjm f0 (14 + 14 * k) (zjsr (14 + 14 * i) (14 + 14 * j) na) (na + nb) b j2 := fun b j2 hb => by
    rw [← eP, zu2_a hb]
    unfold zjmm
    rw [zu2_a hb, e10i, ea]
  refine ⟨⟨?_, ?_, fun p hp => ?_⟩, by omega, ?_, fun p hp => ?_⟩
  · rw [R5, ← eP, zu2_eq]
  · rw [R4, ← eP, zu2_i (by omega)]
    unfold zjmm
    rw [zu2_eq]
  · have hp2 : p < na + nb := by omega
    obtain ⟨u, q, uq, s1, s2⟩ := src p hp2
    obtain ⟨uk, q4, p1, p2, p3, p4⟩ := pick u q uq
    have rn := RN p hp2 u q s2
    rw [rn]
    have eN0 : f0 (14 + 14 * u + 2 + 3 * q) 0 = zrN g u q := (hf0 _ _ (by omega)).trans p1
    refine ⟨?_, fun c hc => ?_⟩
    · show P (14 + 14 * k + 2 + 3 * p) 0 = _
      rw [Pm _ _ (by omega), zjm_N _ _ _ hp2, s1, eN0]
      omega
    · obtain ⟨x1, y1⟩ := RXY p hp2 u q q4 s2 c (by omega) hc
      obtain ⟨x2, y2, _⟩ := p4 c hc
      have hc2 : c < (f0 (zjsr (14 + 14 * i) (14 + 14 * j) na p) 0).toNat := by rw [s1, eN0]; omega
      rw [x1, y1, ← x2, ← y2]
      show P (14 + 14 * k + 2 + 3 * p + 1) c = f (14 + 14 * u + 2 + 3 * q + 1) c ∧ P (14 + 14 * k + 2 + 3 * p + 2) c = f (14 + 14 * u + 2 + 3 * q + 2) c
      rw [Pm _ _ (by omega), Pm _ _ (by omega), zjm_X _ _ _ hp2 hc2, zjm_Y _ _ _ hp2 hc2, s1, hf0 _ _ (by omega), hf0 _ _ (by omega)]
      exact ⟨rfl, rfl⟩
  · rw [R4, R5, Int.toNat_natCast, Int.toNat_natCast]
    refine ⟨by omega, tl, ?_⟩
    unfold zhs
    rw [Int.toNat_natCast, Nat.pow_zero, Nat.div_one]
    omega
  · have hp2 : p < na + nb := by omega
    obtain ⟨u, q, uq, s1, s2⟩ := src p hp2
    obtain ⟨uk, q4, p1, p2, p3, p4⟩ := pick u q uq
    have rn := RN p hp2 u q s2
    rw [rn]
    have xy : ∀ c : Nat, (c : Int) < zrN g u q → zrX R k p c = zrX g u q c ∧ zrY R k p c = zrY g u q c := fun c hc => RXY p hp2 u q q4 s2 c (by omega) hc
    refine ⟨p2, zpr_cg (fun c hc => (xy c hc).1) (fun c hc => (xy c hc).2) p3, fun c hc => ?_⟩
    rw [(xy c hc).1, (xy c hc).2]
    exact (p4 c hc).2.2
theorem zqS_17 (hM : zLay M.2.2.2) (hN : zLay N.2.2.2) (hk : k < 60) (h : zqR k M.2.1 N.2.1) (hjj : zqJ17 M N k) : zqS L k M N := by
  obtain ⟨⟨j0, j1⟩, jh, ⟨j2, j2b⟩, ⟨j3, j3b⟩, ⟨j8, j8b⟩⟩ := hjj
  have h1 := zqR_g1 (k := k) h
  have go : ∀ b j, b ≠ 1153 → zqg1 N.2.1 k b j = N.2.1 b j := fun b j hb => zqg1_o hb
  have go2 : ∀ j, j ≠ 33 → j ≠ 36 → j ≠ 38 → zqg1 N.2.1 k 1153 j = N.2.1 1153 j := fun j _ h2 _ => zu2_i h2 _ _ _ _
  have g36 : zqg1 N.2.1 k 1153 36 = (k : Int) := zu2_eq _ _ _ _
  generalize ei : (N.2.1 1161 (4 * k + 1)).toNat = i at *
  generalize ej : (N.2.1 1161 (4 * k + 2)).toNat = j at *
  have ei2 : N.2.1 1161 (4 * k + 1) = (i : Int) := by omega
  have ej2 : N.2.1 1161 (4 * k + 2) = (j : Int) := by omega
  have hi : i < 60 := by omega
  have hj : j < 60 := by omega
  have ti := zqR_t h hi
  have tj := zqR_t h hj
  by_cases c : N.2.1 1166 i = 1 ∧ N.2.1 1166 j = 1
  · have hg : zgua M.2.1 k := by
      unfold zgua
      rw [j2, ei2, j3, ej2, Int.toNat_natCast, Int.toNat_natCast, ti, tj]
      exact ⟨Or.inr ⟨by omega, by omega, c.1⟩, Or.inr ⟨by omega, by omega, c.2⟩⟩
    have ik : i ≠ k := by have := (h.1.2 i hi).2.2 c.1; omega
    have jk : j ≠ k := by have := (h.1.2 j hj).2.2 c.2; omega
    have hr : zrt (zu2 N.2.1 1153 36 (k : Int)) (N.2.1 1161 (4 * k + 1)) ∧ zrt (zu2 N.2.1 1153 36 (k : Int)) (N.2.1 1161 (4 * k + 2)) := by
      rw [ei2, ej2]
      refine ⟨⟨by omega, by omega, ?_⟩, by omega, by omega, ?_⟩
      · rw [Int.toNat_natCast, zu2_a (by omega)]; exact c.1
      · rw [Int.toNat_natCast, zu2_a (by omega)]; exact c.2
    generalize eg1 : zqg1 N.2.1 k = g1 at *
    have tgi : g1 1166 i = 1 := (go _ _ (by omega)).trans c.1
    have tgj : g1 1166 j = 1 := (go _ _ (by omega)).trans c.2
    obtain ⟨hEi, hOi⟩ := h1.2.2.2.2.2.2.2.1 i hi tgi
    obtain ⟨hEj, hOj⟩ := h1.2.2.2.2.2.2.2.1 j hj tgj
    have hb : ∀ i, i < 60 → i ≠ k → (g1 1166 i = 0 ∨ g1 1166 i = 1) ∧ (g1 1166 i = 1 → zrKy g1 i) := fun i hi _ => zqR_rbk h1 i hi
    have ec := fun Q9 => c42 (L := L) (M := M) (c := k) (num := k) (i := i) (j := j) (Q := Q9) hM (zqR_bk h) hk hk (h.2.2.2.2.2.2.2.2.1 k hk) hi hj ik jk (by omega) (by omega) (zqE_sw hEi hOi) (zqE_sw hEj hOj)
    have er := fun Q9 => c206 (L := L) (M := zwI N g1) (s := k) (w := N.2.1 1161 (4 * k)) (a := i) (b := j) (Q := Q9) hN hb hk hi hj (fun e => ik e.symm) (fun e => jk e.symm) (zqO_sw hOi) (zqO_sw hOj)
    have e4 : M.2.1 (14 + 14 * i) 10 + M.2.1 (14 + 14 * j) 10 = g1 1174 i + g1 1174 j := by rw [hEi.2.1, hEj.2.1]
    by_cases d : g1 1174 i + g1 1174 j ≤ 4
    · have d2 : M.2.1 (14 + 14 * i) 10 + M.2.1 (14 + 14 * j) 10 ≤ 4 := by omega
      obtain ⟨a1, a2, a3, a4, a5⟩ := h1.2.1 i hi tgi
      generalize ef0 : zsb M.2.1 (14 + 14 * k) (M.2.1 (855 + 4 * k) 1) (M.2.1 (14 + 14 * i) 2) = f0
      have f0o : ∀ b j, (b ≠ 14 + 14 * k ∨ j = 1 ∨ j = 3 ∨ j = 4 ∨ 9 ≤ j) → f0 b j = M.2.1 b j := fun b j hb => by rw [← ef0]; exact zsb_o hb
      generalize eP : zu2 (zjmm f0 (14 + 14 * k) (14 + 14 * i) (14 + 14 * j) ((f0 (14 + 14 * i) 10).toNat + (f0 (14 + 14 * j) 10).toNat)) (14 + 14 * k) 9 (zjt (N.2.1 1161 (4 * k)) (f0 (14 + 14 * i) 9) (f0 (14 + 14 * j) 9) (f0 (14 + 14 * i) 10).toNat (2 ^ ((f0 (14 + 14 * i) 10).toNat + (f0 (14 + 14 * j) 10).toNat)) : Int) = P
      have eF : zjnf M.2.1 k k i j = zfnd P (14 + 14 * k) := by
        unfold zjnf zjoi
        rw [ef0, j8, eP]
      generalize eR : zrj0 g1 k i j (N.2.1 1161 (4 * k)) = R
      have eG : zrjo g1 k i j (N.2.1 1161 (4 * k)) = zrtp (zrnr R k (g1 1167 i) (g1 1168 i)) k := by
        unfold zrjo zrcm
        rw [eR]
      obtain ⟨cc, oo⟩ := zqjC (a := 0) (b := 0) ik jk (zqE_C hEi) hOi (zqE_C hEj) hOj d j8b (f0 := f0) (fun b j hb => f0o b j (Or.inl hb)) (fun b j hb => f0o b j (by omega)) eP eR
      have na4 : (f0 (14 + 14 * i) 10).toNat + (f0 (14 + 14 * j) 10).toNat ≤ 4 := by
        rw [f0o _ _ (by omega), f0o _ _ (by omega)]
        have a1 := hEi.2.1
        have a2 := hEj.2.1
        have a3 := hOi.1
        have a4 := hOj.1
        omega
      have Po : ∀ b j2, (b < 14 + 14 * k ∨ 28 + 14 * k ≤ b ∨ (b = 14 + 14 * k ∧ j2 ≠ 9 ∧ j2 ≠ 10)) → P b j2 = f0 b j2 := fun b j2 hb => by
        rw [← eP, zu2_sj (by omega)]
        unfold zjmm
        rw [zu2_sj (by omega), zjm_o _ _ _ _ _ na4 (by omega)]
      have Ro : ∀ b j2, (b < 1174 ∨ 1178 < b ∨ (b = 1174 ∧ j2 ≠ k) ∨ (b = 1175 ∧ j2 ≠ k) ∨ (b = 1176 ∧ ¬ (4 * k ≤ j2 ∧ j2 < 4 * k + 4)) ∨ ((b = 1177 ∨ b = 1178) ∧ ¬ (32 * k ≤ j2 ∧ j2 < 32 * k + 32))) → R b j2 = g1 b j2 := fun b j2 hb => by
        rw [← eR]
        by_cases q : b < 1174 ∨ 1178 < b
        · exact zrj0_o q
        · unfold zrj0
          rw [zu2_sj (by omega), zu2_sj (by omega)]
          by_cases q6 : b = 1176
          · subst q6
            exact zrjk_6 (by have := hOi.1; have := hOj.1; omega)
          · by_cases q7 : b = 1177 ∨ b = 1178
            · exact zrjk_p q7 (by omega)
            · exact zrjk_o (by omega)
      generalize eG1 : zrnr R k (g1 1167 i) (g1 1168 i) = G1 at *
      have nv := zrnr_v (g := R) (s := k) (l := g1 1167 i) (c := g1 1168 i)
      have no : ∀ b j, ((b ≠ 1166 ∧ b ≠ 1167 ∧ b ≠ 1168 ∧ b ≠ 1171 ∧ b ≠ 1172 ∧ b ≠ 1173 ∧ b ≠ 1180) ∨ j ≠ k) → G1 b j = R b j := fun b j hb => by rw [← eG1]; exact zrnr_o2 hb
      rw [eG1] at nv
      have eqR : zrEq G1 R k := ⟨no _ _ (by omega), no _ _ (by omega), fun p _ => no _ _ (by omega), fun j _ _ => ⟨no _ _ (by omega), no _ _ (by omega)⟩⟩
      have ee := zqE_fnd cc (zqO_P oo)
      have ee2 : zqE (zfnd P (14 + 14 * k)) G1 k := zqE_c (fun _ _ _ _ _ => rfl) eqR oo ee
      have oo2 := zqO_c eqR oo
      have Fo : ∀ b j2, (b < 14 + 14 * k ∨ 28 + 14 * k ≤ b ∨ (b = 14 + 14 * k ∧ j2 < 9)) → zfnd P (14 + 14 * k) b j2 = f0 b j2 := fun b j2 hb => by
        rw [zfnd_o (by omega), Po b j2 (by omega)]
      obtain ⟨u0, u5, u2, u6, u7, u8⟩ := zsb_v (f := M.2.1) (a := 14 + 14 * k) (h := M.2.1 (855 + 4 * k) 1) (c := M.2.1 (14 + 14 * i) 2)
      rw [ef0] at u0 u5 u2 u6 u7 u8
      have new := zqQ_new (l := g1 1167 i) h1 hk (F1 := zfnd P (14 + 14 * k)) (G1 := G1) (fun b j2 hb => (Fo b j2 (by omega)).trans (f0o b j2 (by omega))) (fun b j2 hb => by rw [no b j2 (by omega), Ro b j2 (by omega)]) ⟨(Fo _ _ (by omega)).trans u0, nv.1⟩ ⟨nv.2.1, a4⟩ (by
        rw [Fo _ _ (by omega), u2, nv.2.2.1]
        exact ⟨a2, a5⟩) (by
        rw [Fo _ _ (by omega), u5, nv.2.2.2.1, Ro _ _ (by omega), go _ _ (by omega)]
        exact jh) ⟨(Fo _ _ (by omega)).trans u6, (Fo _ _ (by omega)).trans u7, (Fo _ _ (by omega)).trans u8⟩ ⟨nv.2.2.2.2.1, nv.2.2.2.2.2.1, nv.2.2.2.2.2.2⟩ ⟨ee2, oo2⟩
      have new2 : zqR (k + 1) (zjnw M.2.1 k k i j) (zrjo g1 k i j (N.2.1 1161 (4 * k))) := by
        rw [eG]
        unfold zjnw
        rw [eF, a1]
        exact new
      refine ⟨zjnw M.2.1 k k i j, zrjo g1 k i j (N.2.1 1161 (4 * k)), (k : Int), 1, fun Q => c10_17 (v := (k : Int)) (M9 := zwI M (zjnw M.2.1 k k i j)) hM (zqR_01 h) hk hk hg j0 (fun Q9 => ?_), fun Q => c192_17y (v := 1) (M9 := zwI N (zrjo g1 k i j (N.2.1 1161 (4 * k)))) hN hk j1 (zqR_r01 h) hr (fun Q9 => ?_) (Or.inr rfl), fun b j2 hb => ?_, fun b j2 hb => ?_, fun j2 q1 q2 q3 => ?_, Or.inr ⟨rfl, by omega, ?_, new2⟩⟩
      · rw [ec]
        exact propext ⟨fun q => q.1 d2, fun q => ⟨fun _ => q, fun q2 => absurd d2 q2⟩⟩
      · rw [ei2, ej2]
        have := er Q9
        rw [← eg1] at this ⊢
        refine this.trans ?_
        rw [eg1]
        exact propext ⟨fun q => q.2 d, fun q => ⟨fun q2 => absurd d q2, fun _ => q⟩⟩
      · unfold zjnw zlay
        rw [zu2_sj (by omega), zu2_sj (by omega), zu2_sj (by omega), eF, Fo b j2 (by omega)]
        exact f0o b j2 (by omega)
      · rw [eG]
        unfold zrtp
        rw [zu2_sj (by omega), zu2_sj (by omega), no b j2 (by omega), Ro b j2 (by omega)]
        by_cases e : b = 1153
        · omega
        · exact go b j2 e
      · rw [eG]
        unfold zrtp
        rw [zu2_sj (by omega), zu2_sj (by omega), no _ j2 (by omega), Ro _ j2 (by omega)]
        exact go2 j2 q1 q2 q3
      · rw [eG]
        unfold zrtp
        rw [zu2_sj (by omega), zu2_sj (by omega), no _ _ (by omega), Ro _ _ (by omega)]
        exact g36
    · have d2 : ¬ (M.2.1 (14 + 14 * i) 10 + M.2.1 (14 + 14 * j) 10 ≤ 4) := by omega
      refine ⟨M.2.1, g1, -1, 0, fun Q => c10_17 (v := -1) (M9 := M) hM (zqR_01 h) hk hk hg j0 (fun Q9 => ?_), fun Q => c192_17y (v := 0) (M9 := zwI N g1) hN hk j1 (zqR_r01 h) hr (fun Q9 => ?_) (Or.inl rfl), fun _ _ _ => rfl, fun b j2 hb => go b j2 (by omega), go2, Or.inl ⟨rfl, rfl, h1⟩⟩
      · rw [ec]
        exact propext ⟨fun q => q.2 d2, fun q => ⟨fun q2 => absurd q2 d2, fun _ => q⟩⟩
      · rw [ei2, ej2]
        have := er Q9
        rw [← eg1] at this ⊢
        refine this.trans ?_
        rw [eg1]
        exact propext ⟨fun q => q.1 d, fun q => ⟨fun _ => q, fun q2 => absurd q2 d⟩⟩
  · refine zqS_no hM hk h (fun hg => c ?_) (fun Q => c192_17n (v := 0) (M9 := N) hN hk j1 (zqR_r01 h) (fun hr => c ?_))
    · unfold zgua at hg
      rw [j2, ei2, j3, ej2, Int.toNat_natCast, Int.toNat_natCast, ti, tj] at hg
      exact ⟨(hg.1.resolve_left (by omega)).2.2, (hg.2.resolve_left (by omega)).2.2⟩
    · rw [ei2, ej2] at hr
      have a := hr.1.2.2
      have b := hr.2.2.2
      rw [Int.toNat_natCast, zu2_a (by omega)] at a b
      exact ⟨a, b⟩
end ZJOINQ
