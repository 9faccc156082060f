/-! raised, in both programs: all four ways -/
section ZRAISED2Q
variable {n : Nat} {f g f' g' : Nat → Nat → Int} {s p : Nat}
/-- room between two places -/
theorem zqBp (hK : zqK n f g) {lo : Int} {hi a b : Nat} (hb : b < zrct g) (eb : zrod g b = (hi : Int)) (hh : zqth2 g hi) (hlo : lo = -1 ∨ (a < zrct g ∧ zrod g a = lo ∧ 0 ≤ lo ∧ zqth2 g lo.toNat)) (H : ∀ q v : Nat, q < zrct g → zrod g q = (v : Int) → v ≠ s → g 1167 v = g 1167 s → (lo ≠ -1 ∧ q ≤ a) ∨ b ≤ q) : zqB g s lo hi := by
  intro i hi2 his hly
  obtain ⟨q, q1, q2⟩ := zqpl i hi2
  rcases H q i q1 q2 his hly with ⟨l0, e⟩ | e
  · obtain ⟨a1, a2, a3, a4⟩ := hlo.resolve_left l0
    refine Or.inl ⟨l0, ?_⟩
    by_cases c : q = a
    · subst c
      exact Or.inl (by omega)
    · have := zqso hK (show q < a by omega) a1
      rw [q2, a2, Int.toNat_natCast] at this
      exact Or.inr this
  · refine Or.inr ?_
    by_cases c : q = b
    · subst c
      exact Or.inl (by omega)
    · have := zqso hK (show b < q by omega) q1
      rw [q2, eb, Int.toNat_natCast, Int.toNat_natCast] at this
      exact Or.inr this
theorem zqBG {lo : Int} {hi : Nat} (h : zqB g s lo hi) : zqB (zrg g) s lo hi := by
  unfold zqB zqth2 at *
  rw [zrg_lt, show zrg g 1166 = g 1166 from funext fun j => zrg_o (by omega), show zrg g 1167 = g 1167 from funext fun j => zrg_o (by omega)]
  exact h
theorem zqLG {lo : Int} {hi : Nat} (h : zqLH g s lo hi) : zqLH (zrg g) s lo hi := by
  unfold zqLH zqth2 at *
  rw [show zrg g 1166 = g 1166 from funext fun j => zrg_o (by omega), show zrg g 1167 = g 1167 from funext fun j => zrg_o (by omega)]
  exact h
theorem zqR_zrg (h : zqR n f g) : zqR n f (zrg g) := zqR_keep (fun _ _ _ _ _ _ _ => rfl) (zqR_ch h) (fun b j _ _ _ => zrg_o (by omega)) (zrg_o (by omega)) h
theorem zrbs_n {k : Int} (h : zrbs g p k < 0) : zrbs g p k = -1 := by
  have := zrbs_1 (f := g) (p := p) (by' := k)
  omega
/-- at the top of its own layer -/
theorem zqQ_top (h : zqR n f g) (hn : n < 60) (hs : zqth2 g s) : zqR (n + 1) (zlay f s (f (14 + 14 * s) 1)) (zrtp (zrg g) s) := by
  have hG := zqR_zrg h
  obtain ⟨a1, _, _, a4, _⟩ := h.2.1 s hs.1 hs.2
  have q := zqQ_layer (l := g 1167 s) (v := zrg g 1153 36) hG hs.1 hn ((zrg_o (by omega)).trans hs.2) a4
  rw [zu2_id (rfl : zrg g 1153 36 = zrg g 1153 36), zu2_id (show zrg g 1167 s = g 1167 s from zrg_o (by omega)), ← a1] at q
  exact q
theorem zfl_le {a b c d : Int} (hb : 1 ≤ b) (hd : 1 ≤ d) (h : a * d ≤ c * b) : a / b ≤ c / d := by
  by_cases e : a / b ≤ c / d
  · exact e
  · have h1 := Int.lt_ediv_add_one_mul_self c (show (0 : Int) < d by omega)
    have h2 : (c / d + 1) * b ≤ (a / b) * b := Int.mul_le_mul_of_nonneg_right (by omega) (by omega)
    have h3 := Int.ediv_mul_le a (show b ≠ 0 by omega)
    have h4 : c * b < ((c / d + 1) * d) * b := Int.mul_lt_mul_of_pos_right h1 (by omega)
    have h5 : ((c / d + 1) * b) * d ≤ a * d := Int.mul_le_mul_of_nonneg_right (by omega) (by omega)
    have h6 : ((c / d + 1) * d) * b = ((c / d + 1) * b) * d := by rw [Int.mul_assoc, Int.mul_comm d b, ← Int.mul_assoc]
    omega
theorem zqQ_raise (h : zqR n f g) (hn : n < 60) (hs : zqth2 g s) (hp : p < zrct g) (ep : zrod g p = (s : Int)) {w : Int} (hw : 0 ≤ w ∧ w ≤ 3) : zqR (n + 1) (zrai f s w) (zrri g s p w) := by
  have hK := h.2.2.1
  have hG := zqR_zrg h
  have up := zqup h hs hp ep
  have dn := zqdn h hs hp ep
  have none : zqR (n + 1) f (zrg g) := zqR_n hn hG
  have inj : ∀ q r : Nat, q < zrct g → r < zrct g → zrod g q = zrod g r → q = r := fun i j hi hj e => zord_inj _ _ _ 60 i j hi hj e
  rcases (show w = 0 ∨ w = 1 ∨ w = 2 ∨ w = 3 by omega) with e | e | e | e <;> subst e
  · -- above the next
    unfold zrai zrri
    rw [if_pos (rfl : (0 : Int) = 0)]
    by_cases c1 : zrbs g p 1 < 0
    · have u := zrbs_n c1
      have z : zraf f s 0 = -1 := by
        unfold zraf
        rw [if_neg (fun q => q.2 (up.trans u))]
      rw [if_pos c1, z, if_neg (fun q => q rfl), if_neg (fun q => q.2 (up.trans u)), if_neg (fun q => absurd q.1 (by omega)), if_neg (fun q => absurd q.1 (by omega))]
      exact none
    · obtain ⟨q, v, q1, q2, q3, q4, q5, q6, q7⟩ := zrbs_v (f := g) (p := p) (by' := 1) (by omega)
      have hv : zqth2 g v := ⟨q2, q4⟩
      have ly : g 1167 v = g 1167 s := by rw [q5, ep, Int.toNat_natCast]
      have eq1 : q = p + 1 := by omega
      have up2 := zqup h hv q1 q6
      have same : zrbs g q 1 = zrbs g p 2 := by
        unfold zrbs
        rw [q6, ep, Int.toNat_natCast, Int.toNat_natCast, ly, show (q : Int) + 1 = (p : Int) + 2 by omega]
      have z : zraf f s 0 = zrbs g p 2 := by
        unfold zraf
        rw [if_pos ⟨rfl, by omega⟩, up, q7, Int.toNat_natCast, up2, same]
      rw [if_neg c1, z]
      by_cases c2 : zrbs g p 2 < 0
      · have u2 := zrbs_n c2
        rw [if_pos c2, u2, if_neg (fun q => q rfl), if_pos ⟨Or.inl rfl, by omega⟩, q7, Int.toNat_natCast]
        have top := zqQ_top h hn hs
        have val : zrab (zrg g) s (zrg g 1167 s) 60 = g 1169 v / g 1170 v + 1 := by
          rw [show zrg g 1167 s = g 1167 s from zrg_o (by omega)]
          obtain ⟨m1, m2, m3⟩ := zrab_m (G := zrg g) (s := s) (l := g 1167 s) 60
          have o69 : ∀ i, zrg g 1169 i = g 1169 i := fun i => zrg_o (by omega)
          have o70 : ∀ i, zrg g 1170 i = g 1170 i := fun i => zrg_o (by omega)
          have o66 : ∀ i, zrg g 1166 i = g 1166 i := fun i => zrg_o (by omega)
          have o67 : ∀ i, zrg g 1167 i = g 1167 i := fun i => zrg_o (by omega)
          have vs : v ≠ s := fun e => by
            rw [e, ← ep] at q6
            have := inj _ _ q1 hp q6
            omega
          have lo := m2 v q2 vs (zrnl_iff.mpr ⟨by rw [o66]; exact q4, by rw [o67]; exact ly⟩)
          rw [o69, o70] at lo
          obtain ⟨_, _, ka, ⟨kb, _⟩, _⟩ := hK.1 v q2 q4
          have f0 : 0 ≤ g 1169 v / g 1170 v := Int.ediv_nonneg (by omega) (by omega)
          rcases m3 with m3 | ⟨i, i1, i2, i3, i4⟩
          · omega
          · obtain ⟨t1, t2⟩ := zrnl_iff.mp i3
            rw [o66] at t1
            rw [o67] at t2
            rw [o69, o70] at i4
            have hi : zqth2 g i := ⟨i1, t1⟩
            obtain ⟨_, _, _, ⟨kc, _⟩, _⟩ := hK.1 i i1 t1
            obtain ⟨r, r1, r2⟩ := zqpl i hi
            have rq : r ≤ q := by
              by_cases c : r ≤ q
              · exact c
              · obtain ⟨x, x1, x2⟩ := zqvl (g := g) (q := p + 2) (by omega)
                have l1 := zqly hK (show q ≤ p + 2 by omega) (by omega) q6 x2
                have l2 := zqly hK (show p + 2 ≤ r by omega) r1 x2 r2
                have : zrbs g p 2 = zrod g (p + 2) := by
                  unfold zrbs
                  rw [show ((p : Int) + 2).toNat = p + 2 by omega]
                  exact if_pos ⟨by omega, by omega, by rw [x2, ep, Int.toNat_natCast, Int.toNat_natCast]; omega⟩
                omega
            have le : g 1169 i * g 1170 v ≤ g 1169 v * g 1170 i := by
              by_cases c : r = q
              · subst c
                have : i = v := by omega
                subst this
                exact Int.le_refl _
              · have := zqso hK (show r < q by omega) q1
                rw [r2, q6, Int.toNat_natCast, Int.toNat_natCast, zrlt_iff] at this
                omega
            have := zfl_le kc kb le
            omega
        unfold zrtp at top
        rw [val] at top
        exact top
      · obtain ⟨r, x, r1, r2, r3, r4, r5, r6, r7⟩ := zrbs_v (f := g) (p := p) (by' := 2) (by omega)
        have ly2 : g 1167 x = g 1167 s := by rw [r5, ep, Int.toNat_natCast]
        rw [if_neg c2, if_pos (by omega), up, q7, r7, Int.toNat_natCast]
        refine zqR_n hn (zqQ_put hG hn ⟨hs.1, (zrg_o (by omega)).trans hs.2⟩ (zqLG ⟨Or.inr ⟨by omega, by rw [Int.toNat_natCast]; exact hv, by rw [Int.toNat_natCast]; exact ly⟩, ⟨r2, r4⟩, ly2⟩) (zqBG (zqBp hK (a := q) (b := r) r1 r6 ⟨r2, r4⟩ (Or.inr ⟨q1, q6, by omega, by rw [Int.toNat_natCast]; exact hv⟩) (fun t u t1 t2 t3 t4 => ?_))))
        omega
  · -- below the next
    unfold zrai zrri
    have z : zraf f s 1 = -1 := by
      unfold zraf
      rw [if_neg (fun q => absurd q.1 (by omega))]
    rw [if_neg (show ¬ (1 : Int) = 0 by omega), if_pos (rfl : (1 : Int) = 1), z, if_neg (fun q => q rfl), if_neg (fun q => absurd q.1 (by omega))]
    by_cases c1 : zrbs g p (-1) < 0
    · have u := zrbs_n c1
      rw [if_pos c1, if_neg (fun q => q.2 (dn.trans u)), if_neg (fun q => absurd q.1 (by omega))]
      exact none
    · obtain ⟨q, v, q1, q2, q3, q4, q5, q6, q7⟩ := zrbs_v (f := g) (p := p) (by' := -1) (by omega)
      have hv : zqth2 g v := ⟨q2, q4⟩
      have ly : g 1167 v = g 1167 s := by rw [q5, ep, Int.toNat_natCast]
      have dn2 := zqdn h hv q1 q6
      have same : zrbs g q (-1) = zrbs g p (-2) := by
        unfold zrbs
        rw [q6, ep, Int.toNat_natCast, Int.toNat_natCast, ly, show (q : Int) + -1 = (p : Int) + -2 by omega]
      rw [if_neg c1, if_pos ⟨rfl, by omega⟩, dn, q7, Int.toNat_natCast, dn2, same]
      by_cases c2 : zrbs g p (-2) < 0
      · have u2 := zrbs_n c2
        rw [u2]
        refine zqR_n hn (zqQ_put hG hn ⟨hs.1, (zrg_o (by omega)).trans hs.2⟩ (zqLG ⟨Or.inl rfl, hv, ly⟩) (zqBG (zqBp hK (a := 0) (b := q) q1 q6 hv (Or.inl rfl) (fun t u t1 t2 t3 t4 => ?_))))
        refine Or.inr ?_
        by_cases c : q ≤ t
        · exact c
        · obtain ⟨x, x1, x2⟩ := zqvl (g := g) (q := p - 2) (by omega)
          have l1 := zqly hK (show t ≤ p - 2 by omega) (by omega) t2 x2
          have l2 := zqly hK (show p - 2 ≤ q by omega) q1 x2 q6
          have : zrbs g p (-2) = zrod g (p - 2) := by
            unfold zrbs
            rw [show ((p : Int) + -2).toNat = p - 2 by omega]
            exact if_pos ⟨by omega, by omega, by rw [x2, ep, Int.toNat_natCast, Int.toNat_natCast]; omega⟩
          omega
      · obtain ⟨r, x, r1, r2, r3, r4, r5, r6, r7⟩ := zrbs_v (f := g) (p := p) (by' := -2) (by omega)
        have ly2 : g 1167 x = g 1167 s := by rw [r5, ep, Int.toNat_natCast]
        rw [r7]
        refine zqR_n hn (zqQ_put hG hn ⟨hs.1, (zrg_o (by omega)).trans hs.2⟩ (zqLG ⟨Or.inr ⟨by omega, by rw [Int.toNat_natCast]; exact ⟨r2, r4⟩, by rw [Int.toNat_natCast]; exact ly2⟩, hv, ly⟩) (zqBG (zqBp hK (a := r) (b := q) q1 q6 hv (Or.inr ⟨r1, r6, by omega, by rw [Int.toNat_natCast]; exact ⟨r2, r4⟩⟩) (fun t u t1 t2 t3 t4 => ?_))))
        omega
  · -- to the top
    unfold zrai zrri
    have z : zraf f s 2 = -1 := by
      unfold zraf
      rw [if_neg (fun q => absurd q.1 (by omega))]
    rw [if_neg (show ¬ (2 : Int) = 0 by omega), if_neg (show ¬ (2 : Int) = 1 by omega), if_pos (rfl : (2 : Int) = 2), z, if_neg (fun q => q rfl)]
    by_cases c1 : zrbs g p 1 < 0
    · have u := zrbs_n c1
      rw [if_pos c1, if_neg (fun q => q.2 (up.trans u)), if_neg (fun q => absurd q.1 (by omega)), if_neg (fun q => absurd q.1 (by omega))]
      exact none
    · rw [if_neg c1, if_pos ⟨Or.inr rfl, by omega⟩]
      exact zqQ_top h hn hs
  · -- to the bottom
    unfold zrai zrri
    have z : zraf f s 3 = -1 := by
      unfold zraf
      rw [if_neg (fun q => absurd q.1 (by omega))]
    rw [if_neg (show ¬ (3 : Int) = 0 by omega), if_neg (show ¬ (3 : Int) = 1 by omega), if_neg (show ¬ (3 : Int) = 2 by omega), z, if_neg (fun q => q rfl), if_neg (fun q => absurd q.1 (by omega)), if_neg (fun q => absurd q.1 (by omega))]
    by_cases c1 : zrbs g p (-1) < 0
    · have u := zrbs_n c1
      rw [if_pos c1, if_neg (fun q => q.2 (dn.trans u))]
      exact none
    · obtain ⟨q, v, q1, q2, q3, q4, q5, q6, q7⟩ := zrbs_v (f := g) (p := p) (by' := -1) (by omega)
      have ly : g 1167 v = g 1167 s := by rw [q5, ep, Int.toNat_natCast]
      have eq1 : q = p - 1 := by omega
      have el : f (14 + 14 * s) 1 = g 1167 s := (h.2.1 s hs.1 hs.2).1
      have lo := zqlo h q1 (l := g 1167 s) (by rw [q6, Int.toNat_natCast]; exact ly)
      rw [if_neg c1, if_pos ⟨rfl, by omega⟩, el, lo, ← eq1]
      obtain ⟨z1, z2, z3⟩ := zrlq_p (g := g) q
      generalize zrlq g q = zz at *
      obtain ⟨x, x1, x2⟩ := zqvl (g := g) (q := zz) (by omega)
      rw [x2, q6, Int.toNat_natCast, Int.toNat_natCast] at z2
      rw [x2, Int.toNat_natCast]
      refine zqR_n hn (zqQ_put hG hn ⟨hs.1, (zrg_o (by omega)).trans hs.2⟩ (zqLG ⟨Or.inl rfl, x1, by omega⟩) (zqBG (zqBp hK (a := 0) (b := zz) (by omega) x2 x1 (Or.inl rfl) (fun t u t1 t2 t3 t4 => ?_))))
      refine Or.inr ?_
      by_cases c : zz ≤ t
      · exact c
      · rcases z3 with z3 | z3
        · omega
        · obtain ⟨y, y1, y2⟩ := zqvl (g := g) (q := zz - 1) (by omega)
          have l1 := zqly hK (show t ≤ zz - 1 by omega) (by omega) t2 y2
          have l2 := zqly hK (show zz - 1 ≤ zz by omega) (by omega) y2 x2
          rw [x2, y2, Int.toNat_natCast, Int.toNat_natCast] at z3
          omega
theorem zrnm_f {F : Nat → Nat → Int} {l : Int} {o : Nat → Int} {c b j : Nat} (ho : ∀ i, i < c → (o i).toNat < 60) (h : b < 14 ∨ 854 ≤ b) : ∀ i, i ≤ c → zrnm F l o i b j = F b j
  | 0, _ => rfl
  | i + 1, hi => by
    have ih := zrnm_f (F := F) (l := l) (j := j) ho h i (by omega)
    have := ho i (by omega)
    rw [zrnm_s]
    split
    · rw [zu2_sj (by omega), zu2_sj (by omega), ih]
    · exact ih
theorem zrai_f {w : Int} {b j : Nat} (hs : s < 60) (h : b < 3 ∨ 854 ≤ b) : zrai f s w b j = f b j := by
  have fw : ∀ (G : Nat → Nat → Int) (lo : Int) (hi : Nat), zfkw G s lo hi b j = G b j := fun G lo hi => by
    unfold zfkw
    split
    · rfl
    · rw [zu2_sj (by omega), zu2_sj (by omega)]
  have pt : ∀ (lo : Int) (hi : Nat), zput f s lo hi b j = f b j := fun lo hi => by
    unfold zput
    split
    · rw [fw]
      unfold zrnw
      rw [zrnm_f (c := zcnt (zcth f) 60) (fun i hi => ?_) (by omega) _ (Nat.le_refl _)]
      · exact zua_o (by omega) _ _
      · obtain ⟨v, v1, v2, v3⟩ := zord_v (zclt f) (zcth f) (f 5) 60 i hi
        omega
    · rw [fw]
  unfold zrai
  split
  · exact pt _ _
  · split
    · unfold zlay
      rw [zu2_sj (by omega), zu2_sj (by omega), zu2_sj (by omega)]
    · split
      · exact pt _ _
      · split
        · exact pt _ _
        · rfl
theorem zrri_o {w : Int} {b j : Nat} (h : b ≠ 1169 ∧ b ≠ 1170 ∧ b ≠ 1184 ∧ (b ≠ 1153 ∨ j ≠ 38)) : zrri g s p w b j = g b j := by
  have o : zrg g b j = g b j := zrg_o ⟨h.2.2.1, h.2.2.2⟩
  have fw : ∀ (G : Nat → Nat → Int) (lo : Int) (hi : Nat), zrfw G s lo hi b j = G b j := fun G lo hi => by
    unfold zrfw
    split
    · rfl
    · rw [zu2_a (by omega), zu2_a (by omega)]
  have pt : ∀ (lo : Int) (hi : Nat), zrpt (zrg g) s lo hi b j = g b j := fun lo hi => by
    unfold zrpt
    split
    · rw [fw]
      unfold zrrw
      rw [zrrm_o _ _ _ (by omega)]
      rw [zrg_o ⟨h.2.2.1, h.2.2.2⟩]
      exact o
    · rw [fw]; exact o
  have tp : zrtp (zrg g) s b j = g b j := by
    unfold zrtp
    rw [zu2_a (by omega), zu2_a (by omega)]
    exact o
  unfold zrri
  repeat' split
  · exact o
  · rw [zu2_a (by omega), zu2_a (by omega)]
    exact o
  · exact pt _ _
  · exact o
  · exact pt _ _
  · exact o
  · exact tp
  · exact o
  · exact pt _ _
variable {L k : Nat} {M N : zM}
theorem zqS_7 (hM : zLay M.2.2.2) (hN : zLay N.2.2.2) (hk : k < 60) (h : zqR k M.2.1 N.2.1) (hj : zqJ1 M N k 7) (h8 : M.2.1 (855 + 4 * k) 8 = N.2.1 1161 (4 * k + 1) ∧ 0 ≤ N.2.1 1161 (4 * k + 1) ∧ N.2.1 1161 (4 * k + 1) ≤ 3) : zqS L k M N := by
  obtain ⟨⟨j0, j1⟩, j2, j3⟩ := hj
  rcases zqS_sh (L := L) hM hN hk h j2 (Or.inl j3) (by omega) with no | ⟨s, hs, e2, e4, ht, hg, e⟩
  · exact no
  · have h1 := zqR_g1 (k := k) h
    have j1g : zqg1 N.2.1 k 1158 k = 7 := (zqg1_o (by omega)).trans j1
    have go : ∀ b j, (b < 1153 ∨ (1154 ≤ b ∧ b < 1166) ∨ 1189 ≤ b) → zqg1 N.2.1 k b j = N.2.1 b j := fun b j hb => zqg1_o (by omega)
    have go2 : ∀ j, j ≠ 33 → j ≠ 36 → j ≠ 38 → zqg1 N.2.1 k 1153 j = N.2.1 1153 j := fun j _ h2 _ => zu2_i h2 _ _ _ _
    have ts : zqg1 N.2.1 k 1166 s = 1 := (zqg1_o (by omega)).trans ht
    generalize edx : N.2.1 1161 (4 * k + 1) = w at *
    obtain ⟨h8, hw⟩ := h8
    generalize eg1 : zqg1 N.2.1 k = g1 at *
    have th : zqth2 g1 s := ⟨hs, ts⟩
    obtain ⟨p, hp, ep⟩ := zqpl s th
    have r := zqQ_raise h1 hk th hp ep hw
    have bk2 := zqR_bk r
    have ec := fun Q9 => c25 (L := L) (M := M) (w := w) (Q := Q9) hM (zqR_bk h) hs (by rw [zqR_t h hs]; exact ht) hw bk2
    have er := fun Q9 => c218 (L := L) (M := zwI N g1) (s := s) (p := p) (w := w) (Q := Q9) hN (zqR_rbk h1) hs hp ep hw
    have tr : zrri g1 s p w 1166 s = 1 := (zrri_o (by omega)).trans ts
    have er2 := fun Q9 => c225 (L := L) (M := zwI N (zrri g1 s p w)) (s := s) (Q := Q9) hN (zqR_rbk r) hs tr
    refine ⟨zrai M.2.1 s w, zu2 (zrri g1 s p w) 1153 36 (zcnt (zrbl (zrri g1 s p w) s) 60 : Int), (zcnt (zcbl (zrai M.2.1 s w) s) 60 : Int), 1, fun Q => c10_7 (v := (zcnt (zcbl (zrai M.2.1 s w) s) 60 : Int)) (M9 := zwI M (zrai M.2.1 s w)) hM (zqR_01 h) hk hk hg j0 hs e2 (fun Q9 => by rw [h8]; exact ec Q9), e 1 _ (Or.inr rfl) (fun Q9 => c208_7 (a := (zcnt (zrbl (zrri g1 s p w) s) 60 : Int)) (x := 0) (M9 := zwI N (zrri g1 s p w)) (M10 := zwI N (zrri g1 s p w)) (M := zwI N g1) hN hk hs j1g er er2), fun b j hb => ?_, fun b j hb => ?_, fun j q1 q2 q3 => ?_, Or.inr ⟨rfl, by omega, ?_, zqR_36 r⟩⟩
    · exact zrai_f hs (by omega)
    · rw [zu2_sj (by omega), zrri_o (by omega)]
      exact go b j hb
    · rw [zu2_sj (by omega), zrri_o (by omega)]
      exact go2 j q1 q2 q3
    · rw [zu2_eq]
      refine congrArg (fun u : Nat => (u : Int)) ?_
      refine zcnt_cong _ _ 60 (fun i hi => ?_)
      have tr2 : zqth2 (zrri g1 s p w) s := ⟨hs, tr⟩
      rw [Bool.eq_iff_iff, zqbl r tr2 hi]
      unfold zrbl
      rw [Bool.and_eq_true, zrnl_iff]
      exact ⟨fun q => ⟨⟨hi, q.1.1⟩, q.1.2, q.2⟩, fun q => ⟨⟨q.1.2, q.2.1⟩, q.2.2⟩⟩
end ZRAISED2Q
