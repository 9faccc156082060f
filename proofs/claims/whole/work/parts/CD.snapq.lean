/-! moves and snaps, one change each -/
section ZSNAPQ
variable {n : Nat} {f g f' g' : Nat → Nat → Int} {i s : Nat}
theorem zqR_36 {v : Int} (h : zqR n f g) : zqR n f (zu2 g 1153 36 v) := zqR_keep (fun _ _ _ _ _ _ _ => rfl) (zqR_ch h) (fun b j h1 h2 _ => zu2_sj (by omega)) (zu2_sj (by omega)) h
theorem zqmo (h : zqR n f g) {cb : Nat → Bool} (hi : i < 60) (hb : cb i = true → g 1166 i = 1) (hz : zmo (g 1172) cb 61 (i : Int) = true) : zrSw g i := by
  by_cases ti : g 1166 i = 1
  · exact zqO_sw (h.2.2.2.2.2.2.2.1 i hi ti).2
  · have z := zqnot (dx := 0) (dy := 0) h hi ti hb
    have e0 : zrlm g cb 0 0 1185 i = if zmo (g 1172) cb 61 (i : Int) = true then 1 else 0 := by
      unfold zrlm
      rw [zmv_1]
      exact if_pos hi
    rw [e0, hz, if_pos rfl] at z
    exact absurd z (by decide)
theorem zqR_chs {fl : Int} (h : zqR n f g) : zqR n (zchs f s fl) g := zqR_keep (fun b j _ h8 _ _ _ => zchs_o h8 _) (fun j hj => zchs_8 hj) (fun _ _ _ _ _ => rfl) rfl h
theorem zrmv_o {cb : Nat → Bool} {dx dy : Int} {b j : Nat} (h : b < 1177 ∨ 1189 ≤ b) : zrmv g cb dx dy b j = g b j := by
  unfold zrmv
  rw [zrmf_o (by omega), zrlm_o (by omega)]
variable {L k : Nat} {M N : zM}
theorem zqS_2 (hM : zLay M.2.2.2) (hN : zLay N.2.2.2) (hk : k < 60) (h : zqR k M.2.1 N.2.1) (hj : zqJ1 M N k 2) (h6 : M.2.1 (855 + 4 * k) 6 = N.2.1 1161 (4 * k + 1) ∧ -60 ≤ N.2.1 1161 (4 * k + 1) ∧ N.2.1 1161 (4 * k + 1) ≤ 60) (h7 : M.2.1 (855 + 4 * k) 7 = N.2.1 1161 (4 * k + 2) ∧ -60 ≤ N.2.1 1161 (4 * k + 2) ∧ N.2.1 1161 (4 * k + 2) ≤ 60) (h9 : M.2.1 (855 + 4 * k) 9 = N.2.1 1161 (4 * k + 3) ∧ (N.2.1 1161 (4 * k + 3) = 0 ∨ N.2.1 1161 (4 * k + 3) = 1)) : zqS L k M N := by
  obtain ⟨⟨j0, j1⟩, j2, j3⟩ := hj
  rcases zqS_sh (L := L) hM hN hk h j2 (Or.inl j3) (by omega) with no | ⟨s, hs, e2, e4, ht, hg, e⟩
  · exact no
  · have h1 := zqR_g1 (k := k) h
    have j1g : zqg1 N.2.1 k 1158 k = 2 := (zqg1_o (by omega)).trans j1
    have d2 : zqg1 N.2.1 k 1161 (4 * k + 2) = N.2.1 1161 (4 * k + 2) := zqg1_o (by omega)
    have d3 : zqg1 N.2.1 k 1161 (4 * k + 3) = N.2.1 1161 (4 * k + 3) := zqg1_o (by omega)
    generalize edx : N.2.1 1161 (4 * k + 1) = dx at *
    generalize edy : N.2.1 1161 (4 * k + 2) = dy at *
    generalize efl : N.2.1 1161 (4 * k + 3) = fl at *
    have go : ∀ b j, (b < 1153 ∨ (1154 ≤ b ∧ b < 1166) ∨ 1189 ≤ b) → zqg1 N.2.1 k b j = N.2.1 b j := fun b j hb => zqg1_o (by omega)
    have go2 : ∀ j, j ≠ 33 → j ≠ 36 → j ≠ 38 → zqg1 N.2.1 k 1153 j = N.2.1 1153 j := fun j _ h2 _ => zu2_i h2 _ _ _ _
    have ts : zqg1 N.2.1 k 1166 s = 1 := (zqg1_o (by omega)).trans ht
    generalize eg1 : zqg1 N.2.1 k = g1 at *
    have hx : ∃ x : Int64, (∀ Q9 : zO → zM → Prop, zFR (zK L) 211 0 (zcall 211 [.inr (.inr 1153), .inl (s : Int), .inl fl]) [] (zwI N g1) Q9 = Q9 (.inl (some (.inr (.inl x)))) (zwI N g1)) ∧ (∀ j, j < 60 → (zchs M.2.1 s fl 8 j ≠ 0 ↔ zbt x j = true)) ∧ ∀ j, j < 60 → zbt x j = true → g1 1166 j = 1 := by
      have c := fun Q9 => c211 (L := L) (M := zwI N g1) (s := s) (a := fl) (Q := Q9) hN hs (zqR_rG h1) (zqR_r01 h1)
      rcases h9.2 with q | q <;> subst q
      · refine ⟨zsts (zrtg g1 s) 60, fun Q9 => ?_, fun j hj => zqch1 h1 hs ts hj, fun j hj hb => ?_⟩
        · have := c Q9
          rw [if_pos rfl] at this
          exact this
        · rw [zbt_sts _ 60 (by omega), Bool.and_eq_true] at hb
          have := hb.2
          unfold zrtg at this
          rw [decide_eq_true_iff] at this
          exact this.1
      · refine ⟨Int64.ofInt 1 <<< ((Int32.ofInt (s : Int)).toInt64 &&& 63), fun Q9 => ?_, fun j hj => zqch0 h1 hs ts (by omega) hj, fun j hj hb => ?_⟩
        · have := c Q9
          rw [if_neg (by omega)] at this
          exact this
        · rw [zbt_one (by omega), decide_eq_true_iff] at hb
          rw [hb]; exact ts
    obtain ⟨x, x1, x2, x3⟩ := hx
    obtain ⟨F, v, m1, m2, m3⟩ := zqmove (L := L) (M := zwI M (zchs M.2.1 s fl)) (N := zwI N g1) hM hN hk (zqR_chs h1) (zMv_chs (zqR_mw h)) x2 x3 (dx := dx) (dy := dy) (by omega) (by omega)
    have ec := fun Q9 => zc16 (L := L) (M := M) (M9 := zwI M F) (v := v) (Q := Q9) hM (zqR_gr h) (zqR_mw h) hk hs e2 h6.1 h7.1 h9.1 m1
    have fF : ∀ b j, (b < 3 ∨ 854 ≤ b) → F b j = M.2.1 b j := fun b j hb => (m2 b j hb).trans (zchs_o (by omega) _)
    have er := fun Q8 => c213 (L := L) (M := zwI N g1) (x := x) (dx := dx) (dy := dy) (Q := Q8) hN (zqR_rld h1) (zqR_ne h1) (by omega) (by omega) (fun i hi hz => zqmo h1 hi (x3 i hi) hz)
    rcases m3 with ⟨c, v0, v1, r⟩ | ⟨c, v1, r⟩
    · have er2 : ∀ Q8 : zO → zM → Prop, zFR (zK L) 213 0 (zcall 213 [.inr (.inr 1153), .inr (.inl x), .inl dx, .inl (g1 1161 (4 * k + 2))]) [] (zwI N g1) Q8 = Q8 (.inl (some (.inl (zcnt (zrmc (zrlm g1 (zbt x) dx dy)) 60 : Int)))) (zwI N (zrmv g1 (zbt x) dx dy)) := fun Q8 => by
        rw [d2]
        refine (er Q8).trans ?_
        exact propext ⟨fun q => q.1 c, fun q => ⟨fun _ => q, fun q2 => absurd c q2⟩⟩
      refine ⟨F, zu2 (zrmv g1 (zbt x) dx dy) 1153 36 (zcnt (zrmc (zrlm g1 (zbt x) dx dy)) 60 : Int), v, 1, fun Q => c10_2 (v := v) (M9 := zwI M F) hM (zqR_01 h) hk hk hg j0 ec, e 1 _ (Or.inr rfl) (fun Q9 => ?_), fF, fun b j hb => ?_, fun j j1 j2 j3 => ?_, Or.inr ⟨rfl, v0, ?_, zqR_n hk (zqR_36 r)⟩⟩
      · rcases h9.2 with q | q
        · exact c208_2q (M10 := N) (M9 := zwI N (zrmv g1 (zbt x) dx dy)) (M := zwI N g1) hN hk hs j1g (by omega) (by show g1 1161 (4 * k + 3) ≠ 1; omega) (by rw [q] at x1; exact x1) er2
        · exact c208_2p (M10 := N) (M9 := zwI N (zrmv g1 (zbt x) dx dy)) (M := zwI N g1) hN hk hs j1g (by omega) (by show g1 1161 (4 * k + 3) = 1; omega) (by rw [q] at x1; exact x1) er2
      · rw [zu2_sj (by omega), zrmv_o (by omega)]
        exact go b j hb
      · rw [zu2_sj (by omega), zrmv_o (by omega)]
        exact go2 j j1 j2 j3
      · rw [zu2_eq, v1, zwI_I]
    · have er2 : ∀ Q8 : zO → zM → Prop, zFR (zK L) 213 0 (zcall 213 [.inr (.inr 1153), .inr (.inl x), .inl dx, .inl (g1 1161 (4 * k + 2))]) [] (zwI N g1) Q8 = Q8 (.inl (some (.inl (-1)))) (zwI N (zrlm g1 (zbt x) dx dy)) := fun Q8 => by
        rw [d2]
        refine (er Q8).trans ?_
        exact propext ⟨fun q => q.2 c, fun q => ⟨fun q2 => absurd q2 c, fun _ => q⟩⟩
      refine ⟨F, zu2 (zrlm g1 (zbt x) dx dy) 1153 36 (-1), v, 0, fun Q => c10_2 (v := v) (M9 := zwI M F) hM (zqR_01 h) hk hk hg j0 ec, e 0 _ (Or.inl rfl) (fun Q9 => ?_), fF, fun b j hb => ?_, fun j j1 j2 j3 => ?_, Or.inl ⟨rfl, v1, zqR_36 r⟩⟩
      · rcases h9.2 with q | q
        · exact c208_2m (M10 := N) (M9 := zwI N (zrlm g1 (zbt x) dx dy)) (M := zwI N g1) hN hk hs j1g (by omega) (by show g1 1161 (4 * k + 3) ≠ 1; omega) (by rw [q] at x1; exact x1) er2
        · exact c208_2n (M10 := N) (M9 := zwI N (zrlm g1 (zbt x) dx dy)) (M := zwI N g1) hN hk hs j1g (by omega) (by show g1 1161 (4 * k + 3) = 1; omega) (by rw [q] at x1; exact x1) er2
      · rw [zu2_sj (by omega), zrlm_o (by omega)]
        exact go b j hb
      · rw [zu2_sj (by omega), zrlm_o (by omega)]
        exact go2 j j1 j2 j3
-- the pull of the guides, in both programs
theorem znr_sp {v p : Int} (hp : ∀ i : Nat, i < n → 0 ≤ f 13 i) : ∀ k : Nat, k ≤ n → (znr f v p k = -1 ∧ ∀ i, i < k → f 12 i ≠ v) ∨ ((∃ i, i < k ∧ f 12 i = v ∧ f 13 i = znr f v p k) ∧ ∀ i, i < k → f 12 i = v → (((znr f v p k - p).natAbs : Int) < ((f 13 i - p).natAbs : Int) ∨ (((znr f v p k - p).natAbs : Int) = ((f 13 i - p).natAbs : Int) ∧ znr f v p k ≤ f 13 i)))
  | 0, _ => Or.inl ⟨rfl, fun i h => absurd h (Nat.not_lt_zero i)⟩
  | k + 1, hk => by
    have ih := znr_sp (v := v) (p := p) hp k (by omega)
    have pk := hp k (by omega)
    rw [znr_s]
    generalize znr f v p k = r at *
    by_cases c1 : f 12 k = v
    · rcases ih with ⟨a, b⟩ | ⟨⟨i0, a1, a2, a3⟩, b⟩
      · rw [if_pos ⟨c1, Or.inl a⟩]
        refine Or.inr ⟨⟨k, by omega, c1, rfl⟩, fun i hi hv => ?_⟩
        by_cases e : i = k
        · subst e; exact Or.inr ⟨rfl, Int.le_refl _⟩
        · exact absurd hv (b i (by omega))
      · by_cases c2 : znd f p r k < 0 ∨ (znd f p r k = 0 ∧ f 13 k < r)
        · rw [if_pos ⟨c1, Or.inr c2⟩]
          unfold znd at c2
          refine Or.inr ⟨⟨k, by omega, c1, rfl⟩, fun i hi hv => ?_⟩
          by_cases e : i = k
          · subst e; exact Or.inr ⟨rfl, Int.le_refl _⟩
          · have := b i (by omega) hv
            omega
        · have r0 := hp i0 (by omega)
          rw [if_neg (fun q => by
            rcases q.2 with q | q
            · omega
            · exact c2 q)]
          unfold znd at c2
          refine Or.inr ⟨⟨i0, by omega, a2, a3⟩, fun i hi hv => ?_⟩
          by_cases e : i = k
          · subst e; omega
          · exact b i (by omega) hv
    · rw [if_neg (fun q => c1 q.1)]
      rcases ih with ⟨a, b⟩ | ⟨⟨i0, a1, a2, a3⟩, b⟩
      · refine Or.inl ⟨a, fun i hi => ?_⟩
        by_cases e : i = k
        · subst e; exact c1
        · exact b i (by omega)
      · refine Or.inr ⟨⟨i0, by omega, a2, a3⟩, fun i hi hv => ?_⟩
        by_cases e : i = k
        · subst e; exact absurd hv c1
        · exact b i (by omega) hv
theorem zrpk_sp {u : Int} {m : Nat} {a : Int} {b : Int × Int} : ∀ k : Nat, (zrpk g u m a b k = b ∧ ∀ j : Nat, j < k → zrhg g u (j : Int) m = true → b.1 ≤ (((j : Int) - a).natAbs : Int)) ∨ ∃ j : Nat, j < k ∧ zrhg g u (j : Int) m = true ∧ zrpk g u m a b k = ((((j : Int) - a).natAbs : Int), (j : Int) - a) ∧ (((j : Int) - a).natAbs : Int) < b.1 ∧ ∀ j2 : Nat, j2 < k → zrhg g u (j2 : Int) m = true → ((((j : Int) - a).natAbs : Int) < (((j2 : Int) - a).natAbs : Int) ∨ ((((j : Int) - a).natAbs : Int) = (((j2 : Int) - a).natAbs : Int) ∧ j ≤ j2))
  | 0 => Or.inl ⟨rfl, fun j h => absurd h (Nat.not_lt_zero j)⟩
  | k + 1 => by
    rw [zrpk_s]
    rcases zrpk_sp (u := u) (m := m) (a := a) (b := b) k with ⟨e, h⟩ | ⟨j, j1, j2, e, j3, j4⟩
    · rw [e]
      by_cases c : zrhg g u (k : Int) m = true ∧ (((k : Int) - a).natAbs : Int) < b.1
      · rw [if_pos c]
        refine Or.inr ⟨k, by omega, c.1, rfl, c.2, fun j2 hj hb => ?_⟩
        by_cases e2 : j2 = k
        · subst e2; exact Or.inr ⟨rfl, Nat.le_refl _⟩
        · have := h j2 (by omega) hb
          omega
      · rw [if_neg c]
        refine Or.inl ⟨rfl, fun j hj hb => ?_⟩
        by_cases e2 : j = k
        · subst e2
          by_cases c2 : (((j : Int) - a).natAbs : Int) < b.1
          · exact absurd ⟨hb, c2⟩ c
          · omega
        · exact h j (by omega) hb
    · rw [e]
      by_cases c : zrhg g u (k : Int) m = true ∧ (((k : Int) - a).natAbs : Int) < (((j : Int) - a).natAbs : Int)
      · rw [if_pos c]
        refine Or.inr ⟨k, by omega, c.1, rfl, by omega, fun j5 hj hb => ?_⟩
        by_cases e2 : j5 = k
        · subst e2; exact Or.inr ⟨rfl, Nat.le_refl _⟩
        · have := j4 j5 (by omega) hb
          omega
      · rw [if_neg c]
        refine Or.inr ⟨j, by omega, j2, rfl, j3, fun j5 hj hb => ?_⟩
        by_cases e2 : j5 = k
        · subst e2
          by_cases c2 : (((j5 : Int) - a).natAbs : Int) < (((j : Int) - a).natAbs : Int)
          · exact absurd ⟨hb, c2⟩ c
          · omega
        · exact j4 j5 (by omega) hb
/-- one side -/
theorem zqside (h : zqR n f g) {m : Nat} (hm : g 1153 33 = (m : Int)) {u a : Int} {b : Int × Int} (hb6 : b.1 ≤ 6) : (if znr f u a (f 11 0).toNat ≠ -1 ∧ ((znr f u a (f 11 0).toNat - a).natAbs : Int) < b.1 then (((znr f u a (f 11 0).toNat - a).natAbs : Int), znr f u a (f 11 0).toNat - a) else b) = zrpk g u m a b 61 := by
  obtain ⟨d1, d2, d3⟩ := h.2.2.2.2.2.2.1
  have e0 : (f 11 0).toNat = m := by omega
  rw [e0]
  have sp := znr_sp (f := f) (n := m) (v := u) (p := a) (fun i hi => by
    obtain ⟨c1, c2, c3, c4, c5⟩ := d3 i (by omega)
    omega) m (Nat.le_refl _)
  have gd : ∀ j : Nat, zrhg g u (j : Int) m = true ↔ ∃ i, i < m ∧ f 12 i = u ∧ f 13 i = (j : Int) := fun j => by
    rw [zrhg_iff]
    constructor
    · rintro ⟨i, h1, h2, h3⟩
      obtain ⟨c1, c2, _⟩ := d3 i (by omega)
      exact ⟨i, h1, by omega, by omega⟩
    · rintro ⟨i, h1, h2, h3⟩
      obtain ⟨c1, c2, _⟩ := d3 i (by omega)
      exact ⟨i, h1, by omega, by omega⟩
  have hp : ∀ i, i < m → 0 ≤ f 13 i ∧ f 13 i ≤ 60 := fun i hi => by
    obtain ⟨c1, c2, c3, c4, c5⟩ := d3 i (by omega)
    omega
  generalize znr f u a m = r at *
  rcases zrpk_sp (g := g) (u := u) (m := m) (a := a) (b := b) 61 with ⟨e, hh⟩ | ⟨j, j1, j2, e, j3, j4⟩
  · rw [e]
    rcases sp with ⟨s1, s2⟩ | ⟨⟨i, i1, i2, i3⟩, s2⟩
    · rw [if_neg (fun q => q.1 s1)]
    · have p := hp i i1
      have := hh r.toNat (by omega) ((gd _).mpr ⟨i, i1, i2, by omega⟩)
      rw [Int.toNat_of_nonneg (by omega)] at this
      rw [if_neg (by omega)]
  · rw [e]
    obtain ⟨i, i1, i2, i3⟩ := (gd j).mp j2
    rcases sp with ⟨s1, s2⟩ | ⟨⟨i5, i6, i7, i8⟩, s2⟩
    · exact absurd i2 (s2 i i1)
    · have p := hp i5 i6
      have q1 := s2 i i1 i2
      have q2 := j4 r.toNat (by omega) ((gd _).mpr ⟨i5, i6, i7, by omega⟩)
      rw [Int.toNat_of_nonneg (by omega)] at q2
      rw [i3] at q1
      have er : r = (j : Int) := by omega
      rw [er, if_pos ⟨by omega, j3⟩]
theorem zqpull (h : zqR n f g) {m : Nat} (hm : g 1153 33 = (m : Int)) {u lo hi : Int} : zpl f u lo hi 3 = zrpl g u m lo hi 3 := by
  have st : ∀ k : Nat, k < 3 → zpl f u lo hi k = zrpl g u m lo hi k → zpl f u lo hi (k + 1) = zrpl g u m lo hi (k + 1) := by
    intro k hk ih
    have b6 := (zpl_b f u lo hi k).1
    rw [zpl_s, zrpl_s, ← ih]
    unfold zpg
    by_cases c : k = 1 ∧ (lo + hi) % 2 ≠ 0
    · have : zpd lo hi k % 2 ≠ 0 := by
        rw [c.1]
        unfold zpd
        omega
      rw [if_pos c, if_neg this, if_neg (fun q => q.1 rfl)]
    · have e : zpd lo hi k % 2 = 0 ∧ zpd lo hi k / 2 = zrpa lo hi k := by
        unfold zpd zrpa
        rcases (show k = 0 ∨ k = 1 ∨ k = 2 by omega) with q | q | q <;> subst q
        · rw [if_pos rfl]; omega
        · rw [if_neg (by omega), if_pos rfl]; omega
        · rw [if_neg (by omega), if_neg (by omega)]; omega
      rw [if_neg c, if_pos e.1, e.2]
      exact zqside h hm b6
  exact st 2 (by omega) (st 1 (by omega) (st 0 (by omega) rfl))
/-- the frame of what is chosen -/
theorem zqfold {op op' : Int → Int → Int} {b b' : Int} {ch ch' : Nat → Bool} {v v' : Nat → Int} (ho : ∀ x y, (0 ≤ y ∧ y ≤ 60) → op x y = op' x y) (h0 : ∀ y, (0 ≤ y ∧ y ≤ 60) → op b y = y ∧ op' b' y = y) (hc : ∀ i, i < 60 → ch i = ch' i ∧ (ch i = true → v i = v' i ∧ 0 ≤ v i ∧ v i ≤ 60)) : ∀ k, k ≤ 60 → (∀ i, i < k → ch i = false) ∧ zfch op ch v b k = b ∧ zfch op' ch' v' b' k = b' ∨ zfch op ch v b k = zfch op' ch' v' b' k
  | 0, _ => Or.inl ⟨fun i h => absurd h (Nat.not_lt_zero i), rfl, rfl⟩
  | k + 1, hk => by
    obtain ⟨c1, c2⟩ := hc k (by omega)
    rw [zfch_s, zfch_s, ← c1]
    rcases zqfold ho h0 hc k (by omega) with ⟨a1, a2, a3⟩ | a
    · by_cases c : ch k = true
      · obtain ⟨d1, d2⟩ := c2 c
        rw [if_pos c, if_pos c, a2, a3, ← d1, (h0 (v k) d2).1, (h0 (v k) d2).2]
        exact Or.inr rfl
      · rw [if_neg c, if_neg c]
        refine Or.inl ⟨fun i hi => ?_, a2, a3⟩
        by_cases e : i = k
        · subst e; cases h : ch i <;> simp_all
        · exact a1 i (by omega)
    · by_cases c : ch k = true
      · obtain ⟨d1, d2⟩ := c2 c
        rw [if_pos c, if_pos c, a, ← d1, ho _ _ d2]
        exact Or.inr rfl
      · rw [if_neg c, if_neg c]
        exact Or.inr a
theorem zqS_16 (hM : zLay M.2.2.2) (hN : zLay N.2.2.2) (hk : k < 60) (h : zqR k M.2.1 N.2.1) (hj : zqJ1 M N k 16) : zqS L k M N := by
  obtain ⟨⟨j0, j1⟩, j2, j3⟩ := hj
  rcases zqS_sh (L := L) hM hN hk h j2 (Or.inl j3) (by omega) with no | ⟨s, hs, e2, e4, ht, hg, e⟩
  · exact no
  · have h1 := zqR_g1 (k := k) h
    have j1g : zqg1 N.2.1 k 1158 k = 16 := (zqg1_o (by omega)).trans j1
    have go : ∀ b j, (b < 1153 ∨ (1154 ≤ b ∧ b < 1166) ∨ 1189 ≤ b) → zqg1 N.2.1 k b j = N.2.1 b j := fun b j hb => zqg1_o (by omega)
    have go2 : ∀ j, j ≠ 33 → j ≠ 36 → j ≠ 38 → zqg1 N.2.1 k 1153 j = N.2.1 1153 j := fun j _ h2 _ => zu2_i h2 _ _ _ _
    have ts : zqg1 N.2.1 k 1166 s = 1 := (zqg1_o (by omega)).trans ht
    generalize eg1 : zqg1 N.2.1 k = g1 at *
    have hcc := zqR_chs (s := s) (fl := 0) h1
    generalize ex : zsts (zrtg g1 s) 60 = x at *
    have x1 : ∀ Q9 : zO → zM → Prop, zFR (zK L) 212 0 (zcall 212 [.inr (.inr 1153), .inl (s : Int)]) [] (zwI N g1) Q9 = Q9 (.inl (some (.inr (.inl x)))) (zwI N g1) := fun Q9 => by
      rw [← ex]
      exact c212 (M := zwI N g1) hN hs (zqR_rG h1) (zqR_r01 h1)
    have x2 : ∀ j, j < 60 → (zchs M.2.1 s 0 8 j ≠ 0 ↔ zbt x j = true) := fun j hj => by
      rw [← ex]
      exact zqch1 h1 hs ts hj
    have x3 : ∀ j, j < 60 → zbt x j = true → g1 1166 j = 1 := fun j hj hb => by
      rw [← ex, zbt_sts _ 60 (by omega), Bool.and_eq_true] at hb
      have := hb.2
      unfold zrtg at this
      rw [decide_eq_true_iff] at this
      exact this.1
    have x4 : zbt x s = true := by
      rw [← ex, zbt_sts _ 60 (by omega), decide_eq_true hs, Bool.true_and]
      unfold zrtg
      exact decide_eq_true ⟨ts, rfl⟩
    generalize eF : zchs M.2.1 s 0 = F0 at *
    have fr : ∀ i, i < 60 → zbt x i = true → ((F0 (14 + 14 * i) 11 = zrsd g1 i 0 ∧ 0 ≤ F0 (14 + 14 * i) 11 ∧ F0 (14 + 14 * i) 11 ≤ 60) ∧ (F0 (14 + 14 * i) 12 = zrsd g1 i 1 ∧ 0 ≤ F0 (14 + 14 * i) 12 ∧ F0 (14 + 14 * i) 12 ≤ 60) ∧ (F0 (14 + 14 * i) 13 = zrsd g1 i 2 ∧ 0 ≤ F0 (14 + 14 * i) 13 ∧ F0 (14 + 14 * i) 13 ≤ 60) ∧ (F0 (14 + 14 * i) 14 = zrsd g1 i 3 ∧ 0 ≤ F0 (14 + 14 * i) 14 ∧ F0 (14 + 14 * i) 14 ≤ 60)) := fun i hi hb => by
      obtain ⟨hE, hO⟩ := hcc.2.2.2.2.2.2.2.1 i hi (x3 i hi hb)
      obtain ⟨_, _, _, f1, f2, f3, f4⟩ := hE
      have fm := zqO_fm hO
      unfold zrFm at fm
      omega
    have sc : ∀ i, i < 60 → zsnc F0 i = zbt x i := fun i hi => by
      unfold zsnc
      rw [Bool.eq_iff_iff, decide_eq_true_iff]
      exact x2 i hi
    have mn : ∀ x y : Int, (0 ≤ y ∧ y ≤ 60) → min x y = zmn x y := fun x y _ => by unfold zmn; split <;> omega
    have mx : ∀ x y : Int, (0 ≤ y ∧ y ≤ 60) → max x y = zmx x y := fun x y _ => by unfold zmx; split <;> omega
    have mn0 : ∀ y : Int, (0 ≤ y ∧ y ≤ 60) → min 60 y = y ∧ zmn 100 y = y := fun y hy => by unfold zmn; split <;> omega
    have mx0 : ∀ y : Int, (0 ≤ y ∧ y ≤ 60) → max 0 y = y ∧ zmx (-1) y = y := fun y hy => by unfold zmx; split <;> omega
    have k0 : zsnp min F0 60 11 60 = zrsf g1 (zbt x) 0 60 := by
      rcases zqfold (ch := zsnc F0) (ch' := zbt x) (v := fun i => F0 (14 + 14 * i) 11) (v' := fun i => zrsd g1 i 0) mn mn0 (fun i hi => ⟨sc i hi, fun q => (fr i hi (by rw [← sc i hi]; exact q)).1⟩) 60 (by omega) with ⟨a, _⟩ | a
      · rw [← sc s hs, a s hs] at x4; exact absurd x4 (by decide)
      · exact a
    have k1 : zsnp min F0 60 12 60 = zrsf g1 (zbt x) 1 60 := by
      rcases zqfold (ch := zsnc F0) (ch' := zbt x) (v := fun i => F0 (14 + 14 * i) 12) (v' := fun i => zrsd g1 i 1) mn mn0 (fun i hi => ⟨sc i hi, fun q => (fr i hi (by rw [← sc i hi]; exact q)).2.1⟩) 60 (by omega) with ⟨a, _⟩ | a
      · rw [← sc s hs, a s hs] at x4; exact absurd x4 (by decide)
      · exact a
    have k2 : zsnp max F0 0 13 60 = zrsf g1 (zbt x) 2 60 := by
      rcases zqfold (ch := zsnc F0) (ch' := zbt x) (v := fun i => F0 (14 + 14 * i) 13) (v' := fun i => zrsd g1 i 2) mx mx0 (fun i hi => ⟨sc i hi, fun q => (fr i hi (by rw [← sc i hi]; exact q)).2.2.1⟩) 60 (by omega) with ⟨a, _⟩ | a
      · rw [← sc s hs, a s hs] at x4; exact absurd x4 (by decide)
      · exact a
    have k3 : zsnp max F0 0 14 60 = zrsf g1 (zbt x) 3 60 := by
      rcases zqfold (ch := zsnc F0) (ch' := zbt x) (v := fun i => F0 (14 + 14 * i) 14) (v' := fun i => zrsd g1 i 3) mx mx0 (fun i hi => ⟨sc i hi, fun q => (fr i hi (by rw [← sc i hi]; exact q)).2.2.2⟩) 60 (by omega) with ⟨a, _⟩ | a
      · rw [← sc s hs, a s hs] at x4; exact absurd x4 (by decide)
      · exact a
    have bnd : ∀ w, w < 4 → 0 ≤ zrsf g1 (zbt x) w 60 ∧ zrsf g1 (zbt x) w 60 ≤ 60 := fun w hw => by
      rcases (show w = 0 ∨ w = 1 ∨ w = 2 ∨ w = 3 by omega) with q | q | q | q <;> subst q
      · rw [← k0]; exact zfch_b zmin_or (by omega) 60 (fun i hi q => (fr i hi (by rw [← sc i hi]; exact q)).1.2)
      · rw [← k1]; exact zfch_b zmin_or (by omega) 60 (fun i hi q => (fr i hi (by rw [← sc i hi]; exact q)).2.1.2)
      · rw [← k2]; exact zfch_b zmax_or (by omega) 60 (fun i hi q => (fr i hi (by rw [← sc i hi]; exact q)).2.2.1.2)
      · rw [← k3]; exact zfch_b zmax_or (by omega) 60 (fun i hi q => (fr i hi (by rw [← sc i hi]; exact q)).2.2.2.2)
    obtain ⟨d1, d2, d3⟩ := h1.2.2.2.2.2.2.1
    have hm : g1 1153 33 = (((g1 1153 33).toNat : Nat) : Int) := by omega
    have edx : zsnx F0 = zrdx g1 (zbt x) := by
      unfold zsnx zrdx
      rw [k0, k2, zqpull hcc hm]
    have edy : zsny F0 = zrdy g1 (zbt x) := by
      unfold zsny zrdy
      rw [k1, k3, zqpull hcc hm]
    have bx : -6 ≤ zrdx g1 (zbt x) ∧ zrdx g1 (zbt x) ≤ 6 := by
      rw [← edx]
      exact (zpl_b _ _ _ _ 3).2
    have by9 : -6 ≤ zrdy g1 (zbt x) ∧ zrdy g1 (zbt x) ≤ 6 := by
      rw [← edy]
      exact (zpl_b _ _ _ _ 3).2
    have er := fun Q8 => c233 (L := L) (M := zwI N g1) (x := x) (n := (g1 1153 33).toNat) (Q := Q8) hN (zqR_rld h1) (zqR_ne h1) (fun i hi hz => zqmo h1 hi (x3 i hi) hz) hm (by omega) bnd
    simp only [zwI_I, zwI_w] at er
    have ec := fun (v : Int) (M9 : zM) q1 q2 Q9 => zc41 (L := L) (M := M) (v := v) (M9 := M9) (s := s) (Q := Q9) hM (zqR_gr h) (zqR_gd h) (zqR_mw h) hs (by rw [zqR_t h hs]; exact ht) q1 q2
    rw [eF, edx, edy] at ec
    generalize zrdx g1 (zbt x) = dx at *
    generalize zrdy g1 (zbt x) = dy at *
    obtain ⟨F, v, m1, m2, m3⟩ := zqmove (L := L) (M := zwI M F0) (N := zwI N g1) hM hN hk hcc (by rw [← eF]; exact zMv_chs (zqR_mw h)) x2 x3 (dx := dx) (dy := dy) (by omega) (by omega)
    have fF : ∀ b j, (b < 3 ∨ 854 ≤ b) → F b j = M.2.1 b j := fun b j hb => (m2 b j hb).trans (by show F0 b j = _; rw [← eF]; exact zchs_o (by omega) _)
    rcases m3 with ⟨c, v0, v1, r⟩ | ⟨c, v1, r⟩
    · have ec2 := ec v (zwI M F) m1 (by omega)
      rw [if_neg (show ¬ v = -1 by omega)] at ec2
      refine ⟨F, _, _, 1, fun Q => c10_16 hM (zqR_01 h) hk hk hg j0 hs e2 ec2, e 1 (zu2 (zrmv g1 (zbt x) dx dy) 1153 36 ((dx.natAbs : Int) + (dy.natAbs : Int))) (Or.inr rfl) (fun Q9 => c208_16 (x := x) (M10 := N) (M := zwI N g1) hN hk hs j1g x1 (fun Q8 => ?_) (Or.inr rfl)), fF, fun b j hb => ?_, fun j j1 j2 j3 => ?_, Or.inr ⟨rfl, by omega, zu2_eq _ _ _ _, zqR_n hk (zqR_36 r)⟩⟩
      · refine (er Q8).trans ?_
        exact propext ⟨fun q => q.1 c, fun q => ⟨fun _ => q, fun q2 => absurd c q2⟩⟩
      · rw [zu2_sj (by omega), zrmv_o (by omega)]
        exact go b j hb
      · rw [zu2_sj (by omega), zrmv_o (by omega)]
        exact go2 j j1 j2 j3
    · have ec2 := ec v (zwI M F) m1 (by omega)
      rw [if_pos v1] at ec2
      refine ⟨F, _, _, 0, fun Q => c10_16 hM (zqR_01 h) hk hk hg j0 hs e2 ec2, e 0 (zu2 (zrlm g1 (zbt x) dx dy) 1153 36 ((dx.natAbs : Int) + (dy.natAbs : Int))) (Or.inl rfl) (fun Q9 => c208_16 (x := x) (M10 := N) (M := zwI N g1) hN hk hs j1g x1 (fun Q8 => ?_) (Or.inl rfl)), fF, fun b j hb => ?_, fun j j1 j2 j3 => ?_, Or.inl ⟨rfl, rfl, zqR_36 r⟩⟩
      · refine (er Q8).trans ?_
        exact propext ⟨fun q => q.2 c, fun q => ⟨fun q2 => absurd q2 c, fun _ => q⟩⟩
      · rw [zu2_sj (by omega), zrlm_o (by omega)]
        exact go b j hb
      · rw [zu2_sj (by omega), zrlm_o (by omega)]
        exact go2 j j1 j2 j3
end ZSNAPQ
