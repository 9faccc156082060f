section SG_CD_snapq
/-! moves and snaps, one change each -/
section ZSNAPQ
variable {n : Nat} {f g f' g' : Nat → Nat → Int} {i s : Nat}
theorem zqR_36 {v : Int} (h : zqR n f g) : zqR n f (zu2 g 1153 36 v) := zqR_keep (fun _ _ _ _ _ _ _ => rfl) (zqR_ch h) (fun b j h1 h2 _ => zu2_sj (by omega)) (zu2_sj (by omega)) h
theorem zqmo (h : zqR n f g) {cb : Nat → Bool} (hi : i < 60) (hb : cb i = true → g 1166 i = 1) (hz : zmo (g 1172) cb 61 (i : Int) = true) : zrSw g i := by
  by_cases ti : g 1166 i = 1
  · exact zqO_sw (h.2.2.2.2.2.2.2.1 i hi ti).2
  · have z := zqnot (dx := 0) (dy := 0) h hi ti hb
    have e0 : zrlm g cb 0 0 1185 i = if zmo (g 1172) cb 61 (i : Int) = true then 1 else 0 := by
      unfold zrlm
      rw [zmv_1]
      exact if_pos hi
    rw [e0, hz, if_pos rfl] at z
    exact absurd z (by decide)
theorem zqR_chs {fl : Int} (h : zqR n f g) : zqR n (zchs f s fl) g := zqR_keep (fun b j _ h8 _ _ _ => zchs_o h8 _) (fun j hj => zchs_8 hj) (fun _ _ _ _ _ => rfl) rfl h
theorem zrmv_o {cb : Nat → Bool} {dx dy : Int} {b j : Nat} (h : b < 1177 ∨ 1189 ≤ b) : zrmv g cb dx dy b j = g b j := by
  unfold zrmv
  rw [zrmf_o (by omega), zrlm_o (by omega)]
variable {L k : Nat} {M N : zM}
theorem zqS_2 (hM : zLay M.2.2.2) (hN : zLayN N.2.2.2) (hk : k < 60) (h : zqR k M.2.1 N.2.1) (hj : zqJ1 M N k 2) (h6 : M.2.1 (855 + 4 * k) 6 = N.2.1 1161 (4 * k + 1) ∧ -60 ≤ N.2.1 1161 (4 * k + 1) ∧ N.2.1 1161 (4 * k + 1) ≤ 60) (h7 : M.2.1 (855 + 4 * k) 7 = N.2.1 1161 (4 * k + 2) ∧ -60 ≤ N.2.1 1161 (4 * k + 2) ∧ N.2.1 1161 (4 * k + 2) ≤ 60) (h9 : M.2.1 (855 + 4 * k) 9 = N.2.1 1161 (4 * k + 3) ∧ (N.2.1 1161 (4 * k + 3) = 0 ∨ N.2.1 1161 (4 * k + 3) = 1)) : zqS L k M N := by
  obtain ⟨⟨j0, j1⟩, j2, j3⟩ := hj
  rcases zqS_sh (L := L) hM hN hk h j2 (Or.inl j3) (by omega) with no | ⟨s, hs, e2, e4, ht, hg, e⟩
  · exact no
  · have h1 := zqR_g1 (k := k) h
    have j1g : zqg1 N.2.1 k 1158 k = 2 := (zqg1_o (by omega)).trans j1
    have d2 : zqg1 N.2.1 k 1161 (4 * k + 2) = N.2.1 1161 (4 * k + 2) := zqg1_o (by omega)
    have d3 : zqg1 N.2.1 k 1161 (4 * k + 3) = N.2.1 1161 (4 * k + 3) := zqg1_o (by omega)
    generalize edx : N.2.1 1161 (4 * k + 1) = dx at *
    generalize edy : N.2.1 1161 (4 * k + 2) = dy at *
    generalize efl : N.2.1 1161 (4 * k + 3) = fl at *
    have go : ∀ b j, (b < 1153 ∨ (1154 ≤ b ∧ b < 1166) ∨ 1189 ≤ b) → zqg1 N.2.1 k b j = N.2.1 b j := fun b j hb => zqg1_o (by omega)
    have go2 : ∀ j, j ≠ 33 → j ≠ 36 → j ≠ 38 → zqg1 N.2.1 k 1153 j = N.2.1 1153 j := fun j _ h2 _ => zu2_i h2 _ _ _ _
    have ts : zqg1 N.2.1 k 1166 s = 1 := (zqg1_o (by omega)).trans ht
    generalize eg1 : zqg1 N.2.1 k = g1 at *
    have hx : ∃ x : Int64, (∀ Q9 : zO → zM → Prop, zFR (zK L) 211 0 (zcall 211 [.inr (.inr 1153), .inl (s : Int), .inl fl]) [] (zwI N g1) Q9 = Q9 (.inl (some (.inr (.inl x)))) (zwI N g1)) ∧ (∀ j, j < 60 → (zchs M.2.1 s fl 8 j ≠ 0 ↔ zbt x j = true)) ∧ ∀ j, j < 60 → zbt x j = true → g1 1166 j = 1 := by
      have c := fun Q9 => c211 (L := L) (M := zwI N g1) (s := s) (a := fl) (Q := Q9) hN hs (zqR_rG h1) (zqR_r01 h1)
      rcases h9.2 with q | q <;> subst q
      · refine ⟨zsts (zrtg g1 s) 60, fun Q9 => ?_, fun j hj => zqch1 h1 hs ts hj, fun j hj hb => ?_⟩
        · have := c Q9
          rw [if_pos rfl] at this
          exact this
        · rw [zbt_sts _ 60 (by omega), Bool.and_eq_true] at hb
          have := hb.2
          unfold zrtg at this
          rw [decide_eq_true_iff] at this
          exact this.1
      · refine ⟨Int64.ofInt 1 <<< ((Int32.ofInt (s : Int)).toInt64 &&& 63), fun Q9 => ?_, fun j hj => zqch0 h1 hs ts (by omega) hj, fun j hj hb => ?_⟩
        · have := c Q9
          rw [if_neg (by omega)] at this
          exact this
        · rw [zbt_one (by omega), decide_eq_true_iff] at hb
          rw [hb]; exact ts
    obtain ⟨x, x1, x2, x3⟩ := hx
    obtain ⟨F, v, m1, m2, m3⟩ := zqmove (L := L) (M := zwI M (zchs M.2.1 s fl)) (N := zwI N g1) hM hN hk (zqR_chs h1) (zMv_chs (zqR_mw h)) x2 x3 (dx := dx) (dy := dy) (by omega) (by omega)
    have ec := fun Q9 => zc16 (L := L) (M := M) (M9 := zwI M F) (v := v) (Q := Q9) hM (zqR_gr h) (zqR_mw h) hk hs e2 h6.1 h7.1 h9.1 m1
    have fF : ∀ b j, (b < 3 ∨ 854 ≤ b) → F b j = M.2.1 b j := fun b j hb => (m2 b j hb).trans (zchs_o (by omega) _)
    have er := fun Q8 => c213 (L := L) (M := zwI N g1) (x := x) (dx := dx) (dy := dy) (Q := Q8) hN (zqR_rld h1) (zqR_ne h1) (by omega) (by omega) (fun i hi hz => zqmo h1 hi (x3 i hi) hz)
    rcases m3 with ⟨c, v0, v1, r⟩ | ⟨c, v1, r⟩
    · have er2 : ∀ Q8 : zO → zM → Prop, zFR (zK L) 213 0 (zcall 213 [.inr (.inr 1153), .inr (.inl x), .inl dx, .inl (g1 1161 (4 * k + 2))]) [] (zwI N g1) Q8 = Q8 (.inl (some (.inl (zcnt (zrmc (zrlm g1 (zbt x) dx dy)) 60 : Int)))) (zwI N (zrmv g1 (zbt x) dx dy)) := fun Q8 => by
        rw [d2]
        refine (er Q8).trans ?_
        exact propext ⟨fun q => q.1 c, fun q => ⟨fun _ => q, fun q2 => absurd c q2⟩⟩
      refine ⟨F, zu2 (zrmv g1 (zbt x) dx dy) 1153 36 (zcnt (zrmc (zrlm g1 (zbt x) dx dy)) 60 : Int), v, 1, fun Q => c10_2 (v := v) (M9 := zwI M F) hM (zqR_01 h) hk hk hg j0 ec, e 1 _ (Or.inr rfl) (fun Q9 => ?_), fF, fun b j hb => ?_, fun j j1 j2 j3 => ?_, Or.inr ⟨rfl, v0, ?_, zqR_n hk (zqR_36 r)⟩⟩
      · rcases h9.2 with q | q
        · exact c208_2q (M10 := N) (M9 := zwI N (zrmv g1 (zbt x) dx dy)) (M := zwI N g1) hN hk hs j1g (by omega) (by show g1 1161 (4 * k + 3) ≠ 1; omega) (by rw [q] at x1; exact x1) er2
        · exact c208_2p (M10 := N) (M9 := zwI N (zrmv g1 (zbt x) dx dy)) (M := zwI N g1) hN hk hs j1g (by omega) (by show g1 1161 (4 * k + 3) = 1; omega) (by rw [q] at x1; exact x1) er2
      · rw [zu2_sj (by omega), zrmv_o (by omega)]
        exact go b j hb
      · rw [zu2_sj (by omega), zrmv_o (by omega)]
        exact go2 j j1 j2 j3
      · rw [zu2_eq, v1, zwI_I]
    · have er2 : ∀ Q8 : zO → zM → Prop, zFR (zK L) 213 0 (zcall 213 [.inr (.inr 1153), .inr (.inl x), .inl dx, .inl (g1 1161 (4 * k + 2))]) [] (zwI N g1) Q8 = Q8 (.inl (some (.inl (-1)))) (zwI N (zrlm g1 (zbt x) dx dy)) := fun Q8 => by
        rw [d2]
        refine (er Q8).trans ?_
        exact propext ⟨fun q => q.2 c, fun q => ⟨fun q2 => absurd q2 c, fun _ => q⟩⟩
      refine ⟨F, zu2 (zrlm g1 (zbt x) dx dy) 1153 36 (-1), v, 0, fun Q => c10_2 (v := v) (M9 := zwI M F) hM (zqR_01 h) hk hk hg j0 ec, e 0 _ (Or.inl rfl) (fun Q9 => ?_), fF, fun b j hb => ?_, fun j j1 j2 j3 => ?_, Or.inl ⟨rfl, v1, zqR_36 r⟩⟩
      · rcases h9.2 with q | q
        · exact c208_2m (M10 := N) (M9 := zwI N (zrlm g1 (zbt x) dx dy)) (M := zwI N g1) hN hk hs j1g (by omega) (by show g1 1161 (4 * k + 3) ≠ 1; omega) (by rw [q] at x1; exact x1) er2
        · exact c208_2n (M10 := N) (M9 := zwI N (zrlm g1 (zbt x) dx dy)) (M := zwI N g1) hN hk hs j1g (by omega) (by show g1 1161 (4 * k + 3) = 1; omega) (by rw [q] at x1; exact x1) er2
      · rw [zu2_sj (by omega), zrlm_o (by omega)]
        exact go b j hb
      · rw [zu2_sj (by omega), zrlm_o (by omega)]
        exact go2 j j1 j2 j3
-- the pull of the guides, in both programs
theorem znr_sp {v p : Int} (hp : ∀ i : Nat, i < n → 0 ≤ f 13 i) : ∀ k : Nat, k ≤ n → (znr f v p k = -1 ∧ ∀ i, i < k → f 12 i ≠ v) ∨ ((∃ i, i < k ∧ f 12 i = v ∧ f 13 i = znr f v p k) ∧ ∀ i, i < k → f 12 i = v → (((znr f v p k - p).natAbs : Int) < ((f 13 i - p).natAbs : Int) ∨ (((znr f v p k - p).natAbs : Int) = ((f 13 i - p).natAbs : Int) ∧ znr f v p k ≤ f 13 i)))
  | 0, _ => Or.inl ⟨rfl, fun i h => absurd h (Nat.not_lt_zero i)⟩
  | k + 1, hk => by
    have ih := znr_sp (v := v) (p := p) hp k (by omega)
    have pk := hp k (by omega)
    rw [znr_s]
    generalize znr f v p k = r at *
    by_cases c1 : f 12 k = v
    · rcases ih with ⟨a, b⟩ | ⟨⟨i0, a1, a2, a3⟩, b⟩
      · rw [if_pos ⟨c1, Or.inl a⟩]
        refine Or.inr ⟨⟨k, by omega, c1, rfl⟩, fun i hi hv => ?_⟩
        by_cases e : i = k
        · subst e; exact Or.inr ⟨rfl, Int.le_refl _⟩
        · exact absurd hv (b i (by omega))
      · by_cases c2 : znd f p r k < 0 ∨ (znd f p r k = 0 ∧ f 13 k < r)
        · rw [if_pos ⟨c1, Or.inr c2⟩]
          unfold znd at c2
          refine Or.inr ⟨⟨k, by omega, c1, rfl⟩, fun i hi hv => ?_⟩
          by_cases e : i = k
          · subst e; exact Or.inr ⟨rfl, Int.le_refl _⟩
          · have := b i (by omega) hv
            omega
        · have r0 := hp i0 (by omega)
          rw [if_neg (fun q => by
            rcases q.2 with q | q
            · omega
            · exact c2 q)]
          unfold znd at c2
          refine Or.inr ⟨⟨i0, by omega, a2, a3⟩, fun i hi hv => ?_⟩
          by_cases e : i = k
          · subst e; omega
          · exact b i (by omega) hv
    · rw [if_neg (fun q => c1 q.1)]
      rcases ih with ⟨a, b⟩ | ⟨⟨i0, a1, a2, a3⟩, b⟩
      · refine Or.inl ⟨a, fun i hi => ?_⟩
        by_cases e : i = k
        · subst e; exact c1
        · exact b i (by omega)
      · refine Or.inr ⟨⟨i0, by omega, a2, a3⟩, fun i hi hv => ?_⟩
        by_cases e : i = k
        · subst e; exact absurd hv c1
        · exact b i (by omega) hv
theorem zrpk_sp {u : Int} {m : Nat} {a : Int} {b : Int × Int} : ∀ k : Nat, (zrpk g u m a b k = b ∧ ∀ j : Nat, j < k → zrhg g u (j : Int) m = true → b.1 ≤ (((j : Int) - a).natAbs : Int)) ∨ ∃ j : Nat, j < k ∧ zrhg g u (j : Int) m = true ∧ zrpk g u m a b k = ((((j : Int) - a).natAbs : Int), (j : Int) - a) ∧ (((j : Int) - a).natAbs : Int) < b.1 ∧ ∀ j2 : Nat, j2 < k → zrhg g u (j2 : Int) m = true → ((((j : Int) - a).natAbs : Int) < (((j2 : Int) - a).natAbs : Int) ∨ ((((j : Int) - a).natAbs : Int) = (((j2 : Int) - a).natAbs : Int) ∧ j ≤ j2))
  | 0 => Or.inl ⟨rfl, fun j h => absurd h (Nat.not_lt_zero j)⟩
  | k + 1 => by
    rw [zrpk_s]
    rcases zrpk_sp (u := u) (m := m) (a := a) (b := b) k with ⟨e, h⟩ | ⟨j, j1, j2, e, j3, j4⟩
    · rw [e]
      by_cases c : zrhg g u (k : Int) m = true ∧ (((k : Int) - a).natAbs : Int) < b.1
      · rw [if_pos c]
        refine Or.inr ⟨k, by omega, c.1, rfl, c.2, fun j2 hj hb => ?_⟩
        by_cases e2 : j2 = k
        · subst e2; exact Or.inr ⟨rfl, Nat.le_refl _⟩
        · have := h j2 (by omega) hb
          omega
      · rw [if_neg c]
        refine Or.inl ⟨rfl, fun j hj hb => ?_⟩
        by_cases e2 : j = k
        · subst e2
          by_cases c2 : (((j : Int) - a).natAbs : Int) < b.1
          · exact absurd ⟨hb, c2⟩ c
          · omega
        · exact h j (by omega) hb
    · rw [e]
      by_cases c : zrhg g u (k : Int) m = true ∧ (((k : Int) - a).natAbs : Int) < (((j : Int) - a).natAbs : Int)
      · rw [if_pos c]
        refine Or.inr ⟨k, by omega, c.1, rfl, by omega, fun j5 hj hb => ?_⟩
        by_cases e2 : j5 = k
        · subst e2; exact Or.inr ⟨rfl, Nat.le_refl _⟩
        · have := j4 j5 (by omega) hb
          omega
      · rw [if_neg c]
        refine Or.inr ⟨j, by omega, j2, rfl, j3, fun j5 hj hb => ?_⟩
        by_cases e2 : j5 = k
        · subst e2
          by_cases c2 : (((j5 : Int) - a).natAbs : Int) < (((j : Int) - a).natAbs : Int)
          · exact absurd ⟨hb, c2⟩ c
          · omega
        · exact j4 j5 (by omega) hb
/-- one side -/
theorem zqside (h : zqR n f g) {m : Nat} (hm : g 1153 33 = (m : Int)) {u a : Int} {b : Int × Int} (hb6 : b.1 ≤ 6) : (if znr f u a (f 11 0).toNat ≠ -1 ∧ ((znr f u a (f 11 0).toNat - a).natAbs : Int) < b.1 then (((znr f u a (f 11 0).toNat - a).natAbs : Int), znr f u a (f 11 0).toNat - a) else b) = zrpk g u m a b 61 := by
  obtain ⟨d1, d2, d3⟩ := h.2.2.2.2.2.2.1
  have e0 : (f 11 0).toNat = m := by omega
  rw [e0]
  have sp := znr_sp (f := f) (n := m) (v := u) (p := a) (fun i hi => by
    obtain ⟨c1, c2, c3, c4, c5⟩ := d3 i (by omega)
    omega) m (Nat.le_refl _)
  have gd : ∀ j : Nat, zrhg g u (j : Int) m = true ↔ ∃ i, i < m ∧ f 12 i = u ∧ f 13 i = (j : Int) := fun j => by
    rw [zrhg_iff]
    constructor
    · rintro ⟨i, h1, h2, h3⟩
      obtain ⟨c1, c2, _⟩ := d3 i (by omega)
      exact ⟨i, h1, by omega, by omega⟩
    · rintro ⟨i, h1, h2, h3⟩
      obtain ⟨c1, c2, _⟩ := d3 i (by omega)
      exact ⟨i, h1, by omega, by omega⟩
  have hp : ∀ i, i < m → 0 ≤ f 13 i ∧ f 13 i ≤ 60 := fun i hi => by
    obtain ⟨c1, c2, c3, c4, c5⟩ := d3 i (by omega)
    omega
  generalize znr f u a m = r at *
  rcases zrpk_sp (g := g) (u := u) (m := m) (a := a) (b := b) 61 with ⟨e, hh⟩ | ⟨j, j1, j2, e, j3, j4⟩
  · rw [e]
    rcases sp with ⟨s1, s2⟩ | ⟨⟨i, i1, i2, i3⟩, s2⟩
    · rw [if_neg (fun q => q.1 s1)]
    · have p := hp i i1
      have := hh r.toNat (by omega) ((gd _).mpr ⟨i, i1, i2, by omega⟩)
      rw [Int.toNat_of_nonneg (by omega)] at this
      rw [if_neg (by omega)]
  · rw [e]
    obtain ⟨i, i1, i2, i3⟩ := (gd j).mp j2
    rcases sp with ⟨s1, s2⟩ | ⟨⟨i5, i6, i7, i8⟩, s2⟩
    · exact absurd i2 (s2 i i1)
    · have p := hp i5 i6
      have q1 := s2 i i1 i2
      have q2 := j4 r.toNat (by omega) ((gd _).mpr ⟨i5, i6, i7, by omega⟩)
      rw [Int.toNat_of_nonneg (by omega)] at q2
      rw [i3] at q1
      have er : r = (j : Int) := by omega
      rw [er, if_pos ⟨by omega, j3⟩]
theorem zqpull (h : zqR n f g) {m : Nat} (hm : g 1153 33 = (m : Int)) {u lo hi : Int} : zpl f u lo hi 3 = zrpl g u m lo hi 3 := by
  have st : ∀ k : Nat, k < 3 → zpl f u lo hi k = zrpl g u m lo hi k → zpl f u lo hi (k + 1) = zrpl g u m lo hi (k + 1) := by
    intro k hk ih
    have b6 := (zpl_b f u lo hi k).1
    rw [zpl_s, zrpl_s, ← ih]
    unfold zpg
    by_cases c : k = 1 ∧ (lo + hi) % 2 ≠ 0
    · have : zpd lo hi k % 2 ≠ 0 := by
        rw [c.1]
        unfold zpd
        omega
      rw [if_pos c, if_neg this, if_neg (fun q => q.1 rfl)]
    · have e : zpd lo hi k % 2 = 0 ∧ zpd lo hi k / 2 = zrpa lo hi k := by
        unfold zpd zrpa
        rcases (show k = 0 ∨ k = 1 ∨ k = 2 by omega) with q | q | q <;> subst q
        · rw [if_pos rfl]; omega
        · rw [if_neg (by omega), if_pos rfl]; omega
        · rw [if_neg (by omega), if_neg (by omega)]; omega
      rw [if_neg c, if_pos e.1, e.2]
      exact zqside h hm b6
  exact st 2 (by omega) (st 1 (by omega) (st 0 (by omega) rfl))
/-- the frame of what is chosen -/
theorem zqfold {op op' : Int → Int → Int} {b b' : Int} {ch ch' : Nat → Bool} {v v' : Nat → Int} (ho : ∀ x y, (0 ≤ y ∧ y ≤ 60) → op x y = op' x y) (h0 : ∀ y, (0 ≤ y ∧ y ≤ 60) → op b y = y ∧ op' b' y = y) (hc : ∀ i, i < 60 → ch i = ch' i ∧ (ch i = true → v i = v' i ∧ 0 ≤ v i ∧ v i ≤ 60)) : ∀ k, k ≤ 60 → (∀ i, i < k → ch i = false) ∧ zfch op ch v b k = b ∧ zfch op' ch' v' b' k = b' ∨ zfch op ch v b k = zfch op' ch' v' b' k
  | 0, _ => Or.inl ⟨fun i h => absurd h (Nat.not_lt_zero i), rfl, rfl⟩
  | k + 1, hk => by
    obtain ⟨c1, c2⟩ := hc k (by omega)
    rw [zfch_s, zfch_s, ← c1]
    rcases zqfold ho h0 hc k (by omega) with ⟨a1, a2, a3⟩ | a
    · by_cases c : ch k = true
      · obtain ⟨d1, d2⟩ := c2 c
        rw [if_pos c, if_pos c, a2, a3, ← d1, (h0 (v k) d2).1, (h0 (v k) d2).2]
        exact Or.inr rfl
      · rw [if_neg c, if_neg c]
        refine Or.inl ⟨fun i hi => ?_, a2, a3⟩
        by_cases e : i = k
        · subst e; cases h : ch i <;> simp_all
        · exact a1 i (by omega)
    · by_cases c : ch k = true
      · obtain ⟨d1, d2⟩ := c2 c
        rw [if_pos c, if_pos c, a, ← d1, ho _ _ d2]
        exact Or.inr rfl
      · rw [if_neg c, if_neg c]
        exact Or.inr a
theorem zqS_16 (hM : zLay M.2.2.2) (hN : zLayN N.2.2.2) (hk : k < 60) (h : zqR k M.2.1 N.2.1) (hj : zqJ1 M N k 16) : zqS L k M N := by
  obtain ⟨⟨j0, j1⟩, j2, j3⟩ := hj
  rcases zqS_sh (L := L) hM hN hk h j2 (Or.inl j3) (by omega) with no | ⟨s, hs, e2, e4, ht, hg, e⟩
  · exact no
  · have h1 := zqR_g1 (k := k) h
    have j1g : zqg1 N.2.1 k 1158 k = 16 := (zqg1_o (by omega)).trans j1
    have go : ∀ b j, (b < 1153 ∨ (1154 ≤ b ∧ b < 1166) ∨ 1189 ≤ b) → zqg1 N.2.1 k b j = N.2.1 b j := fun b j hb => zqg1_o (by omega)
    have go2 : ∀ j, j ≠ 33 → j ≠ 36 → j ≠ 38 → zqg1 N.2.1 k 1153 j = N.2.1 1153 j := fun j _ h2 _ => zu2_i h2 _ _ _ _
    have ts : zqg1 N.2.1 k 1166 s = 1 := (zqg1_o (by omega)).trans ht
    generalize eg1 : zqg1 N.2.1 k = g1 at *
    have hcc := zqR_chs (s := s) (fl := 0) h1
    generalize ex : zsts (zrtg g1 s) 60 = x at *
    have x1 : ∀ Q9 : zO → zM → Prop, zFR (zK L) 212 0 (zcall 212 [.inr (.inr 1153), .inl (s : Int)]) [] (zwI N g1) Q9 = Q9 (.inl (some (.inr (.inl x)))) (zwI N g1) := fun Q9 => by
      rw [← ex]
      exact c212 (M := zwI N g1) hN hs (zqR_rG h1) (zqR_r01 h1)
    have x2 : ∀ j, j < 60 → (zchs M.2.1 s 0 8 j ≠ 0 ↔ zbt x j = true) := fun j hj => by
      rw [← ex]
      exact zqch1 h1 hs ts hj
    have x3 : ∀ j, j < 60 → zbt x j = true → g1 1166 j = 1 := fun j hj hb => by
      rw [← ex, zbt_sts _ 60 (by omega), Bool.and_eq_true] at hb
      have := hb.2
      unfold zrtg at this
      rw [decide_eq_true_iff] at this
      exact this.1
    have x4 : zbt x s = true := by
      rw [← ex, zbt_sts _ 60 (by omega), decide_eq_true hs, Bool.true_and]
      unfold zrtg
      exact decide_eq_true ⟨ts, rfl⟩
    generalize eF : zchs M.2.1 s 0 = F0 at *
    have fr : ∀ i, i < 60 → zbt x i = true → ((F0 (14 + 14 * i) 11 = zrsd g1 i 0 ∧ 0 ≤ F0 (14 + 14 * i) 11 ∧ F0 (14 + 14 * i) 11 ≤ 60) ∧ (F0 (14 + 14 * i) 12 = zrsd g1 i 1 ∧ 0 ≤ F0 (14 + 14 * i) 12 ∧ F0 (14 + 14 * i) 12 ≤ 60) ∧ (F0 (14 + 14 * i) 13 = zrsd g1 i 2 ∧ 0 ≤ F0 (14 + 14 * i) 13 ∧ F0 (14 + 14 * i) 13 ≤ 60) ∧ (F0 (14 + 14 * i) 14 = zrsd g1 i 3 ∧ 0 ≤ F0 (14 + 14 * i) 14 ∧ F0 (14 + 14 * i) 14 ≤ 60)) := fun i hi hb => by
      obtain ⟨hE, hO⟩ := hcc.2.2.2.2.2.2.2.1 i hi (x3 i hi hb)
      obtain ⟨_, _, _, f1, f2, f3, f4⟩ := hE
      have fm := zqO_fm hO
      unfold zrFm at fm
      omega
    have sc : ∀ i, i < 60 → zsnc F0 i = zbt x i := fun i hi => by
      unfold zsnc
      rw [Bool.eq_iff_iff, decide_eq_true_iff]
      exact x2 i hi
    have mn : ∀ x y : Int, (0 ≤ y ∧ y ≤ 60) → min x y = zmn x y := fun x y _ => by unfold zmn; split <;> omega
    have mx : ∀ x y : Int, (0 ≤ y ∧ y ≤ 60) → max x y = zmx x y := fun x y _ => by unfold zmx; split <;> omega
    have mn0 : ∀ y : Int, (0 ≤ y ∧ y ≤ 60) → min 60 y = y ∧ zmn 100 y = y := fun y hy => by unfold zmn; split <;> omega
    have mx0 : ∀ y : Int, (0 ≤ y ∧ y ≤ 60) → max 0 y = y ∧ zmx (-1) y = y := fun y hy => by unfold zmx; split <;> omega
    have k0 : zsnp min F0 60 11 60 = zrsf g1 (zbt x) 0 60 := by
      rcases zqfold (ch := zsnc F0) (ch' := zbt x) (v := fun i => F0 (14 + 14 * i) 11) (v' := fun i => zrsd g1 i 0) mn mn0 (fun i hi => ⟨sc i hi, fun q => (fr i hi (by rw [← sc i hi]; exact q)).1⟩) 60 (by omega) with ⟨a, _⟩ | a
      · rw [← sc s hs, a s hs] at x4; exact absurd x4 (by decide)
      · exact a
    have k1 : zsnp min F0 60 12 60 = zrsf g1 (zbt x) 1 60 := by
      rcases zqfold (ch := zsnc F0) (ch' := zbt x) (v := fun i => F0 (14 + 14 * i) 12) (v' := fun i => zrsd g1 i 1) mn mn0 (fun i hi => ⟨sc i hi, fun q => (fr i hi (by rw [← sc i hi]; exact q)).2.1⟩) 60 (by omega) with ⟨a, _⟩ | a
      · rw [← sc s hs, a s hs] at x4; exact absurd x4 (by decide)
      · exact a
    have k2 : zsnp max F0 0 13 60 = zrsf g1 (zbt x) 2 60 := by
      rcases zqfold (ch := zsnc F0) (ch' := zbt x) (v := fun i => F0 (14 + 14 * i) 13) (v' := fun i => zrsd g1 i 2) mx mx0 (fun i hi => ⟨sc i hi, fun q => (fr i hi (by rw [← sc i hi]; exact q)).2.2.1⟩) 60 (by omega) with ⟨a, _⟩ | a
      · rw [← sc s hs, a s hs] at x4; exact absurd x4 (by decide)
      · exact a
    have k3 : zsnp max F0 0 14 60 = zrsf g1 (zbt x) 3 60 := by
      rcases zqfold (ch := zsnc F0) (ch' := zbt x) (v := fun i => F0 (14 + 14 * i) 14) (v' := fun i => zrsd g1 i 3) mx mx0 (fun i hi => ⟨sc i hi, fun q => (fr i hi (by rw [← sc i hi]; exact q)).2.2.2⟩) 60 (by omega) with ⟨a, _⟩ | a
      · rw [← sc s hs, a s hs] at x4; exact absurd x4 (by decide)
      · exact a
    have bnd : ∀ w, w < 4 → 0 ≤ zrsf g1 (zbt x) w 60 ∧ zrsf g1 (zbt x) w 60 ≤ 60 := fun w hw => by
      rcases (show w = 0 ∨ w = 1 ∨ w = 2 ∨ w = 3 by omega) with q | q | q | q <;> subst q
      · rw [← k0]; exact zfch_b zmin_or (by omega) 60 (fun i hi q => (fr i hi (by rw [← sc i hi]; exact q)).1.2)
      · rw [← k1]; exact zfch_b zmin_or (by omega) 60 (fun i hi q => (fr i hi (by rw [← sc i hi]; exact q)).2.1.2)
      · rw [← k2]; exact zfch_b zmax_or (by omega) 60 (fun i hi q => (fr i hi (by rw [← sc i hi]; exact q)).2.2.1.2)
      · rw [← k3]; exact zfch_b zmax_or (by omega) 60 (fun i hi q => (fr i hi (by rw [← sc i hi]; exact q)).2.2.2.2)
    obtain ⟨d1, d2, d3⟩ := h1.2.2.2.2.2.2.1
    have hm : g1 1153 33 = (((g1 1153 33).toNat : Nat) : Int) := by omega
    have edx : zsnx F0 = zrdx g1 (zbt x) := by
      unfold zsnx zrdx
      rw [k0, k2, zqpull hcc hm]
    have edy : zsny F0 = zrdy g1 (zbt x) := by
      unfold zsny zrdy
      rw [k1, k3, zqpull hcc hm]
    have bx : -6 ≤ zrdx g1 (zbt x) ∧ zrdx g1 (zbt x) ≤ 6 := by
      rw [← edx]
      exact (zpl_b _ _ _ _ 3).2
    have by9 : -6 ≤ zrdy g1 (zbt x) ∧ zrdy g1 (zbt x) ≤ 6 := by
      rw [← edy]
      exact (zpl_b _ _ _ _ 3).2
    have er := fun Q8 => c233 (L := L) (M := zwI N g1) (x := x) (n := (g1 1153 33).toNat) (Q := Q8) hN (zqR_rld h1) (zqR_ne h1) (fun i hi hz => zqmo h1 hi (x3 i hi) hz) hm (by omega) bnd
    simp only [zwI_I, zwI_w] at er
    have ec := fun (v : Int) (M9 : zM) q1 q2 Q9 => zc41 (L := L) (M := M) (v := v) (M9 := M9) (s := s) (Q := Q9) hM (zqR_gr h) (zqR_gd h) (zqR_mw h) hs (by rw [zqR_t h hs]; exact ht) q1 q2
    rw [eF, edx, edy] at ec
    generalize zrdx g1 (zbt x) = dx at *
    generalize zrdy g1 (zbt x) = dy at *
    obtain ⟨F, v, m1, m2, m3⟩ := zqmove (L := L) (M := zwI M F0) (N := zwI N g1) hM hN hk hcc (by rw [← eF]; exact zMv_chs (zqR_mw h)) x2 x3 (dx := dx) (dy := dy) (by omega) (by omega)
    have fF : ∀ b j, (b < 3 ∨ 854 ≤ b) → F b j = M.2.1 b j := fun b j hb => (m2 b j hb).trans (by show F0 b j = _; rw [← eF]; exact zchs_o (by omega) _)
    rcases m3 with ⟨c, v0, v1, r⟩ | ⟨c, v1, r⟩
    · have ec2 := ec v (zwI M F) m1 (by omega)
      rw [if_neg (show ¬ v = -1 by omega)] at ec2
      refine ⟨F, _, _, 1, fun Q => c10_16 hM (zqR_01 h) hk hk hg j0 hs e2 ec2, e 1 (zu2 (zrmv g1 (zbt x) dx dy) 1153 36 ((dx.natAbs : Int) + (dy.natAbs : Int))) (Or.inr rfl) (fun Q9 => c208_16 (x := x) (M10 := N) (M := zwI N g1) hN hk hs j1g x1 (fun Q8 => ?_) (Or.inr rfl)), fF, fun b j hb => ?_, fun j j1 j2 j3 => ?_, Or.inr ⟨rfl, by omega, zu2_eq _ _ _ _, zqR_n hk (zqR_36 r)⟩⟩
      · refine (er Q8).trans ?_
        exact propext ⟨fun q => q.1 c, fun q => ⟨fun _ => q, fun q2 => absurd c q2⟩⟩
      · rw [zu2_sj (by omega), zrmv_o (by omega)]
        exact go b j hb
      · rw [zu2_sj (by omega), zrmv_o (by omega)]
        exact go2 j j1 j2 j3
    · have ec2 := ec v (zwI M F) m1 (by omega)
      rw [if_pos v1] at ec2
      refine ⟨F, _, _, 0, fun Q => c10_16 hM (zqR_01 h) hk hk hg j0 hs e2 ec2, e 0 (zu2 (zrlm g1 (zbt x) dx dy) 1153 36 ((dx.natAbs : Int) + (dy.natAbs : Int))) (Or.inl rfl) (fun Q9 => c208_16 (x := x) (M10 := N) (M := zwI N g1) hN hk hs j1g x1 (fun Q8 => ?_) (Or.inl rfl)), fF, fun b j hb => ?_, fun j j1 j2 j3 => ?_, Or.inl ⟨rfl, rfl, zqR_36 r⟩⟩
      · refine (er Q8).trans ?_
        exact propext ⟨fun q => q.2 c, fun q => ⟨fun q2 => absurd q2 c, fun _ => q⟩⟩
      · rw [zu2_sj (by omega), zrlm_o (by omega)]
        exact go b j hb
      · rw [zu2_sj (by omega), zrlm_o (by omega)]
        exact go2 j j1 j2 j3
end ZSNAPQ
end SG_CD_snapq
section SG_CE_spreadq
/-! spread, in both programs -/
section ZSPREADQ
variable {n : Nat} {f g f' g' : Nat → Nat → Int} {i s : Nat}
theorem zinsf_cg {lt lt' : Nat → Nat → Bool} {x : Nat} : ∀ (k : Nat) (o o' : Nat → Int), (∀ j, j < k → o j = o' j ∧ lt x (o j).toNat = lt' x (o' j).toNat) → ∀ j, j < k + 1 → zinsf lt x k o j = zinsf lt' x k o' j
  | 0, o, o', _, j, hj => by
    have e : j = 0 := by omega
    subst e
    show zup o 0 (x : Int) 0 = zup o' 0 (x : Int) 0
    rw [zup_eq, zup_eq]
  | k + 1, o, o', h, j, hj => by
    obtain ⟨h1, h2⟩ := h k (by omega)
    unfold zinsf
    rw [← h2]
    by_cases c : lt x (o k).toNat = true
    · rw [if_pos c, if_pos c]
      by_cases hjk : j < k + 1
      · refine zinsf_cg k _ _ (fun j2 hj2 => ?_) j hjk
        rw [zup_ne (by omega), zup_ne (by omega)]
        exact h j2 (by omega)
      · have e : j = k + 1 := by omega
        subst e
        rw [zinsf_hi lt x k _ _ (by omega), zinsf_hi lt' x k _ _ (by omega), zup_eq, zup_eq]
        exact h1
    · rw [if_neg c, if_neg c]
      by_cases hjk : j = k + 1
      · subst hjk; rw [zup_eq, zup_eq]
      · rw [zup_ne hjk, zup_ne hjk]; exact (h j (by omega)).1
/-- two orders told alike of those that are there -/
theorem zord_cg {lt lt' : Nat → Nat → Bool} {th th' : Nat → Bool} {o o' : Nat → Int} : ∀ m, (∀ i, i < m → th i = th' i) → (∀ i j, i < m → j < m → th i = true → th j = true → lt i j = lt' i j) → zcnt th m = zcnt th' m ∧ ∀ j, j < zcnt th m → zord lt th o m j = zord lt' th' o' m j
  | 0, _, _ => ⟨rfl, fun j h => absurd h (Nat.not_lt_zero j)⟩
  | m + 1, ht, hl => by
    obtain ⟨a, b⟩ := zord_cg (o := o) (o' := o') m (fun i hi => ht i (by omega)) (fun i j hi hj => hl i j (by omega) (by omega))
    rw [zcnt_s, zcnt_s, ← ht m (by omega)]
    unfold zord
    rw [← ht m (by omega)]
    by_cases c : th m = true
    · rw [if_pos c, if_pos c, if_pos c, if_pos c]
      refine ⟨by omega, fun j hj => ?_⟩
      rw [← a]
      refine zinsf_cg _ _ _ (fun j2 hj2 => ?_) j hj
      have e := b j2 hj2
      refine ⟨e, ?_⟩
      obtain ⟨v, v1, v2, v3⟩ := zord_v lt th o m j2 hj2
      rw [← e, v3, Int.toNat_natCast]
      exact hl m v (by omega) (by omega) c v2
    · rw [if_neg c, if_neg c, if_neg c, if_neg c]
      exact ⟨a, b⟩
/-- ways told alike -/
theorem zqsp {F H : Nat → Nat → Int} {o o' : Nat → Int} {m : Nat} (h : ∀ j, j < m → o j = o' j ∧ F (14 + 14 * (o j).toNat) 11 = H (14 + 14 * (o' j).toNat) 11 ∧ F (14 + 14 * (o j).toNat) 13 = H (14 + 14 * (o' j).toNat) 13) : ∀ i, i < m → zspw F o i = zspw H o' i
  | 0, _ => rfl
  | i + 1, hi => by
    obtain ⟨h1, h2, h3⟩ := h (i + 1) hi
    rw [zspw_s, zspw_s, zqsp h i (by omega), h2, h3]
theorem zqspd {F H : Nat → Nat → Int} {o o' : Nat → Int} {m : Nat} {q r : Int} (h : ∀ j, j < m → o j = o' j ∧ F (14 + 14 * (o j).toNat) 11 = H (14 + 14 * (o' j).toNat) 11 ∧ F (14 + 14 * (o j).toNat) 13 = H (14 + 14 * (o' j).toNat) 13) {i : Nat} (hi : i + 1 < m) : zspd F o q r i = zspd H o' q r i := by
  unfold zspd zspe
  rw [zqsp h i (by omega), (h 0 (by omega)).2.2, (h (i + 1) hi).2.1]
theorem zqsfr {F H : Nat → Nat → Int} {o o' : Nat → Int} {m : Nat} (h : ∀ j, j < m → o j = o' j ∧ F (14 + 14 * (o j).toNat) 11 = H (14 + 14 * (o' j).toNat) 11 ∧ F (14 + 14 * (o j).toNat) 13 = H (14 + 14 * (o' j).toNat) 13) (hm : 3 ≤ m) : zsfr F o m = zsfr H o' m := by
  unfold zsfr
  rw [zqsp h (m - 2) (by omega), (h 0 (by omega)).2.2, (h (m - 1) (by omega)).2.1]
theorem zrsh_z (g : Nat → Nat → Int) (s : Nat) : zrsh g s 0 0 = g := by
  funext b j
  unfold zrsh zrmp
  split
  · next c =>
    split
    · next e => rw [e]; exact Int.add_zero _
    · next e =>
      have : b = 1178 := by omega
      rw [this]; exact Int.add_zero _
  · rfl
/-- the shapes of a row put at their places -/
theorem zqQ_spread {F : Nat → Nat → Int} {o : Nat → Int} {q r : Int} {m : Nat} (h : zqR n F g) (hv : ∀ j, j < m → ∃ v : Nat, v < 60 ∧ g 1166 v = 1 ∧ o j = (v : Int)) (hi : ∀ i j, i < m → j < m → o i = o j → i = j) (hr : 0 ≤ r) (hq : 0 ≤ q) (B : ∀ i : Nat, i + 1 < m → 0 ≤ zspe (zrfv g) o q r i ∧ zspe (zrfv g) o q r i ≤ 60) {G : Nat → Nat → Int} (hG : zqR n F G) (he : ∀ u, zrEq G g u) (h0 : ∀ i, i < 60 → G 1166 i = g 1166 i) : ∀ i, i + 1 < m → zqR n (zspm F o q r i) (zrgm G (zrfv g) o q r i)
  | 0, _ => hG
  | i + 1, hm => by
    have ih := zqQ_spread h hv hi hr hq B hG he h0 i (by omega)
    obtain ⟨v, v1, v2, v3⟩ := hv (i + 1) (by omega)
    have pw : ∀ j, j < m → o j = o j ∧ F (14 + 14 * (o j).toNat) 11 = zrfv g (14 + 14 * (o j).toNat) 11 ∧ F (14 + 14 * (o j).toNat) 13 = zrfv g (14 + 14 * (o j).toNat) 13 := fun j hj => by
      obtain ⟨u, u1, u2, u3⟩ := hv j hj
      obtain ⟨hE, _⟩ := h.2.2.2.2.2.2.2.1 u u1 u2
      obtain ⟨_, _, _, f1, f2, f3, f4⟩ := hE
      rw [u3, Int.toNat_natCast, zrfv_l, zrfv_r]
      exact ⟨rfl, f1, f3⟩
    have ed := zqspd (q := q) (r := r) pw (i := i) (by omega)
    have s1 := zspe_s (zrfv g) o q r i
    have b1 := B i (by omega)
    have b2 := B (i + 1) (by omega)
    have sd : zspd (zrfv g) o q r i = zspe (zrfv g) o q r i + q + (if (i : Int) + 1 ≤ r then 1 else 0) - zrsd g v 0 := by
      unfold zspd
      rw [v3, Int.toNat_natCast, zrfv_l]
    rw [v3, Int.toNat_natCast, zrfv_r] at s1
    have dst : ∀ k, k < i → v ≠ (o (k + 1)).toNat := by
      intro k hk e
      obtain ⟨u, a2, _, d2⟩ := hv (k + 1) (by omega)
      have := hi (k + 1) (i + 1) (by omega) (by omega) (by rw [v3, d2]; rw [d2, Int.toNat_natCast] at e; omega)
      omega
    have eq : zrEq (zrgm G (zrfv g) o q r i) g v := zrEq_t (zrgm_e i dst) (he v)
    obtain ⟨hE, hO⟩ := h.2.2.2.2.2.2.2.1 v v1 v2
    have D := zrEq_d eq (zqO_sw hO)
    have fm := zqO_fm hO
    unfold zrFm at fm
    have if1 : 0 ≤ (if (i : Int) + 1 ≤ r then (1 : Int) else 0) := by split <;> omega
    generalize (if (i : Int) + 1 ≤ r then (1 : Int) else 0) = w at *
    have t : zrgm G (zrfv g) o q r i 1166 v = 1 := (zrgm_o (by omega) i).trans ((h0 v v1).trans v2)
    rw [zspm_s, zrgm_s, ed, v3, Int.toNat_natCast]
    generalize zspd (zrfv g) o q r i = d at *
    by_cases c : d = 0
    · rw [if_pos c, c, zrsh_z]
      exact ih
    · rw [if_neg c]
      exact zqQ_shift (dx := d) (dy := 0) ih v1 t (by rw [D, D]; omega) (by rw [D, D]; omega)
variable {L k : Nat} {M N : zM}
theorem zqS_14 (hM : zLay M.2.2.2) (hN : zLayN N.2.2.2) (hk : k < 60) (h : zqR k M.2.1 N.2.1) (hj : zqJ1 M N k 14) : zqS L k M N := by
  obtain ⟨⟨j0, j1⟩, j2, j3⟩ := hj
  rcases zqS_sh (L := L) hM hN hk h j2 (Or.inl j3) (by omega) with no | ⟨s, hs, e2, e4, ht, hg, e⟩
  · exact no
  · have h1 := zqR_g1 (k := k) h
    have j1g : zqg1 N.2.1 k 1158 k = 14 := (zqg1_o (by omega)).trans j1
    have go : ∀ b j, (b < 1153 ∨ (1154 ≤ b ∧ b < 1166) ∨ 1189 ≤ b) → zqg1 N.2.1 k b j = N.2.1 b j := fun b j hb => zqg1_o (by omega)
    have go2 : ∀ j, j ≠ 33 → j ≠ 36 → j ≠ 38 → zqg1 N.2.1 k 1153 j = N.2.1 1153 j := fun j _ h2 _ => zu2_i h2 _ _ _ _
    have ts : zqg1 N.2.1 k 1166 s = 1 := (zqg1_o (by omega)).trans ht
    generalize eg1 : zqg1 N.2.1 k = g1 at *
    have hcc := zqR_chs (s := s) (fl := 0) h1
    generalize ex : zsts (zrtg g1 s) 60 = x at *
    have x1 : ∀ Q9 : zO → zM → Prop, zFR (zK L) 212 0 (zcall 212 [.inr (.inr 1153), .inl (s : Int)]) [] (zwI N g1) Q9 = Q9 (.inl (some (.inr (.inl x)))) (zwI N g1) := fun Q9 => by
      rw [← ex]
      exact c212 (M := zwI N g1) hN hs (zqR_rG h1) (zqR_r01 h1)
    have x2 : ∀ j, j < 60 → (zchs M.2.1 s 0 8 j ≠ 0 ↔ zbt x j = true) := fun j hj => by
      rw [← ex]
      exact zqch1 h1 hs ts hj
    have x3 : ∀ j, j < 60 → zbt x j = true → g1 1166 j = 1 := fun j hj hb => by
      rw [← ex, zbt_sts _ 60 (by omega), Bool.and_eq_true] at hb
      have := hb.2
      unfold zrtg at this
      rw [decide_eq_true_iff] at this
      exact this.1
    generalize eF : zchs M.2.1 s 0 = F0 at *
    have sc : ∀ i, i < 60 → zsnc F0 i = zbt x i := fun i hi => by
      unfold zsnc
      rw [Bool.eq_iff_iff, decide_eq_true_iff]
      exact x2 i hi
    have fr : ∀ i, i < 60 → g1 1166 i = 1 → F0 (14 + 14 * i) 11 = zrsd g1 i 0 ∧ F0 (14 + 14 * i) 13 = zrsd g1 i 2 := fun i hi t => by
      obtain ⟨hE, hO⟩ := hcc.2.2.2.2.2.2.2.1 i hi t
      exact ⟨hE.2.2.2.1, hE.2.2.2.2.2.1⟩
    obtain ⟨cn, oo⟩ := zord_cg (lt := zlfl F0) (lt' := zrwl g1) (th := zsnc F0) (th' := zbt x) (o := F0 5) (o' := g1 1188) 60 sc (fun i j hi hj ti tj => by
      have a := fr i hi (x3 i hi (by rw [← sc i hi]; exact ti))
      have b := fr j hj (x3 j hj (by rw [← sc j hj]; exact tj))
      unfold zlfl zrwl
      rw [a.1, b.1])
    have hov : ∀ j, j < zcnt (zsnc F0) 60 → ∃ v : Nat, v < 60 ∧ g1 1166 v = 1 ∧ zspo F0 j = (v : Int) := fun j hj => by
      obtain ⟨v, v1, v2, v3⟩ := zord_v (zlfl F0) (zsnc F0) (F0 5) 60 j hj
      exact ⟨v, v1, x3 v v1 (by rw [← sc v v1]; exact v2), v3⟩
    have hinj : ∀ i j, i < zcnt (zsnc F0) 60 → j < zcnt (zsnc F0) 60 → zspo F0 i = zspo F0 j → i = j := fun i j hi hj q => zord_inj _ _ _ 60 i j hi hj q
    have eo : ∀ j, j < zcnt (zsnc F0) 60 → zspo F0 j = zrwo g1 x j := oo
    have en : zrsn x = zcnt (zsnc F0) 60 := cn.symm
    have ec := fun Q9 => c38 (L := L) (M := M) (Q := Q9) (g := F0) (n := zcnt (zsnc F0) 60) (s := s) hM (zqR_gr h) (zqR_01 h) hs eF.symm rfl (fun j hj hb => by
      have t := x3 j hj (by rw [← sc j hj]; exact hb)
      obtain ⟨hE, hO⟩ := hcc.2.2.2.2.2.2.2.1 j hj t
      obtain ⟨m1, m2, m3⟩ := zqE_fm hE hO
      exact ⟨zqE_sw hE hO, m1, m2⟩)
    have er := fun Q8 => c231 (L := L) (M := zwI N g1) (x := x) (Q := Q8) hN (fun i hi hb => by
      obtain ⟨hE, hO⟩ := h1.2.2.2.2.2.2.2.1 i hi (x3 i hi hb)
      exact ⟨zqO_sw hO, zqO_fm hO⟩)
    simp only [zwI_I, zwI_w] at er
    have pw : ∀ j, j < zcnt (zsnc F0) 60 → zspo F0 j = zrwo g1 x j ∧ F0 (14 + 14 * (zspo F0 j).toNat) 11 = zrfv g1 (14 + 14 * (zrwo g1 x j).toNat) 11 ∧ F0 (14 + 14 * (zspo F0 j).toNat) 13 = zrfv g1 (14 + 14 * (zrwo g1 x j).toNat) 13 := fun j hj => by
      obtain ⟨v, v1, v2, v3⟩ := hov j hj
      rw [← eo j hj, v3, Int.toNat_natCast, zrfv_l, zrfv_r]
      exact ⟨rfl, fr v v1 v2⟩
    have keepF : zqR k (zua F0 5 (zspo F0)) g1 := zqR_keep (fun b j h5 _ _ _ _ => zua_o h5 _ _) (fun j hj => by rw [zua_o (by omega)]; exact zqR_ch hcc j hj) (fun _ _ _ _ _ => rfl) rfl hcc
    have keepG : ∀ F, zqR k F g1 → zqR k F (zrso g1 x) := fun F hF => zqR_keep (fun _ _ _ _ _ _ _ => rfl) (zqR_ch hF) (fun b j b1 b2 _ => zua_o (by omega) _ _) (zua_o (by omega) _ _) hF
    have F0o : ∀ b j, (b < 3 ∨ 854 ≤ b) → F0 b j = M.2.1 b j := fun b j hb => by rw [← eF]; exact zchs_o (by omega) _
    by_cases c : 3 ≤ zcnt (zsnc F0) 60 ∧ 0 ≤ zsfr F0 (zspo F0) (zcnt (zsnc F0) 60)
    · have es := zqsfr pw c.1
      have eF2 : zrsF g1 x = zsfr F0 (zspo F0) (zcnt (zsnc F0) 60) := by
        unfold zrsF
        rw [en, es]
      have c2 : 3 ≤ zrsn x ∧ 0 ≤ zrsF g1 x := by rw [en, eF2]; exact c
      have eq1 : zrsq g1 x = zsfr F0 (zspo F0) (zcnt (zsnc F0) 60) / (((zcnt (zsnc F0) 60 : Nat) : Int) - 1) := by
        unfold zrsq
        rw [en, eF2]
      have er1 : zrsr g1 x = zsfr F0 (zspo F0) (zcnt (zsnc F0) 60) % (((zcnt (zsnc F0) 60 : Nat) : Int) - 1) := by
        unfold zrsr
        rw [en, eF2]
      rw [← eq1, ← er1] at ec
      have hq0 : 0 ≤ zrsq g1 x := by
        rw [eq1]
        exact Int.ediv_nonneg c.2 (by omega)
      have hr0 : 0 ≤ zrsr g1 x := by
        rw [er1]
        exact Int.emod_nonneg _ (by omega)
      have ok : zsok (zrfv g1) (zspo F0) (zcnt (zsnc F0) 60) := zrfv_ok (fun j hj => by
        obtain ⟨v, v1, v2, v3⟩ := hov j hj
        exact ⟨v, v1, zqO_fm (hcc.2.2.2.2.2.2.2.1 v v1 v2).2, v3⟩) hinj
      have es2 : zsfr F0 (zspo F0) (zcnt (zsnc F0) 60) = zsfr (zrfv g1) (zspo F0) (zcnt (zsnc F0) 60) := zqsfr (fun j hj => by
        obtain ⟨p1, p2, p3⟩ := pw j hj
        rw [← p1] at p2 p3
        exact ⟨rfl, p2, p3⟩) c.1
      have B : ∀ i : Nat, i + 1 < zcnt (zsnc F0) 60 → 0 ≤ zspe (zrfv g1) (zspo F0) (zrsq g1 x) (zrsr g1 x) i ∧ zspe (zrfv g1) (zspo F0) (zrsq g1 x) (zrsr g1 x) i ≤ 60 := fun i hi => by
        have := zspe_b ok c.1 hi (by rw [← es2]; exact c.2)
        rw [← es2, ← eq1, ← er1] at this
        exact this
      generalize eqq : zrsq g1 x = q at *
      generalize err : zrsr g1 x = r at *
      generalize emm : zcnt (zsnc F0) 60 = m at *
      generalize eoo : zspo F0 = o at *
      have zsame : ∀ i, i < 60 → zrso g1 x 1166 i = g1 1166 i := fun i _ => zua_o (by omega) _ _
      have main := zqQ_spread (n := k) (F := zua F0 5 o) (g := g1) (o := o) (q := q) (r := r) (m := m) keepF hov hinj hr0 hq0 B (G := zrso g1 x) (keepG _ keepF) (fun u => zrEq_ua (by omega)) zsame (m - 2) (by omega)
      have same : ∀ i, i + 1 < m → zspd F0 o q r i = zspd (zrfv g1) (zrwo g1 x) q r i := fun i hi => zqspd pw hi
      have gm : ∀ i, i + 1 < m → zrgm (zrso g1 x) (zrfv g1) (zrwo g1 x) q r i = zrgm (zrso g1 x) (zrfv g1) o q r i := by
        intro i
        induction i with
        | zero => exact fun _ => rfl
        | succ i ih =>
          intro hi
          have p : ∀ j, j < m → o j = zrwo g1 x j ∧ zrfv g1 (14 + 14 * (o j).toNat) 11 = zrfv g1 (14 + 14 * (zrwo g1 x j).toNat) 11 ∧ zrfv g1 (14 + 14 * (o j).toNat) 13 = zrfv g1 (14 + 14 * (zrwo g1 x j).toNat) 13 := fun j hj => by
            rw [eo j hj]
            exact ⟨rfl, rfl, rfl⟩
          rw [zrgm_s, zrgm_s, ih (by omega), ← eo (i + 1) (by omega), zqspd p (i := i) (by omega)]
      have cnts : zspn F0 o q r (m - 2) = zspn (zrfv g1) (zrwo g1 x) q r (m - 2) := by
        unfold zspn
        refine zcnt_cong _ _ _ (fun i hi => ?_)
        rw [same i (by omega)]
      refine ⟨zspm (zua F0 5 o) o q r (m - 2), zu2 (zrgm (zrso g1 x) (zrfv g1) o q r (m - 2)) 1153 36 (zspn (zrfv g1) (zrwo g1 x) q r (m - 2) : Int), (zspn F0 o q r (m - 2) : Int), 1, fun Q => c10_14 (v := (zspn F0 o q r (m - 2) : Int)) (M9 := zwI M (zspm (zua F0 5 o) o q r (m - 2))) hM (zqR_01 h) hk hk hg j0 hs e2 (fun Q9 => ?_), e 1 _ (Or.inr rfl) (fun Q9 => c208_14p (a := (zspn (zrfv g1) (zrwo g1 x) q r (m - 2) : Int)) (M9 := zwI N (zrgm (zrso g1 x) (zrfv g1) o q r (m - 2))) (M10 := N) (M := zwI N g1) hN hk hs j1g (by omega) x1 (fun Q8 => ?_)), fun b j hb => ?_, fun b j hb => ?_, fun j j1 j2 j3 => ?_, Or.inr ⟨rfl, by omega, ?_, zqR_n hk (zqR_36 main)⟩⟩
      · rw [ec]
        exact propext ⟨fun q => q.1 c, fun q => ⟨fun _ => q, fun q2 => absurd c q2⟩⟩
      · refine (er Q8).trans ?_
        rw [← gm (m - 2) (by omega)]
        rw [en] at c2 ⊢
        exact propext ⟨fun q => q.1 c2, fun q => ⟨fun _ => q, fun q2 => absurd c2 q2⟩⟩
      · rw [zspm_o]
        · rw [zua_o (by omega)]
          exact F0o b j hb
        · intro k2 hk2
          obtain ⟨v, v1, v2, v3⟩ := hov (k2 + 1) (by omega)
          omega
      · rw [zu2_sj (by omega), zrgm_o (by omega)]
        unfold zrso
        rw [zua_o (by omega)]
        exact go b j hb
      · rw [zu2_sj (by omega), zrgm_o (by omega)]
        unfold zrso
        rw [zua_o (by omega)]
        exact go2 j j1 j2 j3
      · rw [zu2_eq, cnts]
    · have c2 : ¬ (3 ≤ zrsn x ∧ 0 ≤ zrsF g1 x) := fun q => c (by
        rw [en] at q
        refine ⟨q.1, ?_⟩
        have := q.2
        unfold zrsF at this
        rw [en, ← zqsfr pw q.1] at this
        exact this)
      refine ⟨zua F0 5 (zspo F0), zu2 (zrso g1 x) 1153 36 (-1), -1, 0, fun Q => c10_14 (v := -1) (M9 := zwI M (zua F0 5 (zspo F0))) hM (zqR_01 h) hk hk hg j0 hs e2 (fun Q9 => ?_), e 0 _ (Or.inl rfl) (fun Q9 => c208_14n (a := -1) (M9 := zwI N (zrso g1 x)) (M10 := N) (M := zwI N g1) hN hk hs j1g (by omega) x1 (fun Q8 => ?_)), fun b j hb => ?_, fun b j hb => ?_, fun j j1 j2 j3 => ?_, Or.inl ⟨rfl, rfl, zqR_36 (keepG _ keepF)⟩⟩
      · rw [ec]
        exact propext ⟨fun q => q.2 c, fun q => ⟨fun q2 => absurd q2 c, fun _ => q⟩⟩
      · refine (er Q8).trans ?_
        exact propext ⟨fun q => q.2 c2, fun q => ⟨fun q2 => absurd q2 c2, fun _ => q⟩⟩
      · rw [zua_o (by omega)]
        exact F0o b j hb
      · rw [zu2_sj (by omega)]
        unfold zrso
        rw [zua_o (by omega)]
        exact go b j hb
      · rw [zu2_sj (by omega)]
        unfold zrso
        rw [zua_o (by omega)]
        exact go2 j j1 j2 j3
end ZSPREADQ
end SG_CE_spreadq
section SG_CF_newq
/-! a new shape on both boards: drawn, joined -/
section ZNEWQ
variable {n : Nat} {f g f' g' : Nat → Nat → Int} {i s : Nat}
theorem zqQ_new (h : zqR n f g) (hn : n < 60) {F1 G1 : Nat → Nat → Int} {l : Int} (hf : ∀ b j, (b < 14 + 14 * n ∨ 28 + 14 * n ≤ b ∨ (b = 14 + 14 * n ∧ (j = 3 ∨ j = 4))) → F1 b j = f b j) (hg : ∀ b j, ((b ≠ 1153 ∨ j ≠ 36) ∧ ((b ≠ 1166 ∧ b ≠ 1167 ∧ b ≠ 1168 ∧ b ≠ 1171 ∧ b ≠ 1172 ∧ b ≠ 1173 ∧ b ≠ 1174 ∧ b ≠ 1175 ∧ b ≠ 1180) ∨ j ≠ n) ∧ (b ≠ 1176 ∨ ¬ (4 * n ≤ j ∧ j < 4 * n + 4)) ∧ ((b ≠ 1177 ∧ b ≠ 1178) ∨ ¬ (32 * n ≤ j ∧ j < 32 * n + 32))) → G1 b j = g b j) (v0 : F1 (14 + 14 * n) 0 = 1 ∧ G1 1166 n = 1) (vl : G1 1167 n = l ∧ 0 ≤ l ∧ l ≤ 3) (vc : F1 (14 + 14 * n) 2 = G1 1168 n ∧ 1 ≤ G1 1168 n ∧ G1 1168 n ≤ 9) (vh : F1 (14 + 14 * n) 5 = G1 1171 n) (v6 : F1 (14 + 14 * n) 6 = -1 ∧ F1 (14 + 14 * n) 7 = -1 ∧ F1 (14 + 14 * n) 8 = -1) (w6 : G1 1172 n = -1 ∧ G1 1173 n = -1 ∧ G1 1180 n = -1) (hE : zqE F1 G1 n ∧ zqO G1 n) : zqR (n + 1) (zlay F1 n l) (zrtp G1 n) := by
  have hrt : ∀ i, i < 60 → f (14 + 14 * i) 0 = g 1166 i := fun i hi => zqR_t h hi
  have gn0 : g 1166 n = 0 := by
    rcases (h.1.2 n hn).1 with e | e
    · exact e
    · have := (h.1.2 n hn).2.2 e; omega
  have wn : g 1180 n = -1 := by
    rcases (h.2.2.2.2.1 n hn).2.2 with e | ⟨e1, e2, _⟩
    · exact e
    · omega
  have fn7 : f 7 n = -1 := by rw [(h.2.2.2.2.1 n hn).2.1 gn0, wn]
  obtain ⟨T, A, K, Lr, G, V, D, S, J⟩ := h
  unfold zlay zrtp
  rw [vl.1]
  have e1 : zgr F1 n l 60 + 1 = zrab G1 n l 60 := zqgr 60 (fun i hi his => by
    rw [hf _ _ (by omega), hf _ _ (by omega), hf _ _ (by omega), hf _ _ (by omega), hg 1166 i (by omega), hg 1167 i (by omega), hg 1169 i (by omega), hg 1170 i (by omega)]
    exact ⟨hrt i hi, fun t => ⟨(A i hi t).1, (K.1 i hi t).1, (K.1 i hi t).2.1⟩⟩)
  rw [e1]
  have hGG : ∀ i, i < 60 → i ≠ n → G1 1166 i = g 1166 i ∧ G1 1167 i = g 1167 i ∧ G1 1169 i = g 1169 i ∧ G1 1170 i = g 1170 i := fun i hi his => ⟨hg _ _ (by omega), hg _ _ (by omega), hg _ _ (by omega), hg _ _ (by omega)⟩
  have hb := zqK_o (l := l) (t := 0) K T.1 hGG
  generalize et : zrab G1 n l 60 = t at *
  generalize ef : zu2 (zu2 (zu2 F1 (14 + 14 * n) 1 l) (14 + 14 * n) 3 t) (14 + 14 * n) 4 1 = f'
  generalize eg : zu2 (zu2 G1 1169 n t) 1170 n 1 = g'
  have hF1 : ∀ b i, (b ≠ 14 + 14 * n ∨ (i ≠ 1 ∧ i ≠ 3 ∧ i ≠ 4)) → f' b i = F1 b i := fun b i hb => by rw [← ef, zu2_sj (by omega), zu2_sj (by omega), zu2_sj (by omega)]
  have hG1 : ∀ b i, ((b ≠ 1169 ∧ b ≠ 1170) ∨ i ≠ n) → g' b i = G1 b i := fun b i hb => by rw [← eg, zu2_sj (by omega), zu2_sj (by omega)]
  have s1 : f' (14 + 14 * n) 1 = l := by rw [← ef, zu2_i (by omega), zu2_i (by omega), zu2_eq]
  have s3 : f' (14 + 14 * n) 3 = t := by rw [← ef, zu2_i (by omega), zu2_eq]
  have s4 : f' (14 + 14 * n) 4 = 1 := by rw [← ef, zu2_eq]
  have r1 : g' 1167 n = l := (hG1 _ _ (by omega)).trans vl.1
  have r3 : g' 1169 n = t := by rw [← eg, zu2_a (by omega), zu2_eq]
  have r4 : g' 1170 n = 1 := by rw [← eg, zu2_eq]
  have hF : ∀ b j, (b < 14 + 14 * n ∨ 28 + 14 * n ≤ b) → f' b j = f b j := fun b j hb => (hF1 b j (by omega)).trans (hf b j (by omega))
  have hG : ∀ b j, ((b ≠ 1153 ∨ j ≠ 36) ∧ ((b ≠ 1166 ∧ b ≠ 1167 ∧ b ≠ 1168 ∧ b ≠ 1169 ∧ b ≠ 1170 ∧ b ≠ 1171 ∧ b ≠ 1172 ∧ b ≠ 1173 ∧ b ≠ 1174 ∧ b ≠ 1175 ∧ b ≠ 1180) ∨ j ≠ n) ∧ (b ≠ 1176 ∨ ¬ (4 * n ≤ j ∧ j < 4 * n + 4)) ∧ ((b ≠ 1177 ∧ b ≠ 1178) ∨ ¬ (32 * n ≤ j ∧ j < 32 * n + 32))) → g' b j = g b j := fun b j hb => (hG1 b j (by omega)).trans (hg b j (by omega))
  have ti : ∀ i, i < 60 → i ≠ n → g' 1166 i = g 1166 i := fun i hi e => hG _ _ (by omega)
  have tn : g' 1166 n = 1 := (hG1 _ _ (by omega)).trans v0.2
  have ht : zqT (n + 1) f' g' := ⟨hn, fun i hi => by
    by_cases e : i = n
    · subst e
      rw [tn, hF1 _ _ (by omega), v0.1]
      exact ⟨Or.inr rfl, rfl, fun _ => by omega⟩
    · rw [ti i hi e, hF _ _ (by omega)]
      obtain ⟨a, b, c⟩ := T.2 i hi
      exact ⟨a, b, fun q => by have := c q; omega⟩⟩
  have ha : zqA f' g' := fun i hi q => by
    by_cases e : i = n
    · subst e
      rw [s1, r1, hF1 _ _ (by omega), hF1 _ _ (by omega), hG1 _ _ (by omega), hG1 _ _ (by omega)]
      exact ⟨rfl, vc.1, vh, vl.2, vc.2⟩
    · rw [ti i hi e] at q
      rw [hF _ _ (by omega), hF _ _ (by omega), hF _ _ (by omega), hG _ _ (by omega), hG _ _ (by omega), hG _ _ (by omega)]
      exact A i hi q
  have hk : zqK (n + 1) f' g' := zqK_top (G := G1) (l := l) (t := t) (s := n) K (fun i hi his => ⟨fun q => by rw [← ti i hi his]; exact q, hF _ _ (by omega), hF _ _ (by omega), hG _ _ (by omega), hG _ _ (by omega), hG _ _ (by omega)⟩) hGG ⟨s3, s4, r1, r3, r4⟩ et.symm
  have lb : ∀ i, i < 60 → -1 ≤ g 1172 i ∧ g 1172 i < 60 := fun i hi => ⟨(Lr.2.1 i hi).1, (Lr.2.1 i hi).2.1⟩
  have l2 : g' 1172 n = -1 := (hG1 _ _ (by omega)).trans w6.1
  have l3 : g' 1173 n = -1 := (hG1 _ _ (by omega)).trans w6.2.1
  have he : ∀ i, i < 60 → g' 1172 i = g 1172 i ∨ g' 1172 i = -1 := fun i hi => by
    by_cases e : i = n
    · subst e; exact Or.inr l2
    · exact Or.inl (hG _ _ (by omega))
  have hl : zqL f' g' := by
    refine ⟨fun i hi q => ?_, fun i hi => ?_, fun i hi => ?_⟩
    · by_cases e : i = n
      · subst e
        rw [hF1 _ _ (by omega), hF1 _ _ (by omega), l2, l3]
        exact ⟨v6.1, v6.2.1, fun _ => rfl⟩
      · rw [ti i hi e] at q
        rw [hF _ _ (by omega), hF _ _ (by omega), hG _ _ (by omega), hG _ _ (by omega)]
        exact Lr.1 i hi q
    · by_cases e : i = n
      · subst e; rw [l2]; omega
      · obtain ⟨a, b, c⟩ := Lr.2.1 i hi
        rw [hG 1172 i (by omega), ti i hi e]
        refine ⟨a, b, fun q => ?_⟩
        obtain ⟨c1, c2⟩ := c q
        refine ⟨c1, ?_⟩
        by_cases e2 : (g 1172 i).toNat = n
        · rw [e2, gn0] at c2; omega
        · rw [ti _ (by omega) e2]; exact c2
    · rcases he i hi with e | e <;> rw [e]
      · exact (zrne_d lb he 60 _ (lb i hi) (Lr.2.2 i hi)).2 (by omega)
      · exact Or.inl rfl
  have hgr : zqG (n + 1) f' g' := fun i hi => by
    obtain ⟨a, b, c⟩ := G i hi
    by_cases e : i = n
    · subst e
      rw [tn, hF1 _ _ (by omega), hF 7 _ (by omega), show g' 1180 i = -1 from (hG1 _ _ (by omega)).trans w6.2.2]
      exact ⟨fun _ => ⟨v6.2.2, fn7⟩, fun q => absurd q (by omega), Or.inl rfl⟩
    · rw [ti i hi e, hF _ _ (by omega), hF 7 i (by omega), hG 1180 i (by omega)]
      refine ⟨a, b, ?_⟩
      rcases c with c | ⟨c1, c2, c3⟩
      · exact Or.inl c
      · exact Or.inr ⟨c1, by omega, by rw [ti _ (by omega) (by omega)]; exact c3⟩
  have hv : zqV f' g' := ⟨fun l hl => by rw [hF _ _ (by omega), hG _ _ (by omega)]; exact V.1 l hl, fun i hi => by
    by_cases e : i = n
    · subst e
      rw [r1, hG1 1168 _ (by omega)]
      omega
    · rw [hG 1167 i (by omega), hG 1168 i (by omega)]
      exact V.2 i hi⟩
  have hd : zqD f' g' := zqD_c (hF _ _ (by omega)) (hG _ _ (by omega)) (fun k hk => ⟨hF _ _ (by omega), hF _ _ (by omega)⟩) (fun k hk => ⟨hG _ _ (by omega), hG _ _ (by omega)⟩) D
  have hff : zqF f' g' := fun i hi q => by
    by_cases e : i = n
    · subst e
      have eq : zrEq g' G1 i := ⟨hG1 _ _ (by omega), hG1 _ _ (by omega), fun p _ => hG1 _ _ (by omega), fun j _ _ => ⟨hG1 _ _ (by omega), hG1 _ _ (by omega)⟩⟩
      exact ⟨zqE_c (fun b j b1 b2 b3 => hF1 _ _ (by omega)) eq hE.2 hE.1, zqO_c eq hE.2⟩
    · rw [ti i hi e] at q
      obtain ⟨a, b⟩ := S i hi q
      have eq : zrEq g' g i := ⟨hG _ _ (by omega), hG _ _ (by omega), fun p _ => hG _ _ (by omega), fun j _ _ => ⟨hG _ _ (by omega), hG _ _ (by omega)⟩⟩
      exact ⟨zqE_c (fun b j b1 b2 _ => hF _ _ (by omega)) eq b a, zqO_c eq b⟩
  have hj : zqJ f' := by
    obtain ⟨J1, J2, J3, J4⟩ := J
    refine ⟨fun i hi => ?_, fun i hi => ?_, ⟨fun i hi => ?_, fun i hi => ?_⟩, fun i hi => ?_⟩
    · unfold zKy
      by_cases e : i = n
      · subst e; rw [s3, s4]; omega
      · rw [hF _ 3 (by omega), hF _ 4 (by omega)]; exact J1 i hi
    · unfold zld
      by_cases e : i = n
      · subst e; rw [hF1 _ _ (by omega), v6.1]; omega
      · rw [hF _ _ (by omega)]; exact J2 i hi
    · by_cases e : i = n
      · subst e; rw [hF1 _ _ (by omega), v6.2.2]; omega
      · rw [hF _ _ (by omega)]; exact J3.1 i hi
    · rw [hF _ _ (by omega)]; exact J3.2 i hi
    · rw [hF _ _ (by omega)]; exact J4 i hi
  exact ⟨ht, ha, hk, hl, hgr, hv, hd, hff, hj⟩
/-- the reference's shape that comes -/
theorem zrnr_o2 {l c : Int} {b j : Nat} (h : (b ≠ 1166 ∧ b ≠ 1167 ∧ b ≠ 1168 ∧ b ≠ 1171 ∧ b ≠ 1172 ∧ b ≠ 1173 ∧ b ≠ 1180) ∨ j ≠ s) : zrnr g s l c b j = g b j := by
  unfold zrnr
  rw [zu2_sj (by omega), zu2_sj (by omega), zu2_sj (by omega), zu2_sj (by omega), zu2_sj (by omega), zu2_sj (by omega), zu2_sj (by omega)]
theorem zrnr_v {l c : Int} : zrnr g s l c 1166 s = 1 ∧ zrnr g s l c 1167 s = l ∧ zrnr g s l c 1168 s = c ∧ zrnr g s l c 1171 s = g 1159 s ∧ zrnr g s l c 1172 s = -1 ∧ zrnr g s l c 1173 s = -1 ∧ zrnr g s l c 1180 s = -1 := by
  unfold zrnr
  refine ⟨?_, ?_, ?_, ?_, ?_, ?_, ?_⟩
  · rw [zu2_a (by omega), zu2_a (by omega), zu2_a (by omega), zu2_a (by omega), zu2_a (by omega), zu2_a (by omega), zu2_eq]
  · rw [zu2_a (by omega), zu2_a (by omega), zu2_a (by omega), zu2_a (by omega), zu2_a (by omega), zu2_eq]
  · rw [zu2_a (by omega), zu2_a (by omega), zu2_a (by omega), zu2_a (by omega), zu2_eq]
  · rw [zu2_a (by omega), zu2_a (by omega), zu2_a (by omega), zu2_eq]
  · rw [zu2_a (by omega), zu2_a (by omega), zu2_eq]
  · rw [zu2_a (by omega), zu2_eq]
  · rw [zu2_eq]
theorem zsb_v {h c : Int} {a : Nat} : zsb f a h c a 0 = 1 ∧ zsb f a h c a 5 = h ∧ zsb f a h c a 2 = c ∧ zsb f a h c a 6 = -1 ∧ zsb f a h c a 7 = -1 ∧ zsb f a h c a 8 = -1 := by
  unfold zsb
  refine ⟨?_, ?_, ?_, ?_, ?_, ?_⟩
  · rw [zu2_i (by omega), zu2_i (by omega), zu2_i (by omega), zu2_i (by omega), zu2_i (by omega), zu2_eq]
  · rw [zu2_i (by omega), zu2_i (by omega), zu2_i (by omega), zu2_i (by omega), zu2_eq]
  · rw [zu2_i (by omega), zu2_i (by omega), zu2_i (by omega), zu2_eq]
  · rw [zu2_i (by omega), zu2_i (by omega), zu2_eq]
  · rw [zu2_i (by omega), zu2_eq]
  · rw [zu2_eq]
variable {L k : Nat} {M N : zM}
/-- what a drawing notes in both journals -/
def zqJ0 (M N : zM) (k : Nat) : Prop := zqJw M N k 0 ∧ (M.2.1 (855 + 4 * k) 2 = -1 ∧ M.2.1 (855 + 4 * k) 3 = -1) ∧ M.2.1 (855 + 4 * k) 1 = N.2.1 1159 k ∧ (M.2.1 (855 + 4 * k) 4 = N.2.1 1161 (4 * k) ∧ 0 ≤ N.2.1 1161 (4 * k) ∧ N.2.1 1161 (4 * k) ≤ 3) ∧ (M.2.1 (855 + 4 * k) 5 = N.2.1 1161 (4 * k + 1) ∧ 1 ≤ N.2.1 1161 (4 * k + 1) ∧ N.2.1 1161 (4 * k + 1) ≤ 9) ∧ (M.2.1 (856 + 4 * k) 0 = N.2.1 1163 k ∧ 3 ≤ N.2.1 1163 k ∧ N.2.1 1163 k ≤ 8) ∧ (∀ j : Nat, (j : Int) < N.2.1 1163 k → M.2.1 (857 + 4 * k) j = N.2.1 1164 (8 * k + j) ∧ M.2.1 (858 + 4 * k) j = N.2.1 1165 (8 * k + j) ∧ (0 ≤ N.2.1 1164 (8 * k + j) ∧ N.2.1 1164 (8 * k + j) ≤ 60) ∧ 0 ≤ N.2.1 1165 (8 * k + j) ∧ N.2.1 1165 (8 * k + j) ≤ 60) ∧ zpr (N.2.1 1163 k) (fun j => N.2.1 1164 (8 * k + j)) (fun j => N.2.1 1165 (8 * k + j)) 0
theorem zqS_0 (hM : zLay M.2.2.2) (hN : zLayN N.2.2.2) (hk : k < 60) (h : zqR k M.2.1 N.2.1) (hj : zqJ0 M N k) : zqS L k M N := by
  obtain ⟨⟨j0, j1⟩, ⟨j2, j3⟩, jh, ⟨j4, j4b⟩, ⟨j5, j5b⟩, ⟨j6, j6b⟩, j7, j8⟩ := hj
  have h1 := zqR_g1 (k := k) h
  have hg : zgua M.2.1 k := ⟨Or.inl j2, Or.inl j3⟩
  have go : ∀ b j, b ≠ 1153 → zqg1 N.2.1 k b j = N.2.1 b j := fun b j hb => zqg1_o hb
  have go2 : ∀ j, j ≠ 33 → j ≠ 36 → j ≠ 38 → zqg1 N.2.1 k 1153 j = N.2.1 1153 j := fun j _ h2 _ => zu2_i h2 _ _ _ _
  have g36 : zqg1 N.2.1 k 1153 36 = (k : Int) := zu2_eq _ _ _ _
  generalize eg1 : zqg1 N.2.1 k = g1 at *
  have hb : ∀ i, i < 60 → i ≠ k → (g1 1166 i = 0 ∨ g1 1166 i = 1) ∧ (g1 1166 i = 1 → zrKy g1 i) := fun i hi _ => zqR_rbk h1 i hi
  have ec := fun Q9 => c11 (L := L) (M := M) (c := k) (num := k) (Q := Q9) hM (zqR_bk h) hk hk (h.2.2.2.2.2.2.2.2.1 k hk) ⟨by omega, by omega, fun j hj => by
    obtain ⟨a, b, c, d⟩ := j7 j (by omega)
    rw [a, b]
    exact ⟨c.1, c.2, d.1, d.2⟩⟩
  have er := fun Q9 => c193 (L := L) (M := zwI N g1) (s := k) (Q := Q9) hN hb hk (by show 0 ≤ g1 1163 k ∧ g1 1163 k ≤ 8; rw [go _ _ (by omega)]; omega)
  generalize em : (N.2.1 1163 k).toNat = m at *
  have em2 : N.2.1 1163 k = (m : Int) := by omega
  -- the shape before its frame
  generalize eP : zu2 (zu2 (zpset (zsb M.2.1 (14 + 14 * k) (M.2.1 (855 + 4 * k) 1) (M.2.1 (855 + 4 * k) 5)) (14 + 14 * k + 2) m (M.2.1 (857 + 4 * k)) (M.2.1 (858 + 4 * k))) (14 + 14 * k) 10 1) (14 + 14 * k) 9 2 = P
  have eF : zdrf M.2.1 k k = zfnd P (14 + 14 * k) := by
    unfold zdrf
    rw [j6, em, eP]
  generalize eR : zrcp (zrdr0 g1 k) k m = R
  have eG : zrdw g1 k = zrtp (zrnr R k (g1 1161 (4 * k)) (g1 1161 (4 * k + 1))) k := by
    unfold zrdw zrcm
    rw [go 1163 k (by omega), em, eR]
  have Po : ∀ b j, (b ≠ 14 + 14 * k ∨ (j ≠ 9 ∧ j ≠ 10)) → (b < 14 + 14 * k + 2 ∨ 14 + 14 * k + 5 ≤ b) → P b j = zsb M.2.1 (14 + 14 * k) (M.2.1 (855 + 4 * k) 1) (M.2.1 (855 + 4 * k) 5) b j := fun b j hb hb2 => by
    rw [← eP, zu2_sj (by omega), zu2_sj (by omega), zpset_ob (by omega)]
  have Ro : ∀ b j, ((b ≠ 1174 ∧ b ≠ 1175) ∨ j ≠ k) → (b ≠ 1176 ∨ j ≠ 4 * k) → ((b ≠ 1177 ∧ b ≠ 1178) ∨ ¬ (32 * k ≤ j ∧ j < 32 * k + m)) → R b j = g1 b j := fun b j h1 h2 h3 => by
    rw [← eR]
    unfold zrcp
    rw [if_neg (by omega)]
    unfold zrdr0
    rw [zu2_sj (by omega), zu2_sj (by omega), zu2_sj (by omega)]
  have R4 : R 1174 k = 1 ∧ R 1175 k = 2 ∧ R 1176 (4 * k) = (m : Int) := by
    rw [← eR, zrcp_o (by omega), zrcp_o (by omega), zrcp_o (by omega)]
    unfold zrdr0
    rw [zu2_a (by omega), zu2_a (by omega), zu2_eq, zu2_a (by omega), zu2_eq, zu2_eq, go 1163 k (by omega), em2]
    exact ⟨rfl, rfl, rfl⟩
  have RX : ∀ j, j < m → R 1177 (32 * k + j) = N.2.1 1164 (8 * k + j) ∧ R 1178 (32 * k + j) = N.2.1 1165 (8 * k + j) := fun j hj => by
    rw [← eR]
    unfold zrcp
    rw [if_pos ⟨Or.inl rfl, by omega, by omega⟩, if_pos rfl, if_pos ⟨Or.inr rfl, by omega, by omega⟩, if_neg (by omega), show 8 * k + (32 * k + j - 32 * k) = 8 * k + j by omega, zrdr0_o (by omega), zrdr0_o (by omega), go _ _ (by omega), go _ _ (by omega)]
    exact ⟨rfl, rfl⟩
  generalize eG1 : zrnr R k (g1 1161 (4 * k)) (g1 1161 (4 * k + 1)) = G1 at *
  have nv := zrnr_v (g := R) (s := k) (l := g1 1161 (4 * k)) (c := g1 1161 (4 * k + 1))
  have no : ∀ b j, ((b ≠ 1166 ∧ b ≠ 1167 ∧ b ≠ 1168 ∧ b ≠ 1171 ∧ b ≠ 1172 ∧ b ≠ 1173 ∧ b ≠ 1180) ∨ j ≠ k) → G1 b j = R b j := fun b j hb => by rw [← eG1]; exact zrnr_o2 hb
  rw [eG1] at nv
  have n4 : G1 1174 k = 1 := (no _ _ (by omega)).trans R4.1
  have n5 : G1 1175 k = 2 := (no _ _ (by omega)).trans R4.2.1
  have nN : zrN G1 k 0 = (m : Int) := (no 1176 (4 * k + 0) (by omega)).trans R4.2.2
  have nX : ∀ j, j < m → zrX G1 k 0 j = N.2.1 1164 (8 * k + j) ∧ zrY G1 k 0 j = N.2.1 1165 (8 * k + j) := fun j hj => by
    have := RX j hj
    unfold zrX zrY
    rw [show 32 * k + 8 * 0 + j = 32 * k + j by omega, no _ _ (by omega), no _ _ (by omega)]
    exact this
  have oo : zqO G1 k := by
    refine ⟨by omega, by rw [n4, n5]; exact ⟨by decide, by decide, by unfold zhs; decide⟩, fun p hp => ?_⟩
    have p0 : p = 0 := by omega
    subst p0
    rw [nN]
    refine ⟨by omega, ?_, fun j hj => ?_⟩
    · rw [em2] at j8
      exact zpr_cg (fun j hj => (nX j (by omega)).1) (fun j hj => (nX j (by omega)).2) j8
    · rw [(nX j (by omega)).1, (nX j (by omega)).2]
      obtain ⟨_, _, c, d⟩ := j7 j (by omega)
      exact ⟨c, d⟩
  have cc : zqC P G1 k := by
    refine ⟨?_, ?_, fun p hp => ?_⟩
    · rw [n5, ← eP, zu2_eq]
    · rw [n4, ← eP, zu2_i (by omega), zu2_eq]
    · have p0 : p = 0 := by omega
      subst p0
      rw [nN]
      have pp : ∀ b j, b ≠ 14 + 14 * k → P b j = zpset (zsb M.2.1 (14 + 14 * k) (M.2.1 (855 + 4 * k) 1) (M.2.1 (855 + 4 * k) 5)) (14 + 14 * k + 2) m (M.2.1 (857 + 4 * k)) (M.2.1 (858 + 4 * k)) b j := fun b j hb => by rw [← eP, zu2_a hb, zu2_a hb]
      refine ⟨?_, fun j hj => ?_⟩
      · show P (14 + 14 * k + 2 + 3 * 0) 0 = _
        rw [pp _ _ (by omega)]
        exact zpset_n _ _ _ _ _
      · obtain ⟨a, b, _⟩ := j7 j (by omega)
        rw [(nX j (by omega)).1, (nX j (by omega)).2, ← a, ← b]
        show P (14 + 14 * k + 2 + 1) j = _ ∧ P (14 + 14 * k + 2 + 2) j = _
        rw [pp _ _ (by omega), pp _ _ (by omega), zpset_X _ _ (by omega), zpset_Y _ _ (by omega)]
        exact ⟨rfl, rfl⟩
  have ee := zqE_fnd cc (zqO_P oo)
  have Fo : ∀ b j, (b ≠ 14 + 14 * k ∨ j < 9 ∨ 15 ≤ j) → (b < 14 + 14 * k + 2 ∨ 14 + 14 * k + 5 ≤ b) → zfnd P (14 + 14 * k) b j = zsb M.2.1 (14 + 14 * k) (M.2.1 (855 + 4 * k) 1) (M.2.1 (855 + 4 * k) 5) b j := fun b j hb hb2 => by
    rw [zfnd_o (by omega), Po b j (by omega) hb2]
  obtain ⟨u0, u5, u2, u6, u7, u8⟩ := zsb_v (f := M.2.1) (a := 14 + 14 * k) (h := M.2.1 (855 + 4 * k) 1) (c := M.2.1 (855 + 4 * k) 5)
  have new := zqQ_new (l := g1 1161 (4 * k)) h1 hk (F1 := zfnd P (14 + 14 * k)) (G1 := G1) (fun b j hb => by
    by_cases q : b < 14 + 14 * k + 2 ∨ 14 + 14 * k + 5 ≤ b
    · rw [Fo b j (by omega) q]
      exact zsb_o (by omega)
    · exact absurd hb (by omega)) (fun b j hb => by rw [no b j (by omega), Ro b j (by omega) (by omega) (by omega)]) ⟨(Fo _ _ (by omega) (by omega)).trans u0, nv.1⟩ ⟨nv.2.1, by rw [go _ _ (by omega)]; exact j4b⟩ (by
      rw [Fo _ _ (by omega) (by omega), u2, nv.2.2.1, go _ _ (by omega)]
      exact ⟨j5, j5b⟩) (by
      rw [Fo _ _ (by omega) (by omega), u5, nv.2.2.2.1, Ro _ _ (by omega) (by omega) (by omega), go _ _ (by omega)]
      exact jh) ⟨(Fo _ _ (by omega) (by omega)).trans u6, (Fo _ _ (by omega) (by omega)).trans u7, (Fo _ _ (by omega) (by omega)).trans u8⟩ ⟨nv.2.2.2.2.1, nv.2.2.2.2.2.1, nv.2.2.2.2.2.2⟩ ⟨ee, oo⟩
  have new2 : zqR (k + 1) (zdrw M.2.1 k k) (zrdw g1 k) := by
    rw [eG]
    unfold zdrw
    rw [eF, j4, ← go 1161 (4 * k) (by omega)]
    exact new
  refine ⟨zdrw M.2.1 k k, zrdw g1 k, (k : Int), 1, fun Q => c10_0 hM (zqR_01 h) hk hk hg j0 ec, fun Q => c192_0 (v := 0) (M9 := zwI N (zrdw g1 k)) hN hk j1 (fun Q9 => by
    have := er Q9
    rw [← eg1] at this ⊢
    exact this), fun b j hb => ?_, fun b j hb => ?_, fun j q1 q2 q3 => ?_, Or.inr ⟨rfl, by omega, ?_, new2⟩⟩
  · unfold zdrw zlay
    rw [zu2_sj (by omega), zu2_sj (by omega), zu2_sj (by omega), eF, Fo b j (by omega) (by omega)]
    exact zsb_o (by omega)
  · rw [eG]
    unfold zrtp
    rw [zu2_sj (by omega), zu2_sj (by omega), no b j (by omega), Ro b j (by omega) (by omega) (by omega)]
    by_cases e : b = 1153
    · omega
    · exact go b j e
  · rw [eG]
    unfold zrtp
    rw [zu2_sj (by omega), zu2_sj (by omega), no _ j (by omega), Ro _ j (by omega) (by omega) (by omega)]
    exact go2 j q1 q2 q3
  · rw [eG]
    unfold zrtp
    rw [zu2_sj (by omega), zu2_sj (by omega), no _ _ (by omega), Ro _ _ (by omega) (by omega) (by omega)]
    exact g36
end ZNEWQ
end SG_CF_newq
section SG_CG_joinq
/-! joined, in both programs -/
section ZJOINQ
variable {n : Nat} {f g f' g' : Nat → Nat → Int} {i s : Nat}
theorem zjt_0 {w t1 t2 : Int} (hw : 0 ≤ w ∧ w ≤ 3) (h1 : ¬ zhs t1 0) (h2 : ¬ zhs t2 0) (m : Nat) : ∀ k, zjt w t1 t2 m k % 2 = 0
  | 0 => rfl
  | k + 1 => by
    have ih := zjt_0 hw h1 h2 m k
    rw [zjt_s]
    by_cases c : zlawb w (zhsb t1 (k % 2 ^ m)) (zhsb t2 (k / 2 ^ m)) = true
    · rw [if_pos c]
      cases k with
      | zero =>
        have e1 : zhsb t1 0 = false := by
          cases q : zhsb t1 0
          · rfl
          · exact absurd (zhsb_iff.mp q) h1
        have e2 : zhsb t2 0 = false := by
          cases q : zhsb t2 0
          · rfl
          · exact absurd (zhsb_iff.mp q) h2
        rw [Nat.zero_mod, Nat.zero_div, e1, e2] at c
        unfold zlawb at c
        rcases (show w = 0 ∨ w = 1 ∨ w = 2 ∨ w = 3 by omega) with q | q | q | q <;> subst q <;> exact absurd c (by decide)
      | succ k =>
        have e : zjt w t1 t2 m (k + 1) ||| 2 ^ (k + 1) = (zjt w t1 t2 m (k + 1) ||| 2 ^ (k + 1)) := rfl
        have b := Nat.testBit_or (zjt w t1 t2 m (k + 1)) (2 ^ (k + 1)) 0
        rw [Nat.testBit_zero, Nat.testBit_zero, ih, Nat.testBit_zero] at b
        have p2 : 2 ^ (k + 1) % 2 = 0 := by rw [Nat.pow_succ]; omega
        rw [p2] at b
        have := of_decide_eq_false b
        omega
    · rw [if_neg c]
      exact ih
variable {L k : Nat} {M N : zM}
/-- what a joining notes in both journals -/
def zqJ17 (M N : zM) (k : Nat) : Prop := zqJw M N k 17 ∧ M.2.1 (855 + 4 * k) 1 = N.2.1 1159 k ∧ (M.2.1 (855 + 4 * k) 2 = N.2.1 1161 (4 * k + 1) ∧ 0 ≤ N.2.1 1161 (4 * k + 1) ∧ N.2.1 1161 (4 * k + 1) < 60) ∧ (M.2.1 (855 + 4 * k) 3 = N.2.1 1161 (4 * k + 2) ∧ 0 ≤ N.2.1 1161 (4 * k + 2) ∧ N.2.1 1161 (4 * k + 2) < 60) ∧ (M.2.1 (855 + 4 * k) 8 = N.2.1 1161 (4 * k) ∧ 0 ≤ N.2.1 1161 (4 * k) ∧ N.2.1 1161 (4 * k) ≤ 3)
/-- the corners of what is joined -/
theorem zqjC {a b w : Int} {i j : Nat} {P R : Nat → Nat → Int} {k : Nat} (hi : i ≠ k) (hj : j ≠ k) (hEi : zqC f g i) (hOi : zqO g i) (hEj : zqC f g j) (hOj : zqO g j) (h4 : g 1174 i + g 1174 j ≤ 4) (hw : 0 ≤ w ∧ w ≤ 3) {f0 : Nat → Nat → Int} (hf0 : ∀ b j, b ≠ 14 + 14 * k → f0 b j = f b j) (hf9 : ∀ b j, 9 ≤ j → f0 b j = f b j) (eP : zu2 (zjmm f0 (14 + 14 * k) (14 + 14 * i) (14 + 14 * j) ((f0 (14 + 14 * i) 10).toNat + (f0 (14 + 14 * j) 10).toNat)) (14 + 14 * k) 9 (zjt w (f0 (14 + 14 * i) 9) (f0 (14 + 14 * j) 9) (f0 (14 + 14 * i) 10).toNat (2 ^ ((f0 (14 + 14 * i) 10).toNat + (f0 (14 + 14 * j) 10).toNat)) : Int) = P) (eR : zrj0 g k i j w = R) : zqC P R k ∧ zqO R k := by
  obtain ⟨i1, i2, i3⟩ := hEi
  obtain ⟨o1, o2, o3⟩ := hOi
  obtain ⟨j1, j2, j3⟩ := hEj
  obtain ⟨q1, q2, q3⟩ := hOj
  have e10i : f0 (14 + 14 * i) 10 = g 1174 i := (hf9 _ _ (by omega)).trans i2
  have e10j : f0 (14 + 14 * j) 10 = g 1174 j := (hf9 _ _ (by omega)).trans j2
  have e9i : f0 (14 + 14 * i) 9 = g 1175 i := (hf9 _ _ (by omega)).trans i1
  have e9j : f0 (14 + 14 * j) 9 = g 1175 j := (hf9 _ _ (by omega)).trans j1
  rw [e10i, e10j, e9i, e9j] at eP
  generalize ea : (g 1174 i).toNat = na at *
  generalize eb : (g 1174 j).toNat = nb at *
  have lt16 : 2 ^ (na + nb) ≤ 16 := by
    have : 2 ^ (na + nb) ≤ 2 ^ 4 := Nat.pow_le_pow_right (by omega) (by omega)
    omega
  have tl := zjt_lt w (g 1175 i) (g 1175 j) na (2 ^ (na + nb))
  have tz := zjt_0 hw o2.2.2 q2.2.2 na (2 ^ (na + nb))
  have R4 : R 1174 k = ((na + nb : Nat) : Int) := by
    rw [← eR]
    unfold zrj0
    rw [zu2_a (by omega), zu2_eq]
    omega
  have R5 : R 1175 k = (zjt w (g 1175 i) (g 1175 j) na (2 ^ (na + nb)) : Int) := by
    rw [← eR]
    unfold zrj0
    rw [zu2_eq, ea, eb]
  -- where a polygon of the new shape comes from
  have src : ∀ p : Nat, p < na + nb → ∃ (u q : Nat), ((u = i ∧ q < na) ∨ (u = j ∧ q < nb)) ∧ zjsr (14 + 14 * i) (14 + 14 * j) na p = 14 + 14 * u + 2 + 3 * q ∧ zrjs i j na p = 4 * u + q := fun p hp => by
    by_cases c : p < na
    · exact ⟨i, p, Or.inl ⟨rfl, c⟩, by unfold zjsr; rw [if_pos c], zrjs_a c⟩
    · exact ⟨j, p - na, Or.inr ⟨rfl, by omega⟩, by unfold zjsr; rw [if_neg c], zrjs_b c⟩
  have pick : ∀ (u q : Nat), ((u = i ∧ q < na) ∨ (u = j ∧ q < nb)) → u ≠ k ∧ q < 4 ∧ zN f (14 + 14 * u) q = zrN g u q ∧ (3 ≤ zrN g u q ∧ zrN g u q ≤ 8) ∧ zpr (zrN g u q) (zrX g u q) (zrY g u q) 0 ∧ ∀ c : Nat, (c : Int) < zrN g u q → zX f (14 + 14 * u) q c = zrX g u q c ∧ zY f (14 + 14 * u) q c = zrY g u q c ∧ (0 ≤ zrX g u q c ∧ zrX g u q c ≤ 60) ∧ 0 ≤ zrY g u q c ∧ zrY g u q c ≤ 60 := fun u q h => by
    rcases h with ⟨e, h⟩ | ⟨e, h⟩
    · subst e
      obtain ⟨a1, a2⟩ := i3 q (by omega)
      obtain ⟨b1, b2, b3⟩ := o3 q (by omega)
      exact ⟨hi, by omega, a1, b1, b2, fun c hc => ⟨(a2 c hc).1, (a2 c hc).2, b3 c hc⟩⟩
    · subst e
      obtain ⟨a1, a2⟩ := j3 q (by omega)
      obtain ⟨b1, b2, b3⟩ := q3 q (by omega)
      exact ⟨hj, by omega, a1, b1, b2, fun c hc => ⟨(a2 c hc).1, (a2 c hc).2, b3 c hc⟩⟩
  have RN : ∀ p : Nat, p < na + nb → ∀ u q : Nat, zrjs i j na p = 4 * u + q → zrN R k p = zrN g u q := fun p hp u q e => by
    rw [← eR]
    unfold zrj0 zrN
    rw [zu2_a (by omega), zu2_a (by omega), ea, eb, zrjk_a hp, e]
  have RXY : ∀ p : Nat, p < na + nb → ∀ u q : Nat, q < 4 → zrjs i j na p = 4 * u + q → ∀ c : Nat, c < 8 → (c : Int) < zrN g u q → zrX R k p c = zrX g u q c ∧ zrY R k p c = zrY g u q c := fun p hp u q q4 e c c8 hc => by
    have e8 : 8 * zrjs i j na p + c = 32 * u + 8 * q + c := by omega
    have hc2 : (c : Int) < g 1176 (zrjs i j na p) := by rw [e]; exact hc
    rw [← eR]
    unfold zrj0 zrX zrY
    rw [zu2_a (by omega), zu2_a (by omega), zu2_a (by omega), zu2_a (by omega), ea, eb, zrjk_x (Or.inl rfl) hp (by omega) c8 hc2, zrjk_x (Or.inr rfl) hp (by omega) c8 hc2, e8]
    exact ⟨rfl, rfl⟩
  have Pm : ∀ b j2, b ≠ 14 + 14 * k → P b j2 = zjm f0 (14 + 14 * k) (zjsr (14 + 14 * i) (14 + 14 * j) na) (na + nb) b j2 := fun b j2 hb => by
    rw [← eP, zu2_a hb]
    unfold zjmm
    rw [zu2_a hb, e10i, ea]
  refine ⟨⟨?_, ?_, fun p hp => ?_⟩, by omega, ?_, fun p hp => ?_⟩
  · rw [R5, ← eP, zu2_eq]
  · rw [R4, ← eP, zu2_i (by omega)]
    unfold zjmm
    rw [zu2_eq]
  · have hp2 : p < na + nb := by omega
    obtain ⟨u, q, uq, s1, s2⟩ := src p hp2
    obtain ⟨uk, q4, p1, p2, p3, p4⟩ := pick u q uq
    have rn := RN p hp2 u q s2
    rw [rn]
    have eN0 : f0 (14 + 14 * u + 2 + 3 * q) 0 = zrN g u q := (hf0 _ _ (by omega)).trans p1
    refine ⟨?_, fun c hc => ?_⟩
    · show P (14 + 14 * k + 2 + 3 * p) 0 = _
      rw [Pm _ _ (by omega), zjm_N _ _ _ hp2, s1, eN0]
      omega
    · obtain ⟨x1, y1⟩ := RXY p hp2 u q q4 s2 c (by omega) hc
      obtain ⟨x2, y2, _⟩ := p4 c hc
      have hc2 : c < (f0 (zjsr (14 + 14 * i) (14 + 14 * j) na p) 0).toNat := by rw [s1, eN0]; omega
      rw [x1, y1, ← x2, ← y2]
      show P (14 + 14 * k + 2 + 3 * p + 1) c = f (14 + 14 * u + 2 + 3 * q + 1) c ∧ P (14 + 14 * k + 2 + 3 * p + 2) c = f (14 + 14 * u + 2 + 3 * q + 2) c
      rw [Pm _ _ (by omega), Pm _ _ (by omega), zjm_X _ _ _ hp2 hc2, zjm_Y _ _ _ hp2 hc2, s1, hf0 _ _ (by omega), hf0 _ _ (by omega)]
      exact ⟨rfl, rfl⟩
  · rw [R4, R5, Int.toNat_natCast, Int.toNat_natCast]
    refine ⟨by omega, tl, ?_⟩
    unfold zhs
    rw [Int.toNat_natCast, Nat.pow_zero, Nat.div_one]
    omega
  · have hp2 : p < na + nb := by omega
    obtain ⟨u, q, uq, s1, s2⟩ := src p hp2
    obtain ⟨uk, q4, p1, p2, p3, p4⟩ := pick u q uq
    have rn := RN p hp2 u q s2
    rw [rn]
    have xy : ∀ c : Nat, (c : Int) < zrN g u q → zrX R k p c = zrX g u q c ∧ zrY R k p c = zrY g u q c := fun c hc => RXY p hp2 u q q4 s2 c (by omega) hc
    refine ⟨p2, zpr_cg (fun c hc => (xy c hc).1) (fun c hc => (xy c hc).2) p3, fun c hc => ?_⟩
    rw [(xy c hc).1, (xy c hc).2]
    exact (p4 c hc).2.2
theorem zqS_17 (hM : zLay M.2.2.2) (hN : zLayN N.2.2.2) (hk : k < 60) (h : zqR k M.2.1 N.2.1) (hjj : zqJ17 M N k) : zqS L k M N := by
  obtain ⟨⟨j0, j1⟩, jh, ⟨j2, j2b⟩, ⟨j3, j3b⟩, ⟨j8, j8b⟩⟩ := hjj
  have h1 := zqR_g1 (k := k) h
  have go : ∀ b j, b ≠ 1153 → zqg1 N.2.1 k b j = N.2.1 b j := fun b j hb => zqg1_o hb
  have go2 : ∀ j, j ≠ 33 → j ≠ 36 → j ≠ 38 → zqg1 N.2.1 k 1153 j = N.2.1 1153 j := fun j _ h2 _ => zu2_i h2 _ _ _ _
  have g36 : zqg1 N.2.1 k 1153 36 = (k : Int) := zu2_eq _ _ _ _
  generalize ei : (N.2.1 1161 (4 * k + 1)).toNat = i at *
  generalize ej : (N.2.1 1161 (4 * k + 2)).toNat = j at *
  have ei2 : N.2.1 1161 (4 * k + 1) = (i : Int) := by omega
  have ej2 : N.2.1 1161 (4 * k + 2) = (j : Int) := by omega
  have hi : i < 60 := by omega
  have hj : j < 60 := by omega
  have ti := zqR_t h hi
  have tj := zqR_t h hj
  by_cases c : N.2.1 1166 i = 1 ∧ N.2.1 1166 j = 1
  · have hg : zgua M.2.1 k := by
      unfold zgua
      rw [j2, ei2, j3, ej2, Int.toNat_natCast, Int.toNat_natCast, ti, tj]
      exact ⟨Or.inr ⟨by omega, by omega, c.1⟩, Or.inr ⟨by omega, by omega, c.2⟩⟩
    have ik : i ≠ k := by have := (h.1.2 i hi).2.2 c.1; omega
    have jk : j ≠ k := by have := (h.1.2 j hj).2.2 c.2; omega
    have hr : zrt (zu2 N.2.1 1153 36 (k : Int)) (N.2.1 1161 (4 * k + 1)) ∧ zrt (zu2 N.2.1 1153 36 (k : Int)) (N.2.1 1161 (4 * k + 2)) := by
      rw [ei2, ej2]
      refine ⟨⟨by omega, by omega, ?_⟩, by omega, by omega, ?_⟩
      · rw [Int.toNat_natCast, zu2_a (by omega)]; exact c.1
      · rw [Int.toNat_natCast, zu2_a (by omega)]; exact c.2
    generalize eg1 : zqg1 N.2.1 k = g1 at *
    have tgi : g1 1166 i = 1 := (go _ _ (by omega)).trans c.1
    have tgj : g1 1166 j = 1 := (go _ _ (by omega)).trans c.2
    obtain ⟨hEi, hOi⟩ := h1.2.2.2.2.2.2.2.1 i hi tgi
    obtain ⟨hEj, hOj⟩ := h1.2.2.2.2.2.2.2.1 j hj tgj
    have hb : ∀ i, i < 60 → i ≠ k → (g1 1166 i = 0 ∨ g1 1166 i = 1) ∧ (g1 1166 i = 1 → zrKy g1 i) := fun i hi _ => zqR_rbk h1 i hi
    have ec := fun Q9 => c42 (L := L) (M := M) (c := k) (num := k) (i := i) (j := j) (Q := Q9) hM (zqR_bk h) hk hk (h.2.2.2.2.2.2.2.2.1 k hk) hi hj ik jk (by omega) (by omega) (zqE_sw hEi hOi) (zqE_sw hEj hOj)
    have er := fun Q9 => c206 (L := L) (M := zwI N g1) (s := k) (w := N.2.1 1161 (4 * k)) (a := i) (b := j) (Q := Q9) hN hb hk hi hj (fun e => ik e.symm) (fun e => jk e.symm) (zqO_sw hOi) (zqO_sw hOj)
    have e4 : M.2.1 (14 + 14 * i) 10 + M.2.1 (14 + 14 * j) 10 = g1 1174 i + g1 1174 j := by rw [hEi.2.1, hEj.2.1]
    by_cases d : g1 1174 i + g1 1174 j ≤ 4
    · have d2 : M.2.1 (14 + 14 * i) 10 + M.2.1 (14 + 14 * j) 10 ≤ 4 := by omega
      obtain ⟨a1, a2, a3, a4, a5⟩ := h1.2.1 i hi tgi
      generalize ef0 : zsb M.2.1 (14 + 14 * k) (M.2.1 (855 + 4 * k) 1) (M.2.1 (14 + 14 * i) 2) = f0
      have f0o : ∀ b j, (b ≠ 14 + 14 * k ∨ j = 1 ∨ j = 3 ∨ j = 4 ∨ 9 ≤ j) → f0 b j = M.2.1 b j := fun b j hb => by rw [← ef0]; exact zsb_o hb
      generalize eP : zu2 (zjmm f0 (14 + 14 * k) (14 + 14 * i) (14 + 14 * j) ((f0 (14 + 14 * i) 10).toNat + (f0 (14 + 14 * j) 10).toNat)) (14 + 14 * k) 9 (zjt (N.2.1 1161 (4 * k)) (f0 (14 + 14 * i) 9) (f0 (14 + 14 * j) 9) (f0 (14 + 14 * i) 10).toNat (2 ^ ((f0 (14 + 14 * i) 10).toNat + (f0 (14 + 14 * j) 10).toNat)) : Int) = P
      have eF : zjnf M.2.1 k k i j = zfnd P (14 + 14 * k) := by
        unfold zjnf zjoi
        rw [ef0, j8, eP]
      generalize eR : zrj0 g1 k i j (N.2.1 1161 (4 * k)) = R
      have eG : zrjo g1 k i j (N.2.1 1161 (4 * k)) = zrtp (zrnr R k (g1 1167 i) (g1 1168 i)) k := by
        unfold zrjo zrcm
        rw [eR]
      obtain ⟨cc, oo⟩ := zqjC (a := 0) (b := 0) ik jk (zqE_C hEi) hOi (zqE_C hEj) hOj d j8b (f0 := f0) (fun b j hb => f0o b j (Or.inl hb)) (fun b j hb => f0o b j (by omega)) eP eR
      have na4 : (f0 (14 + 14 * i) 10).toNat + (f0 (14 + 14 * j) 10).toNat ≤ 4 := by
        rw [f0o _ _ (by omega), f0o _ _ (by omega)]
        have a1 := hEi.2.1
        have a2 := hEj.2.1
        have a3 := hOi.1
        have a4 := hOj.1
        omega
      have Po : ∀ b j2, (b < 14 + 14 * k ∨ 28 + 14 * k ≤ b ∨ (b = 14 + 14 * k ∧ j2 ≠ 9 ∧ j2 ≠ 10)) → P b j2 = f0 b j2 := fun b j2 hb => by
        rw [← eP, zu2_sj (by omega)]
        unfold zjmm
        rw [zu2_sj (by omega), zjm_o _ _ _ _ _ na4 (by omega)]
      have Ro : ∀ b j2, (b < 1174 ∨ 1178 < b ∨ (b = 1174 ∧ j2 ≠ k) ∨ (b = 1175 ∧ j2 ≠ k) ∨ (b = 1176 ∧ ¬ (4 * k ≤ j2 ∧ j2 < 4 * k + 4)) ∨ ((b = 1177 ∨ b = 1178) ∧ ¬ (32 * k ≤ j2 ∧ j2 < 32 * k + 32))) → R b j2 = g1 b j2 := fun b j2 hb => by
        rw [← eR]
        by_cases q : b < 1174 ∨ 1178 < b
        · exact zrj0_o q
        · unfold zrj0
          rw [zu2_sj (by omega), zu2_sj (by omega)]
          by_cases q6 : b = 1176
          · subst q6
            exact zrjk_6 (by have := hOi.1; have := hOj.1; omega)
          · by_cases q7 : b = 1177 ∨ b = 1178
            · exact zrjk_p q7 (by omega)
            · exact zrjk_o (by omega)
      generalize eG1 : zrnr R k (g1 1167 i) (g1 1168 i) = G1 at *
      have nv := zrnr_v (g := R) (s := k) (l := g1 1167 i) (c := g1 1168 i)
      have no : ∀ b j, ((b ≠ 1166 ∧ b ≠ 1167 ∧ b ≠ 1168 ∧ b ≠ 1171 ∧ b ≠ 1172 ∧ b ≠ 1173 ∧ b ≠ 1180) ∨ j ≠ k) → G1 b j = R b j := fun b j hb => by rw [← eG1]; exact zrnr_o2 hb
      rw [eG1] at nv
      have eqR : zrEq G1 R k := ⟨no _ _ (by omega), no _ _ (by omega), fun p _ => no _ _ (by omega), fun j _ _ => ⟨no _ _ (by omega), no _ _ (by omega)⟩⟩
      have ee := zqE_fnd cc (zqO_P oo)
      have ee2 : zqE (zfnd P (14 + 14 * k)) G1 k := zqE_c (fun _ _ _ _ _ => rfl) eqR oo ee
      have oo2 := zqO_c eqR oo
      have Fo : ∀ b j2, (b < 14 + 14 * k ∨ 28 + 14 * k ≤ b ∨ (b = 14 + 14 * k ∧ j2 < 9)) → zfnd P (14 + 14 * k) b j2 = f0 b j2 := fun b j2 hb => by
        rw [zfnd_o (by omega), Po b j2 (by omega)]
      obtain ⟨u0, u5, u2, u6, u7, u8⟩ := zsb_v (f := M.2.1) (a := 14 + 14 * k) (h := M.2.1 (855 + 4 * k) 1) (c := M.2.1 (14 + 14 * i) 2)
      rw [ef0] at u0 u5 u2 u6 u7 u8
      have new := zqQ_new (l := g1 1167 i) h1 hk (F1 := zfnd P (14 + 14 * k)) (G1 := G1) (fun b j2 hb => (Fo b j2 (by omega)).trans (f0o b j2 (by omega))) (fun b j2 hb => by rw [no b j2 (by omega), Ro b j2 (by omega)]) ⟨(Fo _ _ (by omega)).trans u0, nv.1⟩ ⟨nv.2.1, a4⟩ (by
        rw [Fo _ _ (by omega), u2, nv.2.2.1]
        exact ⟨a2, a5⟩) (by
        rw [Fo _ _ (by omega), u5, nv.2.2.2.1, Ro _ _ (by omega), go _ _ (by omega)]
        exact jh) ⟨(Fo _ _ (by omega)).trans u6, (Fo _ _ (by omega)).trans u7, (Fo _ _ (by omega)).trans u8⟩ ⟨nv.2.2.2.2.1, nv.2.2.2.2.2.1, nv.2.2.2.2.2.2⟩ ⟨ee2, oo2⟩
      have new2 : zqR (k + 1) (zjnw M.2.1 k k i j) (zrjo g1 k i j (N.2.1 1161 (4 * k))) := by
        rw [eG]
        unfold zjnw
        rw [eF, a1]
        exact new
      refine ⟨zjnw M.2.1 k k i j, zrjo g1 k i j (N.2.1 1161 (4 * k)), (k : Int), 1, fun Q => c10_17 (v := (k : Int)) (M9 := zwI M (zjnw M.2.1 k k i j)) hM (zqR_01 h) hk hk hg j0 (fun Q9 => ?_), fun Q => c192_17y (v := 1) (M9 := zwI N (zrjo g1 k i j (N.2.1 1161 (4 * k)))) hN hk j1 (zqR_r01 h) hr (fun Q9 => ?_) (Or.inr rfl), fun b j2 hb => ?_, fun b j2 hb => ?_, fun j2 q1 q2 q3 => ?_, Or.inr ⟨rfl, by omega, ?_, new2⟩⟩
      · rw [ec]
        exact propext ⟨fun q => q.1 d2, fun q => ⟨fun _ => q, fun q2 => absurd d2 q2⟩⟩
      · rw [ei2, ej2]
        have := er Q9
        rw [← eg1] at this ⊢
        refine this.trans ?_
        rw [eg1]
        exact propext ⟨fun q => q.2 d, fun q => ⟨fun q2 => absurd d q2, fun _ => q⟩⟩
      · unfold zjnw zlay
        rw [zu2_sj (by omega), zu2_sj (by omega), zu2_sj (by omega), eF, Fo b j2 (by omega)]
        exact f0o b j2 (by omega)
      · rw [eG]
        unfold zrtp
        rw [zu2_sj (by omega), zu2_sj (by omega), no b j2 (by omega), Ro b j2 (by omega)]
        by_cases e : b = 1153
        · omega
        · exact go b j2 e
      · rw [eG]
        unfold zrtp
        rw [zu2_sj (by omega), zu2_sj (by omega), no _ j2 (by omega), Ro _ j2 (by omega)]
        exact go2 j2 q1 q2 q3
      · rw [eG]
        unfold zrtp
        rw [zu2_sj (by omega), zu2_sj (by omega), no _ _ (by omega), Ro _ _ (by omega)]
        exact g36
    · have d2 : ¬ (M.2.1 (14 + 14 * i) 10 + M.2.1 (14 + 14 * j) 10 ≤ 4) := by omega
      refine ⟨M.2.1, g1, -1, 0, fun Q => c10_17 (v := -1) (M9 := M) hM (zqR_01 h) hk hk hg j0 (fun Q9 => ?_), fun Q => c192_17y (v := 0) (M9 := zwI N g1) hN hk j1 (zqR_r01 h) hr (fun Q9 => ?_) (Or.inl rfl), fun _ _ _ => rfl, fun b j2 hb => go b j2 (by omega), go2, Or.inl ⟨rfl, rfl, h1⟩⟩
      · rw [ec]
        exact propext ⟨fun q => q.2 d2, fun q => ⟨fun q2 => absurd q2 d2, fun _ => q⟩⟩
      · rw [ei2, ej2]
        have := er Q9
        rw [← eg1] at this ⊢
        refine this.trans ?_
        rw [eg1]
        exact propext ⟨fun q => q.1 d, fun q => ⟨fun _ => q, fun q2 => absurd q2 d⟩⟩
  · refine zqS_no hM hk h (fun hg => c ?_) (fun Q => c192_17n (v := 0) (M9 := N) hN hk j1 (zqR_r01 h) (fun hr => c ?_))
    · unfold zgua at hg
      rw [j2, ei2, j3, ej2, Int.toNat_natCast, Int.toNat_natCast, ti, tj] at hg
      exact ⟨(hg.1.resolve_left (by omega)).2.2, (hg.2.resolve_left (by omega)).2.2⟩
    · rw [ei2, ej2] at hr
      have a := hr.1.2.2
      have b := hr.2.2.2
      rw [Int.toNat_natCast, zu2_a (by omega)] at a b
      exact ⟨a, b⟩
end ZJOINQ
end SG_CG_joinq
section SG_CH_orderq
/-! the order: sorted, and everyone in it -/
section ZORDERQ
theorem zinsf_mem {lt : Nat → Nat → Bool} {x : Nat} : ∀ (k : Nat) (o : Nat → Int), (∃ j, j < k + 1 ∧ zinsf lt x k o j = (x : Int)) ∧ ∀ j, j < k → ∃ j2, j2 < k + 1 ∧ zinsf lt x k o j2 = o j
  | 0, o => ⟨⟨0, by omega, zup_eq _ _ _⟩, fun j h => absurd h (Nat.not_lt_zero j)⟩
  | k + 1, o => by
    unfold zinsf
    by_cases c : lt x (o k).toNat = true
    · rw [if_pos c]
      obtain ⟨⟨j, h1, h2⟩, h3⟩ := zinsf_mem (lt := lt) (x := x) k (zup o (k + 1) (o k))
      refine ⟨⟨j, by omega, h2⟩, fun j hj => ?_⟩
      by_cases e : j = k
      · subst e
        refine ⟨j + 1, by omega, ?_⟩
        rw [zinsf_hi lt x j _ _ (by omega), zup_eq]
      · obtain ⟨j2, h4, h5⟩ := h3 j (by omega)
        rw [zup_ne (by omega)] at h5
        exact ⟨j2, by omega, h5⟩
    · rw [if_neg c]
      refine ⟨⟨k + 1, by omega, zup_eq _ _ _⟩, fun j hj => ⟨j, by omega, zup_ne (by omega)⟩⟩
theorem zord_mem {lt : Nat → Nat → Bool} {th : Nat → Bool} {o : Nat → Int} : ∀ (m v : Nat), v < m → th v = true → ∃ j, j < zcnt th m ∧ zord lt th o m j = (v : Int)
  | 0, v, h, _ => absurd h (Nat.not_lt_zero v)
  | m + 1, v, h, hv => by
    rw [zcnt_s]
    unfold zord
    by_cases c : th m = true
    · rw [if_pos c, if_pos c]
      obtain ⟨h1, h2⟩ := zinsf_mem (lt := lt) (x := m) (zcnt th m) (zord lt th o m)
      by_cases e : v = m
      · subst e; exact h1
      · obtain ⟨j, j1, j2⟩ := zord_mem (lt := lt) (o := o) m v (by omega) hv
        obtain ⟨j3, j4, j5⟩ := h2 j j1
        exact ⟨j3, j4, by rw [j5]; exact j2⟩
    · rw [if_neg c, if_neg c]
      by_cases e : v = m
      · subst e; exact absurd hv c
      · exact zord_mem m v (by omega) hv
/-- put in its place -/
theorem zinsf_sorted {lt : Nat → Nat → Bool} {x : Nat} {P : Nat → Prop} (tr : ∀ a b c, P a → P b → P c → lt a b = true → lt b c = true → lt a c = true) (hx : P x) : ∀ (k : Nat) (o : Nat → Int), (∀ j, j < k → P (o j).toNat ∧ (lt x (o j).toNat = true ∨ lt (o j).toNat x = true)) → (∀ i j, i < j → j < k → lt (o i).toNat (o j).toNat = true) → ∀ i j, i < j → j < k + 1 → lt (zinsf lt x k o i).toNat (zinsf lt x k o j).toNat = true
  | 0, o, _, _, i, j, h1, h2 => absurd h1 (by omega)
  | k + 1, o, hp, hs, i, j, h1, h2 => by
    unfold zinsf
    by_cases c : lt x (o k).toNat = true
    · rw [if_pos c]
      have nb : ∀ j, j < k → zup o (k + 1) (o k) j = o j := fun j hj => zup_ne (by omega)
      by_cases e : j = k + 1
      · subst e
        rw [zinsf_hi lt x k (zup o (k + 1) (o k)) (k + 1) (by omega), zup_eq]
        exact zinsf_v lt x (P := fun v => lt v.toNat (o k).toNat = true) (by rw [Int.toNat_natCast]; exact c) k _ (fun j2 hj2 => by rw [nb j2 hj2]; exact hs j2 k hj2 (by omega)) i (by omega)
      · exact zinsf_sorted tr hx k _ (fun j2 hj2 => by rw [nb j2 hj2]; exact hp j2 (by omega)) (fun i2 j2 hi2 hj2 => by rw [nb i2 (by omega), nb j2 hj2]; exact hs i2 j2 hi2 (by omega)) i j h1 (by omega)
    · rw [if_neg c]
      have kx := (hp k (by omega)).2.resolve_left c
      by_cases e : j = k + 1
      · subst e
        rw [zup_eq, zup_ne (by omega), Int.toNat_natCast]
        by_cases e2 : i = k
        · subst e2; exact kx
        · exact tr _ _ _ (hp i (by omega)).1 (hp k (by omega)).1 hx (hs i k (by omega) (by omega)) kx
      · rw [zup_ne e, zup_ne (by omega)]
        exact hs i j h1 (by omega)
theorem zord_sorted {lt : Nat → Nat → Bool} {th : Nat → Bool} {o : Nat → Int} {P : Nat → Prop} (tr : ∀ a b c, P a → P b → P c → lt a b = true → lt b c = true → lt a c = true) (tot : ∀ a b, P a → P b → a ≠ b → lt a b = true ∨ lt b a = true) : ∀ m, (∀ v, v < m → th v = true → P v) → ∀ i j, i < j → j < zcnt th m → lt (zord lt th o m i).toNat (zord lt th o m j).toNat = true
  | 0, _, i, j, _, h => absurd h (Nat.not_lt_zero j)
  | m + 1, hP, i, j, h1, h2 => by
    rw [zcnt_s] at h2
    unfold zord
    by_cases c : th m = true
    · rw [if_pos c] at h2
      rw [if_pos c]
      have pm := hP m (by omega) c
      refine zinsf_sorted tr pm (zcnt th m) _ (fun j2 hj2 => ?_) (fun i2 j2 a b => zord_sorted tr tot m (fun v hv => hP v (by omega)) i2 j2 a b) i j h1 h2
      obtain ⟨v, v1, v2, v3⟩ := zord_v lt th o m j2 hj2
      rw [v3, Int.toNat_natCast]
      exact ⟨hP v (by omega) v2, tot m v pm (hP v (by omega) v2) (by omega)⟩
    · rw [if_neg c] at h2
      rw [if_neg c]
      exact zord_sorted tr tot m (fun v hv => hP v (by omega)) i j h1 h2
/-- the best of those that are looked at -/
theorem zbest_b {cand : Nat → Bool} {better : Nat → Nat → Bool} {P : Nat → Prop} (tr : ∀ a b c, P a → P b → P c → better a b = true → better b c = true → better a c = true) (tot : ∀ a b, P a → P b → a ≠ b → better a b = true ∨ better b a = true) : ∀ m, (∀ v, v < m → cand v = true → P v) → (zbest cand better m = -1 ∧ ∀ v, v < m → cand v = false) ∨ ∃ k : Nat, k < m ∧ cand k = true ∧ zbest cand better m = (k : Int) ∧ ∀ v, v < m → cand v = true → v ≠ k → better k v = true
  | 0, _ => Or.inl ⟨rfl, fun v h => absurd h (Nat.not_lt_zero v)⟩
  | m + 1, hP => by
    have hu : zbest cand better (m + 1) = if cand m = true ∧ (zbest cand better m = -1 ∨ better m (zbest cand better m).toNat = true) then (m : Int) else zbest cand better m := rfl
    rw [hu]
    rcases zbest_b tr tot m (fun v hv => hP v (by omega)) with ⟨a, b⟩ | ⟨k, a, b, c, d⟩
    · by_cases e : cand m = true
      · rw [if_pos ⟨e, Or.inl a⟩]
        refine Or.inr ⟨m, by omega, e, rfl, fun v hv cv hne => ?_⟩
        rw [b v (by omega)] at cv
        exact absurd cv (by decide)
      · rw [if_neg (fun q => e q.1)]
        refine Or.inl ⟨a, fun v hv => ?_⟩
        by_cases e2 : v = m
        · subst e2; cases q : cand v <;> simp_all
        · exact b v (by omega)
    · rw [c, Int.toNat_natCast]
      by_cases e : cand m = true ∧ better m k = true
      · rw [if_pos ⟨e.1, Or.inr e.2⟩]
        refine Or.inr ⟨m, by omega, e.1, rfl, fun v hv cv hne => ?_⟩
        by_cases e2 : v = k
        · subst e2; exact e.2
        · exact tr m k v (hP m (by omega) e.1) (hP k (by omega) b) (hP v hv cv) e.2 (d v (by omega) cv e2)
      · rw [if_neg (fun q => e ⟨q.1, q.2.resolve_left (by omega)⟩)]
        refine Or.inr ⟨k, by omega, b, rfl, fun v hv cv hne => ?_⟩
        by_cases e2 : v = m
        · subst e2
          exact (tot k v (hP k (by omega) b) (hP v hv cv) (by omega)).resolve_right (fun q => e ⟨cv, q⟩)
        · exact d v (by omega) cv hne
variable {n : Nat} {f g : Nat → Nat → Int}
-- the order of keys
theorem zfr_tr {a b c d e h : Int} (hb : 1 ≤ b) (hd : 1 ≤ d) (hh : 1 ≤ h) (h1 : a * d ≤ c * b) (h2 : c * h < e * d) : a * h < e * b := by
  have q1 : (a * d) * h ≤ (c * b) * h := Int.mul_le_mul_of_nonneg_right h1 (by omega)
  have q2 : (c * h) * b < (e * d) * b := Int.mul_lt_mul_of_pos_right h2 (by omega)
  have q3 : (a * h) * d < (e * b) * d := by
    have e1 : (a * h) * d = (a * d) * h := by rw [Int.mul_assoc, Int.mul_comm h d, ← Int.mul_assoc]
    have e2 : (c * b) * h = (c * h) * b := by rw [Int.mul_assoc, Int.mul_comm b h, ← Int.mul_assoc]
    have e3 : (e * d) * b = (e * b) * d := by rw [Int.mul_assoc, Int.mul_comm d b, ← Int.mul_assoc]
    omega
  exact Int.lt_of_mul_lt_mul_right q3 (by omega)
theorem zfr_tr2 {a b c d e h : Int} (hb : 1 ≤ b) (hd : 1 ≤ d) (hh : 1 ≤ h) (h1 : a * d < c * b) (h2 : c * h ≤ e * d) : a * h < e * b := by
  have q1 : (a * d) * h < (c * b) * h := Int.mul_lt_mul_of_pos_right h1 (by omega)
  have q2 : (c * h) * b ≤ (e * d) * b := Int.mul_le_mul_of_nonneg_right h2 (by omega)
  have q3 : (a * h) * d < (e * b) * d := by
    have e1 : (a * h) * d = (a * d) * h := by rw [Int.mul_assoc, Int.mul_comm h d, ← Int.mul_assoc]
    have e2 : (c * b) * h = (c * h) * b := by rw [Int.mul_assoc, Int.mul_comm b h, ← Int.mul_assoc]
    have e3 : (e * d) * b = (e * b) * d := by rw [Int.mul_assoc, Int.mul_comm d b, ← Int.mul_assoc]
    omega
  exact Int.lt_of_mul_lt_mul_right q3 (by omega)
/-- is there -/
def zqth2 (g : Nat → Nat → Int) (i : Nat) : Prop := i < 60 ∧ g 1166 i = 1
theorem zrlt_iff {i j : Nat} : zrlt g i j = true ↔ (g 1167 i = g 1167 j ∧ g 1169 i * g 1170 j < g 1169 j * g 1170 i) ∨ g 1167 i < g 1167 j := by
  unfold zrlt zltb
  by_cases h : g 1167 i = g 1167 j
  · rw [if_pos h, decide_eq_true_iff]
    exact ⟨fun q => Or.inl ⟨h, q⟩, fun q => q.elim (fun q => q.2) (fun q => absurd q (by omega))⟩
  · rw [if_neg h, decide_eq_true_iff]
    exact ⟨fun q => Or.inr q, fun q => q.elim (fun q => absurd q.1 h) id⟩
theorem zrlt_tr (h : zqK n f g) (a b c : Nat) (ha : zqth2 g a) (hb : zqth2 g b) (hc : zqth2 g c) (h1 : zrlt g a b = true) (h2 : zrlt g b c = true) : zrlt g a c = true := by
  rw [zrlt_iff] at *
  obtain ⟨_, _, _, ⟨ka, _⟩, _⟩ := h.1 a ha.1 ha.2
  obtain ⟨_, _, _, ⟨kb, _⟩, _⟩ := h.1 b hb.1 hb.2
  obtain ⟨_, _, _, ⟨kc, _⟩, _⟩ := h.1 c hc.1 hc.2
  rcases h1 with ⟨e1, h1⟩ | h1 <;> rcases h2 with ⟨e2, h2⟩ | h2
  · exact Or.inl ⟨by omega, zfr_tr ka kb kc (by omega) h2⟩
  · exact Or.inr (by omega)
  · exact Or.inr (by omega)
  · exact Or.inr (by omega)
theorem zrlt_tot (h : zqK n f g) (a b : Nat) (ha : zqth2 g a) (hb : zqth2 g b) (hab : a ≠ b) : zrlt g a b = true ∨ zrlt g b a = true := by
  rw [zrlt_iff, zrlt_iff]
  by_cases e : g 1167 a = g 1167 b
  · have := h.2 a b ha.1 hb.1 hab ha.2 hb.2 e
    omega
  · omega
theorem zrlt_as {a b : Nat} (h1 : zrlt g a b = true) (h2 : zrlt g b a = true) : False := by
  rw [zrlt_iff] at *
  omega
/-- the class's order, told by the reference's -/
theorem zqlt (hA : zqA f g) (hK : zqK n f g) {a b : Nat} (ha : zqth2 g a) (hb : zqth2 g b) : zclt f a b = zrlt g a b := by
  obtain ⟨a1, _⟩ := hA a ha.1 ha.2
  obtain ⟨b1, _⟩ := hA b hb.1 hb.2
  obtain ⟨a3, a4, _⟩ := hK.1 a ha.1 ha.2
  obtain ⟨b3, b4, _⟩ := hK.1 b hb.1 hb.2
  unfold zclt zrlt
  rw [a1, a3, a4, b1, b3, b4]
end ZORDERQ
end SG_CH_orderq
section SG_CI_raiseq
/-! raised, in both programs: neighbours and places -/
section ZRAISEQ
variable {n : Nat} {f g f' g' : Nat → Nat → Int} {s p : Nat}
theorem zqpl (v : Nat) (hv : zqth2 g v) : ∃ q, q < zrct g ∧ zrod g q = (v : Int) := zord_mem 60 v hv.1 (decide_eq_true hv.2)
theorem zqvl {q : Nat} (h : q < zrct g) : ∃ v : Nat, zqth2 g v ∧ zrod g q = (v : Int) := by
  obtain ⟨v, v1, v2, v3⟩ := zrod_v h
  exact ⟨v, ⟨v1, v2⟩, v3⟩
theorem zqso (hK : zqK n f g) {q r : Nat} (h1 : q < r) (h2 : r < zrct g) : zrlt g (zrod g q).toNat (zrod g r).toNat = true :=
  zord_sorted (P := zqth2 g) (zrlt_tr hK) (zrlt_tot hK) 60 (fun v hv ht => ⟨hv, of_decide_eq_true ht⟩) q r h1 h2
/-- who stands before whom -/
theorem zqbf (hK : zqK n f g) {q r v w : Nat} (hq : q < zrct g) (hr : r < zrct g) (ev : zrod g q = (v : Int)) (ew : zrod g r = (w : Int)) (h : zrlt g v w = true) : q < r := by
  by_cases c : q < r
  · exact c
  · by_cases e : q = r
    · subst e
      rw [ev] at ew
      have : v = w := by omega
      subst this
      exact (zrlt_as h h).elim
    · have := zqso hK (show r < q by omega) hq
      rw [ev, ew, Int.toNat_natCast, Int.toNat_natCast] at this
      exact (zrlt_as h this).elim
theorem zqly (hK : zqK n f g) {q r v w : Nat} (hqr : q ≤ r) (hr : r < zrct g) (ev : zrod g q = (v : Int)) (ew : zrod g r = (w : Int)) : g 1167 v ≤ g 1167 w := by
  by_cases e : q = r
  · subst e
    rw [ev] at ew
    have : v = w := by omega
    subst this
    exact Int.le_refl _
  · have := zqso hK (show q < r by omega) hr
    rw [ev, ew, Int.toNat_natCast, Int.toNat_natCast, zrlt_iff] at this
    omega
theorem zqin (h : zqR n f g) {l : Int} {i : Nat} (hi : i < 60) : zinl f l i = true ↔ (zqth2 g i ∧ g 1167 i = l) := by
  rw [zinl_iff, zqR_t h hi]
  constructor
  · rintro ⟨a, b⟩
    exact ⟨⟨hi, a⟩, by rw [← (h.2.1 i hi a).1]; exact b⟩
  · rintro ⟨⟨_, a⟩, b⟩
    exact ⟨a, by rw [(h.2.1 i hi a).1]; exact b⟩
theorem zqab (h : zqR n f g) (hs : zqth2 g s) {i : Nat} (hi : i < 60) : zcab f s i = true ↔ (zqth2 g i ∧ g 1167 i = g 1167 s ∧ zrlt g s i = true) := by
  unfold zcab
  rw [Bool.and_eq_true, zqin h hi, (h.2.1 s hs.1 hs.2).1]
  constructor
  · rintro ⟨⟨a, b⟩, c⟩
    rw [zqlt h.2.1 h.2.2.1 hs a] at c
    exact ⟨a, b, c⟩
  · rintro ⟨a, b, c⟩
    exact ⟨⟨a, b⟩, by rw [zqlt h.2.1 h.2.2.1 hs a]; exact c⟩
theorem zqbl (h : zqR n f g) (hs : zqth2 g s) {i : Nat} (hi : i < 60) : zcbl f s i = true ↔ (zqth2 g i ∧ g 1167 i = g 1167 s ∧ zrlt g i s = true) := by
  unfold zcbl
  rw [Bool.and_eq_true, zqin h hi, (h.2.1 s hs.1 hs.2).1]
  constructor
  · rintro ⟨⟨a, b⟩, c⟩
    rw [zqlt h.2.1 h.2.2.1 a hs] at c
    exact ⟨a, b, c⟩
  · rintro ⟨a, b, c⟩
    exact ⟨⟨a, b⟩, by rw [zqlt h.2.1 h.2.2.1 a hs]; exact c⟩
theorem zclt_tr (h : zqR n f g) (a b c : Nat) (ha : zqth2 g a) (hb : zqth2 g b) (hc : zqth2 g c) (h1 : zclt f a b = true) (h2 : zclt f b c = true) : zclt f a c = true := by
  rw [zqlt h.2.1 h.2.2.1 ha hb] at h1
  rw [zqlt h.2.1 h.2.2.1 hb hc] at h2
  rw [zqlt h.2.1 h.2.2.1 ha hc]
  exact zrlt_tr h.2.2.1 a b c ha hb hc h1 h2
theorem zclt_tot (h : zqR n f g) (a b : Nat) (ha : zqth2 g a) (hb : zqth2 g b) (hab : a ≠ b) : zclt f a b = true ∨ zclt f b a = true := by
  rw [zqlt h.2.1 h.2.2.1 ha hb, zqlt h.2.1 h.2.2.1 hb ha]
  exact zrlt_tot h.2.2.1 a b ha hb hab
/-- the next above -/
theorem zqup (h : zqR n f g) (hs : zqth2 g s) (hp : p < zrct g) (ep : zrod g p = (s : Int)) : zabv f s = zrbs g p 1 := by
  have hK := h.2.2.1
  have key := zbest_b (cand := zcab f s) (better := zclt f) (P := zqth2 g) (zclt_tr h) (zclt_tot h) 60 (fun v hv hc => ((zqab h hs hv).mp hc).1)
  unfold zabv zrbs
  rw [ep, Int.toNat_natCast]
  rcases key with ⟨e, no⟩ | ⟨k, k1, k2, e, k3⟩
  · rw [e, if_neg (fun c => ?_)]
    obtain ⟨c1, c2, c3⟩ := c
    obtain ⟨v, v1, v2⟩ := zqvl (g := g) (q := ((p : Int) + 1).toNat) (by omega)
    rw [v2, Int.toNat_natCast] at c3
    have lt := zqso hK (show p < ((p : Int) + 1).toNat by omega) (by omega)
    rw [ep, v2, Int.toNat_natCast, Int.toNat_natCast] at lt
    have := no v v1.1
    rw [(zqab h hs v1.1).mpr ⟨v1, c3, lt⟩] at this
    exact absurd this (by decide)
  · obtain ⟨t1, t2, t3⟩ := (zqab h hs k1).mp k2
    obtain ⟨q, q1, q2⟩ := zqpl k t1
    have pq := zqbf hK hp q1 ep q2 t3
    obtain ⟨v, v1, v2⟩ := zqvl (g := g) (q := ((p : Int) + 1).toNat) (by omega)
    have l1 := zqly hK (show p ≤ ((p : Int) + 1).toNat by omega) (by omega) ep v2
    have l2 := zqly hK (show ((p : Int) + 1).toNat ≤ q by omega) q1 v2 q2
    have lt := zqso hK (show p < ((p : Int) + 1).toNat by omega) (by omega)
    rw [ep, v2, Int.toNat_natCast, Int.toNat_natCast] at lt
    have cv : zcab f s v = true := (zqab h hs v1.1).mpr ⟨v1, by omega, lt⟩
    have vk : v = k := by
      by_cases e2 : v = k
      · exact e2
      · have b := k3 v v1.1 cv e2
        rw [zqlt h.2.1 hK t1 v1] at b
        have := zqbf hK q1 (by omega) q2 v2 b
        omega
    rw [e, if_pos ⟨by omega, by omega, by rw [v2, Int.toNat_natCast]; omega⟩, v2, vk]
/-- the next below -/
theorem zqdn (h : zqR n f g) (hs : zqth2 g s) (hp : p < zrct g) (ep : zrod g p = (s : Int)) : zblw f s = zrbs g p (-1) := by
  have hK := h.2.2.1
  have key := zbest_b (cand := zcbl f s) (better := fun i v => zclt f v i) (P := zqth2 g) (fun a b c ha hb hc h1 h2 => zclt_tr h c b a hc hb ha h2 h1) (fun a b ha hb hab => (zclt_tot h a b ha hb hab).symm) 60 (fun v hv hc => ((zqbl h hs hv).mp hc).1)
  unfold zblw zrbs
  rw [ep, Int.toNat_natCast]
  rcases key with ⟨e, no⟩ | ⟨k, k1, k2, e, k3⟩
  · rw [e, if_neg (fun c => ?_)]
    obtain ⟨c1, c2, c3⟩ := c
    obtain ⟨v, v1, v2⟩ := zqvl (g := g) (q := ((p : Int) + -1).toNat) (by omega)
    rw [v2, Int.toNat_natCast] at c3
    have lt := zqso hK (show ((p : Int) + -1).toNat < p by omega) hp
    rw [ep, v2, Int.toNat_natCast, Int.toNat_natCast] at lt
    have := no v v1.1
    rw [(zqbl h hs v1.1).mpr ⟨v1, c3, lt⟩] at this
    exact absurd this (by decide)
  · obtain ⟨t1, t2, t3⟩ := (zqbl h hs k1).mp k2
    obtain ⟨q, q1, q2⟩ := zqpl k t1
    have pq := zqbf hK q1 hp q2 ep t3
    obtain ⟨v, v1, v2⟩ := zqvl (g := g) (q := ((p : Int) + -1).toNat) (by omega)
    have l1 := zqly hK (show q ≤ ((p : Int) + -1).toNat by omega) (by omega) q2 v2
    have l2 := zqly hK (show ((p : Int) + -1).toNat ≤ p by omega) hp v2 ep
    have lt := zqso hK (show ((p : Int) + -1).toNat < p by omega) hp
    rw [ep, v2, Int.toNat_natCast, Int.toNat_natCast] at lt
    have cv : zcbl f s v = true := (zqbl h hs v1.1).mpr ⟨v1, by omega, lt⟩
    have vk : v = k := by
      by_cases e2 : v = k
      · exact e2
      · have b := k3 v v1.1 cv e2
        rw [zqlt h.2.1 hK v1 t1] at b
        have := zqbf hK (by omega) q1 v2 q2 b
        omega
    rw [e, if_pos ⟨by omega, by omega, by rw [v2, Int.toNat_natCast]; omega⟩, v2, vk]
theorem zrlq_p : ∀ q : Nat, zrlq g q ≤ q ∧ g 1167 (zrod g (zrlq g q)).toNat = g 1167 (zrod g q).toNat ∧ (zrlq g q = 0 ∨ g 1167 (zrod g (zrlq g q - 1)).toNat ≠ g 1167 (zrod g (zrlq g q)).toNat)
  | 0 => ⟨Nat.le_refl _, rfl, Or.inl rfl⟩
  | q + 1 => by
    obtain ⟨h1, h2, h3⟩ := zrlq_p q
    have e : zrlq g (q + 1) = if g 1167 (zrod g q).toNat = g 1167 (zrod g (q + 1)).toNat then zrlq g q else q + 1 := rfl
    rw [e]
    by_cases c : g 1167 (zrod g q).toNat = g 1167 (zrod g (q + 1)).toNat
    · rw [if_pos c]
      exact ⟨by omega, by rw [h2]; exact c, h3⟩
    · rw [if_neg c]
      exact ⟨Nat.le_refl _, rfl, Or.inr c⟩
/-- the lowest of a layer -/
theorem zqlo (h : zqR n f g) {q : Nat} (hq : q < zrct g) {l : Int} (hl : g 1167 (zrod g q).toNat = l) : zlow f l = zrod g (zrlq g q) := by
  have hK := h.2.2.1
  obtain ⟨z1, z2, z3⟩ := zrlq_p (g := g) q
  obtain ⟨v, v1, v2⟩ := zqvl (g := g) (q := zrlq g q) (by omega)
  rw [v2, Int.toNat_natCast] at z2
  have cv : zinl f l v = true := (zqin h v1.1).mpr ⟨v1, by omega⟩
  have key := zbest_b (cand := zinl f l) (better := zclt f) (P := zqth2 g) (zclt_tr h) (zclt_tot h) 60 (fun v hv hc => ((zqin h hv).mp hc).1)
  unfold zlow
  rcases key with ⟨e, no⟩ | ⟨k, k1, k2, e, k3⟩
  · rw [no v v1.1] at cv
    exact absurd cv (by decide)
  · obtain ⟨t1, t2⟩ := (zqin h k1).mp k2
    obtain ⟨r, r1, r2⟩ := zqpl k t1
    rw [e, v2]
    by_cases e2 : v = k
    · rw [e2]
    · have b := k3 v v1.1 cv e2
      rw [zqlt h.2.1 hK t1 v1] at b
      have rz := zqbf hK r1 (by omega) r2 v2 b
      rcases z3 with z3 | z3
      · omega
      · obtain ⟨u, u1, u2⟩ := zqvl (g := g) (q := zrlq g q - 1) (by omega)
        have l1 := zqly hK (show r ≤ zrlq g q - 1 by omega) (by omega) r2 u2
        have l2 := zqly hK (show zrlq g q - 1 ≤ zrlq g q by omega) (by omega) u2 v2
        rw [u2, v2, Int.toNat_natCast, Int.toNat_natCast] at z3
        omega
-- one key anew
theorem zfk_sp {a b c d : Int} : ∀ (k m : Nat), zfk a b c d k m = 0 ∨ (m ≤ zfk a b c d k m ∧ zfk a b c d k m < m + k ∧ (a * (zfk a b c d k m : Int) / b + 1) * d < c * (zfk a b c d k m : Int))
  | 0, _ => Or.inl rfl
  | k + 1, m => by
    rw [zfk_s]
    by_cases h : (a * (m : Int) / b + 1) * d < c * (m : Int)
    · rw [if_pos h]
      exact Or.inr ⟨Nat.le_refl _, by omega, h⟩
    · rw [if_neg h]
      rcases zfk_sp (a := a) (b := b) (c := c) (d := d) k (m + 1) with e | ⟨e1, e2, e3⟩
      · exact Or.inl e
      · exact Or.inr ⟨by omega, by omega, e3⟩
theorem zqQ_key (h : zqR n f g) (hn : n < 60) (hs : zqth2 g s) {t b : Int} (ht : 1 ≤ t) (hb : 1 ≤ b ∧ b ≤ 50) (hu : t ≤ (n : Int) * b) (hd : ∀ i, zqth2 g i → i ≠ s → g 1167 i = g 1167 s → g 1169 i * b ≠ t * g 1170 i) : zqR n (zu2 (zu2 f (14 + 14 * s) 3 t) (14 + 14 * s) 4 b) (zu2 (zu2 g 1169 s t) 1170 s b) := by
  have hs6 := hs.1
  have n50 : (n : Int) * b ≤ 60 * 50 := Int.mul_le_mul (by omega) hb.2 (by omega) (by omega)
  obtain ⟨T, A, K, Lr, G, V, D, S, J⟩ := h
  generalize ef : zu2 (zu2 f (14 + 14 * s) 3 t) (14 + 14 * s) 4 b = f'
  generalize eg : zu2 (zu2 g 1169 s t) 1170 s b = g'
  have hF : ∀ b i, (b ≠ 14 + 14 * s ∨ (i ≠ 3 ∧ i ≠ 4)) → f' b i = f b i := fun b i hb => by rw [← ef, zu2_sj (by omega), zu2_sj (by omega)]
  have hG : ∀ b i, ((b ≠ 1169 ∧ b ≠ 1170) ∨ i ≠ s) → g' b i = g b i := fun b i hb => by rw [← eg, zu2_sj (by omega), zu2_sj (by omega)]
  have s3 : f' (14 + 14 * s) 3 = t := by rw [← ef, zu2_i (by omega), zu2_eq]
  have s4 : f' (14 + 14 * s) 4 = b := by rw [← ef, zu2_eq]
  have r3 : g' 1169 s = t := by rw [← eg, zu2_a (by omega), zu2_eq]
  have r4 : g' 1170 s = b := by rw [← eg, zu2_eq]
  have h0 : ∀ i, i < 60 → g' 1166 i = g 1166 i := fun i hi => hG _ _ (by omega)
  have h00 : ∀ i, i < 60 → g' 1166 i = 1 → g 1166 i = 1 := fun i hi t => by rw [← h0 i hi]; exact t
  have hk : zqK n f' g' := by
    refine ⟨fun i hi t1 => ?_, fun i j hi hj hij t1 t2 tl => ?_⟩
    · by_cases e : i = s
      · subst e
        rw [s3, s4, r3, r4]
        exact ⟨rfl, rfl, ht, hb, hu⟩
      · rw [hF _ _ (by omega), hF _ _ (by omega), hG 1169 _ (by omega), hG 1170 _ (by omega)]
        exact K.1 i hi (h00 i hi t1)
    · rw [hG 1167 i (by omega), hG 1167 j (by omega)] at tl
      have ti := h00 i hi t1
      have tj := h00 j hj t2
      by_cases e : i = s
      · subst e
        have q := hd j ⟨hj, tj⟩ (fun e => hij e.symm) tl.symm
        rw [r3, r4, hG 1169 j (by omega), hG 1170 j (by omega)]
        exact fun q2 => q q2.symm
      · by_cases e2 : j = s
        · subst e2
          have q := hd i ⟨hi, ti⟩ e tl
          rw [r3, r4, hG 1169 i (by omega), hG 1170 i (by omega)]
          exact q
        · rw [hG 1169 i (by omega), hG 1170 i (by omega), hG 1169 j (by omega), hG 1170 j (by omega)]
          exact K.2 i j hi hj hij ti tj tl
  have hj : zqJ f' := by
    obtain ⟨J1, J2, J3, J4⟩ := J
    refine ⟨fun i hi => ?_, fun i hi => ?_, ⟨fun i hi => ?_, fun i hi => ?_⟩, fun i hi => ?_⟩
    · unfold zKy
      by_cases e : i = s
      · subst e; rw [s3, s4]; omega
      · rw [hF _ 3 (by omega), hF _ 4 (by omega)]
        exact J1 i hi
    · unfold zld
      rw [hF _ _ (by omega)]; exact J2 i hi
    · rw [hF _ _ (by omega)]; exact J3.1 i hi
    · rw [hF _ _ (by omega)]; exact J3.2 i hi
    · rw [hF _ _ (by omega)]; exact J4 i hi
  exact ⟨zqT_c (fun i hi => hF _ _ (by omega)) h0 T, zqA_c h00 (fun i hi _ => ⟨hF _ _ (by omega), hF _ _ (by omega), hF _ _ (by omega)⟩) (fun i hi _ => ⟨hG _ _ (by omega), hG _ _ (by omega), hG _ _ (by omega)⟩) A, hk, zqL_c h0 (fun i hi => ⟨hF _ _ (by omega), hF _ _ (by omega)⟩) (fun i hi => ⟨hG _ _ (by omega), hG _ _ (by omega)⟩) Lr, zqG_c (Nat.le_refl _) T.1 h0 (fun i hi => ⟨hF _ _ (by omega), hF _ _ (by omega)⟩) (fun i hi => hG _ _ (by omega)) G, zqV_c (fun i hi => hF _ _ (by omega)) (fun i hi => hG _ _ (by omega)) (fun i hi => ⟨hG _ _ (by omega), hG _ _ (by omega)⟩) V, zqD_c (hF _ _ (by omega)) (hG _ _ (by omega)) (fun i hi => ⟨hF _ _ (by omega), hF _ _ (by omega)⟩) (fun i hi => ⟨hG _ _ (by omega), hG _ _ (by omega)⟩) D, zqF_c h00 (fun k hk _ b j h1 h2 h3 => hF _ _ (by omega)) (fun k hk _ => ⟨hG _ _ (by omega), hG _ _ (by omega), fun p _ => hG _ _ (by omega), fun j _ _ => ⟨hG _ _ (by omega), hG _ _ (by omega)⟩⟩) S, hj⟩
end ZRAISEQ
end SG_CI_raiseq
