/-! ways by steps and ways by runs -/
section ZWALKS
def zax (d : Nat) : Nat := if d < 2 then 0 else 1
theorem zseg_e {m : Nat → Int} {S c a t i j k : Nat} (hi : i < 61) (hj : j < 61) (hk : k < 61) (hjk : j = k + 1 ∨ k = j + 1) (hf : m (zpa a i k) = 0) (h : zseg m S c a t (zpa a i j)) : zpa a i k = S ∨ (∃ t2, t2 ≤ t + 1 ∧ zseg m S c a t2 (zpa a i k)) ∨ ∃ c0 t2, c = c0 + 1 ∧ t2 ≤ t ∧ zseg m S c0 (1 - a) t2 (zpa a i k) := by
  have clr : ∀ j0, j0 < 61 → j0 ≠ k → zclm m a i j0 j → ((j0 < j ∧ j < k) ∨ (k < j ∧ j < j0) ∨ (j0 < k ∧ k < j) ∨ (j < k ∧ k < j0)) → zclm m a i j0 k := fun j0 h1 h2 h3 h4 z hz => by
    by_cases e : z = k
    · rw [e]; exact hf
    · exact h3 z (by omega)
  have two : ∀ j0, j0 < 61 → j0 ≠ j → j0 ≠ k → ((j0 < j ∧ j < k) ∨ (k < j ∧ j < j0) ∨ (j0 < k ∧ k < j) ∨ (j < k ∧ k < j0)) := fun j0 h1 h2 h3 => by omega
  cases c with
  | zero =>
    obtain ⟨i', j0, k', h1, h2, h3, h4, h5, h6, h7, h8⟩ := h
    obtain ⟨rfl, rfl⟩ := zpa_i hi hj h1 h3 h6
    by_cases e : j0 = k
    · left; rw [h5, e]
    · right; left
      exact ⟨((k : Int) - (j0 : Int)).natAbs, by omega, i, j0, k, hi, h2, hk, e, h5, rfl, clr j0 h2 e h7 (two j0 h2 h4 e), rfl⟩
  | succ c =>
    obtain ⟨i', j0, k', t', h1, h2, h3, h4, h5, h6, h7, h8⟩ := h
    obtain ⟨rfl, rfl⟩ := zpa_i hi hj h1 h3 h6
    by_cases e : j0 = k
    · right; right
      exact ⟨c, t', rfl, by omega, by rw [← e]; exact h5⟩
    · right; left
      exact ⟨t' + ((k : Int) - (j0 : Int)).natAbs, by omega, i, j0, k, t', hi, h2, hk, e, h5, rfl, clr j0 h2 e h7 (two j0 h2 h4 e), by omega⟩
theorem zseg_t1 {m : Nat → Int} {S c a t i j k : Nat} (hi : i < 61) (hj : j < 61) (hk : k < 61) (hjk : j = k + 1 ∨ k = j + 1) (hf : m (zpa a i k) = 0) (h : zseg m S c (1 - a) t (zpa a i j)) : zseg m S (c + 1) a (t + 1) (zpa a i k) :=
  ⟨i, j, k, t, hi, hj, hk, by omega, h, rfl, fun z hz => by rw [show z = k by omega]; exact hf, by omega⟩
theorem zseg_s1 {m : Nat → Int} {S a i j k : Nat} (hi : i < 61) (hj : j < 61) (hk : k < 61) (hjk : j = k + 1 ∨ k = j + 1) (hf : m (zpa a i k) = 0) (h : zpa a i j = S) : zseg m S 0 a 1 (zpa a i k) :=
  ⟨i, j, k, hi, hj, hk, by omega, h.symm, rfl, fun z hz => by rw [show z = k by omega]; exact hf, by omega⟩
/-- what runs give of a way of steps -/
def zJ (m : Nat → Int) (S a b s p : Nat) : Prop := p = S ∨ (∃ c t, zseg m S c a t p ∧ (c < b ∨ (c = b ∧ t ≤ s))) ∨ ∃ c t, zseg m S c (1 - a) t p ∧ (c + 1 < b ∨ (c + 1 = b ∧ t ≤ s))
theorem zJ_s {m : Nat → Int} {S a b b' s i j k : Nat} {a' : Nat} (ha : a < 2) (ha' : a' < 2) (hi : i < 61) (hj : j < 61) (hk : k < 61) (hjk : j = k + 1 ∨ k = j + 1) (hf : m (zpa a i k) = 0) (hb : b' ≤ b) (hb2 : a' ≠ a → b = b' + 1) (h : zJ m S a' b' s (zpa a i j)) : zJ m S a b (s + 1) (zpa a i k) := by
  by_cases hS : zpa a i j = S
  · exact Or.inr (Or.inl ⟨0, 1, zseg_s1 hi hj hk hjk hf hS, by omega⟩)
  · have ext : ∀ c t, zseg m S c a t (zpa a i j) → (c < b ∨ (c = b ∧ t ≤ s)) → zJ m S a b (s + 1) (zpa a i k) := fun c t hz hl => by
      rcases zseg_e hi hj hk hjk hf hz with h1 | ⟨t2, h1, h2⟩ | ⟨c0, t2, h1, h2, h3⟩
      · exact Or.inl h1
      · exact Or.inr (Or.inl ⟨c, t2, h2, by omega⟩)
      · exact Or.inr (Or.inr ⟨c0, t2, h3, by omega⟩)
    have trn : ∀ c t, zseg m S c (1 - a) t (zpa a i j) → (c + 1 < b ∨ (c + 1 = b ∧ t ≤ s)) → zJ m S a b (s + 1) (zpa a i k) := fun c t hz hl => Or.inr (Or.inl ⟨c + 1, t + 1, zseg_t1 hi hj hk hjk hf hz, by omega⟩)
    by_cases e : a' = a
    · subst e
      rcases h with h | ⟨c, t, h1, h2⟩ | ⟨c, t, h1, h2⟩
      · exact absurd h hS
      · exact ext c t h1 (by omega)
      · exact trn c t h1 (by omega)
    · have e1 : a' = 1 - a := by omega
      have e2 : 1 - a' = a := by omega
      have hbb := hb2 e
      rcases h with h | ⟨c, t, h1, h2⟩ | ⟨c, t, h1, h2⟩
      · exact absurd h hS
      · rw [e1] at h1
        exact trn c t h1 (by omega)
      · rw [e2] at h1
        exact ext c t h1 (by omega)
theorem zwlk_J {m : Nat → Int} {x0 y0 : Nat} (hx0 : x0 < 61) (hy0 : y0 < 61) : ∀ s b x y d, d < 4 → zwlk m x0 y0 s b x y d → zJ m (y0 * 61 + x0) (zax d) b s (y * 61 + x)
  | 0, b, x, y, d, hd, h => by
    obtain ⟨rfl, rfl, rfl⟩ := h
    exact Or.inl rfl
  | s + 1, b, x, y, d, hd, h => by
    obtain ⟨b', x', y', d', h1, h2, h3, h4, h5, h6, h7, h8, h9, h10⟩ := h
    have ih := zwlk_J hx0 hy0 s b' x' y' d' h3 h4
    have hax : zax d < 2 ∧ zax d' < 2 := by unfold zax; refine ⟨?_, ?_⟩ <;> split <;> omega
    have hbb : b' ≤ b := by rw [h10]; omega
    have hb2 : zax d' ≠ zax d → b = b' + 1 := fun hne => by
      rw [h10, if_neg (fun h => hne (by rw [h]))]
    by_cases hd2 : d < 2
    · have ea : zax d = 0 := by unfold zax; rw [if_pos hd2]
      have hdir : y = y' ∧ (x' = x + 1 ∨ x = x' + 1) := by
        have : d = 0 ∨ d = 1 := by omega
        rcases this with rfl | rfl
        · unfold zdrx at h5; unfold zdry at h6; simp at h5 h6; omega
        · unfold zdrx at h5; unfold zdry at h6; simp at h5 h6; omega
      have p1 : y * 61 + x = zpa 0 y x := by rw [zpa_0]; unfold zpt0; omega
      have p2 : y' * 61 + x' = zpa 0 y x' := by rw [zpa_0]; unfold zpt0; omega
      rw [p2] at ih
      rw [p1, ea]
      rw [ea] at hb2
      exact zJ_s (by omega) hax.2 h8 h1 h7 hdir.2 (by rw [← p1, show y * 61 + x = 61 * y + x by omega]; exact h9) hbb hb2 ih
    · have ea : zax d = 1 := by unfold zax; rw [if_neg hd2]
      have hdir : x = x' ∧ (y' = y + 1 ∨ y = y' + 1) := by
        have : d = 2 ∨ d = 3 := by omega
        rcases this with rfl | rfl
        · unfold zdrx at h5; unfold zdry at h6; simp at h5 h6; omega
        · unfold zdrx at h5; unfold zdry at h6; simp at h5 h6; omega
      have p1 : y * 61 + x = zpa 1 x y := by rw [zpa_1]; unfold zpt1; omega
      have p2 : y' * 61 + x' = zpa 1 x y' := by rw [zpa_1]; unfold zpt1; omega
      rw [p2] at ih
      rw [p1, ea]
      rw [ea] at hb2
      exact zJ_s (by omega) hax.2 h7 h2 h8 hdir.2 (by rw [← p1, show y * 61 + x = 61 * y + x by omega]; exact h9) hbb hb2 ih
/-- a run, step by step -/
theorem zwlk_r {m : Nat → Int} {x0 y0 d : Nat} (hd : d < 4) (px py : Nat → Nat) : ∀ n s b, (∀ i, i < n → (px (i + 1) : Int) = (px i : Int) + zdrx d ∧ (py (i + 1) : Int) = (py i : Int) + zdry d) → (∀ i, i ≤ n → px i < 61 ∧ py i < 61) → (∀ i, i < n → m (61 * py (i + 1) + px (i + 1)) = 0) → zwlk m x0 y0 s b (px 0) (py 0) d → zwlk m x0 y0 (s + n) b (px n) (py n) d
  | 0, s, b, _, _, _, h => h
  | n + 1, s, b, h1, h2, h3, h => by
    have ih := zwlk_r hd px py n s b (fun i hi => h1 i (by omega)) (fun i hi => h2 i (by omega)) (fun i hi => h3 i (by omega)) h
    exact ⟨b, px n, py n, d, (h2 n (by omega)).1, (h2 n (by omega)).2, hd, ih, (h1 n (by omega)).1, (h1 n (by omega)).2, (h2 (n + 1) (by omega)).1, (h2 (n + 1) (by omega)).2, h3 n (by omega), by rw [if_pos rfl]; omega⟩
/-- a run from a place come to by any direction -/
theorem zrun_w {m : Nat → Int} {x0 y0 a i j k : Nat} (ha : a < 2) (hi : i < 61) (hj : j < 61) (hk : k < 61) (hjk : j ≠ k) (hc : zclm m a i j k) : ∃ d, d < 4 ∧ zax d = a ∧ ∀ s b d', d' < 4 → zwlk m x0 y0 s b (zpa a i j % 61) (zpa a i j / 61) d' → zwlk m x0 y0 (s + ((k : Int) - (j : Int)).natAbs) (b + (if d' = d then 0 else 1)) (zpa a i k % 61) (zpa a i k / 61) d := by
  -- in general
  have gen : ∀ (d n : Nat) (px py : Nat → Nat), d < 4 → 1 ≤ n → (∀ i, i < n → (px (i + 1) : Int) = (px i : Int) + zdrx d ∧ (py (i + 1) : Int) = (py i : Int) + zdry d) → (∀ i, i ≤ n → px i < 61 ∧ py i < 61) → (∀ i, i < n → m (61 * py (i + 1) + px (i + 1)) = 0) → ∀ s b d', d' < 4 → zwlk m x0 y0 s b (px 0) (py 0) d' → zwlk m x0 y0 (s + n) (b + (if d' = d then 0 else 1)) (px n) (py n) d := by
    intro d n px py hd hn h1 h2 h3 s b d' hd' hw
    obtain ⟨n', rfl⟩ : ∃ n', n = n' + 1 := ⟨n - 1, by omega⟩
    have w1 : zwlk m x0 y0 (s + 1) (b + (if d' = d then 0 else 1)) (px 1) (py 1) d := ⟨b, px 0, py 0, d', (h2 0 (by omega)).1, (h2 0 (by omega)).2, hd', hw, (h1 0 (by omega)).1, (h1 0 (by omega)).2, (h2 1 (by omega)).1, (h2 1 (by omega)).2, h3 0 (by omega), rfl⟩
    have w2 := zwlk_r hd (fun i => px (i + 1)) (fun i => py (i + 1)) n' (s + 1) _ (fun i hi => h1 (i + 1) (by omega)) (fun i hi => h2 (i + 1) (by omega)) (fun i hi => h3 (i + 1) (by omega)) w1
    rw [show s + (n' + 1) = s + 1 + n' by omega]
    exact w2
  have : a = 0 ∨ a = 1 := by omega
  rcases this with rfl | rfl
  · have c1 : ∀ q, q < 61 → zpa 0 i q % 61 = q ∧ zpa 0 i q / 61 = i := fun q hq => by rw [zpa_0]; unfold zpt0; omega
    rw [(c1 j hj).1, (c1 j hj).2, (c1 k hk).1, (c1 k hk).2]
    by_cases hlt : j < k
    · refine ⟨0, by omega, rfl, fun s b d' hd' hw => ?_⟩
      have := gen 0 (k - j) (fun q => j + q) (fun _ => i) (by omega) (by omega) (fun q hq => ⟨by unfold zdrx; simp; omega, by unfold zdry; simp⟩) (fun q hq => ⟨by omega, hi⟩) (fun q hq => by
        have h9 := hc (j + (q + 1)) (by omega)
        rw [zpa_0] at h9
        unfold zpt0 at h9
        rw [show i * 61 + (j + (q + 1)) * 1 = 61 * i + (j + (q + 1)) by omega] at h9
        exact h9) s b d' hd' hw
      rw [show j + (k - j) = k by omega, show k - j = ((k : Int) - (j : Int)).natAbs by omega] at this
      exact this
    · refine ⟨1, by omega, rfl, fun s b d' hd' hw => ?_⟩
      have := gen 1 (j - k) (fun q => j - q) (fun _ => i) (by omega) (by omega) (fun q hq => ⟨by unfold zdrx; simp; omega, by unfold zdry; simp⟩) (fun q hq => ⟨by omega, hi⟩) (fun q hq => by
        have h9 := hc (j - (q + 1)) (by omega)
        rw [zpa_0] at h9
        unfold zpt0 at h9
        rw [show i * 61 + (j - (q + 1)) * 1 = 61 * i + (j - (q + 1)) by omega] at h9
        exact h9) s b d' hd' hw
      rw [show j - (j - k) = k by omega, show j - k = ((k : Int) - (j : Int)).natAbs by omega] at this
      exact this
  · have c1 : ∀ q, q < 61 → zpa 1 i q % 61 = i ∧ zpa 1 i q / 61 = q := fun q hq => by rw [zpa_1]; unfold zpt1; omega
    rw [(c1 j hj).1, (c1 j hj).2, (c1 k hk).1, (c1 k hk).2]
    by_cases hlt : j < k
    · refine ⟨2, by omega, rfl, fun s b d' hd' hw => ?_⟩
      have := gen 2 (k - j) (fun _ => i) (fun q => j + q) (by omega) (by omega) (fun q hq => ⟨by unfold zdrx; simp, by unfold zdry; simp; omega⟩) (fun q hq => ⟨hi, by omega⟩) (fun q hq => by
        have h9 := hc (j + (q + 1)) (by omega)
        rw [zpa_1] at h9
        unfold zpt1 at h9
        rw [show i + (j + (q + 1)) * 61 = 61 * (j + (q + 1)) + i by omega] at h9
        exact h9) s b d' hd' hw
      rw [show j + (k - j) = k by omega, show k - j = ((k : Int) - (j : Int)).natAbs by omega] at this
      exact this
    · refine ⟨3, by omega, rfl, fun s b d' hd' hw => ?_⟩
      have := gen 3 (j - k) (fun _ => i) (fun q => j - q) (by omega) (by omega) (fun q hq => ⟨by unfold zdrx; simp, by unfold zdry; simp; omega⟩) (fun q hq => ⟨hi, by omega⟩) (fun q hq => by
        have h9 := hc (j - (q + 1)) (by omega)
        rw [zpa_1] at h9
        unfold zpt1 at h9
        rw [show i + (j - (q + 1)) * 61 = 61 * (j - (q + 1)) + i by omega] at h9
        exact h9) s b d' hd' hw
      rw [show j - (j - k) = k by omega, show j - k = ((k : Int) - (j : Int)).natAbs by omega] at this
      exact this
/-- runs are ways of steps -/
theorem zseg_w {m : Nat → Int} {x0 y0 : Nat} (hx0 : x0 < 61) (hy0 : y0 < 61) : ∀ c a t p, a < 2 → zseg m (y0 * 61 + x0) c a t p → ∃ d, d < 4 ∧ zax d = a ∧ zwlk m x0 y0 t c (p % 61) (p / 61) d
  | 0, a, t, p, ha, h => by
    obtain ⟨i, j, k, h1, h2, h3, h4, h5, h6, h7, h8⟩ := h
    obtain ⟨d, d1, d2, d3⟩ := zrun_w (x0 := x0) (y0 := y0) ha h1 h2 h3 h4 h7
    have w := d3 0 0 d d1 ⟨by rw [← h5]; omega, by rw [← h5]; omega, rfl⟩
    rw [if_pos rfl, ← h6, show 0 + ((k : Int) - (j : Int)).natAbs = t by omega] at w
    exact ⟨d, d1, d2, w⟩
  | c + 1, a, t, p, ha, h => by
    obtain ⟨i, j, k, t', h1, h2, h3, h4, h5, h6, h7, h8⟩ := h
    obtain ⟨e, e1, e2, e3⟩ := zseg_w hx0 hy0 c (1 - a) t' _ (by omega) h5
    obtain ⟨d, d1, d2, d3⟩ := zrun_w (x0 := x0) (y0 := y0) ha h1 h2 h3 h4 h7
    have w := d3 t' c e e1 e3
    rw [if_neg (fun h => by rw [h, d2] at e2; omega), ← h6, show t' + ((k : Int) - (j : Int)).natAbs = t by omega] at w
    exact ⟨d, d1, d2, w⟩
end ZWALKS
