/-! the least way: it crosses no point twice; class and reference tell the same -/
section ZLEAST
theorem zleast {P : Nat → Prop} : ∀ n k, k ≤ n → P k → ∃ k, P k ∧ ∀ j, P j → k ≤ j
  | 0, k, hk, h => ⟨k, h, fun j _ => by omega⟩
  | n + 1, k, hk, h => by
    by_cases e : ∃ j, j < k ∧ P j
    · obtain ⟨j, h1, h2⟩ := e
      exact zleast n j (by omega) h2
    · exact ⟨k, h, fun j hj => Classical.byContradiction (fun h2 => e ⟨j, by omega, hj⟩)⟩
/-- the places of a way -/
theorem zwlk_f {m : Nat → Int} {x0 y0 : Nat} (hx0 : x0 < 61) (hy0 : y0 < 61) : ∀ s b x y d, x < 61 → y < 61 → d < 4 → zwlk m x0 y0 s b x y d → ∃ X Y D W : Nat → Nat, (X s = x ∧ Y s = y ∧ D s = d ∧ W s = b) ∧ (∀ k, k ≤ s → X k < 61 ∧ Y k < 61 ∧ D k < 4 ∧ zwlk m x0 y0 k (W k) (X k) (Y k) (D k)) ∧ ∀ k, k < s → (X (k + 1) : Int) = (X k : Int) + zdrx (D (k + 1)) ∧ (Y (k + 1) : Int) = (Y k : Int) + zdry (D (k + 1)) ∧ m (61 * Y (k + 1) + X (k + 1)) = 0 ∧ W (k + 1) = W k + (if D k = D (k + 1) then 0 else 1)
  | 0, b, x, y, d, hx, hy, hd, h => ⟨fun _ => x, fun _ => y, fun _ => d, fun _ => b, ⟨rfl, rfl, rfl, rfl⟩, fun k hk => ⟨hx, hy, hd, by rw [show k = 0 by omega]; exact h⟩, fun k hk => absurd hk (Nat.not_lt_zero k)⟩
  | s + 1, b, x, y, d, hx, hy, hd, h => by
    have h0 := h
    obtain ⟨b', x', y', d', h1, h2, h3, h4, h5, h6, h7, h8, h9, h10⟩ := h
    obtain ⟨X, Y, D, W, ⟨e1, e2, e3, e4⟩, q1, q2⟩ := zwlk_f hx0 hy0 s b' x' y' d' h1 h2 h3 h4
    refine ⟨fun k => if k ≤ s then X k else x, fun k => if k ≤ s then Y k else y, fun k => if k ≤ s then D k else d, fun k => if k ≤ s then W k else b, ⟨if_neg (by omega), if_neg (by omega), if_neg (by omega), if_neg (by omega)⟩, fun k hk => ?_, fun k hk => ?_⟩
    · by_cases e : k ≤ s
      · simp only [if_pos e]
        exact q1 k e
      · simp only [if_neg e]
        rw [show k = s + 1 by omega]
        exact ⟨hx, hy, hd, h0⟩
    · by_cases e : k + 1 ≤ s
      · simp only [if_pos e, if_pos (show k ≤ s by omega)]
        exact q2 k (by omega)
      · have : k = s := by omega
        subst this
        simp only [if_neg e, if_pos (Nat.le_refl k)]
        rw [e1, e2, e3, e4]
        exact ⟨h5, h6, h9, h10⟩
/-- a way that comes to a point again is not the shortest -/
theorem zwlk_c {m : Nat → Int} {x0 y0 : Nat} (hx0 : x0 < 61) (hy0 : y0 < 61) {s b x y d : Nat} (hx : x < 61) (hy : y < 61) (hd : d < 4) (h : zwlk m x0 y0 s b x y d) (hs : 3721 ≤ s) : ∃ s' b' d', s' < s ∧ b' ≤ b ∧ d' < 4 ∧ zwlk m x0 y0 s' b' x y d' := by
  obtain ⟨X, Y, D, W, ⟨e1, e2, e3, e4⟩, q1, q2⟩ := zwlk_f hx0 hy0 s b x y d hx hy hd h
  have rep : ∃ i j, i < j ∧ j ≤ s ∧ X i = X j ∧ Y i = Y j := by
    refine Classical.byContradiction (fun hno => ?_)
    have := zpig 3721 (s + 1) (fun k => 61 * Y k + X k) (fun k hk => by have := q1 k (by omega); omega) (fun i j hij hj he => by
      have a := q1 i (by omega)
      have c := q1 j (by omega)
      exact hno ⟨i, j, hij, by omega, by omega, by omega⟩)
    omega
  obtain ⟨i, j, hij, hj, hX, hY⟩ := rep
  have mono : ∀ k, i ≤ k → k ≤ s → W i ≤ W k ∧ (D i ≠ D k → W i + 1 ≤ W k) := by
    intro k
    induction k with
    | zero => intro h1 _; rw [show i = 0 by omega]; exact ⟨Nat.le_refl _, fun h => absurd rfl h⟩
    | succ k ih =>
      intro h1 h2
      by_cases e : i = k + 1
      · rw [e]; exact ⟨Nat.le_refl _, fun h => absurd rfl h⟩
      · have hi := ih (by omega) (by omega)
        have hq := (q2 k (by omega)).2.2.2
        by_cases e2 : D k = D (k + 1)
        · rw [if_pos e2] at hq
          rw [← e2]
          omega
        · rw [if_neg e2] at hq
          omega
  have main : ∀ n, j + (n + 1) ≤ s → ∃ b', b' ≤ W (j + (n + 1)) ∧ zwlk m x0 y0 (i + (n + 1)) b' (X (j + (n + 1))) (Y (j + (n + 1))) (D (j + (n + 1))) := by
    intro n
    induction n with
    | zero =>
      intro hn
      have hi := q1 i (by omega)
      have hq := q2 j (by omega)
      have hm := mono j (by omega) hj
      have hj1 := q1 (j + 1) (by omega)
      refine ⟨W i + (if D i = D (j + 1) then 0 else 1), ?_, W i, X i, Y i, D i, hi.1, hi.2.1, hi.2.2.1, hi.2.2.2, by rw [hX]; exact hq.1, by rw [hY]; exact hq.2.1, hj1.1, hj1.2.1, hq.2.2.1, rfl⟩
      rw [hq.2.2.2]
      by_cases a : D i = D (j + 1)
      · rw [if_pos a]; omega
      · rw [if_neg a]
        by_cases c : D j = D (j + 1)
        · have := hm.2 (by rw [c]; exact a)
          omega
        · rw [if_neg c]; omega
    | succ n ih =>
      intro hn
      obtain ⟨b', h1, h2⟩ := ih (by omega)
      have hk := q1 (j + (n + 1)) (by omega)
      have hq := q2 (j + (n + 1)) (by omega)
      have hk1 := q1 (j + (n + 1) + 1) (by omega)
      refine ⟨b' + (if D (j + (n + 1)) = D (j + (n + 1) + 1) then 0 else 1), ?_, b', X (j + (n + 1)), Y (j + (n + 1)), D (j + (n + 1)), hk.1, hk.2.1, hk.2.2.1, h2, hq.1, hq.2.1, hk1.1, hk1.2.1, hq.2.2.1, rfl⟩
      have := hq.2.2.2
      rw [show j + (n + 1 + 1) = j + (n + 1) + 1 by omega, this]
      omega
  by_cases e : j = s
  · have hi := q1 i (by omega)
    have hm := mono j (by omega) hj
    refine ⟨i, W i, D i, by omega, by rw [← e4, ← e]; exact hm.1, hi.2.2.1, ?_⟩
    have h9 := hi.2.2.2
    rw [hX, hY, e, e1, e2] at h9
    exact h9
  · obtain ⟨b', h1, h2⟩ := main (s - j - 1) (by omega)
    rw [show j + (s - j - 1 + 1) = s by omega] at h1 h2
    rw [e1, e2, e3] at h2
    exact ⟨i + (s - j - 1 + 1), b', d, by omega, by omega, hd, h2⟩
theorem zway_min {m : Nat → Int} {x0 y0 E : Nat} (hx0 : x0 < 61) (hy0 : y0 < 61) (hE : E < 3721) (hne : E ≠ y0 * 61 + x0) (h : ∃ c a t, a < 2 ∧ zseg m (y0 * 61 + x0) c a t E) : ∃ B T, T ≤ 4095 ∧ (∃ a, a < 2 ∧ zseg m (y0 * 61 + x0) B a T E) ∧ ∀ c a t, a < 2 → zseg m (y0 * 61 + x0) c a t E → B < c ∨ (B = c ∧ T ≤ t) := by
  obtain ⟨c, a, t, ha, hz⟩ := h
  obtain ⟨B, ⟨a1, t1, ha1, hz1⟩, hB⟩ := zleast (P := fun c => ∃ a t, a < 2 ∧ zseg m (y0 * 61 + x0) c a t E) c c (Nat.le_refl c) ⟨a, t, ha, hz⟩
  obtain ⟨T, ⟨a2, ha2, hz2⟩, hT⟩ := zleast (P := fun t => ∃ a, a < 2 ∧ zseg m (y0 * 61 + x0) B a t E) t1 t1 (Nat.le_refl t1) ⟨a1, ha1, hz1⟩
  have hmin : ∀ c a t, a < 2 → zseg m (y0 * 61 + x0) c a t E → B < c ∨ (B = c ∧ T ≤ t) := fun c a t ha hz => by
    have h1 := hB c ⟨a, t, ha, hz⟩
    by_cases e : B = c
    · subst e
      exact Or.inr ⟨rfl, hT t ⟨a, ha, hz⟩⟩
    · exact Or.inl (by omega)
  refine ⟨B, T, ?_, ⟨a2, ha2, hz2⟩, hmin⟩
  refine Classical.byContradiction (fun hbig => ?_)
  obtain ⟨d, d1, d2, d3⟩ := zseg_w hx0 hy0 B a2 T E ha2 hz2
  obtain ⟨s', b', d', c1, c2, c3, c4⟩ := zwlk_c hx0 hy0 (by omega) (by omega) d1 d3 (by omega)
  have hJ := zwlk_J hx0 hy0 s' b' _ _ d' c3 c4
  rw [show E / 61 * 61 + E % 61 = E by omega] at hJ
  have hax : zax d' < 2 := by unfold zax; split <;> omega
  rcases hJ with h1 | ⟨c, t, h1, h2⟩ | ⟨c, t, h1, h2⟩
  · exact hne h1
  · have := hmin c _ t hax h1
    omega
  · have := hmin c _ t (by omega) h1
    omega
theorem zwlk_m {B m : Nat → Int} {x0 y0 : Nat} (hm : ∀ n, n < 3721 → (B n = 0 ↔ m n = 0)) : ∀ s b x y d, zwlk B x0 y0 s b x y d → zwlk m x0 y0 s b x y d
  | 0, _, _, _, _, h => h
  | s + 1, b, x, y, d, ⟨b', x', y', d', h1, h2, h3, h4, h5, h6, h7, h8, h9, h10⟩ => ⟨b', x', y', d', h1, h2, h3, zwlk_m hm s _ _ _ _ h4, h5, h6, h7, h8, (hm _ (by omega)).mp h9, h10⟩
/-- the least of the four -/
def zlst (f : Nat → Nat → Int) (x y : Nat) : Nat → Int
  | 0 => 2147483647
  | d + 1 => if f 1201 (znode x y d) < zlst f x y d then f 1201 (znode x y d) else zlst f x y d
theorem zlst_s (f : Nat → Nat → Int) (x y d : Nat) : zlst f x y (d + 1) = if f 1201 (znode x y d) < zlst f x y d then f 1201 (znode x y d) else zlst f x y d := rfl
theorem zlst_b (f : Nat → Nat → Int) (x y : Nat) : ∀ n, zlst f x y n ≤ 2147483647 ∧ (∀ d, d < n → zlst f x y n ≤ f 1201 (znode x y d)) ∧ (zlst f x y n = 2147483647 ∨ ∃ d, d < n ∧ zlst f x y n = f 1201 (znode x y d))
  | 0 => ⟨Int.le_refl _, fun d hd => absurd hd (Nat.not_lt_zero d), Or.inl rfl⟩
  | n + 1 => by
    obtain ⟨h1, h2, h3⟩ := zlst_b f x y n
    rw [zlst_s]
    split
    · refine ⟨by omega, fun d hd => ?_, Or.inr ⟨n, by omega, rfl⟩⟩
      by_cases e : d = n
      · rw [e]; exact Int.le_refl _
      · have := h2 d (by omega)
        omega
    · refine ⟨h1, fun d hd => ?_, ?_⟩
      · by_cases e : d = n
        · rw [e]; omega
        · exact h2 d (by omega)
      · rcases h3 with h3 | ⟨d, d1, d2⟩
        · exact Or.inl h3
        · exact Or.inr ⟨d, by omega, d2⟩
/-- both tell the same -/
theorem zway_eq {B m : Nat → Int} {x0 y0 u v : Nat} {f : Nat → Nat → Int} {w : Int} (hx0 : x0 < 61) (hy0 : y0 < 61) (hu : u < 61) (hv : v < 61) (hm : ∀ n, n < 3721 → (B n = 0 ↔ m n = 0)) (hne : v * 61 + u ≠ y0 * 61 + x0) (hc : zwans m (y0 * 61 + x0) (v * 61 + u) w) (hr : zwcs B x0 y0 f) : (w = -1 ∧ zlst f u v 4 = 2147483647) ∨ ∃ b t : Nat, w = 4096 * (b : Int) + (t : Int) ∧ t ≤ 4095 ∧ b ≤ 4095 ∧ zlst f u v 4 = 10000 * (b : Int) + (t : Int) := by
  obtain ⟨l1, l2, l3⟩ := zlst_b f u v 4
  have sound : ∀ d, d < 4 → f 1201 (znode u v d) = 2147483647 ∨ ∃ s b : Nat, zJ m (y0 * 61 + x0) (zax d) b s (v * 61 + u) ∧ f 1201 (znode u v d) = 10000 * (b : Int) + (s : Int) := fun d hd => by
    rcases hr.1 u v d hu hv hd with h | ⟨s, b, h1, h2⟩
    · exact Or.inl h
    · exact Or.inr ⟨s, b, zwlk_J hx0 hy0 s b u v d hd (zwlk_m hm _ _ _ _ _ h1), h2⟩
  have hax : ∀ d, zax d < 2 := fun d => by unfold zax; split <;> omega
  rcases hc with ⟨hw, hno⟩ | ⟨b, t, hw, ht, ⟨a, ha, hz⟩, hmin⟩
  · left
    refine ⟨hw, ?_⟩
    rcases l3 with h | ⟨d, hd, h⟩
    · exact h
    · rw [h]
      rcases sound d hd with h2 | ⟨s, b, h2, _⟩
      · exact h2
      · rcases h2 with h3 | ⟨c, t, h3, _⟩ | ⟨c, t, h3, _⟩
        · exact absurd h3 hne
        · exact absurd h3 (hno c _ t (hax d))
        · exact absurd h3 (hno c _ t (by have := hax d; omega))
  · right
    have hbt := zseg_t _ _ _ _ hz
    refine ⟨b, t, hw, ht, by omega, ?_⟩
    obtain ⟨d, d1, d2, d3⟩ := zseg_w hx0 hy0 b a t _ ha hz
    rw [show (v * 61 + u) % 61 = u by omega, show (v * 61 + u) / 61 = v by omega] at d3
    have hle := hr.2 t b u v d hu hv d1 (zwlk_m (fun n hn => (hm n hn).symm) _ _ _ _ _ d3)
    have hl := l2 d d1
    rcases l3 with h | ⟨e, he, h⟩
    · omega
    · rcases sound e he with h2 | ⟨s, b2, h2, h4⟩
      · omega
      · rcases h2 with h3 | ⟨c, t2, h3, h5⟩ | ⟨c, t2, h3, h5⟩
        · exact absurd h3 hne
        · have := hmin c _ t2 (hax e) h3
          omega
        · have := hmin c _ t2 (by have := hax e; omega) h3
          omega
end ZLEAST
