/-! what is flooded, in any order, is as much -/
section ZFLOOD
theorem zpig : ∀ (m n : Nat) (g : Nat → Nat), (∀ k, k < n → g k < m) → (∀ i j, i < j → j < n → g i ≠ g j) → n ≤ m
  | 0, n, g, h, _ => by
    by_cases e : n = 0
    · omega
    · have := h 0 (by omega)
      omega
  | m + 1, n, g, h, hi => by
    by_cases hm : ∃ k, k < n ∧ g k = m
    · obtain ⟨k0, h1, h2⟩ := hm
      have ih := zpig m (n - 1) (fun k => if k < k0 then g k else g (k + 1)) (fun k hk => by
        by_cases h3 : k < k0
        · rw [if_pos h3]
          have h4 := h k (by omega)
          have h5 := hi k k0 h3 h1
          omega
        · rw [if_neg h3]
          have h4 := h (k + 1) (by omega)
          have h5 := hi k0 (k + 1) (by omega) (by omega)
          omega) (fun i j h3 h4 => by
        by_cases h5 : i < k0
        · rw [if_pos h5]
          by_cases h6 : j < k0
          · rw [if_pos h6]; exact hi i j h3 (by omega)
          · rw [if_neg h6]; exact hi i (j + 1) (by omega) (by omega)
        · rw [if_neg h5, if_neg (by omega)]
          exact hi (i + 1) (j + 1) (by omega) (by omega))
      omega
    · have ih := zpig m n g (fun k hk => by
        have h3 := h k hk
        have h4 : g k ≠ m := fun e => hm ⟨k, hk, e⟩
        omega) hi
      omega
def zadj (x y u v : Nat) : Prop := (x = u ∧ (y = v + 1 ∨ v = y + 1)) ∨ (y = v ∧ (x = u + 1 ∨ u = x + 1))
/-- a row of cells by numbers that tell them apart -/
def zEi (e : Nat → Nat → Nat) : Prop := ∀ x y u v, x < 60 → u < 60 → e x y = e u v → x = u ∧ y = v
def zFI (e : Nat → Nat → Nat) (c : Nat → Nat → Int) (col : Int) (sx sy : Nat) (m : Nat → Nat → Int) (q : Nat → Int) (n : Nat) : Prop :=
  (∀ k, k < n → ∃ x y, x < 60 ∧ y < 60 ∧ q k = (e x y : Int) ∧ c x y = col ∧ m x y = -1) ∧
  (∀ x y, x < 60 → y < 60 → (m x y = -1 ∧ ∃ k, k < n ∧ q k = (e x y : Int)) ∨ (m x y = c x y ∧ m x y ≠ -1)) ∧
  (∀ i j, i < j → j < n → q i ≠ q j) ∧ (0 < n ∧ q 0 = (e sx sy : Int)) ∧
  (∀ k, 0 < k → k < n → ∃ i x y u v, i < k ∧ x < 60 ∧ y < 60 ∧ u < 60 ∧ v < 60 ∧ q i = (e x y : Int) ∧ q k = (e u v : Int) ∧ zadj x y u v)
theorem zFI_c {e : Nat → Nat → Nat} {c : Nat → Nat → Int} {col : Int} {sx sy : Nat} {m m' : Nat → Nat → Int} {q q' : Nat → Int} {n : Nat} (h : zFI e c col sx sy m q n) (hm : ∀ x y, x < 60 → y < 60 → m' x y = m x y) (hq : ∀ j, j < n → q' j = q j) : zFI e c col sx sy m' q' n := by
  obtain ⟨h1, h2, h3, h4, h5⟩ := h
  refine ⟨fun k hk => ?_, fun x y hx hy => ?_, fun i j hi hj => ?_, ⟨h4.1, by rw [hq 0 h4.1]; exact h4.2⟩, fun k hk hn => ?_⟩
  · obtain ⟨x, y, a1, a2, a3, a4, a5⟩ := h1 k hk
    exact ⟨x, y, a1, a2, by rw [hq k hk]; exact a3, a4, by rw [hm x y a1 a2]; exact a5⟩
  · rw [hm x y hx hy]
    rcases h2 x y hx hy with ⟨a1, k, a2, a3⟩ | a
    · exact Or.inl ⟨a1, k, a2, by rw [hq k a2]; exact a3⟩
    · exact Or.inr a
  · rw [hq i (by omega), hq j hj]; exact h3 i j hi hj
  · obtain ⟨i, x, y, u, v, a0, a1, a2, a3, a4, a5, a6, a7⟩ := h5 k hk hn
    exact ⟨i, x, y, u, v, a0, a1, a2, a3, a4, by rw [hq i (by omega)]; exact a5, by rw [hq k hn]; exact a6, a7⟩
theorem zFI_0 {e : Nat → Nat → Nat} {c : Nat → Nat → Int} {col : Int} {sx sy : Nat} {q : Nat → Int} (hx : sx < 60) (hy : sy < 60) (hc : c sx sy = col) (hn : ∀ x y, x < 60 → y < 60 → c x y ≠ -1) (hq : q 0 = (e sx sy : Int)) : zFI e c col sx sy (fun a b => if a = sx ∧ b = sy then -1 else c a b) q 1 := by
  refine ⟨fun k hk => ?_, fun x y hx' hy' => ?_, fun i j hi hj => by omega, ⟨by omega, hq⟩, fun k hk hn => by omega⟩
  · have : k = 0 := by omega
    subst this
    exact ⟨sx, sy, hx, hy, hq, hc, if_pos ⟨rfl, rfl⟩⟩
  · by_cases h : x = sx ∧ y = sy
    · obtain ⟨rfl, rfl⟩ := h
      exact Or.inl ⟨if_pos ⟨rfl, rfl⟩, 0, by omega, hq⟩
    · dsimp only
      rw [if_neg h]
      exact Or.inr ⟨rfl, hn x y hx' hy'⟩
theorem zFI_s {e : Nat → Nat → Nat} {c : Nat → Nat → Int} {col : Int} {sx sy : Nat} {m : Nat → Nat → Int} {q : Nat → Int} {n : Nat} (hE : zEi e) (h : zFI e c col sx sy m q n) {x y i u v : Nat} (hx : x < 60) (hy : y < 60) (hm : m x y = col) (hcol : col ≠ -1) (hi : i < n) (hu : u < 60) (hv : v < 60) (hq : q i = (e u v : Int)) (ha : zadj u v x y) : zFI e c col sx sy (fun a b => if a = x ∧ b = y then -1 else m a b) (fun j => if j = n then (e x y : Int) else q j) (n + 1) := by
  obtain ⟨h1, h2, h3, h4, h5⟩ := h
  have hc : c x y = col := by
    rcases h2 x y hx hy with ⟨a1, _⟩ | ⟨a1, _⟩
    · omega
    · rw [← a1]; exact hm
  refine ⟨fun k hk => ?_, fun a b ha' hb' => ?_, fun j k hj hk => ?_, ⟨by omega, ?_⟩, fun k hk hn => ?_⟩
  · by_cases hkn : k = n
    · subst hkn
      exact ⟨x, y, hx, hy, if_pos rfl, hc, if_pos ⟨rfl, rfl⟩⟩
    · obtain ⟨a, b, a1, a2, a3, a4, a5⟩ := h1 k (by omega)
      refine ⟨a, b, a1, a2, by dsimp only; rw [if_neg hkn]; exact a3, a4, ?_⟩
      dsimp only
      split
      · rfl
      · exact a5
  · dsimp only
    by_cases hab : a = x ∧ b = y
    · obtain ⟨rfl, rfl⟩ := hab
      exact Or.inl ⟨if_pos ⟨rfl, rfl⟩, n, by omega, if_pos rfl⟩
    · rw [if_neg hab]
      rcases h2 a b ha' hb' with ⟨a1, k, a2, a3⟩ | h
      · exact Or.inl ⟨a1, k, by omega, by rw [if_neg (by omega)]; exact a3⟩
      · exact Or.inr h
  · dsimp only
    by_cases hkn : k = n
    · rw [if_pos hkn, if_neg (by omega)]
      obtain ⟨a, b, a1, a2, a3, a4, a5⟩ := h1 j (by omega)
      intro he
      rw [a3] at he
      have he2 : e a b = e x y := by omega
      obtain ⟨rfl, rfl⟩ := hE a b x y a1 hx he2
      omega
    · rw [if_neg hkn, if_neg (by omega)]
      exact h3 j k hj (by omega)
  · dsimp only
    rw [if_neg (by omega)]
    exact h4.2
  · dsimp only
    by_cases hkn : k = n
    · refine ⟨i, u, v, x, y, by omega, hu, hv, hx, hy, by rw [if_neg (by omega)]; exact hq, by rw [if_pos hkn], ha⟩
    · obtain ⟨i', x', y', u', v', a0, a1, a2, a3, a4, a5, a6, a7⟩ := h5 k hk (by omega)
      exact ⟨i', x', y', u', v', a0, a1, a2, a3, a4, by rw [if_neg (by omega)]; exact a5, by rw [if_neg hkn]; exact a6, a7⟩
theorem zFI_n {e : Nat → Nat → Nat} {c : Nat → Nat → Int} {col : Int} {sx sy : Nat} {m : Nat → Nat → Int} {q : Nat → Int} {n : Nat} (h : zFI e c col sx sy m q n) : n ≤ 3600 := by
  obtain ⟨h1, h2, h3, h4, h5⟩ := h
  have key : ∀ k, ∃ g : Nat, k < n → ∃ x y, x < 60 ∧ y < 60 ∧ q k = (e x y : Int) ∧ g = 60 * y + x := by
    intro k
    by_cases hk : k < n
    · obtain ⟨x, y, a1, a2, a3, a4, a5⟩ := h1 k hk
      exact ⟨60 * y + x, fun _ => ⟨x, y, a1, a2, a3, rfl⟩⟩
    · exact ⟨0, fun h => absurd h hk⟩
  obtain ⟨g, hg⟩ := Classical.axiomOfChoice key
  refine zpig 3600 n g (fun k hk => ?_) (fun i j hi hj => ?_)
  · obtain ⟨x, y, a1, a2, a3, a4⟩ := hg k hk
    omega
  · obtain ⟨x, y, a1, a2, a3, a4⟩ := hg i (by omega)
    obtain ⟨u, v, b1, b2, b3, b4⟩ := hg j hj
    intro he
    have hxu : x = u := by omega
    have hyv : y = v := by omega
    subst hxu hyv
    exact h3 i j hi hj (by rw [a3, b3])
/-- all beside it that is of its colour is taken -/
def zCl (c : Nat → Nat → Int) (col : Int) (m : Nat → Nat → Int) (x y : Nat) : Prop := ∀ u v, u < 60 → v < 60 → zadj x y u v → c u v = col → m u v = -1
def zFl (e : Nat → Nat → Nat) (c : Nat → Nat → Int) (col : Int) (sx sy : Nat) (m : Nat → Nat → Int) (q : Nat → Int) (n : Nat) : Prop := zFI e c col sx sy m q n ∧ ∀ k, k < n → ∀ x y, x < 60 → y < 60 → q k = (e x y : Int) → zCl c col m x y
theorem zFl_le {e e2 : Nat → Nat → Nat} {c : Nat → Nat → Int} {col : Int} {sx sy : Nat} {m m2 : Nat → Nat → Int} {q q2 : Nat → Int} {n n2 : Nat} (hE : zEi e) (hE2 : zEi e2) (hs : sx < 60) (h : zFl e c col sx sy m q n) (h2 : zFl e2 c col sx sy m2 q2 n2) : n ≤ n2 := by
  obtain ⟨⟨a1, a2, a3, a4, a5⟩, a6⟩ := h
  obtain ⟨⟨b1, b2, b3, b4, b5⟩, b6⟩ := h2
  have key : ∀ K k, k < K → k < n → ∀ x y, x < 60 → y < 60 → q k = (e x y : Int) → ∃ k2, k2 < n2 ∧ q2 k2 = (e2 x y : Int) := by
    intro K
    induction K with
    | zero => intro k hk; omega
    | succ K ih =>
      intro k hk hn x y hx hy hq
      by_cases h0 : k = 0
      · subst h0
        have he : e x y = e sx sy := by have := a4.2; omega
        obtain ⟨rfl, rfl⟩ := hE x y sx sy hx hs he
        exact ⟨0, b4.1, b4.2⟩
      · obtain ⟨i, x', y', u, v, c0, c1, c2, c3, c4, c5, c6, c7⟩ := a5 k (by omega) hn
        have he : e x y = e u v := by omega
        obtain ⟨rfl, rfl⟩ := hE x y u v hx c3 he
        obtain ⟨k2, d1, d2⟩ := ih i (by omega) (by omega) x' y' c1 c2 c5
        have hcl := b6 k2 d1 x' y' c1 c2 d2
        obtain ⟨x3, y3, f1, f2, f3, f4, f5⟩ := a1 k hn
        have he3 : e x y = e x3 y3 := by omega
        obtain ⟨rfl, rfl⟩ := hE x y x3 y3 hx f1 he3
        have hm := hcl x y hx hy c7 f4
        rcases b2 x y hx hy with ⟨_, g1⟩ | ⟨_, g1⟩
        · exact g1
        · exact absurd hm g1
  have key2 : ∀ k, ∃ g : Nat, k < n → g < n2 ∧ ∃ x y, x < 60 ∧ q k = (e x y : Int) ∧ q2 g = (e2 x y : Int) := by
    intro k
    by_cases hk : k < n
    · obtain ⟨x, y, f1, f2, f3, f4, f5⟩ := a1 k hk
      obtain ⟨k2, d1, d2⟩ := key (k + 1) k (by omega) hk x y f1 f2 f3
      exact ⟨k2, fun _ => ⟨d1, x, y, f1, f3, d2⟩⟩
    · exact ⟨0, fun h => absurd h hk⟩
  obtain ⟨g, hg⟩ := Classical.axiomOfChoice key2
  refine zpig n2 n g (fun k hk => (hg k hk).1) (fun i j hi hj he => ?_)
  obtain ⟨_, x, y, c1, c2, c3⟩ := hg i (by omega)
  obtain ⟨_, u, v, d1, d2, d3⟩ := hg j hj
  rw [he] at c3
  have h9 : e2 x y = e2 u v := by omega
  obtain ⟨rfl, rfl⟩ := hE2 x y u v c1 d1 h9
  exact a3 i j hi hj (by rw [c2, d2])
theorem zFl_eq {e e2 : Nat → Nat → Nat} {c : Nat → Nat → Int} {col : Int} {sx sy : Nat} {m m2 : Nat → Nat → Int} {q q2 : Nat → Int} {n n2 : Nat} (hE : zEi e) (hE2 : zEi e2) (hs : sx < 60) (h : zFl e c col sx sy m q n) (h2 : zFl e2 c col sx sy m2 q2 n2) : n = n2 := Nat.le_antisymm (zFl_le hE hE2 hs h h2) (zFl_le hE2 hE hs h2 h)
end ZFLOOD
