/-! ways by bends: what a round leaves -/
section ZWAYS
/-- an axis' row of points -/
def zpa (a i k : Nat) : Nat := if a = 0 then zpt0 i k else zpt1 i k
theorem zpa_0 (i k : Nat) : zpa 0 i k = zpt0 i k := rfl
theorem zpa_1 (i k : Nat) : zpa 1 i k = zpt1 i k := rfl
theorem zpa_x {a : Nat} (ha : a < 2) (i k : Nat) : zpa (1 - a) k i = zpa a i k := by
  have : a = 0 ∨ a = 1 := by omega
  rcases this with rfl | rfl
  · show zpt1 k i = zpt0 i k
    unfold zpt0 zpt1; omega
  · show zpt0 k i = zpt1 i k
    unfold zpt0 zpt1; omega
def zclm (m : Nat → Int) (a i j k : Nat) : Prop := ∀ z, ((j < z ∧ z ≤ k) ∨ (k ≤ z ∧ z < j)) → m (zpa a i z) = 0
/-- come to p by an axis with so many bends and steps -/
def zseg (m : Nat → Int) (S : Nat) : Nat → Nat → Nat → Nat → Prop
  | 0, a, t, p => ∃ i j k, i < 61 ∧ j < 61 ∧ k < 61 ∧ j ≠ k ∧ S = zpa a i j ∧ p = zpa a i k ∧ zclm m a i j k ∧ (t : Int) = (((k : Int) - (j : Int)).natAbs : Int)
  | c + 1, a, t, p => ∃ i j k t', i < 61 ∧ j < 61 ∧ k < 61 ∧ j ≠ k ∧ zseg m S c (1 - a) t' (zpa a i j) ∧ p = zpa a i k ∧ zclm m a i j k ∧ (t : Int) = (t' : Int) + (((k : Int) - (j : Int)).natAbs : Int)
theorem zseg_t {m : Nat → Int} {S : Nat} : ∀ c a t p, zseg m S c a t p → c + 1 ≤ t
  | 0, a, t, p, ⟨i, j, k, h1, h2, h3, h4, h5, h6, h7, h8⟩ => by omega
  | c + 1, a, t, p, ⟨i, j, k, t', h1, h2, h3, h4, h5, h6, h7, h8⟩ => by
    have := zseg_t c (1 - a) t' _ h5
    omega
/-- the array of an axis; the news that it writes -/
def zar (a : Nat) : Nat := if a = 0 then 1119 else 1120
def znw (a : Nat) : Nat := if a = 0 then 1122 else 1121
def zWA (m : Nat → Int) (S : Nat) (f : Nat → Nat → Int) (a N : Nat) : Prop := ∀ i k, i < 61 → k < 61 → f (zar a) (zpa a i k) = 1073741824 ∨ (zpa a i k = S ∧ f (zar a) (zpa a i k) = -4096 ∧ -1 ≤ f (znw a) k) ∨ (zpa a i k ≠ S ∧ ∃ r c t : Nat, r < N ∧ c ≤ r ∧ zseg m S c a t (zpa a i k) ∧ f (zar a) (zpa a i k) = 4096 * (c : Int) + (t : Int) ∧ (r : Int) ≤ f (znw a) k ∧ 4096 * (r : Int) < f (zar a) (zpa a i k) ∧ f (zar a) (zpa a i k) ≤ 4096 * (r : Int) + 4156)
def zgst (m : Nat → Int) (S : Nat) (i a s q : Nat) : Prop := zseg m S i a s q ∧ s ≤ 4095 ∧ q ≠ S ∧ ∀ c t, zseg m S c a t q → i < c ∨ (i = c ∧ s ≤ t)
def zWC (m : Nat → Int) (S : Nat) (f : Nat → Nat → Int) (a N : Nat) : Prop := ∀ i s q, i < N → q < 3721 → zgst m S i a s q → f (zar a) q = 4096 * (i : Int) + (s : Int)
theorem zpa_lt {a i k : Nat} (hi : i < 61) (hk : k < 61) : zpa a i k < 3721 := by
  unfold zpa zpt0 zpt1
  split <;> omega
theorem zpa_of {a p : Nat} (hp : p < 3721) : ∃ i k, i < 61 ∧ k < 61 ∧ p = zpa a i k := by
  by_cases h : a = 0
  · exact ⟨p / 61, p % 61, by omega, by omega, by unfold zpa zpt0; rw [if_pos h]; omega⟩
  · exact ⟨p % 61, p / 61, by omega, by omega, by unfold zpa zpt1; rw [if_neg h]; omega⟩
theorem zpa_i {a i k i' k' : Nat} (hi : i < 61) (hk : k < 61) (hi' : i' < 61) (hk' : k' < 61) (h : zpa a i k = zpa a i' k') : i = i' ∧ k = k' := by
  unfold zpa zpt0 zpt1 at h
  split at h <;> omega
/-- a good place's value is not below it -/
theorem zWA_g {m : Nat → Int} {S : Nat} {f : Nat → Nat → Int} {a N i s q : Nat} (hA : zWA m S f a N) (hq : q < 3721) (hg : zgst m S i a s q) : 4096 * (i : Int) + (s : Int) ≤ f (zar a) q := by
  obtain ⟨g1, g2, g3, g4⟩ := hg
  obtain ⟨x, y, hx, hy, rfl⟩ := zpa_of (a := a) hq
  rcases hA x y hx hy with h | ⟨h, -⟩ | ⟨-, r, c, t, h1, h2, h3, h4, h5⟩
  · rw [h]
    have := zseg_t _ _ _ _ g1
    omega
  · exact absurd h g3
  · rw [h4]
    rcases g4 c t h3 with h | ⟨h, h'⟩ <;> omega
theorem zclm_x {m : Nat → Int} {a i j k : Nat} (h : zclm m a i j k) : zclm m a i j k := h
/-- the way ahead of a good place is good -/
theorem zgst_p {m : Nat → Int} {S i a s q : Nat} (hg : zgst m S (i + 1) a s q) : ∃ (x j k t' : Nat), x < 61 ∧ j < 61 ∧ k < 61 ∧ j ≠ k ∧ q = zpa a x k ∧ zclm m a x j k ∧ (s : Int) = (t' : Int) + (((k : Int) - (j : Int)).natAbs : Int) ∧ zgst m S i (1 - a) t' (zpa a x j) := by
  obtain ⟨g1, g2, g3, g4⟩ := hg
  obtain ⟨x, j, k, t', h1, h2, h3, h4, h5, h6, h7, h8⟩ := g1
  refine ⟨x, j, k, t', h1, h2, h3, h4, h6, h7, h8, h5, by omega, fun hS => ?_, fun c t hc => ?_⟩
  · obtain ⟨u, hu⟩ : ∃ u : Nat, (u : Int) = (((k : Int) - (j : Int)).natAbs : Int) := ⟨((k : Int) - (j : Int)).natAbs, rfl⟩
    have := g4 0 u ⟨x, j, k, h1, h2, h3, h4, hS.symm, h6, h7, hu⟩
    omega
  · obtain ⟨u, hu⟩ : ∃ u : Nat, (u : Int) = (t : Int) + (((k : Int) - (j : Int)).natAbs : Int) := ⟨t + ((k : Int) - (j : Int)).natAbs, by omega⟩
    have := g4 (c + 1) u ⟨x, j, k, t, h1, h2, h3, h4, hc, h6, h7, hu⟩
    omega
theorem zar_ne {a : Nat} (ha : a < 2) : zar (1 - a) ≠ zar a ∧ zar (1 - a) ≠ znw a ∧ znw (1 - a) ≠ zar a ∧ znw (1 - a) ≠ znw a ∧ 1118 ≠ zar a ∧ 1118 ≠ znw a := by
  have : a = 0 ∨ a = 1 := by omega
  rcases this with rfl | rfl <;> decide
/-- a pass -/
theorem zpass {m : Nat → Int} {S : Nat} {f f' : Nat → Nat → Int} {a B N : Nat} {isn : Int} (ha : a < 2) (hB : B ≤ 8000) (hS : S < 3721) (hm : f 1118 = m) (hp : zpas f f' (zar (1 - a)) (zar a) (znw a) (znw (1 - a)) (zpa a) (B : Int) 61 isn) (s1 : f (zar a) S = -4096) (s2 : f (zar (1 - a)) S = -4096) (A1 : zWA m S f a B) (A2 : zWA m S f (1 - a) N) (C1 : zWC m S f a B) (C2 : zWC m S f (1 - a) N) (hN : B ≤ N) : f' 1118 = m ∧ f' (zar a) S = -4096 ∧ f' (zar (1 - a)) S = -4096 ∧ zWA m S f' a (B + 1) ∧ zWA m S f' (1 - a) N ∧ zWC m S f' a (B + 1) ∧ zWC m S f' (1 - a) N := by
  obtain ⟨p1, p2, p3, p4, p5, p6, p7, p8⟩ := hp
  obtain ⟨n1, n2, n3, n4, n5, n6⟩ := zar_ne ha
  have eO : f' (zar (1 - a)) = f (zar (1 - a)) := p1 _ n1 n2
  have eW : f' (znw (1 - a)) = f (znw (1 - a)) := p1 _ n3 n4
  have eM : f' 1118 = m := (p1 _ n5 n6).trans hm
  have hcl : ∀ i j k, zclb f (zpa a) i j k ↔ zclm m a i j k := fun i j k => by unfold zclb zclm; rw [hm]
  -- what is new
  have imp : ∀ i k, i < 61 → k < 61 → f' (zar a) (zpa a i k) < f (zar a) (zpa a i k) → f' (znw a) k = (B : Int) → (∃ j, j < 61 ∧ j ≠ k ∧ zclb f (zpa a) i j k ∧ f (zar (1 - a)) (zpa a i j) / 4096 = (B : Int) - 1 ∧ f' (zar a) (zpa a i k) = f (zar (1 - a)) (zpa a i j) + 4096 + (((k : Int) - (j : Int)).natAbs : Int)) → zpa a i k ≠ S ∧ ∃ r c t : Nat, r < B + 1 ∧ c ≤ r ∧ zseg m S c a t (zpa a i k) ∧ f' (zar a) (zpa a i k) = 4096 * (c : Int) + (t : Int) ∧ (r : Int) ≤ f' (znw a) k ∧ 4096 * (r : Int) < f' (zar a) (zpa a i k) ∧ f' (zar a) (zpa a i k) ≤ 4096 * (r : Int) + 4156 := by
    intro i k hi hk hlt hn ⟨j, j1, j2, j3, j4, j5⟩
    have hx := A2 j i j1 hi
    rw [zpa_x ha] at hx
    have hpS : zpa a i k ≠ S := fun h => by
      rw [h, s1] at hlt
      rw [h] at j5
      omega
    refine ⟨hpS, ?_⟩
    rcases hx with h | ⟨h1, h2, h3⟩ | ⟨h0, r, c, t, h1, h2, h3, h4, h5, h6, h7⟩
    · omega
    · refine ⟨B, 0, ((k : Int) - (j : Int)).natAbs, by omega, by omega, ⟨i, j, k, hi, j1, hk, j2, h1.symm, rfl, (hcl _ _ _).mp j3, rfl⟩, by omega, by omega, by omega, by omega⟩
    · refine ⟨B, c + 1, t + ((k : Int) - (j : Int)).natAbs, by omega, by omega, ⟨i, j, k, t, hi, j1, hk, j2, h3, rfl, (hcl _ _ _).mp j3, by omega⟩, by omega, by omega, by omega, by omega⟩
  have wA : zWA m S f' a (B + 1) := by
    intro i k hi hk
    have hn : f' (znw a) k = f (znw a) k ∨ f' (znw a) k = (B : Int) := p5 k hk
    rcases p3 i k hi hk with h | ⟨h1, h2, h3, h4⟩
    · rw [h]
      rcases A1 i k hi hk with g | ⟨g1, g2, g3⟩ | ⟨g0, r, c, t, g1, g2, g3, g4, g5, g6, g7⟩
      · exact Or.inl g
      · exact Or.inr (Or.inl ⟨g1, g2, by omega⟩)
      · exact Or.inr (Or.inr ⟨g0, r, c, t, by omega, g2, g3, g4, by omega, g6, g7⟩)
    · exact Or.inr (Or.inr (imp i k hi hk h1 h2 h4))
  have sA : f' (zar a) S = -4096 := by
    obtain ⟨x, y, hx, hy, e⟩ := zpa_of (a := a) hS
    rw [e] at s1 ⊢
    rcases p3 x y hx hy with h | ⟨h1, h2, h3, h4⟩
    · rw [h]; exact s1
    · exact absurd e.symm (imp x y hx hy h1 h2 h4).1
  refine ⟨eM, sA, by rw [eO]; exact s2, wA, ?_, ?_, ?_⟩
  · intro i k hi hk
    rw [eO, eW]
    exact A2 i k hi hk
  · intro i s q hi hq hg
    have hge := zWA_g wA hq hg
    by_cases hiB : i < B
    · have h1 := C1 i s q hiB hq hg
      obtain ⟨x, y, hx, hy, rfl⟩ := zpa_of (a := a) hq
      have h2 := p2 x y hx hy
      omega
    · have e : i = B := by omega
      subst e
      have hle : f' (zar a) q ≤ 4096 * (i : Int) + (s : Int) := by
        cases i with
        | zero =>
          obtain ⟨x, j, k, h1, h2, h3, h4, h5, h6, h7, h8⟩ := hg.1
          rw [h6]
          have hv : f (zar (1 - a)) (zpa a x j) = -4096 := by rw [← h5]; exact s2
          have hx := A2 j x h2 h1
          rw [zpa_x ha] at hx
          have hnews : -1 ≤ f (znw (1 - a)) x := by
            rcases hx with h | ⟨g1, g2, g3⟩ | ⟨g0, _⟩
            · omega
            · exact g3
            · exact absurd h5.symm g0
          have := p4 x k j h1 h3 h2 h4 (by omega) ((hcl _ _ _).mpr h7) (by rw [hv]; rfl)
          omega
        | succ B =>
          obtain ⟨x, j, k, t', h1, h2, h3, h4, h6, h7, h8, h9⟩ := zgst_p hg
          rw [h6]
          have hv := C2 B t' _ (by omega) (zpa_lt h1 h2) h9
          have hx := A2 j x h2 h1
          rw [zpa_x ha] at hx
          have ht' := h9.2.1
          have hnews : (B : Int) ≤ f (znw (1 - a)) x := by
            rcases hx with h | ⟨g1, g2, g3⟩ | ⟨g0, r, c, t, g1, g2, g3, g4, g5, g6, g7⟩
            · omega
            · omega
            · have := h9.2.2.2 c t g3
              omega
          have := p4 x k j h1 h3 h2 h4 (by omega) ((hcl _ _ _).mpr h7) (by omega)
          omega
      omega
  · intro i s q hi hq hg
    rw [eO]
    exact C2 i s q hi hq hg
/-- before a round -/
def zWI (m : Nat → Int) (S : Nat) (f : Nat → Nat → Int) (B : Nat) : Prop := f 1118 = m ∧ f 1119 S = -4096 ∧ f 1120 S = -4096 ∧ zWA m S f 0 B ∧ zWA m S f 1 B ∧ zWC m S f 0 B ∧ zWC m S f 1 B
theorem zWI_s {m : Nat → Int} {S : Nat} {f f1 f2 : Nat → Nat → Int} {B : Nat} {i1 i2 : Int} (hB : B ≤ 8000) (hS : S < 3721) (h : zWI m S f B) (h1 : zpas f f1 1120 1119 1122 1121 zpt0 (B : Int) 61 i1) (h2 : zpas f1 f2 1119 1120 1121 1122 zpt1 (B : Int) 61 i2) : zWI m S f2 (B + 1) := by
  obtain ⟨a1, a2, a3, a4, a5, a6, a7⟩ := h
  obtain ⟨b1, b2, b3, b4, b5, b6, b7⟩ := zpass (a := 0) (N := B) (by omega) hB hS a1 h1 a2 a3 a4 a5 a6 a7 (Nat.le_refl B)
  obtain ⟨c1, c2, c3, c4, c5, c6, c7⟩ := zpass (a := 1) (N := B + 1) (by omega) hB hS b1 h2 b3 b2 b5 b4 b7 b6 (by omega)
  exact ⟨c1, c3, c2, c5, c4, c7, c6⟩
/-- nothing new: no good place with so many bends -/
theorem zWI_n {m : Nat → Int} {S : Nat} {f f1 f2 : Nat → Nat → Int} {B : Nat} {i1 i2 : Int} (hB : B ≤ 8000) (hS : S < 3721) (h : zWI m S f B) (h1 : zpas f f1 1120 1119 1122 1121 zpt0 (B : Int) 61 i1) (h2 : zpas f1 f2 1119 1120 1121 1122 zpt1 (B : Int) 61 i2) (e1 : i1 ≠ 1) (e2 : i2 ≠ 1) {a s q : Nat} (ha : a < 2) (hq : q < 3721) : ¬ zgst m S B a s q := by
  intro hg
  have hw := zWI_s hB hS h h1 h2
  have old : ∀ N, zWA m S f a B → f (zar a) q = 4096 * (B : Int) + (s : Int) → N = 0 → False := by
    intro N hA hv _
    obtain ⟨x, y, hx, hy, rfl⟩ := zpa_of (a := a) hq
    have hs := hg.2.1
    rcases hA x y hx hy with g | ⟨g1, g2, g3⟩ | ⟨g0, r, c, t, g1, g2, g3, g4, g5, g6, g7⟩
    · omega
    · omega
    · have := hg.2.2.2 c t g3
      omega
  have u1 : ∀ p, p < 3721 → f1 1119 p = f 1119 p := fun p hp => by
    have e : p = zpt0 (p / 61) (p % 61) := by unfold zpt0; omega
    have h3 := h1.2.2.1 (p / 61) (p % 61) (by omega) (by omega)
    rw [← e] at h3
    rcases h3 with h3 | ⟨_, _, h4, _⟩
    · exact h3
    · exact absurd h4 e1
  have u2 : ∀ p, p < 3721 → f2 1120 p = f1 1120 p := fun p hp => by
    have e : p = zpt1 (p % 61) (p / 61) := by unfold zpt1; omega
    have h3 := h2.2.2.1 (p % 61) (p / 61) (by omega) (by omega)
    rw [← e] at h3
    rcases h3 with h3 | ⟨_, _, h4, _⟩
    · exact h3
    · exact absurd h4 e2
  have : a = 0 ∨ a = 1 := by omega
  rcases this with rfl | rfl
  · have hv : f2 1119 q = _ := hw.2.2.2.2.2.1 B s q (by omega) hq hg
    rw [h2.1 1119 (by omega) (by omega), u1 q hq] at hv
    exact old 0 h.2.2.2.1 hv rfl
  · have hv : f2 1120 q = _ := hw.2.2.2.2.2.2 B s q (by omega) hq hg
    rw [u2 q hq, h1.1 1120 (by omega) (by omega)] at hv
    exact old 0 h.2.2.2.2.1 hv rfl
theorem zgst_d {m : Nat → Int} {S : Nat} : ∀ (d i a s q : Nat), a < 2 → q < 3721 → zgst m S (i + d) a s q → ∃ a' s' q', a' < 2 ∧ q' < 3721 ∧ zgst m S i a' s' q'
  | 0, i, a, s, q, ha, hq, h => ⟨a, s, q, ha, hq, h⟩
  | d + 1, i, a, s, q, ha, hq, h => by
    obtain ⟨x, j, k, t', h1, h2, h3, h4, h6, h7, h8, h9⟩ := zgst_p h
    exact zgst_d d i (1 - a) t' _ (by omega) (zpa_lt h1 h2) h9
end ZWAYS
