/-! the reference: costs of ways: what holds while they are laid -/
section ZRCOSTS
def zinf (f : Nat → Nat → Int) (n : Nat) : Bool := decide (f 1201 n ≠ 2147483647)
def zSPI (B : Nat → Int) (x0 y0 : Nat) (f : Nat → Nat → Int) (first w by' dd : Nat) : Prop :=
  (f 1200 = B ∧ first < 14885) ∧
  (∀ x y d, x < 61 → y < 61 → d < 4 → f 1201 (znode x y d) = 2147483647 ∨ (0 ≤ f 1201 (znode x y d) ∧ f 1201 (znode x y d) ≤ 10001 * (zcnt (zinf f) 14884 : Int) ∧ ∃ s b : Nat, zwlk B x0 y0 s b x y d ∧ f 1201 (znode x y d) = 10000 * (b : Int) + (s : Int))) ∧
  (∀ n, n < 14884 → f 1202 n = 0 ∨ f 1202 n = 1) ∧
  (∀ i, i < w → ∃ x y d, x < 61 ∧ y < 61 ∧ d < 4 ∧ f 1203 ((first + i) % 14885) = (znode x y d : Int) ∧ f 1202 (znode x y d) = 1 ∧ f 1201 (znode x y d) ≠ 2147483647) ∧
  (∀ i j, i < j → j < w → f 1203 ((first + i) % 14885) ≠ f 1203 ((first + j) % 14885)) ∧
  (∀ n, n < 14884 → f 1202 n = 1 → ∃ i, i < w ∧ f 1203 ((first + i) % 14885) = (n : Int)) ∧
  (∀ x y d', x < 61 → y < 61 → d' < 4 → f 1202 (znode x y d') = 0 → f 1201 (znode x y d') ≠ 2147483647 → ∀ d, d < 4 → (znode x y d' = by' → d < dd) → zrlx f x y d' d) ∧
  (∀ d, d < 4 → f 1201 (znode x0 y0 d) ≤ 0)
theorem zSPI_w {B : Nat → Int} {x0 y0 : Nat} {f : Nat → Nat → Int} {first w by' dd : Nat} (h : zSPI B x0 y0 f first w by' dd) : w ≤ 14884 := by
  obtain ⟨h0, h1, h2, h3, h4, h5, h6, h7⟩ := h
  refine zpig 14884 w (fun i => (f 1203 ((first + i) % 14885)).toNat) (fun i hi => ?_) (fun i j hij hj he => ?_)
  · obtain ⟨x, y, d, a1, a2, a3, a4, a5⟩ := h3 i hi
    have := znode_lt a1 a2 a3
    omega
  · obtain ⟨x, y, d, a1, a2, a3, a4, a5⟩ := h3 i (by omega)
    obtain ⟨u, v, e, b1, b2, b3, b4, b5⟩ := h3 j hj
    exact h4 i j hij hj (by omega)
/-- sums -/
def zsm (g : Nat → Int) : Nat → Nat
  | 0 => 0
  | n + 1 => zsm g n + (g n).toNat
theorem zsm_c {g h : Nat → Int} : ∀ n, (∀ k, k < n → g k = h k) → zsm g n = zsm h n
  | 0, _ => rfl
  | n + 1, e => by
    show zsm g n + (g n).toNat = zsm h n + (h n).toNat
    rw [zsm_c n (fun k hk => e k (by omega)), e n (by omega)]
theorem zsm_u {g : Nat → Int} {i : Nat} {v : Int} (hv : v.toNat + 1 ≤ (g i).toNat) : ∀ n, i < n → zsm (zup g i v) n + 1 ≤ zsm g n
  | 0, h => absurd h (Nat.not_lt_zero i)
  | n + 1, h => by
    show zsm (zup g i v) n + (zup g i v n).toNat + 1 ≤ zsm g n + (g n).toNat
    by_cases e : i = n
    · subst e
      rw [zup_eq, zsm_c i (fun k hk => by rw [zup_if, if_neg (by omega)])]
      omega
    · have ih := zsm_u hv n (by omega)
      rw [zup_if, if_neg (by omega)]
      omega
/-- nothing to do in this direction -/
theorem zSPI_k {B : Nat → Int} {x0 y0 : Nat} {f : Nat → Nat → Int} {first w x y d' d : Nat} (hx : x < 61) (hd' : d' < 4) (h : zSPI B x0 y0 f first w (znode x y d') d) (hr : zrlx f x y d' d) : zSPI B x0 y0 f first w (znode x y d') (d + 1) := by
  obtain ⟨h0, h1, h2, h3, h4, h5, h6, h7⟩ := h
  refine ⟨h0, h1, h2, h3, h4, h5, fun u v e hu hv he hw hf c hc hb => ?_, h7⟩
  by_cases hbb : znode u v e = znode x y d' ∧ c = d
  · obtain ⟨hb1, rfl⟩ := hbb
    obtain ⟨rfl, rfl, rfl⟩ := znode_i hu he hx hd' hb1
    exact hr
  · exact h6 u v e hu hv he hw hf c hc (fun hb2 => by
      have := hb hb2
      by_cases hcd : c = d
      · exact absurd ⟨hb2, hcd⟩ hbb
      · omega)
/-- a cheaper way -/
theorem zSPI_r {B : Nat → Int} {x0 y0 : Nat} {f : Nat → Nat → Int} {first w x y d' d X Y : Nat} (hx : x < 61) (hy : y < 61) (hd' : d' < 4) (hd : d < 4) (hX6 : X < 61) (hY6 : Y < 61) (hX : (X : Int) = (x : Int) + zdrx d) (hY : (Y : Int) = (y : Int) + zdry d) (hb : B (61 * Y + X) = 0) (h : zSPI B x0 y0 f first w (znode x y d') d) (hw0 : f 1202 (znode x y d') = 0) (hfin : f 1201 (znode x y d') ≠ 2147483647) (hlt : f 1201 (znode x y d') + zstc d' d < f 1201 (znode X Y d)) (g : Nat → Nat → Int) (w' : Nat)
    (hg : (f 1202 (znode X Y d) = 1 ∧ g = zu2 f 1201 (znode X Y d) (f 1201 (znode x y d') + zstc d' d) ∧ w' = w) ∨ (f 1202 (znode X Y d) = 0 ∧ g = zu2 (zu2 (zu2 f 1201 (znode X Y d) (f 1201 (znode x y d') + zstc d' d)) 1203 ((first + w) % 14885) (znode X Y d : Int)) 1202 (znode X Y d) 1 ∧ w' = w + 1)) : zSPI B x0 y0 g first w' (znode x y d') (d + 1) ∧ 2 * zsm (g 1201) 14884 + w' + 1 ≤ 2 * zsm (f 1201) 14884 + w ∧ g 1202 (znode x y d') = 0 ∧ g 1201 (znode x y d') = f 1201 (znode x y d') ∧ (∀ a, a ≠ 1201 → a ≠ 1202 → a ≠ 1203 → g a = f a) := by
  have hw6 := zSPI_w h
  obtain ⟨⟨h0, h0'⟩, h1, h2, h3, h4, h5, h6, h7⟩ := h
  have hN := znode_lt hX6 hY6 hd
  have hA := znode_lt hx hy hd'
  have hst : 1 ≤ zstc d' d ∧ zstc d' d ≤ 10001 := by unfold zstc; split <;> omega
  have hdn := zdr_n hd
  have hne : znode x y d' ≠ znode X Y d := fun he => by
    obtain ⟨e1, e2, e3⟩ := znode_i hx hd' hX6 hd he
    omega
  obtain ⟨ca1, ca2, s0, b0, ca3, ca4⟩ : 0 ≤ f 1201 (znode x y d') ∧ f 1201 (znode x y d') ≤ 10001 * (zcnt (zinf f) 14884 : Int) ∧ ∃ s b : Nat, zwlk B x0 y0 s b x y d' ∧ f 1201 (znode x y d') = 10000 * (b : Int) + (s : Int) := (h1 x y d' hx hy hd').resolve_left hfin
  have hcnt := zcnt_le (zinf f) 14884
  generalize hv : f 1201 (znode x y d') + zstc d' d = v at *
  -- what g holds
  have g1 : ∀ n, n < 14884 → g 1201 n = if n = znode X Y d then v else f 1201 n := fun n _ => by
    rcases hg with ⟨_, rfl, _⟩ | ⟨_, rfl, _⟩
    · rw [zu2_if]
      by_cases e : n = znode X Y d
      · rw [if_pos ⟨rfl, e⟩, if_pos e]
      · rw [if_neg (fun h => e h.2), if_neg e]
    · rw [zu2_a (by omega), zu2_a (by omega), zu2_if]
      by_cases e : n = znode X Y d
      · rw [if_pos ⟨rfl, e⟩, if_pos e]
      · rw [if_neg (fun h => e h.2), if_neg e]
  have g2 : ∀ n, g 1202 n = if n = znode X Y d then 1 else f 1202 n := fun n => by
    rcases hg with ⟨hw1, rfl, _⟩ | ⟨_, rfl, _⟩
    · rw [zu2_a (by omega)]
      by_cases e : n = znode X Y d
      · rw [if_pos e, e, hw1]
      · rw [if_neg e]
    · rw [zu2_if]
      by_cases e : n = znode X Y d
      · rw [if_pos ⟨rfl, e⟩, if_pos e]
      · rw [if_neg (fun h => e h.2), if_neg e, zu2_a (by omega), zu2_a (by omega)]
  have g0 : ∀ a, a ≠ 1201 → a ≠ 1202 → a ≠ 1203 → g a = f a := fun a a1 a2 a3 => by
    rcases hg with ⟨_, rfl, _⟩ | ⟨_, rfl, _⟩
    · exact funext (fun j => zu2_a a1 _ _ _ _)
    · exact funext (fun j => (zu2_a a2 _ _ _ _).trans ((zu2_a a3 _ _ _ _).trans (zu2_a a1 _ _ _ _)))
  have g3 : ∀ i, i < w → g 1203 ((first + i) % 14885) = f 1203 ((first + i) % 14885) := fun i hi => by
    rcases hg with ⟨_, rfl, _⟩ | ⟨_, rfl, _⟩
    · rw [zu2_a (by omega)]
    · rw [zu2_a (by omega), zu2_i (by omega), zu2_a (by omega)]
  have hww : w ≤ w' ∧ w' ≤ w + 1 := by rcases hg with ⟨_, _, rfl⟩ | ⟨_, _, rfl⟩ <;> omega
  have g4 : w' = w + 1 → g 1203 ((first + w) % 14885) = (znode X Y d : Int) ∧ f 1202 (znode X Y d) = 0 := fun hw => by
    rcases hg with ⟨_, _, rfl⟩ | ⟨hw1, rfl, _⟩
    · omega
    · exact ⟨by rw [zu2_a (by omega), zu2_eq], hw1⟩
  have g5 : w' = w → f 1202 (znode X Y d) = 1 := fun hw => by
    rcases hg with ⟨hw1, _, _⟩ | ⟨_, _, rfl⟩
    · exact hw1
    · omega
  -- how many are reached
  have cnt : v ≤ 10001 * (zcnt (zinf g) 14884 : Int) ∧ zcnt (zinf f) 14884 ≤ zcnt (zinf g) 14884 := by
    by_cases hinf : f 1201 (znode X Y d) = 2147483647
    · have hu := zcnt_u (zinf f) (zinf g) (i := znode X Y d) (decide_eq_false (fun h => h hinf)) (decide_eq_true (by rw [g1 _ hN, if_pos rfl]; omega)) (fun j hj => by
        unfold zinf
        by_cases hj6 : j < 14884
        · rw [g1 j hj6, if_neg hj]
        · rcases hg with ⟨_, rfl, _⟩ | ⟨_, rfl, _⟩
          · rw [zu2_i hj]
          · rw [zu2_a (by omega), zu2_a (by omega), zu2_i hj]) 14884 hN
      omega
    · have hu : zcnt (zinf g) 14884 = zcnt (zinf f) 14884 := zcnt_cong _ _ 14884 (fun j hj => by
        unfold zinf
        rw [g1 j hj]
        by_cases e : j = znode X Y d
        · rw [if_pos e, e]
          rw [decide_eq_true (show v ≠ 2147483647 by omega), decide_eq_true hinf]
        · rw [if_neg e])
      rcases h1 X Y d hX6 hY6 hd with h | ⟨q1, q2, _⟩
      · exact absurd h hinf
      · omega
  have mono : ∀ u v' e, u < 61 → v' < 61 → e < 4 → g 1201 (znode u v' e) ≤ f 1201 (znode u v' e) := fun u v' e hu hv' he => by
    rw [g1 _ (znode_lt hu hv' he)]
    split
    · rename_i h; rw [h]; omega
    · exact Int.le_refl _
  refine ⟨⟨⟨by rw [g0 1200 (by omega) (by omega) (by omega)]; exact h0, h0'⟩, fun u v' e hu hv' he => ?_, fun n hn => ?_, fun i hi => ?_, fun i j hij hj => ?_, fun n hn hn1 => ?_, fun u v' e hu hv' he hwt hf c hc hbb => ?_, fun e he => ?_⟩, ?_, ?_, ?_, g0⟩
  · have hl := znode_lt hu hv' he
    rw [g1 _ hl]
    by_cases eq : znode u v' e = znode X Y d
    · obtain ⟨rfl, rfl, rfl⟩ := znode_i hu he hX6 hd eq
      rw [if_pos rfl]
      refine Or.inr ⟨by omega, cnt.1, s0 + 1, b0 + (if d' = e then 0 else 1), ⟨b0, x, y, d', hx, hy, hd', ca3, hX, hY, hX6, hY6, hb, rfl⟩, ?_⟩
      rw [← hv, ca4]
      unfold zstc
      split <;> omega
    · rw [if_neg eq]
      rcases h1 u v' e hu hv' he with h | ⟨q1, q2, q3⟩
      · exact Or.inl h
      · exact Or.inr ⟨q1, by have := cnt.2; omega, q3⟩
  · rw [g2]
    split
    · exact Or.inr rfl
    · exact h2 n hn
  · by_cases hiw : i < w
    · obtain ⟨u, v', e, a1, a2, a3, a4, a5, a6⟩ := h3 i hiw
      refine ⟨u, v', e, a1, a2, a3, by rw [g3 i hiw]; exact a4, ?_, ?_⟩
      · rw [g2]
        split
        · rfl
        · exact a5
      · rw [g1 _ (znode_lt a1 a2 a3)]
        split
        · omega
        · exact a6
    · have e : i = w := by omega
      subst e
      obtain ⟨q1, q2⟩ := g4 (by omega)
      refine ⟨X, Y, d, hX6, hY6, hd, q1, by rw [g2, if_pos rfl], ?_⟩
      rw [g1 _ hN, if_pos rfl]
      omega
  · by_cases hjw : j < w
    · rw [g3 i (by omega), g3 j hjw]
      exact h4 i j hij hjw
    · have e : j = w := by omega
      subst e
      obtain ⟨q1, q2⟩ := g4 (by omega)
      rw [g3 i hij, q1]
      obtain ⟨u, v', e, a1, a2, a3, a4, a5, a6⟩ := h3 i hij
      intro he
      rw [a4] at he
      have he2 : znode u v' e = znode X Y d := by omega
      rw [he2] at a5
      omega
  · rw [g2] at hn1
    by_cases e : n = znode X Y d
    · by_cases hw' : w' = w
      · obtain ⟨i, i1, i2⟩ := h5 n hn (by rw [e]; exact g5 hw')
        exact ⟨i, by omega, by rw [g3 i i1]; exact i2⟩
      · exact ⟨w, by omega, by rw [e]; exact (g4 (by omega)).1⟩
    · rw [if_neg e] at hn1
      obtain ⟨i, i1, i2⟩ := h5 n hn hn1
      exact ⟨i, by omega, by rw [g3 i i1]; exact i2⟩
  · rw [g2] at hwt
    by_cases eN : znode u v' e = znode X Y d
    · rw [if_pos eN] at hwt
      omega
    · rw [if_neg eN] at hwt
      rw [g1 _ (znode_lt hu hv' he), if_neg eN] at hf
      intro X' Y' hX' hY' e1 e2 hbar
      rw [g0 1200 (by omega) (by omega) (by omega)] at hbar
      rw [g1 (znode u v' e) (znode_lt hu hv' he), if_neg eN]
      have hm := mono X' Y' c hX' hY' hc
      by_cases hown : znode u v' e = znode x y d' ∧ c = d
      · obtain ⟨o1, rfl⟩ := hown
        obtain ⟨rfl, rfl, rfl⟩ := znode_i hu he hx hd' o1
        have eX : X' = X := by omega
        have eY : Y' = Y := by omega
        subst eX eY
        rw [g1 _ hN, if_pos rfl, ← hv]
        exact Int.le_refl _
      · have hrl := h6 u v' e hu hv' he hwt hf c hc (fun hb2 => by
          have := hbb hb2
          by_cases hcd : c = d
          · exact absurd ⟨hb2, hcd⟩ hown
          · omega) X' Y' hX' hY' e1 e2 hbar
        omega
  · by_cases hin : x0 < 61 ∧ y0 < 61
    · have := mono x0 y0 e hin.1 hin.2 he
      have := h7 e he
      omega
    · have hno : g 1201 (znode x0 y0 e) ≤ f 1201 (znode x0 y0 e) ∨ True := Or.inr trivial
      by_cases e3 : znode x0 y0 e = znode X Y d
      · have h8 := h7 e he
        rw [e3] at h8
        omega
      · have h8 := h7 e he
        rcases hg with ⟨_, rfl, _⟩ | ⟨_, rfl, _⟩
        · rw [zu2_i e3]; exact h8
        · rw [zu2_a (by omega), zu2_a (by omega), zu2_i e3]; exact h8
  · have e1 : zsm (g 1201) 14884 = zsm (zup (f 1201) (znode X Y d) v) 14884 := zsm_c 14884 (fun k hk => by rw [g1 k hk, zup_if])
    have hu := zsm_u (g := f 1201) (i := znode X Y d) (v := v) (by omega) 14884 hN
    omega
  · rw [g2, if_neg hne]; exact hw0
  · rw [g1 _ hA, if_neg hne]
end ZRCOSTS
