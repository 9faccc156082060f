/-! texts written on two sheets -/
section ZTEXT2
/-- as long, and alike so far -/
def zalk (w v : (Nat → Int) × Nat) : Prop := w.2 = v.2 ∧ ∀ j, j < w.2 → w.1 j = v.1 j
theorem zalk_put {w v : (Nat → Int) × Nat} (h : zalk w v) (x : Int) : zalk (zup w.1 w.2 x, w.2 + 1) (zup v.1 v.2 x, v.2 + 1) := by
  obtain ⟨h1, h2⟩ := h
  refine ⟨by show w.2 + 1 = v.2 + 1; omega, fun j hj => ?_⟩
  have hj2 : j < w.2 + 1 := hj
  show zup w.1 w.2 x j = zup v.1 v.2 x j
  unfold zup
  by_cases c : j = w.2
  · rw [if_pos c, if_pos (by omega)]
  · rw [if_neg c, if_neg (by omega)]
    exact h2 j (by omega)
theorem zalk_no {w v : (Nat → Int) × Nat} (h : zalk w v) (x : Int) : zalk (zno w.1 w.2 x, znc w.2 x) (zno v.1 v.2 x, znc v.2 x) := by
  unfold zno znc
  by_cases c : 9 < x
  · rw [if_pos c, if_pos c, if_pos c, if_pos c]
    exact zalk_put (zalk_put h (48 + x / 10)) (48 + x % 10)
  · rw [if_neg c, if_neg c, if_neg c, if_neg c]
    exact zalk_put h (48 + x % 10)
theorem zalk_c1 {w v : (Nat → Int) × Nat} (h : zalk w v) (x y : Int) : zalk (zpc1 w x y) (zpc1 v x y) :=
  zalk_put (zalk_no (zalk_put (zalk_no (zalk_put h 40) x) 44) y) 41
theorem zalk_cn {w v : (Nat → Int) × Nat} {X Y X' Y' : Nat → Int} (h : zalk w v) : ∀ k, (∀ j, j < k → X j = X' j ∧ Y j = Y' j) → zalk (zpcn X Y w k) (zpcn X' Y' v k)
  | 0, _ => h
  | k + 1, hx => by
    have ih := zalk_cn h k (fun j hj => hx j (by omega))
    show zalk (zpc1 (zpcn X Y w k) (X k) (Y k)) (zpc1 (zpcn X' Y' v k) (X' k) (Y' k))
    rw [(hx k (by omega)).1, (hx k (by omega)).2]
    exact zalk_c1 ih _ _
theorem zalk_pp {w v : (Nat → Int) × Nat} {N N' : Nat → Nat} {X Y X' Y' : Nat → Nat → Int} (h : zalk w v) : ∀ p, (∀ q, q < p → N q = N' q ∧ ∀ j, j < N q → X q j = X' q j ∧ Y q j = Y' q j) → zalk (zppw N X Y w p) (zppw N' X' Y' v p)
  | 0, _ => h
  | p + 1, hx => by
    have ih := zalk_pp h p (fun q hq => hx q (by omega))
    obtain ⟨hn, hxy⟩ := hx p (by omega)
    rw [zppw_s, zppw_s, ← hn]
    refine zalk_cn ?_ (N p) hxy
    by_cases c : p = 0
    · rw [if_pos c, if_pos c]
      exact ih
    · rw [if_neg c, if_neg c]
      exact zalk_put ih 59
end ZTEXT2
