/-! the reference: the catcher's shape is well -/
section ZRCATF
theorem zrcat_x (f : Nat → Nat → Int) (x y w h : Int) : ∀ n k, k < n → zrcat f x y w h n 1177 (1920 + k) = zctx x w k
  | 0, k, hk => absurd hk (Nat.not_lt_zero k)
  | n + 1, k, hk => by
    rw [zrcat_s, zu2_a (by omega), zu2_if]
    by_cases e : k = n
    · rw [if_pos ⟨rfl, by omega⟩, e]
    · rw [if_neg (fun h => e (by omega))]
      exact zrcat_x f x y w h n k (by omega)
theorem zrcat_y (f : Nat → Nat → Int) (x y w h : Int) : ∀ n k, k < n → zrcat f x y w h n 1178 (1920 + k) = zcty y h k
  | 0, k, hk => absurd hk (Nat.not_lt_zero k)
  | n + 1, k, hk => by
    rw [zrcat_s, zu2_if]
    by_cases e : k = n
    · rw [if_pos ⟨rfl, by omega⟩, e]
    · rw [if_neg (fun h => e (by omega)), zu2_a (by omega)]
      exact zrcat_y f x y w h n k (by omega)
theorem zrcat_n (f : Nat → Nat → Int) (x y w h : Int) : ∀ n, zrcat f x y w h n 1174 60 = 1 ∧ zrcat f x y w h n 1175 60 = 2 ∧ zrcat f x y w h n 1176 240 = 4
  | 0 => by
    unfold zrcat
    exact ⟨by rw [zu2_a (by omega), zu2_a (by omega), zu2_eq], by rw [zu2_a (by omega), zu2_eq], zu2_eq _ _ _ _⟩
  | n + 1 => by
    have hi := zrcat_n f x y w h n
    rw [zrcat_s]
    exact ⟨by rw [zu2_a (by omega), zu2_a (by omega)]; exact hi.1, by rw [zu2_a (by omega), zu2_a (by omega)]; exact hi.2.1, by rw [zu2_a (by omega), zu2_a (by omega)]; exact hi.2.2⟩
theorem zrcat_f (f : Nat → Nat → Int) (x y w h : Int) {a j : Nat} (h1 : (a = 1174 ∨ a = 1175) → j ≠ 60) (h2 : a = 1176 → j ≠ 240) (h3 : (a = 1177 ∨ a = 1178) → j < 1920) : ∀ n, zrcat f x y w h n a j = f a j
  | 0 => by
    unfold zrcat
    rw [zu2_if, if_neg (fun e => by omega), zu2_if, if_neg (fun e => by omega), zu2_if, if_neg (fun e => by omega)]
  | n + 1 => by
    rw [zrcat_s, zu2_if, if_neg (fun e => by omega), zu2_if, if_neg (fun e => by omega)]
    exact zrcat_f f x y w h h1 h2 h3 n
theorem zrcat_p {f : Nat → Nat → Int} {x y w h : Int} (h1 : 1 ≤ w ∧ w ≤ 60) (h2 : 1 ≤ h ∧ h ≤ 60) (h3 : 0 ≤ x ∧ x ≤ 60 - w) (h4 : 0 ≤ y ∧ y ≤ 60 - h) : zSP (zrN (zrcat f x y w h 4) 60) (zrX (zrcat f x y w h 4) 60) (zrY (zrcat f x y w h 4) 60) 1 := by
  intro p hp
  have hp0 : p = 0 := by omega
  subst hp0
  have eN : zrN (zrcat f x y w h 4) 60 0 = 4 := (zrcat_n f x y w h 4).2.2
  have eX : ∀ k, k < 4 → zrX (zrcat f x y w h 4) 60 0 k = zctx x w k := fun k hk => by
    unfold zrX
    rw [show 32 * 60 + 8 * 0 + k = 1920 + k by omega]
    exact zrcat_x f x y w h 4 k hk
  have eY : ∀ k, k < 4 → zrY (zrcat f x y w h 4) 60 0 k = zcty y h k := fun k hk => by
    unfold zrY
    rw [show 32 * 60 + 8 * 0 + k = 1920 + k by omega]
    exact zrcat_y f x y w h 4 k hk
  rw [eN]
  have bx : ∀ k, 0 ≤ zctx x w k ∧ zctx x w k ≤ 60 := fun k => by unfold zctx; split <;> omega
  have bY : ∀ k, 0 ≤ zcty y h k ∧ zcty y h k ≤ 60 := fun k => by unfold zcty; split <;> omega
  refine ⟨⟨by omega, by omega, fun k hk => ?_⟩, fun j _ hj => ?_⟩
  · rw [eX k (by omega), eY k (by omega)]
    exact ⟨(bx k).1, (bx k).2, (bY k).1, (bY k).2⟩
  · have hz : zaf 4 j = if j = 3 then 0 else j + 1 := by
      unfold zaf
      by_cases e : j = 3
      · rw [if_pos e, if_neg (by omega)]
      · rw [if_neg e, if_pos (by omega)]
    unfold zwd
    rw [hz]
    have x0 : zctx x w 0 = x := rfl
    have x1 : zctx x w 1 = x + w := rfl
    have x2 : zctx x w 2 = x + w := rfl
    have x3 : zctx x w 3 = x := rfl
    have y0 : zcty y h 0 = y := rfl
    have y1 : zcty y h 1 = y := rfl
    have y2 : zcty y h 2 = y + h := rfl
    have y3 : zcty y h 3 = y + h := rfl
    have cs : j = 0 ∨ j = 1 ∨ j = 2 ∨ j = 3 := by omega
    rcases cs with rfl | rfl | rfl | rfl
    · rw [if_neg (by omega), eX (0 + 1) (by omega), eX 0 (by omega), eY (0 + 1) (by omega), eY 0 (by omega), x0, y0, show 0 + 1 = 1 from rfl, x1, y1]
      unfold zcg
      rw [if_pos (by omega)]
      omega
    · rw [if_neg (by omega), eX (1 + 1) (by omega), eX 1 (by omega), eY (1 + 1) (by omega), eY 1 (by omega), x1, y1, show 1 + 1 = 2 from rfl, x2, y2]
      unfold zcg
      rw [if_pos (by omega)]
      omega
    · rw [if_neg (by omega), eX (2 + 1) (by omega), eX 2 (by omega), eY (2 + 1) (by omega), eY 2 (by omega), x2, y2, show 2 + 1 = 3 from rfl, x3, y3]
      unfold zcg
      rw [if_pos (by omega)]
      omega
    · rw [if_pos rfl, eX 0 (by omega), eX 3 (by omega), eY 0 (by omega), eY 3 (by omega), x0, y0, x3, y3]
      unfold zcg
      rw [if_pos (by omega)]
      omega
end ZRCATF
