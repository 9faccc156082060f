/-! the reference: where two edges meet -/
section ZRMEET
variable {L : Nat} {M : zM} {s t : Nat} {Q : zO → zM → Prop}
def zbtw (z T : Int) : Prop := (0 ≤ z ∧ z ≤ T) ∨ (T ≤ z ∧ z ≤ 0)
theorem zbtw_mul {d z T : Int} (hd : d ≠ 0) : zbtw (d * z) (d * T) ↔ zbtw z T := by
  unfold zbtw
  by_cases h : 0 < d
  · have e1 : 0 ≤ d * z ↔ 0 ≤ z := ⟨fun h1 => Int.not_lt.mp (fun h2 => by have := Int.mul_neg_of_pos_of_neg h h2; omega), fun h1 => Int.mul_nonneg (by omega) h1⟩
    have e2 : d * z ≤ d * T ↔ z ≤ T := ⟨fun h1 => Int.le_of_mul_le_mul_left h1 h, fun h1 => Int.mul_le_mul_of_nonneg_left h1 (by omega)⟩
    have e3 : d * T ≤ d * z ↔ T ≤ z := ⟨fun h1 => Int.le_of_mul_le_mul_left h1 h, fun h1 => Int.mul_le_mul_of_nonneg_left h1 (by omega)⟩
    have e4 : d * z ≤ 0 ↔ z ≤ 0 := ⟨fun h1 => Int.not_lt.mp (fun h2 => by have := Int.mul_pos h h2; omega), fun h1 => by have := Int.mul_nonneg (show 0 ≤ d by omega) (show 0 ≤ -z by omega); rw [Int.mul_neg] at this; omega⟩
    rw [e1, e2, e3, e4]
  · have h' : 0 < -d := by omega
    have e1 : 0 ≤ (-d) * z ↔ 0 ≤ z := ⟨fun h1 => Int.not_lt.mp (fun h2 => by have := Int.mul_neg_of_pos_of_neg h' h2; omega), fun h1 => Int.mul_nonneg (by omega) h1⟩
    have e2 : (-d) * z ≤ (-d) * T ↔ z ≤ T := ⟨fun h1 => Int.le_of_mul_le_mul_left h1 h', fun h1 => Int.mul_le_mul_of_nonneg_left h1 (by omega)⟩
    have e3 : (-d) * T ≤ (-d) * z ↔ T ≤ z := ⟨fun h1 => Int.le_of_mul_le_mul_left h1 h', fun h1 => Int.mul_le_mul_of_nonneg_left h1 (by omega)⟩
    have e4 : (-d) * z ≤ 0 ↔ z ≤ 0 := ⟨fun h1 => Int.not_lt.mp (fun h2 => by have := Int.mul_pos h' h2; omega), fun h1 => by have := Int.mul_nonneg (show 0 ≤ -d by omega) (show 0 ≤ -z by omega); rw [Int.mul_neg] at this; omega⟩
    rw [Int.neg_mul] at e1 e2 e3 e4
    rw [Int.neg_mul] at e2 e3
    omega
theorem zwi_btw {p w : Int} (hw : w ≠ 0) : zwi p w ↔ zbtw p w := by
  unfold zwi zbtw
  omega
theorem zfrm_btw {X z W : Int} : zfrm (60 * X + z) X (X + W) ↔ zbtw z (60 * W) := by
  unfold zfrm zbtw
  split <;> omega
/-- the ways of a step -/
def zpq (p q : Int) : Prop := (p = 0 ∧ (q = 1 ∨ q = -1)) ∨ (q = 0 ∧ (p = 1 ∨ p = -1)) ∨ ((p = 1 ∨ p = -1) ∧ (q = 1 ∨ q = -1 ∨ q = 2 ∨ q = -2)) ∨ ((p = 2 ∨ p = -2) ∧ (q = 1 ∨ q = -1))
theorem zstq_of {o i m p : Int} (hm : 1 ≤ m) (ho : o = m * p) (hd : (((if o = 0 then i.natAbs else if i = 0 then o.natAbs else if o.natAbs < i.natAbs then o.natAbs else i.natAbs : Nat)) : Int) = m) : zstq o i = p := by
  unfold zstq
  rw [hd, ho, Int.mul_tdiv_cancel_left _ (by omega)]
theorem zdir {W H : Int} (h : zcg (W.natAbs : Int) (H.natAbs : Int)) : ∃ m px py, 1 ≤ m ∧ W = m * px ∧ H = m * py ∧ zstq W H = px ∧ zstq H W = py ∧ zpq px py := by
  have mk : ∀ m px py : Int, 1 ≤ m → W = m * px → H = m * py → (((if W = 0 then H.natAbs else if H = 0 then W.natAbs else if W.natAbs < H.natAbs then W.natAbs else H.natAbs : Nat)) : Int) = m → (((if H = 0 then W.natAbs else if W = 0 then H.natAbs else if H.natAbs < W.natAbs then H.natAbs else W.natAbs : Nat)) : Int) = m → zpq px py → ∃ m px py, 1 ≤ m ∧ W = m * px ∧ H = m * py ∧ zstq W H = px ∧ zstq H W = py ∧ zpq px py := fun m px py h1 h2 h3 h4 h5 h6 => ⟨m, px, py, h1, h2, h3, zstq_of h1 h2 h4, zstq_of h1 h3 h5, h6⟩
  unfold zcg at h
  by_cases h0 : W = 0
  · have hH : H ≠ 0 := by rw [if_pos (by omega)] at h; omega
    by_cases hs : 0 < H
    · exact mk H 0 1 (by omega) (by omega) (by omega) (by (repeat' split) <;> omega) (by (repeat' split) <;> omega) (by unfold zpq; omega)
    · exact mk (-H) 0 (-1) (by omega) (by omega) (by omega) (by (repeat' split) <;> omega) (by (repeat' split) <;> omega) (by unfold zpq; omega)
  · by_cases h1 : H = 0
    · by_cases hs : 0 < W
      · exact mk W 1 0 (by omega) (by omega) (by omega) (by (repeat' split) <;> omega) (by (repeat' split) <;> omega) (by unfold zpq; omega)
      · exact mk (-W) (-1) 0 (by omega) (by omega) (by omega) (by (repeat' split) <;> omega) (by (repeat' split) <;> omega) (by unfold zpq; omega)
    · rw [if_neg (by omega)] at h
      have c : (W = H ∨ W = -H) ∨ (W = 2 * H ∨ W = -(2 * H)) ∨ (H = 2 * W ∨ H = -(2 * W)) := by omega
      rcases c with (c | c) | (c | c) | (c | c)
      · by_cases hs : 0 < W
        · exact mk W 1 1 (by omega) (by omega) (by omega) (by (repeat' split) <;> omega) (by (repeat' split) <;> omega) (by unfold zpq; omega)
        · exact mk (-W) (-1) (-1) (by omega) (by omega) (by omega) (by (repeat' split) <;> omega) (by (repeat' split) <;> omega) (by unfold zpq; omega)
      · by_cases hs : 0 < W
        · exact mk W 1 (-1) (by omega) (by omega) (by omega) (by (repeat' split) <;> omega) (by (repeat' split) <;> omega) (by unfold zpq; omega)
        · exact mk (-W) (-1) 1 (by omega) (by omega) (by omega) (by (repeat' split) <;> omega) (by (repeat' split) <;> omega) (by unfold zpq; omega)
      · by_cases hs : 0 < H
        · exact mk H 2 1 (by omega) (by omega) (by omega) (by (repeat' split) <;> omega) (by (repeat' split) <;> omega) (by unfold zpq; omega)
        · exact mk (-H) (-2) (-1) (by omega) (by omega) (by omega) (by (repeat' split) <;> omega) (by (repeat' split) <;> omega) (by unfold zpq; omega)
      · by_cases hs : 0 < H
        · exact mk H (-2) 1 (by omega) (by omega) (by omega) (by (repeat' split) <;> omega) (by (repeat' split) <;> omega) (by unfold zpq; omega)
        · exact mk (-H) 2 (-1) (by omega) (by omega) (by omega) (by (repeat' split) <;> omega) (by (repeat' split) <;> omega) (by unfold zpq; omega)
      · by_cases hs : 0 < W
        · exact mk W 1 2 (by omega) (by omega) (by omega) (by (repeat' split) <;> omega) (by (repeat' split) <;> omega) (by unfold zpq; omega)
        · exact mk (-W) (-1) (-2) (by omega) (by omega) (by omega) (by (repeat' split) <;> omega) (by (repeat' split) <;> omega) (by unfold zpq; omega)
      · by_cases hs : 0 < W
        · exact mk W 1 (-2) (by omega) (by omega) (by omega) (by (repeat' split) <;> omega) (by (repeat' split) <;> omega) (by unfold zpq; omega)
        · exact mk (-W) (-1) 2 (by omega) (by omega) (by omega) (by (repeat' split) <;> omega) (by (repeat' split) <;> omega) (by unfold zpq; omega)
theorem zcr5 {px py qx qy : Int} (hp : zpq px py) (hq : zpq qx qy) (hc : px * qy - py * qx ≠ 0) : ∃ k, k * (px * qy - py * qx) = 60 ∧ (60 : Int).tdiv (px * qy - py * qx) = k ∧ -60 ≤ k ∧ k ≤ 60 := by
  have h5 : -5 ≤ px * qy - py * qx ∧ px * qy - py * qx ≤ 5 := by
    unfold zpq at hp
    rcases hp with ⟨rfl, rfl | rfl⟩ | ⟨rfl, rfl | rfl⟩ | ⟨rfl | rfl, rfl | rfl | rfl | rfl⟩ | ⟨rfl | rfl, rfl | rfl⟩ <;> unfold zpq at hq <;> omega
  generalize px * qy - py * qx = c at *
  have : c = -5 ∨ c = -4 ∨ c = -3 ∨ c = -2 ∨ c = -1 ∨ c = 1 ∨ c = 2 ∨ c = 3 ∨ c = 4 ∨ c = 5 := by omega
  rcases this with rfl | rfl | rfl | rfl | rfl | rfl | rfl | rfl | rfl | rfl
  · exact ⟨-12, by omega, by decide, by omega, by omega⟩
  · exact ⟨-15, by omega, by decide, by omega, by omega⟩
  · exact ⟨-20, by omega, by decide, by omega, by omega⟩
  · exact ⟨-30, by omega, by decide, by omega, by omega⟩
  · exact ⟨-60, by omega, by decide, by omega, by omega⟩
  · exact ⟨60, by omega, by decide, by omega, by omega⟩
  · exact ⟨30, by omega, by decide, by omega, by omega⟩
  · exact ⟨20, by omega, by decide, by omega, by omega⟩
  · exact ⟨15, by omega, by decide, by omega, by omega⟩
  · exact ⟨12, by omega, by decide, by omega, by omega⟩
/-- the point of two edges, as the class tells it -/
def zmt4 (X Y W H U V W2 H2 : Int) : List Int := if W * H2 - H * W2 ≠ 0 ∧ zwib ((U - X) * H2 - (V - Y) * W2) (W * H2 - H * W2) = true ∧ zwib ((U - X) * H - (V - Y) * W) (W * H2 - H * W2) = true then [(60 * X + (60 * ((U - X) * H2 - (V - Y) * W2) * W).tdiv (W * H2 - H * W2)) * 3601 + (60 * Y + (60 * ((U - X) * H2 - (V - Y) * W2) * H).tdiv (W * H2 - H * W2))] else []
theorem zmtl_4 (n : Int) (X Y : Nat → Int) (i : Nat) (m : Int) (U V : Nat → Int) (j : Nat) : zmtl n X Y i m U V j = zmt4 (X i) (Y i) (zwd n X i) (zwd n Y i) (U j) (V j) (zwd m U j) (zwd m V j) := rfl
theorem zmeq {m m2 px py qx qy D E : Int} (hm : 1 ≤ m) (hm2 : 1 ≤ m2) (hp : zpq px py) (hq : zpq qx qy) {k : Int} (hk : k * (px * qy - py * qx) = 60) : (m * px) * (m2 * qy) - (m * py) * (m2 * qx) ≠ 0 ∧ (zwi (D * (m2 * qy) - E * (m2 * qx)) ((m * px) * (m2 * qy) - (m * py) * (m2 * qx)) ↔ zbtw (k * (D * qy - E * qx) * px) (60 * (m * px)) ∧ zbtw (k * (D * qy - E * qx) * py) (60 * (m * py))) ∧ (zwi (D * (m * py) - E * (m * px)) ((m * px) * (m2 * qy) - (m * py) * (m2 * qx)) ↔ zbtw (k * (D * py - E * px) * qx) (60 * (m2 * qx)) ∧ zbtw (k * (D * py - E * px) * qy) (60 * (m2 * qy))) ∧ (60 * (D * (m2 * qy) - E * (m2 * qx)) * (m * px)).tdiv ((m * px) * (m2 * qy) - (m * py) * (m2 * qx)) = k * (D * qy - E * qx) * px ∧ (60 * (D * (m2 * qy) - E * (m2 * qx)) * (m * py)).tdiv ((m * px) * (m2 * qy) - (m * py) * (m2 * qx)) = k * (D * qy - E * qx) * py ∧ k * (D * py - E * px) * qx = k * (D * qy - E * qx) * px - 60 * D ∧ k * (D * py - E * px) * qy = k * (D * qy - E * qx) * py - 60 * E := by
  have e1 : (m * px) * (m2 * qy) - (m * py) * (m2 * qx) = (m * m2) * (px * qy - py * qx) := by grind
  have e2 : D * (m2 * qy) - E * (m2 * qx) = m2 * (D * qy - E * qx) := by grind
  have e3 : D * (m * py) - E * (m * px) = m * (D * py - E * px) := by grind
  have hc0 : px * qy - py * qx ≠ 0 := fun h => by rw [h] at hk; omega
  have hk0 : k ≠ 0 := fun h => by rw [h] at hk; omega
  have hmm : m * m2 ≠ 0 := by
    have : 0 < m * m2 := Int.mul_pos (by omega) (by omega)
    omega
  have hC : (m * m2) * (px * qy - py * qx) ≠ 0 := Int.mul_ne_zero hmm hc0
  have i1 : 60 * (m2 * (D * qy - E * qx)) * (m * px) = ((m * m2) * (px * qy - py * qx)) * (k * (D * qy - E * qx) * px) := by rw [← hk]; grind
  have i2 : 60 * (m2 * (D * qy - E * qx)) * (m * py) = ((m * m2) * (px * qy - py * qx)) * (k * (D * qy - E * qx) * py) := by rw [← hk]; grind
  have i3 : k * (D * py - E * px) * qx = k * (D * qy - E * qx) * px - 60 * D := by rw [← hk]; grind
  have i4 : k * (D * py - E * px) * qy = k * (D * qy - E * qx) * py - 60 * E := by rw [← hk]; grind
  have bt : ∀ a T p : Int, p ≠ 0 → (zbtw (k * a * p) (60 * (T * p)) ↔ zbtw a ((px * qy - py * qx) * T)) := fun a T p hp => by
    have j1 : k * a * p = (k * p) * a := by grind
    have j2 : 60 * (T * p) = (k * p) * ((px * qy - py * qx) * T) := by rw [← hk]; grind
    rw [j1, j2, zbtw_mul (Int.mul_ne_zero hk0 hp)]
  have bz : ∀ a T : Int, zbtw (k * a * 0) (60 * (T * 0)) := fun a T => by rw [Int.mul_zero, Int.mul_zero]; exact Or.inl ⟨Int.le_refl _, Int.le_refl _⟩
  have both : ∀ a T p q : Int, zpq p q → (zbtw a ((px * qy - py * qx) * T) ↔ zbtw (k * a * p) (60 * (T * p)) ∧ zbtw (k * a * q) (60 * (T * q))) := fun a T p q hpq => by
    by_cases h0 : p = 0
    · have h1 : q ≠ 0 := by unfold zpq at hpq; omega
      rw [h0, bt a T q h1]
      exact ⟨fun h => ⟨bz a T, h⟩, fun h => h.2⟩
    · by_cases h1 : q = 0
      · rw [h1, bt a T p h0]
        exact ⟨fun h => ⟨h, bz a T⟩, fun h => h.1⟩
      · rw [bt a T p h0, bt a T q h1]
        exact ⟨fun h => ⟨h, h⟩, fun h => h.1⟩
  refine ⟨by rw [e1]; exact hC, ?_, ?_, by rw [e1, e2, i1, Int.mul_tdiv_cancel_left _ hC], by rw [e1, e2, i2, Int.mul_tdiv_cancel_left _ hC], i3, i4⟩
  · rw [e1, e2, zwi_btw hC, show (m * m2) * (px * qy - py * qx) = m2 * ((px * qy - py * qx) * m) by grind, zbtw_mul (by omega)]
    exact both _ _ _ _ hp
  · rw [e1, e3, zwi_btw hC, show (m * m2) * (px * qy - py * qx) = m * ((px * qy - py * qx) * m2) by grind, zbtw_mul (by omega)]
    exact both _ _ _ _ hq
end ZRMEET
