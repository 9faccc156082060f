/-! a line of the picture: what the flips say -/
section ZLINE
/-- of an edge that goes as it may, what is cut lies between its ends -/
theorem zqt_in {n : Int} {X Y : Nat → Int} {k : Nat} {y lo hi : Int} (hg : zcg ((zwd n X k).natAbs : Int) ((zwd n Y k).natAbs : Int)) (hc : zcut n Y k y) (h1 : lo ≤ X k ∧ X k ≤ hi) (h2 : lo ≤ X (zaf n k) ∧ X (zaf n k) ≤ hi) : 4 * lo ≤ zqt n X Y k y ∧ zqt n X Y k y ≤ 4 * hi := by
  unfold zqt zle2
  unfold zcut at hc
  have ew : zwd n X k = X (zaf n k) - X k := rfl
  have eh : zwd n Y k = Y (zaf n k) - Y k := rfl
  have h0 : zwd n Y k ≠ 0 := by
    intro h
    apply hc
    rw [eh] at h
    have : Y (zaf n k) = Y k := by omega
    rw [this]
  rw [if_neg h0]
  have hb : (y - 2 * Y k < 0 ∧ 2 * zwd n Y k ≤ y - 2 * Y k) ∨ (0 ≤ y - 2 * Y k ∧ y - 2 * Y k < 2 * zwd n Y k) := by
    rw [eh]
    omega
  generalize zwd n X k = w at *
  generalize zwd n Y k = h at *
  generalize y - 2 * Y k = d at *
  unfold zcg at hg
  have cases9 : w = 0 ∨ w = h ∨ w = -h ∨ w = 2 * h ∨ w = -(2 * h) ∨ h = 2 * w ∨ h = -(2 * w) := by
    by_cases h9 : (w.natAbs : Int) = 0 ∨ (h.natAbs : Int) = 0
    · omega
    · rw [if_neg h9] at hg
      omega
  rcases cases9 with e | e | e | e | e | e | e
  · subst e
    rw [show (2 * 0 : Int) = 0 from rfl, Int.zero_tdiv]
    omega
  · subst e
    rw [Int.mul_tdiv_cancel _ h0]
    omega
  · subst e
    rw [show 2 * -h = (-2) * h by omega, Int.mul_tdiv_cancel _ h0]
    omega
  · subst e
    rw [show 2 * (2 * h) = 4 * h by omega, Int.mul_tdiv_cancel _ h0]
    omega
  · subst e
    rw [show 2 * -(2 * h) = (-4) * h by omega, Int.mul_tdiv_cancel _ h0]
    omega
  · subst e
    rw [Int.tdiv_self h0]
    omega
  · subst e
    rw [Int.tdiv_neg, Int.tdiv_self (show 2 * w ≠ 0 by omega)]
    omega
/-- the sum of the flips from the right -/
def zsx (fl : Nat → Nat) : Nat → Nat
  | 0 => 0
  | d + 1 => fl (60 - d) ^^^ zsx fl d
theorem zsx_s (fl : Nat → Nat) (d : Nat) : zsx fl (d + 1) = fl (60 - d) ^^^ zsx fl d := rfl
theorem zsx_u (fl : Nat → Nat) (T bit : Nat) (hT : T < 61) : ∀ d, d ≤ 61 → zsx (fun j => if j = T then fl j ^^^ bit else fl j) d = zsx fl d ^^^ (if 61 ≤ T + d then bit else 0)
  | 0, _ => by
    show (0 : Nat) = 0 ^^^ _
    rw [if_neg (by omega)]
    rfl
  | d + 1, hd => by
    have ih := zsx_u fl T bit hT d (by omega)
    rw [zsx_s, zsx_s, ih]
    by_cases h : 60 - d = T
    · rw [if_pos h, if_neg (by omega), if_pos (by omega), Nat.xor_zero, Nat.xor_assoc, Nat.xor_assoc, Nat.xor_comm bit]
    · rw [if_neg h]
      by_cases h2 : 61 ≤ T + d
      · rw [if_pos h2, if_pos (by omega), Nat.xor_assoc]
      · rw [if_neg h2, if_neg (by omega), Nat.xor_assoc]
theorem zsx_p {n : Int} {X Y : Nat → Int} {y od : Int} {bit d : Nat} (fl : Nat → Nat) (hd : d ≤ 61) (hT : ∀ k : Nat, (k : Int) < n → zcut n Y k (2 * y + od) → (zqt n X Y k (2 * y + od) - 2 * od - 1) / 4 < 61) : ∀ k : Nat, (k : Int) ≤ n → zsx (zflp n X Y (2 * y + od) od bit k fl) d = zsx fl d ^^^ (if zodd n X Y (2 * (61 - (d : Int)) + od) (2 * y + od) k = 1 then bit else 0)
  | 0, _ => by
    show zsx fl d = zsx fl d ^^^ (if (0 : Int) = 1 then bit else 0)
    rw [if_neg (by omega), Nat.xor_zero]
  | k + 1, hk => by
    have ih := zsx_p fl hd hT (bit := bit) k (by omega)
    have hb := zodd_b n X Y (2 * (61 - (d : Int)) + od) (2 * y + od) k
    have hT2 := hT k (by omega)
    have ez : zodd n X Y (2 * (61 - (d : Int)) + od) (2 * y + od) (k + 1) = if (¬ (2 * y + od < 2 * Y k ↔ 2 * y + od < 2 * Y (zaf n k)) ∧ 2 * (2 * (61 - (d : Int)) + od) < zqt n X Y k (2 * y + od)) then 1 - zodd n X Y (2 * (61 - (d : Int)) + od) (2 * y + od) k else zodd n X Y (2 * (61 - (d : Int)) + od) (2 * y + od) k := rfl
    unfold zflp
    unfold zcut at hT2
    generalize zqt n X Y k (2 * y + od) = q at *
    generalize zodd n X Y (2 * (61 - (d : Int)) + od) (2 * y + od) k = z at *
    generalize zodd n X Y (2 * (61 - (d : Int)) + od) (2 * y + od) (k + 1) = z' at *
    by_cases hc : ¬ (2 * y + od < 2 * Y k ↔ 2 * y + od < 2 * Y (zaf n k))
    · have h61 := hT2 hc
      by_cases h0 : 0 ≤ (q - 2 * od - 1) / 4
      · rw [if_pos ⟨hc, h0, h61⟩, zsx_u _ _ _ (by omega) _ hd, ih]
        by_cases h2 : 2 * (2 * (61 - (d : Int)) + od) < q
        · rw [if_pos ⟨hc, h2⟩] at ez
          rw [if_pos (show 61 ≤ ((q - 2 * od - 1) / 4).toNat + d by omega), Nat.xor_assoc]
          rcases hb with h3 | h3
          · rw [if_neg (show ¬ z = 1 by omega), if_pos (show z' = 1 by omega), Nat.zero_xor]
          · rw [if_pos h3, if_neg (show ¬ z' = 1 by omega), Nat.xor_self]
        · rw [if_neg (fun h3 => h2 h3.2)] at ez
          rw [if_neg (show ¬ 61 ≤ ((q - 2 * od - 1) / 4).toNat + d by omega), Nat.xor_zero, ez]
      · rw [if_neg (fun h3 => h0 h3.2.1), ih]
        have h2 : ¬ 2 * (2 * (61 - (d : Int)) + od) < q := by omega
        rw [if_neg (fun h3 => h2 h3.2)] at ez
        rw [ez]
    · rw [if_neg (fun h3 => hc h3.1), ih]
      rw [if_neg (fun h3 => hc h3.1)] at ez
      rw [ez]
theorem zor_xor {a k : Nat} (h : a < 2 ^ k) : a ||| 2 ^ k = a ^^^ 2 ^ k := by
  apply Nat.eq_of_testBit_eq
  intro i
  rw [Nat.testBit_or, Nat.testBit_xor, Nat.testBit_two_pow]
  by_cases e : k = i
  · subst e
    rw [Nat.testBit_lt_two_pow h, decide_eq_true rfl]
    rfl
  · rw [decide_eq_false e]
    cases a.testBit i <;> rfl
/-- the flips of a shape -/
def zfls (n : Nat → Int) (X Y : Nat → Nat → Int) (dy od : Int) : Nat → Nat → Nat
  | 0 => fun _ => 0
  | k + 1 => zflp (n k) (X k) (Y k) dy od (2 ^ k) (n k).toNat (zfls n X Y dy od k)
theorem zfls_s (n : Nat → Int) (X Y : Nat → Nat → Int) (dy od : Int) (k : Nat) : zfls n X Y dy od (k + 1) = zflp (n k) (X k) (Y k) dy od (2 ^ k) (n k).toNat (zfls n X Y dy od k) := rfl
theorem zsx_0 : ∀ d, zsx (fun _ => 0) d = 0
  | 0 => rfl
  | d + 1 => by rw [zsx_s, zsx_0 d]; rfl
theorem zfls_b (n : Nat → Int) (X Y : Nat → Nat → Int) (dy od : Int) : ∀ k, k ≤ 4 → ∀ j, zfls n X Y dy od k j < 16
  | 0, _, j => by show 0 < 16; omega
  | k + 1, h, j => zflp_b (Nat.lt_of_lt_of_le (Nat.pow_lt_pow_right (by omega) (show k < 4 by omega)) (Nat.le_refl _)) (zfls_b n X Y dy od k (by omega)) _ j
theorem zsx_f {n : Nat → Int} {X Y : Nat → Nat → Int} {y od : Int} {d : Nat} (hd : d ≤ 61) : ∀ c : Nat, (∀ p, p < c → 0 ≤ n p ∧ ∀ k : Nat, (k : Int) < n p → zcut (n p) (Y p) k (2 * y + od) → (zqt (n p) (X p) (Y p) k (2 * y + od) - 2 * od - 1) / 4 < 61) → zsx (zfls n X Y (2 * y + od) od c) d = zpt (fun p => zodd (n p) (X p) (Y p) (2 * (61 - (d : Int)) + od) (2 * y + od) (n p).toNat) c
  | 0, _ => zsx_0 d
  | c + 1, h => by
    have ih := zsx_f (n := n) (X := X) (Y := Y) (y := y) (od := od) hd c (fun p hp => h p (by omega))
    have hc := h c (by omega)
    have hb := zodd_b (n c) (X c) (Y c) (2 * (61 - (d : Int)) + od) (2 * y + od) (n c).toNat
    have hl := zpt_lt (fun p => zodd (n p) (X p) (Y p) (2 * (61 - (d : Int)) + od) (2 * y + od) (n p).toNat) c
    rw [zfls_s, zsx_p _ hd hc.2 _ (by omega), ih]
    conv => rhs; unfold zpt
    rcases hb with h1 | h1
    · rw [if_neg (show ¬ zodd (n c) (X c) (Y c) (2 * (61 - (d : Int)) + od) (2 * y + od) (n c).toNat = 1 by omega), if_pos h1, Nat.xor_zero]
    · rw [if_pos h1, if_neg (show ¬ zodd (n c) (X c) (Y c) (2 * (61 - (d : Int)) + od) (2 * y + od) (n c).toNat = 0 by omega), zor_xor hl]
/-- flips lie only where edges are -/
theorem zflp_z {n : Int} {X Y : Nat → Int} {dy od lo hi : Int} {bit : Nat} {fl : Nat → Nat} (hT : ∀ k : Nat, (k : Int) < n → zcut n Y k dy → 4 * lo ≤ zqt n X Y k dy ∧ zqt n X Y k dy ≤ 4 * hi) (ho : 0 ≤ od ∧ od ≤ 1) (hf : ∀ j : Nat, (j : Int) < lo - 1 ∨ hi ≤ (j : Int) → fl j = 0) : ∀ k : Nat, (k : Int) ≤ n → ∀ j : Nat, (j : Int) < lo - 1 ∨ hi ≤ (j : Int) → zflp n X Y dy od bit k fl j = 0
  | 0, _, j, hj => hf j hj
  | k + 1, hk, j, hj => by
    have ih := zflp_z hT ho hf (bit := bit) k (by omega) j hj
    have h1 := hT k (by omega)
    unfold zflp
    split
    · next h =>
      have h2 := h1 h.1
      dsimp only
      rw [if_neg (by omega)]
      exact ih
    · exact ih
theorem zfls_z {n : Nat → Int} {X Y : Nat → Nat → Int} {dy od lo hi : Int} (ho : 0 ≤ od ∧ od ≤ 1) : ∀ c : Nat, (∀ p, p < c → 0 ≤ n p ∧ ∀ k : Nat, (k : Int) < n p → zcut (n p) (Y p) k dy → 4 * lo ≤ zqt (n p) (X p) (Y p) k dy ∧ zqt (n p) (X p) (Y p) k dy ≤ 4 * hi) → ∀ j : Nat, (j : Int) < lo - 1 ∨ hi ≤ (j : Int) → zfls n X Y dy od c j = 0
  | 0, _, j, _ => rfl
  | c + 1, h, j, hj => by
    rw [zfls_s]
    exact zflp_z (h c (by omega)).2 ho (zfls_z ho c (fun p hp => h p (by omega))) _ (by have := (h c (by omega)).1; omega) j hj
/-- a closed row of corners is cut an even number of times -/
theorem zodd_e {n : Int} {X Y : Nat → Int} {x y : Int} (h : ∀ k : Nat, (k : Int) < n → zcut n Y k y → 2 * x < zqt n X Y k y) : ∀ k : Nat, (k : Int) < n → zodd n X Y x y k = if (y < 2 * Y 0 ↔ y < 2 * Y k) then 0 else 1
  | 0, _ => by
    rw [if_pos Iff.rfl]; rfl
  | k + 1, hk => by
    have ih := zodd_e h k (by omega)
    have h1 := h k (by omega)
    have ea : zaf n k = k + 1 := by unfold zaf; rw [if_pos (by omega)]
    have ez : zodd n X Y x y (k + 1) = if (¬ (y < 2 * Y k ↔ y < 2 * Y (zaf n k)) ∧ 2 * x < zqt n X Y k y) then 1 - zodd n X Y x y k else zodd n X Y x y k := rfl
    unfold zcut at h1
    rw [ea] at ez h1
    rw [ez, ih]
    by_cases hc : ¬ (y < 2 * Y k ↔ y < 2 * Y (k + 1))
    · rw [if_pos ⟨hc, h1 hc⟩]
      split <;> split <;> omega
    · rw [if_neg (fun h2 => hc h2.1)]
      split <;> split <;> omega
theorem zodd_c {n : Int} {X Y : Nat → Int} {x y : Int} (h : ∀ k : Nat, (k : Int) < n → zcut n Y k y → 2 * x < zqt n X Y k y) : zodd n X Y x y n.toNat = 0 := by
  obtain ⟨m, hm⟩ : ∃ m, n.toNat = m := ⟨_, rfl⟩
  cases m with
  | zero => rw [hm]; rfl
  | succ m =>
    have ih := zodd_e h m (by omega)
    have h1 := h m (by omega)
    have ea : zaf n m = 0 := by unfold zaf; rw [if_neg (by omega)]
    have ez : zodd n X Y x y (m + 1) = if (¬ (y < 2 * Y m ↔ y < 2 * Y (zaf n m)) ∧ 2 * x < zqt n X Y m y) then 1 - zodd n X Y x y m else zodd n X Y x y m := rfl
    unfold zcut at h1
    rw [ea] at ez h1
    rw [hm, ez, ih]
    by_cases hc : ¬ (y < 2 * Y m ↔ y < 2 * Y 0)
    · rw [if_pos ⟨hc, h1 hc⟩]
      split <;> omega
    · rw [if_neg (fun h2 => hc h2.1)]
      split <;> omega
theorem zodd_n {n : Int} {X Y : Nat → Int} {x y : Int} (h : ∀ k : Nat, (k : Int) < n → ¬ (zcut n Y k y ∧ 2 * x < zqt n X Y k y)) : ∀ k : Nat, (k : Int) ≤ n → zodd n X Y x y k = 0
  | 0, _ => rfl
  | k + 1, hk => by
    have ih := zodd_n h k (by omega)
    have h1 := h k (by omega)
    unfold zcut at h1
    have ez : zodd n X Y x y (k + 1) = if (¬ (y < 2 * Y k ↔ y < 2 * Y (zaf n k)) ∧ 2 * x < zqt n X Y k y) then 1 - zodd n X Y x y k else zodd n X Y x y k := rfl
    rw [ez, if_neg h1, ih]
theorem zpt_0 {g : Nat → Int} : ∀ c, (∀ p, p < c → g p = 0) → zpt g c = 0
  | 0, _ => rfl
  | c + 1, h => by
    have ih := zpt_0 c (fun p hp => h p (by omega))
    unfold zpt
    rw [if_pos (h c (by omega)), ih]
end ZLINE
