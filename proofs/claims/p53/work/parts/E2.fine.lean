/-! areas: cut finely -/
section ZFINE
/-- an edge that goes as edges may: its lean in halves, its base then even -/
def zEv (d : zEd) : Prop := d.2.2.1 = 0 ∨ d.2.2.1 = 1 ∨ d.2.2.1 = -1 ∨ d.2.2.1 = 2 ∨ d.2.2.1 = -2 ∨ (d.2.2.1 = 4 ∧ d.2.2.2.1 % 2 = 0) ∨ (d.2.2.1 = -4 ∧ d.2.2.2.1 % 2 = 0)
def zEV (l : List zEd) : Prop := ∀ e, e < l.length → zEv (zegd l e)
theorem zxy_k {a b p q : Int} (ha : a = 0 ∨ a = 1 ∨ a = -1 ∨ a = 2 ∨ a = -2 ∨ (a = 4 ∧ p % 2 = 0) ∨ (a = -4 ∧ p % 2 = 0)) (hb : b = 0 ∨ b = 1 ∨ b = -1 ∨ b = 2 ∨ b = -2 ∨ (b = 4 ∧ q % 2 = 0) ∨ (b = -4 ∧ q % 2 = 0)) (h : a - b ≠ 0) : ∃ z, 60 * (q - p) = z * (a - b) := by
  have key : (a - b = 1 ∨ a - b = -1 ∨ a - b = 2 ∨ a - b = -2 ∨ a - b = 3 ∨ a - b = -3 ∨ a - b = 4 ∨ a - b = -4 ∨ a - b = 5 ∨ a - b = -5 ∨ a - b = 6 ∨ a - b = -6) ∨ ((a - b = 8 ∨ a - b = -8) ∧ (q - p) % 2 = 0) := by omega
  generalize q - p = t at *
  rcases key with (k | k | k | k | k | k | k | k | k | k | k | k) | ⟨k | k, h2⟩ <;> rw [k]
  · exact ⟨60 * t, by omega⟩
  · exact ⟨-60 * t, by omega⟩
  · exact ⟨30 * t, by omega⟩
  · exact ⟨-30 * t, by omega⟩
  · exact ⟨20 * t, by omega⟩
  · exact ⟨-20 * t, by omega⟩
  · exact ⟨15 * t, by omega⟩
  · exact ⟨-15 * t, by omega⟩
  · exact ⟨12 * t, by omega⟩
  · exact ⟨-12 * t, by omega⟩
  · exact ⟨10 * t, by omega⟩
  · exact ⟨-10 * t, by omega⟩
  · exact ⟨15 * (t / 2), by omega⟩
  · exact ⟨-15 * (t / 2), by omega⟩
theorem zxy_m {d c : zEd} (hd : zEv d) (hc : zEv c) (h : d.2.2.1 - c.2.2.1 ≠ 0) : zxy d c * (d.2.2.1 - c.2.2.1) = 60 * (c.2.2.2.1 - d.2.2.2.1) := by
  obtain ⟨z, hz⟩ := zxy_k hd hc h
  unfold zxy
  rw [hz, Int.mul_tdiv_cancel _ h]
theorem zneg_of {t D : Int} (h : t * D ≤ 0) (hD : 0 < D) : t ≤ 0 := by
  by_cases c : t ≤ 0
  · exact c
  · have := Int.mul_le_mul_of_nonneg_right (show 1 ≤ t by omega) (show 0 ≤ D by omega)
    omega
theorem zpos_of {t D : Int} (h : 0 < t * D) (hD : 0 < D) : 0 < t := by
  by_cases c : 0 < t
  · exact c
  · have := Int.mul_le_mul_of_nonneg_right (show t ≤ 0 by omega) (show 0 ≤ D by omega)
    omega
theorem zbet {a b z D : Int} (hD : D ≠ 0) (h1 : (a - 2 * z) * D ≤ 0) (h2 : 0 < (b - 2 * z) * D) : (a ≤ 2 * z ∧ 2 * z < b) ∨ (b < 2 * z ∧ 2 * z ≤ a) := by
  by_cases c : 0 < D
  · have k1 := zneg_of h1 c
    have k2 := zpos_of h2 c
    omega
  · have n1 : (2 * z - a) * (-D) = (a - 2 * z) * D := by rw [Int.mul_neg, ← Int.neg_mul]; congr 1; omega
    have n2 : (2 * z - b) * (-D) = (b - 2 * z) * D := by rw [Int.mul_neg, ← Int.neg_mul]; congr 1; omega
    rw [← n1] at h1
    rw [← n2] at h2
    have k1 := zneg_of h1 (by omega)
    have k2 := zpos_of h2 (by omega)
    omega
/-- two edges stay in order, where they do not cross -/
theorem zord_y {l : List zEd} {e c : Nat} {u v y : Int} (hV : zEV l) (he : e < l.length) (hc : c < l.length) (ae : 60 * (zegd l e).1 ≤ u ∧ v ≤ 60 * (zegd l e).2.1) (ac : 60 * (zegd l c).1 ≤ u ∧ v ≤ 60 * (zegd l c).2.1) (hn : ∀ j : Int, u < j → j < v → ¬ zCut l j) (h : zmd2 l u v e ≤ zmd2 l u v c) (hy : u ≤ y) (hy2 : y + 1 ≤ v) : zmd2 l y (y + 1) e ≤ zmd2 l y (y + 1) c := by
  by_cases hle : zmd2 l y (y + 1) e ≤ zmd2 l y (y + 1) c
  · exact hle
  exfalso
  have ve := hV e he
  have vc := hV c hc
  unfold zmd2 at h hle
  by_cases hD : (zegd l e).2.2.1 - (zegd l c).2.2.1 = 0
  · have e1 : (zegd l e).2.2.1 = (zegd l c).2.2.1 := by omega
    rw [e1] at h hle
    omega
  · have hz := zxy_m ve vc hD
    have hz2 := zxy_m vc ve (by omega)
    have hez : zxy (zegd l c) (zegd l e) = zxy (zegd l e) (zegd l c) := by
      refine Int.eq_of_mul_eq_mul_right hD ?_
      have n1 : zxy (zegd l c) (zegd l e) * ((zegd l e).2.2.1 - (zegd l c).2.2.1) = -(zxy (zegd l c) (zegd l e) * ((zegd l c).2.2.1 - (zegd l e).2.2.1)) := by rw [← Int.mul_neg]; congr 1; omega
      rw [n1, hz2, hz]
      omega
    generalize ez : zxy (zegd l e) (zegd l c) = z at *
    have key := zbet (a := u + v) (b := y + (y + 1)) (z := z) (D := (zegd l e).2.2.1 - (zegd l c).2.2.1) hD (by
      rw [Int.sub_mul, Int.mul_assoc, hz, Int.mul_sub]
      omega) (by
      rw [Int.sub_mul, Int.mul_assoc, hz, Int.mul_sub]
      omega)
    have hin : u < z ∧ z < v := by omega
    refine hn z hin.1 hin.2 (Or.inr ?_)
    by_cases hec : c < e
    · exact ⟨e, c, hec, he, hD, ez.symm, by omega, by omega⟩
    · have hne : e ≠ c := fun h9 => hD (by rw [h9]; omega)
      exact ⟨c, e, by omega, hc, by omega, hez.symm, by omega, by omega⟩
theorem zF_add {m m' : Nat → Int} {b : Nat → Nat} {g : Nat → Bool} : ∀ (k : List Nat) (acc : Nat) (x x' : Int), zF (fun e => m e + m' e) b g acc (x + x') k = zF m b g acc x k + zF m' b g acc x' k
  | [], _, _, _ => rfl
  | a :: t, acc, x, x' => by
    rw [zF_s, zF_s, zF_s, zF_add t]
    split <;> omega
theorem zF_mul {m : Nat → Int} {b : Nat → Nat} {g : Nat → Bool} {c : Int} : ∀ (k : List Nat) (acc : Nat) (x : Int), zF (fun e => c * m e) b g acc (c * x) k = c * zF m b g acc x k
  | [], _, _ => (Int.mul_zero c).symm
  | a :: t, acc, x => by
    rw [zF_s, zF_s, zF_mul t, Int.mul_add]
    congr 1
    split
    · rw [Int.mul_sub]
    · rw [Int.mul_zero]
theorem zFV_add {m m' : Nat → Int} {b : Nat → Nat} {g : Nat → Bool} (k : List Nat) : zFV (fun e => m e + m' e) b g k = zFV m b g k + zFV m' b g k := by
  cases k with
  | nil => rfl
  | cons a t => exact zF_add t _ _ _
theorem zFV_mul {m : Nat → Int} {b : Nat → Nat} {g : Nat → Bool} {c : Int} (k : List Nat) : zFV (fun e => c * m e) b g k = c * zFV m b g k := by
  cases k with
  | nil => exact (Int.mul_zero c).symm
  | cons a t => exact zF_mul t _ _
theorem zFV_0 {b : Nat → Nat} {g : Nat → Bool} (k : List Nat) : zFV (fun _ => 0) b g k = 0 := by
  have h : zFV (fun _ => 0) b g k = 0 * zFV (fun _ => 0) b g k := zFV_mul (m := fun _ => 0) (b := b) (g := g) (c := 0) k
  exact h.trans (Int.zero_mul _)
theorem zsq (n u b q : Int) : (n + 1) * (120 * b + (2 * u + (n + 1)) * q) = n * (120 * b + (2 * u + n) * q) + (120 * b + (u + n + (u + n + 1)) * q) := by grind
/-- a strip is its strips of one -/
theorem zU_ref {l : List zEd} {g : Nat → Bool} {u v : Nat} (hV : zEV l) (hA : zEA l) (huv : u < v) (hn : ∀ j : Int, (u : Int) < j → j < (v : Int) → ¬ zCut l j) : zU l g v = zU l g u + zSV l g (u : Int) (v : Int) * ((v : Int) - (u : Int)) := by
  have act : ∀ y : Int, (u : Int) ≤ y → y + 1 ≤ (v : Int) → zAct l (u : Int) (v : Int) = zAct l y (y + 1) := fun y h1 h2 => by
    unfold zAct
    refine List.filter_congr (fun x hx => ?_)
    have hx := List.mem_range.mp hx
    have hw := (hA x hx).1
    rw [decide_eq_decide]
    constructor
    · omega
    · intro h
      refine ⟨?_, ?_⟩
      · by_cases c : 60 * (zegd l x).1 ≤ (u : Int)
        · exact c
        · exact absurd (Or.inl ⟨x, hx, Or.inl rfl⟩) (hn (60 * (zegd l x).1) (by omega) (by omega))
      · by_cases c : (v : Int) ≤ 60 * (zegd l x).2.1
        · exact c
        · exact absurd (Or.inl ⟨x, hx, Or.inr rfl⟩) (hn (60 * (zegd l x).2.1) (by omega) (by omega))
  have hk1 := zsrt_p (zmd2 l (u : Int) (v : Int)) (zAct l (u : Int) (v : Int))
  have hk2 := zsrt_s (zmd2 l (u : Int) (v : Int)) (zAct l (u : Int) (v : Int))
  have eSV : zSV l g (u : Int) (v : Int) = zFV (zmd2 l (u : Int) (v : Int)) (zebi l) g (zsrt (zmd2 l (u : Int) (v : Int)) (zAct l (u : Int) (v : Int))) := rfl
  rw [eSV]
  generalize zsrt (zmd2 l (u : Int) (v : Int)) (zAct l (u : Int) (v : Int)) = k at *
  have one : ∀ y : Int, (u : Int) ≤ y → y + 1 ≤ (v : Int) → zSV l g y (y + 1) = zFV (zmd2 l y (y + 1)) (zebi l) g k := fun y h1 h2 => by
    refine (zSV_of ?_ (by rw [← act y h1 h2]; exact hk1)).symm
    refine List.Pairwise.imp_of_mem (fun {a c} ha hc h => ?_) hk2
    have a1 := List.mem_filter.mp (hk1.mem_iff.mp ha)
    have c1 := List.mem_filter.mp (hk1.mem_iff.mp hc)
    exact zord_y hV (List.mem_range.mp a1.1) (List.mem_range.mp c1.1) (of_decide_eq_true a1.2) (of_decide_eq_true c1.2) hn h h1 h2
  have sum : ∀ n : Nat, u + n ≤ v → zU l g (u + n) = zU l g u + zFV (fun e => (n : Int) * (120 * (zegd l e).2.2.2.1 + (2 * (u : Int) + (n : Int)) * (zegd l e).2.2.1)) (zebi l) g k := by
    intro n
    induction n with
    | zero =>
      intro _
      have e0 : (fun e => ((0 : Nat) : Int) * (120 * (zegd l e).2.2.2.1 + (2 * (u : Int) + ((0 : Nat) : Int)) * (zegd l e).2.2.1)) = fun _ => 0 := funext fun e => Int.zero_mul _
      rw [e0, zFV_0]
      show zU l g u = zU l g u + 0
      omega
    | succ n ih =>
      intro h
      have ih := ih (by omega)
      have o := one ((u + n : Nat) : Int) (by omega) (by omega)
      show zU l g (u + n) + zSV l g ((u + n : Nat) : Int) (((u + n : Nat) : Int) + 1) = _
      have e1 : (fun e => ((n + 1 : Nat) : Int) * (120 * (zegd l e).2.2.2.1 + (2 * (u : Int) + ((n + 1 : Nat) : Int)) * (zegd l e).2.2.1)) = fun e => (n : Int) * (120 * (zegd l e).2.2.2.1 + (2 * (u : Int) + (n : Int)) * (zegd l e).2.2.1) + zmd2 l ((u + n : Nat) : Int) (((u + n : Nat) : Int) + 1) e := funext fun e => by
        unfold zmd2
        rw [Int.natCast_add, Int.natCast_add]
        exact zsq _ _ _ _
      rw [ih, o, e1, zFV_add]
      omega
  have h := sum (v - u) (by omega)
  rw [show u + (v - u) = v by omega] at h
  rw [h]
  congr 1
  have ev : ((v - u : Nat) : Int) = (v : Int) - (u : Int) := by omega
  have e1 : (fun e => ((v - u : Nat) : Int) * (120 * (zegd l e).2.2.2.1 + (2 * (u : Int) + ((v - u : Nat) : Int)) * (zegd l e).2.2.1)) = fun e => ((v : Int) - (u : Int)) * zmd2 l (u : Int) (v : Int) e := funext fun e => by
    unfold zmd2
    rw [ev, show 2 * (u : Int) + ((v : Int) - (u : Int)) = (u : Int) + (v : Int) by omega]
  rw [e1, zFV_mul, Int.mul_comm]
theorem zU_ext {l : List zEd} {g : Nat → Bool} {n : Nat} : ∀ m, n ≤ m → (∀ j : Nat, n ≤ j → j < m → zAct l (j : Int) ((j : Int) + 1) = []) → zU l g m = zU l g n
  | 0, h, _ => by rw [show n = 0 by omega]
  | m + 1, h, hz => by
    by_cases e : n = m + 1
    · rw [e]
    · rw [zU_s, zU_ext m (by omega) (fun j h1 h2 => hz j h1 (by omega))]
      have z : zSV l g (m : Int) ((m : Int) + 1) = 0 := by
        unfold zSV
        rw [hz m (by omega) (by omega)]
        rfl
      omega
theorem zact_0 {l : List zEd} {y : Int} (h : ∀ e, e < l.length → ¬ (60 * (zegd l e).1 ≤ y ∧ y + 1 ≤ 60 * (zegd l e).2.1)) : zAct l y (y + 1) = [] := by
  unfold zAct
  rw [List.filter_eq_nil_iff]
  intro x hx
  rw [decide_eq_true_iff]
  exact h x (List.mem_range.mp hx)
theorem zTot_U {l : List zEd} {g : Nat → Bool} (hV : zEV l) (hA : zEA l) : ∀ y : Nat, (zTot l g y).2 = zU l g (zTot l g y).1.toNat
  | 0 => rfl
  | y + 1 => by
    have ih := zTot_U (g := g) hV hA y
    rw [zTot_s]
    by_cases hc : zcub l y = true
    · rw [if_pos hc]
      dsimp only
      rw [Int.toNat_natCast]
      rcases zTot_c l g y with ⟨h1, h2, h3⟩ | ⟨u, h1, h2, h3, h4⟩
      · rw [h1, if_pos (by omega), h2]
        refine (zU_ext (n := 0) y (Nat.zero_le _) (fun j _ hj => zact_0 (fun e he hh => ?_))).symm
        have hw := (hA e he).1
        refine h3 (60 * (zegd l e).1).toNat (by omega) (Or.inl ⟨e, he, Or.inl ?_⟩)
        omega
      · rw [h1, Int.toNat_natCast] at ih
        rw [h1, if_neg (by omega), ih]
        refine (zU_ref hV hA h2 (fun j j1 j2 => ?_)).symm
        have := h4 j.toNat (by omega) (by omega)
        rw [show ((j.toNat : Nat) : Int) = j by omega] at this
        exact this
    · rw [if_neg hc]
      exact ih
theorem zTot_all {l : List zEd} {g : Nat → Bool} (hV : zEV l) (hA : zEA l) : (zTot l g 3601).2 = zU l g 3600 := by
  rw [zTot_U hV hA]
  rcases zTot_c l g 3601 with ⟨h1, h2, h3⟩ | ⟨u, h1, h2, h3, h4⟩
  · rw [h1]
    refine (zU_ext (n := 0) 3600 (Nat.zero_le _) (fun j _ hj => zact_0 (fun e he hh => ?_))).symm
    have hw := (hA e he).1
    refine h3 (60 * (zegd l e).1).toNat (by omega) (Or.inl ⟨e, he, Or.inl ?_⟩)
    omega
  · rw [h1, Int.toNat_natCast]
    refine (zU_ext (n := u) 3600 (by omega) (fun j j1 hj => zact_0 (fun e he hh => ?_))).symm
    have hw := (hA e he).1
    refine h4 (60 * (zegd l e).2.1).toNat (by omega) (by omega) (Or.inl ⟨e, he, Or.inr ?_⟩)
    omega
end ZFINE
