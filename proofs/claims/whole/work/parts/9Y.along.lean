/-! the class: a line of the ways, there and back -/
section ZALONG
variable {L : Nat} {M : zM} {s t : Nat} {Q : zO → zM → Prop}
/-- no mark from j up to k, or down -/
def zclr2 (m : Nat → Int) (j k : Nat) : Prop := ∀ z, ((j ≤ z ∧ z ≤ k) ∨ (k ≤ z ∧ z ≤ j)) → m z = 0
/-- what comes along to k, from sources ahead of it -/
def zcfw (m F : Nat → Int) (b : Int) (k : Nat) (c : Int) : Prop := (c = 1073741824 ∨ ∃ j, j < k ∧ (∀ z, j < z → z < k → m z = 0) ∧ F j / 4096 = b - 1 ∧ c = F j + 4096 + ((k : Int) - 1 - (j : Int))) ∧ (∀ j, j < k → (∀ z, j < z → z < k → m z = 0) → F j / 4096 = b - 1 → c ≤ F j + 4096 + ((k : Int) - 1 - (j : Int))) ∧ c ≤ 1073741824
/-- what comes to k itself -/
def zcto (m F : Nat → Int) (b : Int) (k : Nat) (c : Int) : Prop := (c = 1073741824 ∨ ∃ j, j < k ∧ (∀ z, j < z → z ≤ k → m z = 0) ∧ F j / 4096 = b - 1 ∧ c = F j + 4096 + ((k : Int) - (j : Int))) ∧ (∀ j, j < k → (∀ z, j < z → z ≤ k → m z = 0) → F j / 4096 = b - 1 → c ≤ F j + 4096 + ((k : Int) - (j : Int))) ∧ c ≤ 1073741824
theorem zcto_of {m F : Nat → Int} {b c : Int} {k : Nat} (hb : b ≤ 8000) (h : zcfw m F b k c) (hk : k ≤ 61) : zcto m F b k (if m k ≠ 0 then 1073741824 else if c < 1073741824 then c + 1 else c) := by
  obtain ⟨h1, h2, h3⟩ := h
  by_cases hm : m k ≠ 0
  · rw [if_pos hm]
    exact ⟨Or.inl rfl, fun j hj hz => absurd (hz k hj (Nat.le_refl k)) hm, Int.le_refl _⟩
  · rw [if_neg hm]
    have hm : m k = 0 := Classical.byContradiction hm
    have ext : ∀ j, j < k → (∀ z, j < z → z < k → m z = 0) → (∀ z, j < z → z ≤ k → m z = 0) := fun j hj hz z h5 h6 => by
      by_cases e : z = k
      · rw [e]; exact hm
      · exact hz z h5 (by omega)
    have src : ∀ j, j < k → (∀ z, j < z → z ≤ k → m z = 0) → F j / 4096 = b - 1 → F j + 4096 + ((k : Int) - (j : Int)) < 1073741824 := fun j hj _ hs => by omega
    by_cases hc : c < 1073741824
    · rw [if_pos hc]
      refine ⟨?_, fun j hj hz hs => ?_, by omega⟩
      · rcases h1 with h1 | ⟨j, j1, j2, j3, j4⟩
        · omega
        · exact Or.inr ⟨j, j1, ext j j1 j2, j3, by omega⟩
      · have := h2 j hj (fun z h5 h6 => hz z h5 (by omega)) hs
        omega
    · rw [if_neg hc]
      refine ⟨Or.inl (by omega), fun j hj hz hs => ?_, h3⟩
      have h5 := h2 j hj (fun z h5 h6 => hz z h5 (by omega)) hs
      have h6 := src j hj hz hs
      omega
theorem zcfw_s {m F : Nat → Int} {b c : Int} {k : Nat} (hb : b ≤ 8000) (h : zcto m F b k c) (hk : k ≤ 61) : zcfw m F b (k + 1) (if F k / 4096 = b - 1 then min c (F k + 4096) else c) := by
  obtain ⟨h1, h2, h3⟩ := h
  have up : ∀ j, j < k → (∀ z, j < z → z < k + 1 → m z = 0) → (∀ z, j < z → z ≤ k → m z = 0) := fun j hj hz z h5 h6 => hz z h5 (by omega)
  by_cases hs : F k / 4096 = b - 1
  · rw [if_pos hs]
    refine ⟨?_, fun j hj hz hsj => ?_, by omega⟩
    · by_cases hlt : F k + 4096 ≤ c
      · refine Or.inr ⟨k, by omega, fun z h5 h6 => by omega, hs, ?_⟩
        rw [Int.min_eq_right hlt]
        omega
      · rw [Int.min_eq_left (by omega)]
        rcases h1 with h1 | ⟨j, j1, j2, j3, j4⟩
        · omega
        · exact Or.inr ⟨j, by omega, fun z h5 h6 => j2 z h5 (by omega), j3, by omega⟩
    · by_cases e : j = k
      · subst e; omega
      · have := h2 j (by omega) (up j (by omega) hz) hsj
        omega
  · rw [if_neg hs]
    refine ⟨?_, fun j hj hz hsj => ?_, h3⟩
    · rcases h1 with h1 | ⟨j, j1, j2, j3, j4⟩
      · exact Or.inl h1
      · exact Or.inr ⟨j, by omega, fun z h5 h6 => j2 z h5 (by omega), j3, by omega⟩
    · by_cases e : j = k
      · subst e; exact absurd hsj hs
      · have := h2 j (by omega) (up j (by omega) hz) hsj
        omega
theorem zcfw_0 (m F : Nat → Int) (b : Int) : zcfw m F b 0 1073741824 := ⟨Or.inl rfl, fun j hj => absurd hj (Nat.not_lt_zero j), Int.le_refl _⟩
/-- a place of the raster, by a line's first and its step -/
def zatl (first step k : Nat) : Nat := first + k * step
/-- after a line: what stands in 'to' and the news -/
def zaln (m F T T' N N' : Nat → Int) (b : Int) (isn : Int) : Prop :=
  (∀ k, k < 61 → T' k ≤ T k) ∧
  (∀ k, k < 61 → T' k = T k ∨ (T' k < T k ∧ N' k = b ∧ isn = 1 ∧ ∃ j, j < 61 ∧ j ≠ k ∧ (∀ z, ((j < z ∧ z ≤ k) ∨ (k ≤ z ∧ z < j)) → m z = 0) ∧ F j / 4096 = b - 1 ∧ T' k = F j + 4096 + (((k : Int) - (j : Int)).natAbs : Int))) ∧
  (∀ k, k < 61 → ∀ j, j < 61 → j ≠ k → (∀ z, ((j < z ∧ z ≤ k) ∨ (k ≤ z ∧ z < j)) → m z = 0) → F j / 4096 = b - 1 → T' k ≤ F j + 4096 + (((k : Int) - (j : Int)).natAbs : Int)) ∧
  (∀ k, k < 61 → N' k = N k ∨ N' k = b) ∧ (isn = 0 ∨ isn = 1) ∧ (isn = 1 → ∃ k, k < 61 ∧ T' k < T k)
end ZALONG
