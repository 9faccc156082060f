/-! rows of numbers in arrays; put in order -/
section ZOPEN
variable {L : Nat} {M : zM} {s a b : Nat} {Q : zO → zM → Prop}
def zAL (g : Nat → Int) (l : List Nat) : Prop := ∀ (i x : Nat), l[i]? = some x → g i = (x : Int)
theorem zins_at {m : Nat → Int} {v : Nat} : ∀ (p : List Nat) (t : Nat), t ≤ p.length → (∀ i x, i < t → p[i]? = some x → m x ≤ m v) → (∀ x, p[t]? = some x → m v < m x) → zins m v p = p.take t ++ v :: p.drop t
  | [], t, _, _, _ => by
    rw [List.take_nil, List.drop_nil]
    rfl
  | a :: q, 0, _, _, h => by
    have h1 := h a rfl
    unfold zins
    rw [if_pos h1]
    rfl
  | a :: q, t + 1, ht, h1, h2 => by
    have h3 := h1 0 a (by omega) rfl
    have ih := zins_at q t (by rw [List.length_cons] at ht; omega) (fun i x hi hx => h1 (i + 1) x (by omega) (by rw [List.getElem?_cons_succ]; exact hx)) (fun x hx => h2 x (by rw [List.getElem?_cons_succ]; exact hx))
    unfold zins
    rw [if_neg (by omega), ih]
    rfl
theorem zgt_ins {p : List Nat} {t v i : Nat} (ht : t ≤ p.length) : (p.take t ++ v :: p.drop t)[i]? = if i < t then p[i]? else if i = t then some v else p[i - 1]? := by
  have hl : (p.take t).length = t := by rw [List.length_take]; omega
  by_cases h1 : i < t
  · rw [if_pos h1, List.getElem?_append_left (by omega), List.getElem?_take_of_lt h1]
  · rw [if_neg h1, List.getElem?_append_right (by omega), hl]
    by_cases h2 : i = t
    · subst h2
      rw [if_pos rfl, Nat.sub_self]
      rfl
    · obtain ⟨d, rfl⟩ : ∃ d, i = t + 1 + d := ⟨i - t - 1, by omega⟩
      rw [if_neg h2, show t + 1 + d - t = d + 1 by omega, List.getElem?_cons_succ, List.getElem?_drop, show t + 1 + d - 1 = t + d by omega]
/-- while room is made -/
def zMk (m : Nat → Int) (v : Nat) (p : List Nat) (t : Nat) (g : Nat → Int) : Prop := (∀ i x, i < t → p[i]? = some x → g i = (x : Int)) ∧ ∀ i x, t ≤ i → p[i]? = some x → g (i + 1) = (x : Int) ∧ m v < m x
theorem zMk_e {m : Nat → Int} {v : Nat} {p : List Nat} {t : Nat} {g : Nat → Int} (hs : zSo m p) (ht : t ≤ p.length) (h : zMk m v p t g) (he : t = 0 ∨ ∃ x, p[t - 1]? = some x ∧ m x ≤ m v) : zAL (zup g t (v : Int)) (zins m v p) := by
  have e : zins m v p = p.take t ++ v :: p.drop t := by
    refine zins_at p t ht (fun i x hi hx => ?_) (fun x hx => (h.2 t x (Nat.le_refl t) hx).2)
    rcases he with h0 | ⟨y, hy, hm⟩
    · omega
    · by_cases h1 : i = t - 1
      · rw [h1, hy] at hx
        cases hx
        exact hm
      · have h2 : m x ≤ m y := by
          have h3 := List.pairwise_iff_getElem.mp hs i (t - 1) (by omega) (by omega) (by omega)
          rw [List.getElem?_eq_getElem (by omega)] at hx hy
          have hx2 := Option.some.inj hx
          have hy2 := Option.some.inj hy
          rw [hx2, hy2] at h3
          exact h3
        omega
  intro i x hx
  rw [e, zgt_ins ht] at hx
  rw [zup_if]
  by_cases h1 : i < t
  · rw [if_pos h1] at hx
    rw [if_neg (by omega)]
    exact h.1 i x h1 hx
  · rw [if_neg h1] at hx
    by_cases h2 : i = t
    · rw [if_pos h2] at hx ⊢
      cases hx
      rfl
    · rw [if_neg h2] at hx ⊢
      have h3 := (h.2 (i - 1) x (by omega) hx).1
      rw [show i - 1 + 1 = i by omega] at h3
      exact h3
theorem zMk_s {m : Nat → Int} {v : Nat} {p : List Nat} {t x : Nat} {g : Nat → Int} (h : zMk m v p (t + 1) g) (hx : p[t]? = some x) (hm : m v < m x) : zMk m v p t (zup g (t + 1) (x : Int)) := by
  refine ⟨fun i y hi hy => ?_, fun i y hi hy => ?_⟩
  · rw [zup_if, if_neg (by omega)]
    exact h.1 i y (by omega) hy
  · rw [zup_if]
    by_cases h1 : i = t
    · subst h1
      rw [hx] at hy
      cases hy
      rw [if_pos rfl]
      exact ⟨rfl, hm⟩
    · rw [if_neg (by omega)]
      exact h.2 i y (by omega) hy
theorem zMk_0 {m : Nat → Int} {v : Nat} {p : List Nat} {g : Nat → Int} (h : zAL g p) : zMk m v p p.length g := by
  refine ⟨fun i x _ hx => h i x hx, fun i x hi hx => ?_⟩
  rw [List.getElem?_eq_none (by omega)] at hx
  cases hx
theorem zAL_a {g : Nat → Int} {l : List Nat} {v : Nat} (h : zAL g l) : zAL (zup g l.length (v : Int)) (l ++ [v]) := by
  intro i x hx
  rw [zup_if]
  by_cases h1 : i < l.length
  · rw [List.getElem?_append_left h1] at hx
    rw [if_neg (by omega)]
    exact h i x hx
  · rw [List.getElem?_append_right (by omega)] at hx
    by_cases h2 : i = l.length
    · subst h2
      rw [Nat.sub_self] at hx
      rw [if_pos rfl]
      cases hx
      rfl
    · rw [List.getElem?_eq_none (by show 1 ≤ i - l.length; omega)] at hx
      cases hx
theorem zrfs {A : Nat → Bool} {n : Nat} : (List.range (n + 1)).filter A = (List.range n).filter A ++ (if A n = true then [n] else []) := by
  rw [List.range_succ, List.filter_append]
  congr 1
  by_cases h : A n = true
  · rw [if_pos h, List.filter_cons_of_pos h]; rfl
  · rw [if_neg h, List.filter_cons_of_neg h]; rfl
theorem zrf2 {A B : Nat → Bool} (h : ∀ x, A x = true → B x = true → False) : ∀ n, ((List.range n).filter A).length + ((List.range n).filter B).length ≤ n
  | 0 => Nat.le_refl _
  | n + 1 => by
    have ih := zrf2 h n
    have h1 := h n
    rw [zrfs, zrfs, List.length_append, List.length_append]
    by_cases a1 : A n = true <;> by_cases b1 : B n = true
    · exact absurd b1 (h1 a1)
    · rw [if_pos a1, if_neg b1]; simp; omega
    · rw [if_neg a1, if_pos b1]; simp; omega
    · rw [if_neg a1, if_neg b1]; simp; omega
theorem zrfy {B : Nat → Bool} {e : Nat} : ∀ n, e ≤ n → ((List.range e).filter B).length ≤ ((List.range n).filter B).length ∧ (e < n → B e = true → ((List.range e).filter B).length + 1 ≤ ((List.range n).filter B).length)
  | 0, h => ⟨by rw [show e = 0 by omega]; exact Nat.le_refl _, fun h2 => by omega⟩
  | n + 1, h => by
    by_cases he : e = n + 1
    · rw [he]; exact ⟨Nat.le_refl _, fun h2 => by omega⟩
    · have ih := zrfy (B := B) n (show e ≤ n by omega)
      rw [zrfs, List.length_append]
      refine ⟨by omega, fun _ hb => ?_⟩
      by_cases h2 : e = n
      · subst h2
        rw [if_pos hb]; simp
      · have := ih.2 (by omega) hb
        omega
theorem zrfe {B : Nat → Bool} {e : Nat} : ∀ n, e ≤ n → (∀ x, e ≤ x → x < n → B x ≠ true) → (List.range n).filter B = (List.range e).filter B
  | 0, h, _ => by rw [show e = 0 by omega]
  | n + 1, h, hb => by
    by_cases he : e = n + 1
    · rw [he]
    · rw [zrfs, if_neg (hb n (by omega) (by omega)), List.append_nil]
      exact zrfe n (by omega) (fun x h1 h2 => hb x h1 (by omega))
theorem zrfz {A B C : Nat → Bool} (hd : ∀ x, A x = true → B x = true → False) : ∀ n, (∀ x, x < n → (C x = true ↔ (A x = true ∨ B x = true))) → ((List.range n).filter A ++ (List.range n).filter B).Perm ((List.range n).filter C)
  | 0, _ => List.Perm.refl _
  | n + 1, h => by
    have ih := zrfz hd n (fun x hx => h x (by omega))
    have h1 := h n (by omega)
    have h2 := hd n
    rw [zrfs, zrfs, zrfs]
    by_cases a1 : A n = true <;> by_cases b1 : B n = true
    · exact absurd b1 (h2 a1)
    · rw [if_pos a1, if_neg b1, if_pos (h1.mpr (Or.inl a1)), List.append_nil, List.append_assoc]
      exact (List.perm_middle.trans (List.Perm.cons n ih)).trans (List.perm_append_singleton n _).symm
    · rw [if_neg a1, if_pos b1, if_pos (h1.mpr (Or.inr b1)), List.append_nil, ← List.append_assoc]
      exact ih.append_right _
    · rw [if_neg a1, if_neg b1, if_neg (fun h => (h1.mp h).elim a1 b1), List.append_nil, List.append_nil, List.append_nil]
      exact ih
end ZOPEN
