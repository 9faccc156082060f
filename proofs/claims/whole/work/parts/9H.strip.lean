/-! strips: edges in order, and what lies between them -/
section ZSTRIP
def zF (m : Nat → Int) (b : Nat → Nat) (g : Nat → Bool) : Nat → Int → List Nat → Int
  | _, _, [] => 0
  | acc, m0, a :: t => (if g acc = true then m a - m0 else 0) + zF m b g (acc ^^^ b a) (m a) t
theorem zF_n (m : Nat → Int) (b : Nat → Nat) (g : Nat → Bool) (acc : Nat) (m0 : Int) : zF m b g acc m0 [] = 0 := rfl
theorem zF_s (m : Nat → Int) (b : Nat → Nat) (g : Nat → Bool) (acc : Nat) (m0 : Int) (a : Nat) (t : List Nat) : zF m b g acc m0 (a :: t) = (if g acc = true then m a - m0 else 0) + zF m b g (acc ^^^ b a) (m a) t := rfl
theorem zF_tie {m : Nat → Int} {b : Nat → Nat} {g : Nat → Bool} {a : Nat} {v : List Nat} : ∀ (u : List Nat) (acc : Nat) (m0 : Int), (∀ x, x ∈ u → m x = m a) → zF m b g acc m0 (u ++ a :: v) = zF m b g acc m0 (a :: (u ++ v))
  | [], acc, m0, _ => rfl
  | x :: u, acc, m0, h => by
    have hx := h x (List.mem_cons_self ..)
    have ih := zF_tie (b := b) (g := g) (v := v) u (acc ^^^ b x) (m x) (fun y hy => h y (List.mem_cons_of_mem _ hy))
    rw [List.cons_append, List.cons_append, zF_s, ih, zF_s, zF_s, zF_s, hx, Nat.xor_assoc, Nat.xor_comm (b x) (b a), ← Nat.xor_assoc]
    have e : ∀ (c : Prop) [Decidable c], (if c then m a - m a else 0) = 0 := fun c _ => by split <;> omega
    rw [e, e]
def zSo (m : Nat → Int) (l : List Nat) : Prop := l.Pairwise (fun a c => m a ≤ m c)
theorem zF_perm {m : Nat → Int} {b : Nat → Nat} {g : Nat → Bool} : ∀ (l k : List Nat) (acc : Nat) (m0 : Int), zSo m l → zSo m k → l.Perm k → zF m b g acc m0 l = zF m b g acc m0 k
  | [], k, acc, m0, _, _, h => by
    rw [List.Perm.eq_nil h.symm]
  | a :: t, k, acc, m0, hl, hk, h => by
    have ha : a ∈ k := h.mem_iff.mp (List.mem_cons_self ..)
    obtain ⟨u, v, rfl⟩ := List.append_of_mem ha
    have hl2 := List.pairwise_cons.mp hl
    have hk2 := List.pairwise_append.mp hk
    have hu : ∀ x, x ∈ u → m x = m a := fun x hx => by
      have h1 : m x ≤ m a := hk2.2.2 x hx a (List.mem_cons_self ..)
      have h2 : x ∈ a :: t := h.mem_iff.mpr (List.mem_append_left _ hx)
      have h3 : m a ≤ m x := by
        rcases List.mem_cons.mp h2 with h4 | h4
        · rw [h4]; omega
        · exact hl2.1 x h4
      omega
    rw [zF_tie u acc m0 hu, zF_s, zF_s]
    have hp : t.Perm (u ++ v) := List.Perm.cons_inv (h.trans List.perm_middle)
    have hs : zSo m (u ++ v) := by
      refine List.pairwise_append.mpr ⟨hk2.1, (List.pairwise_cons.mp hk2.2.1).2, fun x hx y hy => hk2.2.2 x hx y (List.mem_cons_of_mem _ hy)⟩
    rw [zF_perm t (u ++ v) _ _ hl2.2 hs hp]
/-- the sum between the first and the last -/
def zFV (m : Nat → Int) (b : Nat → Nat) (g : Nat → Bool) : List Nat → Int
  | [] => 0
  | a :: t => zF m b g (0 ^^^ b a) (m a) t
theorem zFV_perm {m : Nat → Int} {b : Nat → Nat} {g : Nat → Bool} {l k : List Nat} (hl : zSo m l) (hk : zSo m k) (h : l.Perm k) : zFV m b g l = zFV m b g k := by
  cases l with
  | nil => rw [List.Perm.eq_nil h.symm]
  | cons a t =>
    cases k with
    | nil => exact absurd h.length_eq (by simp)
    | cons c w =>
      have h1 := List.pairwise_cons.mp hl
      have h2 := List.pairwise_cons.mp hk
      have e : m a = m c := by
        have h3 : a ∈ c :: w := h.mem_iff.mp (List.mem_cons_self ..)
        have h4 : c ∈ a :: t := h.mem_iff.mpr (List.mem_cons_self ..)
        have h5 : m c ≤ m a := by
          rcases List.mem_cons.mp h3 with h6 | h6
          · rw [h6]; omega
          · exact h2.1 a h6
        have h7 : m a ≤ m c := by
          rcases List.mem_cons.mp h4 with h6 | h6
          · rw [h6]; omega
          · exact h1.1 c h6
        omega
      have key := zF_perm (g := g) (b := b) (a :: t) (c :: w) 0 (m a) hl hk h
      rw [zF_s, zF_s, ← e] at key
      have z : ∀ (c : Prop) [Decidable c], (if c then m a - m a else 0) = 0 := fun c _ => by split <;> omega
      rw [z] at key
      show zF m b g (0 ^^^ b a) (m a) t = zF m b g (0 ^^^ b c) (m c) w
      rw [← e]
      omega
/-- put into its place, behind those that are not greater -/
def zins (m : Nat → Int) (v : Nat) : List Nat → List Nat
  | [] => [v]
  | a :: t => if m v < m a then v :: a :: t else a :: zins m v t
theorem zins_p (m : Nat → Int) (v : Nat) : ∀ l, (zins m v l).Perm (v :: l)
  | [] => List.Perm.refl _
  | a :: t => by
    unfold zins
    split
    · exact List.Perm.refl _
    · exact ((zins_p m v t).cons a).trans (List.Perm.swap v a t)
theorem zins_s (m : Nat → Int) (v : Nat) : ∀ l, zSo m l → zSo m (zins m v l)
  | [], _ => by unfold zins; exact List.pairwise_singleton _ _
  | a :: t, h => by
    have h1 := List.pairwise_cons.mp h
    unfold zins
    by_cases hv : m v < m a
    · rw [if_pos hv]
      refine List.pairwise_cons.mpr ⟨fun y hy => ?_, h⟩
      rcases List.mem_cons.mp hy with h6 | h6
      · rw [h6]; omega
      · have := h1.1 y h6; omega
    · rw [if_neg hv]
      refine List.pairwise_cons.mpr ⟨fun y hy => ?_, zins_s m v t h1.2⟩
      rcases List.mem_cons.mp ((zins_p m v t).mem_iff.mp hy) with h6 | h6
      · rw [h6]; omega
      · exact h1.1 y h6
def zsrt (m : Nat → Int) (l : List Nat) : List Nat := l.foldr (zins m) []
theorem zsrt_p (m : Nat → Int) : ∀ l, (zsrt m l).Perm l
  | [] => List.Perm.refl _
  | a :: t => (zins_p m a _).trans ((zsrt_p m t).cons a)
theorem zsrt_s (m : Nat → Int) : ∀ l, zSo m (zsrt m l)
  | [] => List.Pairwise.nil
  | a :: t => zins_s m a _ (zsrt_s m t)
/-- an edge: lower and upper y, lean, base, bit -/
abbrev zEd : Type := Int × Int × Int × Int × Nat
def zegd (l : List zEd) (e : Nat) : zEd := l.getD e (0, 0, 0, 0, 0)
def zmd2 (l : List zEd) (u v : Int) (e : Nat) : Int := 120 * (zegd l e).2.2.2.1 + (u + v) * (zegd l e).2.2.1
def zebi (l : List zEd) (e : Nat) : Nat := (zegd l e).2.2.2.2
def zAct (l : List zEd) (u v : Int) : List Nat := (List.range l.length).filter (fun e => decide (60 * (zegd l e).1 ≤ u ∧ v ≤ 60 * (zegd l e).2.1))
/-- a strip -/
def zSV (l : List zEd) (g : Nat → Bool) (u v : Int) : Int := zFV (zmd2 l u v) (zebi l) g (zsrt (zmd2 l u v) (zAct l u v))
theorem zSV_of {l : List zEd} {g : Nat → Bool} {u v : Int} {k : List Nat} (hs : zSo (zmd2 l u v) k) (hp : k.Perm (zAct l u v)) : zFV (zmd2 l u v) (zebi l) g k = zSV l g u v := zFV_perm hs (zsrt_s _ _) (hp.trans (zsrt_p _ _).symm)
/-- where two edges cross -/
def zxy (d c : zEd) : Int := (60 * (c.2.2.2.1 - d.2.2.2.1)).tdiv (d.2.2.1 - c.2.2.1)
def zxs (d c : zEd) (y : Int) : Prop := d.2.2.1 - c.2.2.1 ≠ 0 ∧ y = zxy d c ∧ max (60 * d.1) (60 * c.1) < y ∧ y < min (60 * d.2.1) (60 * c.2.1)
/-- the heights at which the board is cut -/
def zCut (l : List zEd) (y : Int) : Prop := (∃ e, e < l.length ∧ (y = 60 * (zegd l e).1 ∨ y = 60 * (zegd l e).2.1)) ∨ ∃ e c, c < e ∧ e < l.length ∧ zxs (zegd l e) (zegd l c) y

/-- is cut, as a bit -/
noncomputable def zcub (l : List zEd) (y : Nat) : Bool := @decide (zCut l (y : Int)) (Classical.propDecidable _)
theorem zcub_i {l : List zEd} {y : Nat} : zcub l y = true ↔ zCut l (y : Int) := by unfold zcub; exact @decide_eq_true_iff _ (Classical.propDecidable _)
noncomputable def zTot (l : List zEd) (g : Nat → Bool) : Nat → Int × Int
  | 0 => (-1, 0)
  | y + 1 => if zcub l y = true then ((y : Int), if (zTot l g y).1 < 0 then (zTot l g y).2 else (zTot l g y).2 + zSV l g (zTot l g y).1 (y : Int) * ((y : Int) - (zTot l g y).1)) else zTot l g y
end ZSTRIP
