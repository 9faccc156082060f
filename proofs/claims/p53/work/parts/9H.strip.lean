section SG_9H_strip
/-! strips: edges in order, and what lies between them -/
section ZSTRIP
def zF (m : Nat → Int) (b : Nat → Nat) (g : Nat → Bool) : Nat → Int → List Nat → Int
  | _, _, [] => 0
  | acc, m0, a :: t => (if g acc = true then m a - m0 else 0) + zF m b g (acc ^^^ b a) (m a) t
theorem zF_n (m : Nat → Int) (b : Nat → Nat) (g : Nat → Bool) (acc : Nat) (m0 : Int) : zF m b g acc m0 [] = 0 := rfl
theorem zF_s (m : Nat → Int) (b : Nat → Nat) (g : Nat → Bool) (acc : Nat) (m0 : Int) (a : Nat) (t : List Nat) : zF m b g acc m0 (a :: t) = (if g acc = true then m a - m0 else 0) + zF m b g (acc ^^^ b a) (m a) t := rfl
theorem zF_tie {m : Nat → Int} {b : Nat → Nat} {g : Nat → Bool} {a : Nat} {v : List Nat} : ∀ (u : List Nat) (acc : Nat) (m0 : Int), (∀ x, x ∈ u → m x = m a) → zF m b g acc m0 (u ++ a :: v) = zF m b g acc m0 (a :: (u ++ v))
  | [], acc, m0, _ => rfl
  | x :: u, acc, m0, h => by
    have hx := h x (List.mem_cons_self ..)
    have ih := zF_tie (b := b) (g := g) (v := v) u (acc ^^^ b x) (m x) (fun y hy => h y (List.mem_cons_of_mem _ hy))
    rw [List.cons_append, List.cons_append, zF_s, ih, zF_s, zF_s, zF_s, hx, Nat.xor_assoc, Nat.xor_comm (b x) (b a), ← Nat.xor_assoc]
    have e : ∀ (c : Prop) [Decidable c], (if c then m a - m a else 0) = 0 := fun c _ => by split <;> omega
    rw [e, e]
def zSo (m : Nat → Int) (l : List Nat) : Prop := l.Pairwise (fun a c => m a ≤ m c)
theorem zF_perm {m : Nat → Int} {b : Nat → Nat} {g : Nat → Bool} : ∀ (l k : List Nat) (acc : Nat) (m0 : Int), zSo m l → zSo m k → l.Perm k → zF m b g acc m0 l = zF m b g acc m0 k
  | [], k, acc, m0, _, _, h => by
    rw [List.Perm.eq_nil h.symm]
  | a :: t, k, acc, m0, hl, hk, h => by
    have ha : a ∈ k := h.mem_iff.mp (List.mem_cons_self ..)
    obtain ⟨u, v, rfl⟩ := List.append_of_mem ha
    have hl2 := List.pairwise_cons.mp hl
    have hk2 := List.pairwise_append.mp hk
    have hu : ∀ x, x ∈ u → m x = m a := fun x hx => by
      have h1 : m x ≤ m a := hk2.2.2 x hx a (List.mem_cons_self ..)
      have h2 : x ∈ a :: t := h.mem_iff.mpr (List.mem_append_left _ hx)
      have h3 : m a ≤ m x := by
        rcases List.mem_cons.mp h2 with h4 | h4
        · rw [h4]; omega
        · exact hl2.1 x h4
      omega
    rw [zF_tie u acc m0 hu, zF_s, zF_s]
    have hp : t.Perm (u ++ v) := List.Perm.cons_inv (h.trans List.perm_middle)
    have hs : zSo m (u ++ v) := by
      refine List.pairwise_append.mpr ⟨hk2.1, (List.pairwise_cons.mp hk2.2.1).2, fun x hx y hy => hk2.2.2 x hx y (List.mem_cons_of_mem _ hy)⟩
    rw [zF_perm t (u ++ v) _ _ hl2.2 hs hp]
/-- the sum between the first and the last -/
def zFV (m : Nat → Int) (b : Nat → Nat) (g : Nat → Bool) : List Nat → Int
  | [] => 0
  | a :: t => zF m b g (0 ^^^ b a) (m a) t
theorem zFV_perm {m : Nat → Int} {b : Nat → Nat} {g : Nat → Bool} {l k : List Nat} (hl : zSo m l) (hk : zSo m k) (h : l.Perm k) : zFV m b g l = zFV m b g k := by
  cases l with
  | nil => rw [List.Perm.eq_nil h.symm]
  | cons a t =>
    cases k with
    | nil => exact absurd h.length_eq (by simp)
    | cons c w =>
      have h1 := List.pairwise_cons.mp hl
      have h2 := List.pairwise_cons.mp hk
      have e : m a = m c := by
        have h3 : a ∈ c :: w := h.mem_iff.mp (List.mem_cons_self ..)
        have h4 : c ∈ a :: t := h.mem_iff.mpr (List.mem_cons_self ..)
        have h5 : m c ≤ m a := by
          rcases List.mem_cons.mp h3 with h6 | h6
          · rw [h6]; omega
          · exact h2.1 a h6
        have h7 : m a ≤ m c := by
          rcases List.mem_cons.mp h4 with h6 | h6
          · rw [h6]; omega
          · exact h1.1 c h6
        omega
      have key := zF_perm (g := g) (b := b) (a :: t) (c :: w) 0 (m a) hl hk h
      rw [zF_s, zF_s, ← e] at key
      have z : ∀ (c : Prop) [Decidable c], (if c then m a - m a else 0) = 0 := fun c _ => by split <;> omega
      rw [z] at key
      show zF m b g (0 ^^^ b a) (m a) t = zF m b g (0 ^^^ b c) (m c) w
      rw [← e]
      omega
/-- put into its place, behind those that are not greater -/
def zins (m : Nat → Int) (v : Nat) : List Nat → List Nat
  | [] => [v]
  | a :: t => if m v < m a then v :: a :: t else a :: zins m v t
theorem zins_p (m : Nat → Int) (v : Nat) : ∀ l, (zins m v l).Perm (v :: l)
  | [] => List.Perm.refl _
  | a :: t => by
    unfold zins
    split
    · exact List.Perm.refl _
    · exact ((zins_p m v t).cons a).trans (List.Perm.swap v a t)
theorem zins_s (m : Nat → Int) (v : Nat) : ∀ l, zSo m l → zSo m (zins m v l)
  | [], _ => by unfold zins; exact List.pairwise_singleton _ _
  | a :: t, h => by
    have h1 := List.pairwise_cons.mp h
    unfold zins
    by_cases hv : m v < m a
    · rw [if_pos hv]
      refine List.pairwise_cons.mpr ⟨fun y hy => ?_, h⟩
      rcases List.mem_cons.mp hy with h6 | h6
      · rw [h6]; omega
      · have := h1.1 y h6; omega
    · rw [if_neg hv]
      refine List.pairwise_cons.mpr ⟨fun y hy => ?_, zins_s m v t h1.2⟩
      rcases List.mem_cons.mp ((zins_p m v t).mem_iff.mp hy) with h6 | h6
      · rw [h6]; omega
      · exact h1.1 y h6
def zsrt (m : Nat → Int) (l : List Nat) : List Nat := l.foldr (zins m) []
theorem zsrt_p (m : Nat → Int) : ∀ l, (zsrt m l).Perm l
  | [] => List.Perm.refl _
  | a :: t => (zins_p m a _).trans ((zsrt_p m t).cons a)
theorem zsrt_s (m : Nat → Int) : ∀ l, zSo m (zsrt m l)
  | [] => List.Pairwise.nil
  | a :: t => zins_s m a _ (zsrt_s m t)
/-- an edge: lower and upper y, lean, base, bit -/
abbrev zEd : Type := Int × Int × Int × Int × Nat
def zegd (l : List zEd) (e : Nat) : zEd := l.getD e (0, 0, 0, 0, 0)
def zmd2 (l : List zEd) (u v : Int) (e : Nat) : Int := 120 * (zegd l e).2.2.2.1 + (u + v) * (zegd l e).2.2.1
def zebi (l : List zEd) (e : Nat) : Nat := (zegd l e).2.2.2.2
def zAct (l : List zEd) (u v : Int) : List Nat := (List.range l.length).filter (fun e => decide (60 * (zegd l e).1 ≤ u ∧ v ≤ 60 * (zegd l e).2.1))
/-- a strip -/
def zSV (l : List zEd) (g : Nat → Bool) (u v : Int) : Int := zFV (zmd2 l u v) (zebi l) g (zsrt (zmd2 l u v) (zAct l u v))
theorem zSV_of {l : List zEd} {g : Nat → Bool} {u v : Int} {k : List Nat} (hs : zSo (zmd2 l u v) k) (hp : k.Perm (zAct l u v)) : zFV (zmd2 l u v) (zebi l) g k = zSV l g u v := zFV_perm hs (zsrt_s _ _) (hp.trans (zsrt_p _ _).symm)
/-- where two edges cross -/
def zxy (d c : zEd) : Int := (60 * (c.2.2.2.1 - d.2.2.2.1)).tdiv (d.2.2.1 - c.2.2.1)
def zxs (d c : zEd) (y : Int) : Prop := d.2.2.1 - c.2.2.1 ≠ 0 ∧ y = zxy d c ∧ max (60 * d.1) (60 * c.1) < y ∧ y < min (60 * d.2.1) (60 * c.2.1)
/-- the heights at which the board is cut -/
def zCut (l : List zEd) (y : Int) : Prop := (∃ e, e < l.length ∧ (y = 60 * (zegd l e).1 ∨ y = 60 * (zegd l e).2.1)) ∨ ∃ e c, c < e ∧ e < l.length ∧ zxs (zegd l e) (zegd l c) y

/-- is cut, as a bit -/
noncomputable def zcub (l : List zEd) (y : Nat) : Bool := @decide (zCut l (y : Int)) (Classical.propDecidable _)
theorem zcub_i {l : List zEd} {y : Nat} : zcub l y = true ↔ zCut l (y : Int) := by unfold zcub; exact @decide_eq_true_iff _ (Classical.propDecidable _)
noncomputable def zTot (l : List zEd) (g : Nat → Bool) : Nat → Int × Int
  | 0 => (-1, 0)
  | y + 1 => if zcub l y = true then ((y : Int), if (zTot l g y).1 < 0 then (zTot l g y).2 else (zTot l g y).2 + zSV l g (zTot l g y).1 (y : Int) * ((y : Int) - (zTot l g y).1)) else zTot l g y
end ZSTRIP
end SG_9H_strip
section SG_9I_load
/-! the class: edges loaded -/
section ZLOAD
variable {L : Nat} {M : zM} {s a b : Nat} {Q : zO → zM → Prop}
theorem zPoA_sw {p : Nat} (h : zPoA p) : p < 1103 ∨ 1114 < p := by
  rcases h with ⟨s, k, hs, hk, rfl⟩ | ⟨i, hi, rfl⟩ | rfl | rfl
  · rcases hs with ⟨i, hi, rfl⟩ | rfl | rfl <;> omega
  · omega
  · omega
  · omega
theorem zegd_l {l : List zEd} {d : zEd} {e : Nat} (h : e < l.length) : zegd (l ++ [d]) e = zegd l e := by
  unfold zegd
  rw [List.getD_eq_getElem?_getD, List.getD_eq_getElem?_getD, List.getElem?_append_left h]
theorem zegd_n {l : List zEd} {d : zEd} : zegd (l ++ [d]) l.length = d := by
  unfold zegd
  rw [List.getD_eq_getElem?_getD, List.getElem?_append_right (Nat.le_refl _), Nat.sub_self]
  rfl
/-- an edge as it must be -/
def zEw (d : zEd) : Prop := (0 ≤ d.1 ∧ d.1 < d.2.1 ∧ d.2.1 ≤ 60) ∧ (-120 ≤ d.2.2.1 ∧ d.2.2.1 ≤ 120) ∧ (0 ≤ d.2.2.2.1 + d.1 * d.2.2.1 ∧ d.2.2.2.1 + d.1 * d.2.2.1 ≤ 120) ∧ (0 ≤ d.2.2.2.1 + d.2.1 * d.2.2.1 ∧ d.2.2.2.1 + d.2.1 * d.2.2.1 ≤ 120) ∧ d.2.2.2.2 < 256
def zEA (l : List zEd) : Prop := ∀ e, e < l.length → zEw (zegd l e)
def zCE (f : Nat → Nat → Int) (l : List zEd) : Prop := f 1105 1 = (l.length : Int) ∧ ∀ e, e < l.length → f 1107 e = 60 * (zegd l e).1 ∧ f 1108 e = 60 * (zegd l e).2.1 ∧ f 1109 e = (zegd l e).2.2.1 ∧ f 1110 e = (zegd l e).2.2.2.1 ∧ f 1111 e = ((zegd l e).2.2.2.2 : Int)
def zCk (f : Nat → Nat → Int) (P : Int → Prop) : Prop := ∀ y : Nat, (f 1114 y = 0 ∨ f 1114 y = 1) ∧ (f 1114 y = 1 ↔ P (y : Int))
def zEnd (l : List zEd) (y : Int) : Prop := ∃ e, e < l.length ∧ (y = 60 * (zegd l e).1 ∨ y = 60 * (zegd l e).2.1)
def zCL (f : Nat → Nat → Int) (l : List zEd) : Prop := (0 ≤ f 1105 10 ∧ f 1105 10 ≤ 3600) ∧ (0 ≤ f 1105 11 ∧ f 1105 11 ≤ 3600) ∧ ∀ e, e < l.length → f 1105 10 ≤ 60 * (zegd l e).1 ∧ 60 * (zegd l e).2.1 ≤ f 1105 11
def zELd (f : Nat → Nat → Int) (l : List zEd) : Prop := zCE f l ∧ zCk f (zEnd l) ∧ zCL f l
def zsw (f g : Nat → Nat → Int) : Prop := ∀ a, a < 1105 ∨ 1114 < a → g a = f a
/-- the edge from a corner -/
def zeL (n : Int) (X Y : Nat → Int) (b i : Nat) : List zEd := if Y i = Y (zaf n i) then [] else [(min (Y i) (Y (zaf n i)), max (Y i) (Y (zaf n i)), zle2 n X Y i, 2 * X i - Y i * zle2 n X Y i, b)]
def zeP (n : Int) (X Y : Nat → Int) (b : Nat) : Nat → List zEd
  | 0 => []
  | i + 1 => zeP n X Y b i ++ zeL n X Y b i
def zeS (n : Nat → Int) (X Y : Nat → Nat → Int) (fb : Nat) : Nat → List zEd
  | 0 => []
  | k + 1 => zeS n X Y fb k ++ zeP (n k) (X k) (Y k) (2 ^ (fb + k)) (n k).toNat
/-- an edge laid behind the others -/
def zce1 (f : Nat → Nat → Int) (n lo hi : Nat) (ln bs : Int) (b : Nat) : Nat → Nat → Int := zu2 (zu2 (zu2 (zu2 (zu2 (zu2 (zu2 (zu2 (zu2 (zu2 f 1107 n ((lo : Int) * 60)) 1108 n ((hi : Int) * 60)) 1109 n ln) 1110 n bs) 1111 n (b : Int)) 1114 (60 * lo) 1) 1114 (60 * hi) 1) 1105 10 (min (f 1105 10) ((lo : Int) * 60))) 1105 11 (max (f 1105 11) ((hi : Int) * 60))) 1105 1 ((n : Int) + 1)
theorem zce1_d {f : Nat → Nat → Int} {l : List zEd} {lo hi b : Nat} {ln bs : Int} (h : zELd f l) (hlh : lo ≤ hi) (hh : hi ≤ 60) : zELd (zce1 f l.length lo hi ln bs b) (l ++ [((lo : Int), (hi : Int), ln, bs, b)]) ∧ zsw f (zce1 f l.length lo hi ln bs b) := by
  obtain ⟨⟨h1, h2⟩, h3, h4, h5, h6⟩ := h
  have el : (l ++ [((lo : Int), (hi : Int), ln, bs, b)]).length = l.length + 1 := by rw [List.length_append]; rfl
  have r : ∀ a j, zce1 f l.length lo hi ln bs b a j = if a = 1105 ∧ j = 1 then ((l.length : Int) + 1) else if a = 1105 ∧ j = 11 then max (f 1105 11) ((hi : Int) * 60) else if a = 1105 ∧ j = 10 then min (f 1105 10) ((lo : Int) * 60) else if a = 1114 ∧ j = 60 * hi then 1 else if a = 1114 ∧ j = 60 * lo then 1 else if a = 1111 ∧ j = l.length then (b : Int) else if a = 1110 ∧ j = l.length then bs else if a = 1109 ∧ j = l.length then ln else if a = 1108 ∧ j = l.length then (hi : Int) * 60 else if a = 1107 ∧ j = l.length then (lo : Int) * 60 else f a j := fun a j => by
    unfold zce1
    simp only [zu2_if]
  refine ⟨⟨⟨?_, fun e he => ?_⟩, fun y => ?_, ?_, ?_, fun e he => ?_⟩, fun a ha => ?_⟩
  · rw [r, el, if_pos ⟨rfl, rfl⟩]; omega
  · rw [el] at he
    by_cases hn : e = l.length
    · subst hn
      rw [zegd_n]
      simp only [r]
      simp
      omega
    · rw [zegd_l (by omega)]
      have h9 := h2 e (by omega)
      simp only [r]
      simp [hn, h9]
  · have h9 := h3 y
    rw [r]
    simp only [show ¬ ((1114 : Nat) = 1105 ∧ y = 1) from fun h => by omega, show ¬ ((1114 : Nat) = 1105 ∧ y = 11) from fun h => by omega, show ¬ ((1114 : Nat) = 1105 ∧ y = 10) from fun h => by omega, show ¬ ((1114 : Nat) = 1111 ∧ y = l.length) from fun h => by omega, show ¬ ((1114 : Nat) = 1110 ∧ y = l.length) from fun h => by omega, show ¬ ((1114 : Nat) = 1109 ∧ y = l.length) from fun h => by omega, show ¬ ((1114 : Nat) = 1108 ∧ y = l.length) from fun h => by omega, show ¬ ((1114 : Nat) = 1107 ∧ y = l.length) from fun h => by omega, if_false, true_and]
    have hz : zEnd (l ++ [((lo : Int), (hi : Int), ln, bs, b)]) (y : Int) ↔ (zEnd l (y : Int) ∨ y = 60 * lo ∨ y = 60 * hi) := by
      unfold zEnd
      rw [el]
      constructor
      · rintro ⟨e, he, hy⟩
        by_cases hn : e = l.length
        · subst hn
          rw [zegd_n] at hy
          right
          dsimp only at hy
          omega
        · rw [zegd_l (by omega)] at hy
          exact Or.inl ⟨e, by omega, hy⟩
      · rintro (⟨e, he, hy⟩ | hy)
        · exact ⟨e, by omega, by rw [zegd_l he]; exact hy⟩
        · refine ⟨l.length, by omega, ?_⟩
          rw [zegd_n]
          dsimp only
          omega
    rw [hz]
    by_cases e1 : y = 60 * hi
    · rw [if_pos e1]
      exact ⟨Or.inr rfl, fun _ => Or.inr (Or.inr e1), fun _ => rfl⟩
    · rw [if_neg e1]
      by_cases e2 : y = 60 * lo
      · rw [if_pos e2]
        exact ⟨Or.inr rfl, fun _ => Or.inr (Or.inl e2), fun _ => rfl⟩
      · rw [if_neg e2]
        refine ⟨h9.1, fun h => Or.inl (h9.2.mp h), fun h => h9.2.mpr (h.elim id (fun h => h.elim (fun h => absurd h e2) (fun h => absurd h e1)))⟩
  · rw [r]; simp; omega
  · rw [r]; simp; omega
  · rw [el] at he
    rw [r, r]
    simp
    by_cases hn : e = l.length
    · subst hn
      rw [zegd_n]
      dsimp only
      omega
    · rw [zegd_l (by omega)]
      have h9 := h6 e (by omega)
      omega
  · funext j
    rw [r]
    rw [if_neg (by omega), if_neg (by omega), if_neg (by omega), if_neg (by omega), if_neg (by omega), if_neg (by omega), if_neg (by omega), if_neg (by omega), if_neg (by omega), if_neg (by omega)]
set_option maxRecDepth 4000 in
theorem c107 {p e bb : Nat} {f : Nat → Nat → Int} {l : List zEd} (hp : zPoA p) (hR : zLay M.2.2.2) (pg : zPg 0 (f p 0) (f (p + 1)) (f (p + 2))) (he : (e : Int) < f p 0) (hn : l.length < 64) (hl : zELd f l) : zFR (zK L) 107 0 (zcall 107 [.inr (.inr 1105), .inr (.inr p), .inl (e : Int), .inl (bb : Int)]) [] (zwI M f) (fun r M2 => ∃ f', r = .inl none ∧ M2 = zwI M f' ∧ zELd f' (l ++ zeL (f p 0) (f (p + 1)) (f (p + 2)) bb e) ∧ zsw f f') := by
  have hF := hR.1
  unfold zLayF at hF
  obtain ⟨k1, k2, k3⟩ := zK_po (L := L) hp
  obtain ⟨r1, r2⟩ := hR.2.1 p hp
  have hsw := zPoA_sw hp
  have p1 := pg.2.2 e he
  have p2 := pg.2.2 (zaf (f p 0) e) (zaf_lt he)
  have pn := pg.2.1
  have e80 := fun Q => c80 (L := L) (M := zwI M f) (Q := Q) (e := e) hp (by omega)
  rw [zwI_I] at e80
  have lb := zle2_b pg he
  unfold zeL
  generalize hY : f (p + 2) e = Y at *
  generalize hZ : f (p + 2) (zaf (f p 0) e) = Z at *
  generalize hQ : (fun r M2 => ∃ f', r = (Sum.inl none : zO) ∧ M2 = zwI M f' ∧ zELd f' (l ++ (if Y = Z then [] else [(min Y Z, max Y Z, zle2 (f p 0) (f (p + 1)) (f (p + 2)) e, 2 * f (p + 1) e - Y * zle2 (f p 0) (f (p + 1)) (f (p + 2)) e, bb)])) ∧ zsw f f') = Q9
  have h15 : f 1105 1 = (l.length : Int) := hl.1.1
  have main : Y ≠ Z → zFR (zK L) 107 60 [some (.inr (.inr 1105)), some (.inr (.inr p)), some (.inl (e : Int)), some (.inl (bb : Int)), some (.inl Y), some (.inl Z)] [] (zwI M f) Q9 := by
    intro hyz
    rw [if_neg hyz] at hQ
    obtain ⟨lo, hlo⟩ : ∃ lo : Nat, min Y Z = (lo : Int) := ⟨(min Y Z).toNat, by omega⟩
    obtain ⟨hi, hhi⟩ : ∃ hi : Nat, max Y Z = (hi : Int) := ⟨(max Y Z).toNat, by omega⟩
    have eT1 : ((lo : Int) * 60).toNat = 60 * lo := by omega
    have eT2 : ((hi : Int) * 60).toNat = 60 * hi := by omega
    have hne : ∀ q : Nat, 1103 ≤ q → q ≤ 1114 → (p = q) = False := fun q h1 h2 => eq_false (by omega)
    have hne1 : ∀ q : Nat, 1104 ≤ q → q ≤ 1114 → (p + 1 = q) = False := fun q h1 h2 => eq_false (by omega)
    have hne2 : ∀ q : Nat, 1105 ≤ q → q ≤ 1114 → (p + 2 = q) = False := fun q h1 h2 => eq_false (by omega)
    have ox : ∀ b j, b = p ∨ b = p + 1 ∨ b = p + 2 → zu2 (zu2 f 1107 l.length ((lo : Int) * 60)) 1108 l.length ((hi : Int) * 60) b j = f b j := fun b j hb => by rw [zu2_a (by omega), zu2_a (by omega)]
    have o0 : ∀ j, zu2 (zu2 f 1107 l.length ((lo : Int) * 60)) 1108 l.length ((hi : Int) * 60) p j = f p j := fun j => ox _ j (Or.inl rfl)
    have o1 : zu2 (zu2 f 1107 l.length ((lo : Int) * 60)) 1108 l.length ((hi : Int) * 60) (p + 1) = f (p + 1) := funext (fun j => ox _ j (Or.inr (Or.inl rfl)))
    have o2 : zu2 (zu2 f 1107 l.length ((lo : Int) * 60)) 1108 l.length ((hi : Int) * 60) (p + 2) = f (p + 2) := funext (fun j => ox _ j (Or.inr (Or.inr rfl)))
    have e83 := fun Q => c83 (L := L) (M := zwI M (zu2 (zu2 f 1107 l.length ((lo : Int) * 60)) 1108 l.length ((hi : Int) * 60))) (Q := Q) (e := e) hp hR (by rw [zwI_I, o0, o1, o2]; exact pg) (by rw [zwI_I, o0]; exact he)
    rw [zwI_I, o0, o1, o2] at e83
    generalize zle2 (f p 0) (f (p + 1)) (f (p + 2)) e = ln at *
    have mb := zmulb (u := Y) (v := ln) (A := 60) (B := 120) (by omega) (by omega) (by omega) (by omega)
    have fin := zce1_d (ln := ln) (bs := 2 * f (p + 1) e - Y * ln) (b := bb) hl (show lo ≤ hi by omega) (show hi ≤ 60 by omega)
    rw [hlo, hhi] at hQ
    have q9 : Q9 (.inl none) (zwI M (zce1 f l.length lo hi ln (2 * f (p + 1) e - Y * ln) bb)) := by
      subst hQ
      exact ⟨_, rfl, rfl, fin.1, fin.2⟩
    unfold zce1 at q9
    have hcl := hl.2.2
    refine zW_sound 100 [] ?_
    simp only [ZR107, zk_1105, zk_1107, zk_1108, zk_1109, zk_1110, zk_1111, zk_1114, k1, k2, k3, r1, r2, hF, h15, hlo, hhi, zwI_I, zwI_2, zsI_w, zsI_wI, zwI_w, zu2_if, hne, hne1, hne2, eT1, eT2, ZF387.1, ZF387.2.1, ZF387.2.2.1, ZF388.1, ZF388.2.1, ZF388.2.2.1, c387, c388, ZF83.1, ZF83.2.1, ZF83.2.2.1, e83, false_and, and_false, zW_succ, zE_iload, zE_aload, zE_lload, zE_iinc, zE_istore, zE_astore, zE_lstore, zE_iconst, zE_ldc2, zE_iadd, zE_isub, zE_imul, zE_idiv, zE_irem, zE_ineg, zE_iand, zE_ior, zE_ixor, zE_ishl, zE_ishr, zE_land, zE_lor, zE_lxor, zE_lshl, zE_lshr, zE_i2l, zE_lcmp, zE_dup_i, zE_dup_a, zE_dup2_ia, zE_pop_i, zE_pop_a, zE_pop2, zE_goto, zE_if_eq, zE_icmp_eq, zE_if_ne, zE_icmp_ne, zE_if_lt, zE_icmp_lt, zE_if_ge, zE_icmp_ge, zE_if_gt, zE_icmp_gt, zE_if_le, zE_icmp_le, zE_iaload, zE_baload, zE_laload, zE_aaload, zE_iastore, zE_bastore, zE_lastore, zE_aastore, zE_alen, zE_getf0, zE_getf1, zE_getf2, zE_getf3, zE_putf0, zE_putf1, zE_putf2, zE_putf3, zE_new, zE_newa, zE_newq, zE_ireturn, zE_lreturn, zE_areturn, zE_return, zE_athrow, zE_st0, zE_vi0, zE_st1, zE_vi1, zE_st2, zE_vi2, zE_st3, zE_vi3, zE_st4, zE_vi4, zE_st5, zE_vi5, zE_st6, zE_vi6, zE_st7, zE_vi7, zE_st8, zE_vi8, zSt_0, zSL_0, zSt_1n, zSt_1i, zSt_1a, zSt_1l, zSt_2n, zSt_2i, zSt_2a, zSt_2l, zSt_3n, zSt_3i, zSt_3a, zSt_3l, zSt_4n, zSt_4i, zSt_4a, zSt_4l, zSt_5n, zSt_5i, zSt_5a, zSt_5l, zSt_6n, zSt_6i, zSt_6a, zSt_6l, zSt_7n, zSt_7i, zSt_7a, zSt_7l, zSt_8n, zSt_8i, zSt_8a, zSt_8l, zSt_9n, zSt_9i, zSt_9a, zSt_9l, zSt_10n, zSt_10i, zSt_10a, zSt_10l, zSt_11n, zSt_11i, zSt_11a, zSt_11l, zSt_12n, zSt_12i, zSt_12a, zSt_12l, zSt_13n, zSt_13i, zSt_13a, zSt_13l, zSL_1n, zSL_1i, zSL_1a, zSL_1l, zSL_2n, zSL_2i, zSL_2a, zSL_2l, zSL_3n, zSL_3i, zSL_3a, zSL_3l, zSL_4n, zSL_4i, zSL_4a, zSL_4l, zSL_5n, zSL_5i, zSL_5a, zSL_5l, zSL_6n, zSL_6i, zSL_6a, zSL_6l, zSL_7n, zSL_7i, zSL_7a, zSL_7l, zSL_8n, zSL_8i, zSL_8a, zSL_8l, zSL_9n, zSL_9i, zSL_9a, zSL_9l, zSL_10n, zSL_10i, zSL_10a, zSL_10l, zSL_11n, zSL_11i, zSL_11a, zSL_11l, zSL_12n, zSL_12i, zSL_12a, zSL_12l, zLI_0, zLL_0, zLA_0, zLI_1, zLL_1, zLA_1, zLI_2, zLL_2, zLA_2, zLI_3, zLL_3, zLA_3, zLI_4, zLL_4, zLA_4, zLI_5, zLL_5, zLA_5, zLI_6, zLL_6, zLA_6, zLI_7, zLL_7, zLA_7, zLI_8, zLL_8, zLA_8, zLI_9, zLL_9, zLA_9, zLI_10, zLL_10, zLA_10, zLI_11, zLL_11, zLA_11, zLI_12, zLL_12, zLA_12, zLI_13, zLL_13, zLA_13, zst_0, zst_1n, zst_1i, zst_1a, zst_2n, zst_2i, zst_2a, zst_3n, zst_3i, zst_3a, zst_4n, zst_4i, zst_4a, zst_5n, zst_5i, zst_5a, zst_6n, zst_6i, zst_6a, zst_7n, zst_7i, zst_7a, zst_8n, zst_8i, zst_8a, zst_9n, zst_9i, zst_9a, zst_10n, zst_10i, zst_10a, zst_11n, zst_11i, zst_11a, zst_12n, zst_12i, zst_12a, zst_13n, zst_13i, zst_13a, zst_14n, zst_14i, zst_14a, zst_15n, zst_15i, zst_15a, zR1_n, zR1_v, zsum_n, zsum_i, zsum_l, zsum_a, zlen_n, zlen_i, zlen_l, zlen_a, List.not_mem_nil, List.mem_cons, or_false, false_or, or_self, ↓reduceIte, if_false, if_true, Nat.reduceEqDiff, Nat.reduceAdd, Nat.reduceLeDiff, true_and, and_true, reduceCtorEq, ne_eq, Int.toNat_natCast, not_true_eq_false, not_false_eq_true, true_implies, false_implies, implies_true, Int.reduceToNat, Int.toNat_zero, Int.reduceLT, Int.reduceLE, Int.reduceEq, Int.reduceAdd, Int.reduceMul, Int.reduceNeg]
    (repeat' (first | with_reducible refine And.intro ?_ ?_ | with_reducible intro _)) <;> try first | with_reducible rfl | with_reducible assumption | omega | (unfold zr32; omega) | contradiction | (exact absurd (by omega) (by assumption)) | rfl | (simp only [Sum.inl.injEq, Option.some.injEq]; omega)
  have hz8 : zaf (f p 0) e < 8 := by have := zaf_lt he; omega
  have qe : Y = Z → Q9 (.inl none) (zwI M f) := by
    intro h
    subst hQ
    rw [if_pos h, List.append_nil]
    exact ⟨f, rfl, rfl, hl, fun a _ => rfl⟩
  refine zW_sound 60 [60] ?_
  simp only [ZF107, ZR107, zk_1105, k1, k3, r2, hF, h15, hY, hZ, zwI_I, zwI_2, ZF80.1, ZF80.2.1, ZF80.2.2.1, e80, ZF127.1, ZF127.2.1, ZF127.2.2.1, c127, zW_succ, zE_iload, zE_aload, zE_lload, zE_iinc, zE_istore, zE_astore, zE_lstore, zE_iconst, zE_ldc2, zE_iadd, zE_isub, zE_imul, zE_idiv, zE_irem, zE_ineg, zE_iand, zE_ior, zE_ixor, zE_ishl, zE_ishr, zE_land, zE_lor, zE_lxor, zE_lshl, zE_lshr, zE_i2l, zE_lcmp, zE_dup_i, zE_dup_a, zE_dup2_ia, zE_pop_i, zE_pop_a, zE_pop2, zE_goto, zE_if_eq, zE_icmp_eq, zE_if_ne, zE_icmp_ne, zE_if_lt, zE_icmp_lt, zE_if_ge, zE_icmp_ge, zE_if_gt, zE_icmp_gt, zE_if_le, zE_icmp_le, zE_iaload, zE_baload, zE_laload, zE_aaload, zE_iastore, zE_bastore, zE_lastore, zE_aastore, zE_alen, zE_getf0, zE_getf1, zE_getf2, zE_getf3, zE_putf0, zE_putf1, zE_putf2, zE_putf3, zE_new, zE_newa, zE_newq, zE_ireturn, zE_lreturn, zE_areturn, zE_return, zE_athrow, zE_st0, zE_vi0, zE_st1, zE_vi1, zE_st2, zE_vi2, zE_st3, zE_vi3, zE_st4, zE_vi4, zE_st5, zE_vi5, zE_st6, zE_vi6, zE_st7, zE_vi7, zE_st8, zE_vi8, zSt_0, zSL_0, zSt_1n, zSt_1i, zSt_1a, zSt_1l, zSt_2n, zSt_2i, zSt_2a, zSt_2l, zSt_3n, zSt_3i, zSt_3a, zSt_3l, zSt_4n, zSt_4i, zSt_4a, zSt_4l, zSt_5n, zSt_5i, zSt_5a, zSt_5l, zSt_6n, zSt_6i, zSt_6a, zSt_6l, zSt_7n, zSt_7i, zSt_7a, zSt_7l, zSt_8n, zSt_8i, zSt_8a, zSt_8l, zSt_9n, zSt_9i, zSt_9a, zSt_9l, zSt_10n, zSt_10i, zSt_10a, zSt_10l, zSt_11n, zSt_11i, zSt_11a, zSt_11l, zSt_12n, zSt_12i, zSt_12a, zSt_12l, zSt_13n, zSt_13i, zSt_13a, zSt_13l, zSL_1n, zSL_1i, zSL_1a, zSL_1l, zSL_2n, zSL_2i, zSL_2a, zSL_2l, zSL_3n, zSL_3i, zSL_3a, zSL_3l, zSL_4n, zSL_4i, zSL_4a, zSL_4l, zSL_5n, zSL_5i, zSL_5a, zSL_5l, zSL_6n, zSL_6i, zSL_6a, zSL_6l, zSL_7n, zSL_7i, zSL_7a, zSL_7l, zSL_8n, zSL_8i, zSL_8a, zSL_8l, zSL_9n, zSL_9i, zSL_9a, zSL_9l, zSL_10n, zSL_10i, zSL_10a, zSL_10l, zSL_11n, zSL_11i, zSL_11a, zSL_11l, zSL_12n, zSL_12i, zSL_12a, zSL_12l, zLI_0, zLL_0, zLA_0, zLI_1, zLL_1, zLA_1, zLI_2, zLL_2, zLA_2, zLI_3, zLL_3, zLA_3, zLI_4, zLL_4, zLA_4, zLI_5, zLL_5, zLA_5, zLI_6, zLL_6, zLA_6, zLI_7, zLL_7, zLA_7, zLI_8, zLL_8, zLA_8, zLI_9, zLL_9, zLA_9, zLI_10, zLL_10, zLA_10, zLI_11, zLL_11, zLA_11, zLI_12, zLL_12, zLA_12, zLI_13, zLL_13, zLA_13, zst_0, zst_1n, zst_1i, zst_1a, zst_2n, zst_2i, zst_2a, zst_3n, zst_3i, zst_3a, zst_4n, zst_4i, zst_4a, zst_5n, zst_5i, zst_5a, zst_6n, zst_6i, zst_6a, zst_7n, zst_7i, zst_7a, zst_8n, zst_8i, zst_8a, zst_9n, zst_9i, zst_9a, zst_10n, zst_10i, zst_10a, zst_11n, zst_11i, zst_11a, zst_12n, zst_12i, zst_12a, zst_13n, zst_13i, zst_13a, zst_14n, zst_14i, zst_14a, zst_15n, zst_15i, zst_15a, zR1_n, zR1_v, zsum_n, zsum_i, zsum_l, zsum_a, zlen_n, zlen_i, zlen_l, zlen_a, List.not_mem_nil, List.mem_cons, or_false, false_or, or_self, ↓reduceIte, if_false, if_true, Nat.reduceEqDiff, Nat.reduceAdd, Nat.reduceLeDiff, true_and, and_true, reduceCtorEq, ne_eq, Int.toNat_natCast, not_true_eq_false, not_false_eq_true, true_implies, false_implies, implies_true, Int.reduceToNat, Int.toNat_zero, Int.reduceLT, Int.reduceLE, Int.reduceEq, Int.reduceAdd, Int.reduceMul, Int.reduceNeg]
  (repeat' (first | with_reducible refine And.intro ?_ ?_ | with_reducible intro _)) <;> first | omega | (unfold zr32; omega) | exact main (by assumption) | exact qe (by assumption) | exact qe (by omega)
end ZLOAD
end SG_9I_load
section SG_9J_cuts
/-! the class: shapes loaded, the board cut where edges cross -/
section ZCUTS
variable {L : Nat} {M : zM} {s a b : Nat} {Q : zO → zM → Prop}
theorem zShA_sw {p : Nat} (h : zShA p) : p + 14 ≤ 1105 ∨ 1114 < p := by
  rcases h with ⟨i, hi, rfl⟩ | rfl | rfl <;> omega
theorem zeL_n {n : Int} {X Y : Nat → Int} {b i : Nat} : (zeL n X Y b i).length ≤ 1 := by
  unfold zeL
  split
  · exact Nat.zero_le _
  · exact Nat.le_refl _
theorem zeP_n {n : Int} {X Y : Nat → Int} {b : Nat} : ∀ i, (zeP n X Y b i).length ≤ i
  | 0 => Nat.le_refl _
  | i + 1 => by
    have h1 := zeP_n (n := n) (X := X) (Y := Y) (b := b) i
    have h2 := zeL_n (n := n) (X := X) (Y := Y) (b := b) (i := i)
    show (zeP n X Y b i ++ zeL n X Y b i).length ≤ i + 1
    rw [List.length_append]
    omega
theorem zeS_n {n : Nat → Int} {X Y : Nat → Nat → Int} {fb : Nat} : ∀ k, (∀ p, p < k → n p ≤ 8) → (zeS n X Y fb k).length ≤ 8 * k
  | 0, _ => Nat.le_refl _
  | k + 1, h => by
    have h1 := zeS_n (n := n) (X := X) (Y := Y) (fb := fb) k (fun p hp => h p (by omega))
    have h2 := zeP_n (n := n k) (X := X k) (Y := Y k) (b := 2 ^ (fb + k)) (n k).toNat
    have h3 := h k (by omega)
    show (zeS n X Y fb k ++ zeP (n k) (X k) (Y k) (2 ^ (fb + k)) (n k).toNat).length ≤ 8 * (k + 1)
    rw [List.length_append]
    omega
theorem c106 {fb : Nat} {f : Nat → Nat → Int} {l : List zEd} (hs : zShA s) (hR : zLay M.2.2.2) (hw : zSw f s) (hfb : fb ≤ 4) (hn : l.length + 32 ≤ 64) (hl : zELd f l) : zFR (zK L) 106 0 (zcall 106 [.inr (.inr 1105), .inr (.inr s), .inl (fb : Int)]) [] (zwI M f) (fun r M2 => ∃ f', r = .inl none ∧ M2 = zwI M f' ∧ zELd f' (l ++ zeS (zN f s) (zX f s) (zY f s) fb (f s 10).toNat) ∧ zsw f f') := by
  have hF := hR.1
  unfold zLayF at hF
  obtain ⟨k1, k2⟩ := zK_sh (L := L) hs
  obtain ⟨r1, r2⟩ := hR.2.2.1 s hs
  have hsw := zShA_sw hs
  obtain ⟨w1, w2, w3⟩ := hw
  obtain ⟨c, hc⟩ : ∃ c : Nat, f s 10 = (c : Int) := ⟨(f s 10).toNat, by omega⟩
  rw [hc] at w1 w3
  rw [hc, Int.toNat_natCast]
  generalize hQ : (fun r M2 => ∃ f', r = (Sum.inl none : zO) ∧ M2 = zwI M f' ∧ zELd f' (l ++ zeS (zN f s) (zX f s) (zY f s) fb c) ∧ zsw f f') = Q9
  have outer : ∀ k : Nat, k ≤ c → ∀ f' y4 y5, zELd f' (l ++ zeS (zN f s) (zX f s) (zY f s) fb k) → zsw f f' → zFR (zK L) 106 2 [some (.inr (.inr 1105)), some (.inr (.inr s)), some (.inl (fb : Int)), some (.inl (k : Int)), y4, y5] [] (zwI M f') Q9 := by
    refine zloop ?_ ?_
    · intro f' y4 y5 h1 h2
      have e10 : f' s 10 = (c : Int) := by rw [h2 s (by omega), hc]
      refine zW_sound 60 [56] ?_
      simp only [ZR106, k1, zwI_I, e10, zW_succ, zE_iload, zE_aload, zE_lload, zE_iinc, zE_istore, zE_astore, zE_lstore, zE_iconst, zE_ldc2, zE_iadd, zE_isub, zE_imul, zE_idiv, zE_irem, zE_ineg, zE_iand, zE_ior, zE_ixor, zE_ishl, zE_ishr, zE_land, zE_lor, zE_lxor, zE_lshl, zE_lshr, zE_i2l, zE_lcmp, zE_dup_i, zE_dup_a, zE_dup2_ia, zE_pop_i, zE_pop_a, zE_pop2, zE_goto, zE_if_eq, zE_icmp_eq, zE_if_ne, zE_icmp_ne, zE_if_lt, zE_icmp_lt, zE_if_ge, zE_icmp_ge, zE_if_gt, zE_icmp_gt, zE_if_le, zE_icmp_le, zE_iaload, zE_baload, zE_laload, zE_aaload, zE_iastore, zE_bastore, zE_lastore, zE_aastore, zE_alen, zE_getf0, zE_getf1, zE_getf2, zE_getf3, zE_putf0, zE_putf1, zE_putf2, zE_putf3, zE_new, zE_newa, zE_newq, zE_ireturn, zE_lreturn, zE_areturn, zE_return, zE_athrow, zE_st0, zE_vi0, zE_st1, zE_vi1, zE_st2, zE_vi2, zE_st3, zE_vi3, zE_st4, zE_vi4, zE_st5, zE_vi5, zE_st6, zE_vi6, zE_st7, zE_vi7, zE_st8, zE_vi8, zSt_0, zSL_0, zSt_1n, zSt_1i, zSt_1a, zSt_1l, zSt_2n, zSt_2i, zSt_2a, zSt_2l, zSt_3n, zSt_3i, zSt_3a, zSt_3l, zSt_4n, zSt_4i, zSt_4a, zSt_4l, zSt_5n, zSt_5i, zSt_5a, zSt_5l, zSt_6n, zSt_6i, zSt_6a, zSt_6l, zSt_7n, zSt_7i, zSt_7a, zSt_7l, zSt_8n, zSt_8i, zSt_8a, zSt_8l, zSt_9n, zSt_9i, zSt_9a, zSt_9l, zSt_10n, zSt_10i, zSt_10a, zSt_10l, zSt_11n, zSt_11i, zSt_11a, zSt_11l, zSt_12n, zSt_12i, zSt_12a, zSt_12l, zSt_13n, zSt_13i, zSt_13a, zSt_13l, zSL_1n, zSL_1i, zSL_1a, zSL_1l, zSL_2n, zSL_2i, zSL_2a, zSL_2l, zSL_3n, zSL_3i, zSL_3a, zSL_3l, zSL_4n, zSL_4i, zSL_4a, zSL_4l, zSL_5n, zSL_5i, zSL_5a, zSL_5l, zSL_6n, zSL_6i, zSL_6a, zSL_6l, zSL_7n, zSL_7i, zSL_7a, zSL_7l, zSL_8n, zSL_8i, zSL_8a, zSL_8l, zSL_9n, zSL_9i, zSL_9a, zSL_9l, zSL_10n, zSL_10i, zSL_10a, zSL_10l, zSL_11n, zSL_11i, zSL_11a, zSL_11l, zSL_12n, zSL_12i, zSL_12a, zSL_12l, zLI_0, zLL_0, zLA_0, zLI_1, zLL_1, zLA_1, zLI_2, zLL_2, zLA_2, zLI_3, zLL_3, zLA_3, zLI_4, zLL_4, zLA_4, zLI_5, zLL_5, zLA_5, zLI_6, zLL_6, zLA_6, zLI_7, zLL_7, zLA_7, zLI_8, zLL_8, zLA_8, zLI_9, zLL_9, zLA_9, zLI_10, zLL_10, zLA_10, zLI_11, zLL_11, zLA_11, zLI_12, zLL_12, zLA_12, zLI_13, zLL_13, zLA_13, zst_0, zst_1n, zst_1i, zst_1a, zst_2n, zst_2i, zst_2a, zst_3n, zst_3i, zst_3a, zst_4n, zst_4i, zst_4a, zst_5n, zst_5i, zst_5a, zst_6n, zst_6i, zst_6a, zst_7n, zst_7i, zst_7a, zst_8n, zst_8i, zst_8a, zst_9n, zst_9i, zst_9a, zst_10n, zst_10i, zst_10a, zst_11n, zst_11i, zst_11a, zst_12n, zst_12i, zst_12a, zst_13n, zst_13i, zst_13a, zst_14n, zst_14i, zst_14a, zst_15n, zst_15i, zst_15a, zR1_n, zR1_v, zsum_n, zsum_i, zsum_l, zsum_a, zlen_n, zlen_i, zlen_l, zlen_a, List.not_mem_nil, List.mem_cons, or_false, false_or, or_self, ↓reduceIte, if_false, if_true, Nat.reduceEqDiff, Nat.reduceAdd, Nat.reduceLeDiff, true_and, and_true, reduceCtorEq, ne_eq, Int.toNat_natCast, not_true_eq_false, not_false_eq_true, true_implies, false_implies, implies_true, Int.reduceToNat, Int.toNat_zero, Int.reduceLT, Int.reduceLE, Int.reduceEq, Int.reduceAdd, Int.reduceMul, Int.reduceNeg]
      refine ⟨fun _ => ?_, fun h => absurd (by omega) h⟩
      refine zW_sound 60 [] ?_
      simp only [ZR106, zW_succ, zE_iload, zE_aload, zE_lload, zE_iinc, zE_istore, zE_astore, zE_lstore, zE_iconst, zE_ldc2, zE_iadd, zE_isub, zE_imul, zE_idiv, zE_irem, zE_ineg, zE_iand, zE_ior, zE_ixor, zE_ishl, zE_ishr, zE_land, zE_lor, zE_lxor, zE_lshl, zE_lshr, zE_i2l, zE_lcmp, zE_dup_i, zE_dup_a, zE_dup2_ia, zE_pop_i, zE_pop_a, zE_pop2, zE_goto, zE_if_eq, zE_icmp_eq, zE_if_ne, zE_icmp_ne, zE_if_lt, zE_icmp_lt, zE_if_ge, zE_icmp_ge, zE_if_gt, zE_icmp_gt, zE_if_le, zE_icmp_le, zE_iaload, zE_baload, zE_laload, zE_aaload, zE_iastore, zE_bastore, zE_lastore, zE_aastore, zE_alen, zE_getf0, zE_getf1, zE_getf2, zE_getf3, zE_putf0, zE_putf1, zE_putf2, zE_putf3, zE_new, zE_newa, zE_newq, zE_ireturn, zE_lreturn, zE_areturn, zE_return, zE_athrow, zE_st0, zE_vi0, zE_st1, zE_vi1, zE_st2, zE_vi2, zE_st3, zE_vi3, zE_st4, zE_vi4, zE_st5, zE_vi5, zE_st6, zE_vi6, zE_st7, zE_vi7, zE_st8, zE_vi8, zSt_0, zSL_0, zSt_1n, zSt_1i, zSt_1a, zSt_1l, zSt_2n, zSt_2i, zSt_2a, zSt_2l, zSt_3n, zSt_3i, zSt_3a, zSt_3l, zSt_4n, zSt_4i, zSt_4a, zSt_4l, zSt_5n, zSt_5i, zSt_5a, zSt_5l, zSt_6n, zSt_6i, zSt_6a, zSt_6l, zSt_7n, zSt_7i, zSt_7a, zSt_7l, zSt_8n, zSt_8i, zSt_8a, zSt_8l, zSt_9n, zSt_9i, zSt_9a, zSt_9l, zSt_10n, zSt_10i, zSt_10a, zSt_10l, zSt_11n, zSt_11i, zSt_11a, zSt_11l, zSt_12n, zSt_12i, zSt_12a, zSt_12l, zSt_13n, zSt_13i, zSt_13a, zSt_13l, zSL_1n, zSL_1i, zSL_1a, zSL_1l, zSL_2n, zSL_2i, zSL_2a, zSL_2l, zSL_3n, zSL_3i, zSL_3a, zSL_3l, zSL_4n, zSL_4i, zSL_4a, zSL_4l, zSL_5n, zSL_5i, zSL_5a, zSL_5l, zSL_6n, zSL_6i, zSL_6a, zSL_6l, zSL_7n, zSL_7i, zSL_7a, zSL_7l, zSL_8n, zSL_8i, zSL_8a, zSL_8l, zSL_9n, zSL_9i, zSL_9a, zSL_9l, zSL_10n, zSL_10i, zSL_10a, zSL_10l, zSL_11n, zSL_11i, zSL_11a, zSL_11l, zSL_12n, zSL_12i, zSL_12a, zSL_12l, zLI_0, zLL_0, zLA_0, zLI_1, zLL_1, zLA_1, zLI_2, zLL_2, zLA_2, zLI_3, zLL_3, zLA_3, zLI_4, zLL_4, zLA_4, zLI_5, zLL_5, zLA_5, zLI_6, zLL_6, zLA_6, zLI_7, zLL_7, zLA_7, zLI_8, zLL_8, zLA_8, zLI_9, zLL_9, zLA_9, zLI_10, zLL_10, zLA_10, zLI_11, zLL_11, zLA_11, zLI_12, zLL_12, zLA_12, zLI_13, zLL_13, zLA_13, zst_0, zst_1n, zst_1i, zst_1a, zst_2n, zst_2i, zst_2a, zst_3n, zst_3i, zst_3a, zst_4n, zst_4i, zst_4a, zst_5n, zst_5i, zst_5a, zst_6n, zst_6i, zst_6a, zst_7n, zst_7i, zst_7a, zst_8n, zst_8i, zst_8a, zst_9n, zst_9i, zst_9a, zst_10n, zst_10i, zst_10a, zst_11n, zst_11i, zst_11a, zst_12n, zst_12i, zst_12a, zst_13n, zst_13i, zst_13a, zst_14n, zst_14i, zst_14a, zst_15n, zst_15i, zst_15a, zR1_n, zR1_v, zsum_n, zsum_i, zsum_l, zsum_a, zlen_n, zlen_i, zlen_l, zlen_a, List.not_mem_nil, List.mem_cons, or_false, false_or, or_self, ↓reduceIte, if_false, if_true, Nat.reduceEqDiff, Nat.reduceAdd, Nat.reduceLeDiff, true_and, and_true, reduceCtorEq, ne_eq, Int.toNat_natCast, not_true_eq_false, not_false_eq_true, true_implies, false_implies, implies_true, Int.reduceToNat, Int.toNat_zero, Int.reduceLT, Int.reduceLE, Int.reduceEq, Int.reduceAdd, Int.reduceMul, Int.reduceNeg]
      subst hQ
      exact ⟨f', rfl, rfl, h1, h2⟩
    · intro k hk ih f' y4 y5 h1 h2
      have pg := w3 k (by omega)
      have pa : zPoA (s + 2 + 3 * k) := zPoA_sh hs (by omega)
      have psw := zPoA_sw pa
      obtain ⟨q1, q2, q3⟩ := zK_po (L := L) pa
      have zl := zeS_n (n := zN f s) (X := zX f s) (Y := zY f s) (fb := fb) k (fun p hp => (w3 p (by omega)).2.1)
      obtain ⟨m, hm⟩ : ∃ m : Nat, zN f s k = (m : Int) := ⟨(zN f s k).toNat, by have := pg.1; omega⟩
      have hm8 : m ≤ 8 := by have := pg.2.1; omega
      have eS : l ++ zeS (zN f s) (zX f s) (zY f s) fb (k + 1) = (l ++ zeS (zN f s) (zX f s) (zY f s) fb k) ++ zeP (zN f s k) (zX f s k) (zY f s k) (2 ^ (fb + k)) m := by
        show l ++ (zeS (zN f s) (zX f s) (zY f s) fb k ++ zeP (zN f s k) (zX f s k) (zY f s k) (2 ^ (fb + k)) (zN f s k).toNat) = _
        rw [hm, Int.toNat_natCast, List.append_assoc]
      rw [eS] at ih
      generalize hl1 : l ++ zeS (zN f s) (zX f s) (zY f s) fb k = l1 at *
      have hl1n : l1.length + 8 ≤ 64 := by rw [← hl1, List.length_append]; omega
      have eK : (fb : Int) + (k : Int) = ((fb + k : Nat) : Int) := by omega
      have eH : (Int32.ofInt 1 <<< (Int32.ofInt ((fb + k : Nat) : Int) &&& 31)).toInt = ((2 ^ (fb + k) : Nat) : Int) := zshl1 (by omega)
      have inner : ∀ i : Nat, i ≤ m → ∀ f', zELd f' (l1 ++ zeP (zN f s k) (zX f s k) (zY f s k) (2 ^ (fb + k)) i) → zsw f f' → zFR (zK L) 106 21 [some (.inr (.inr 1105)), some (.inr (.inr s)), some (.inl (fb : Int)), some (.inl (k : Int)), some (.inr (.inr (s + 2 + 3 * k))), some (.inl (i : Int))] [] (zwI M f') Q9 := by
        refine zloop ?_ ?_
        · intro f' h1 h2
          have o9 := ih f' (some (.inr (.inr (s + 2 + 3 * k)))) (some (.inl (m : Int))) h1 h2
          have em : f' (s + 2 + 3 * k) 0 = (m : Int) := by rw [h2 _ (by omega)]; exact hm
          rw [show ((k + 1 : Nat) : Int) = (k : Int) + 1 by omega] at o9
          refine zW_sound 60 [2] ?_
          simp only [ZR106, q1, zwI_I, em, zW_succ, zE_iload, zE_aload, zE_lload, zE_iinc, zE_istore, zE_astore, zE_lstore, zE_iconst, zE_ldc2, zE_iadd, zE_isub, zE_imul, zE_idiv, zE_irem, zE_ineg, zE_iand, zE_ior, zE_ixor, zE_ishl, zE_ishr, zE_land, zE_lor, zE_lxor, zE_lshl, zE_lshr, zE_i2l, zE_lcmp, zE_dup_i, zE_dup_a, zE_dup2_ia, zE_pop_i, zE_pop_a, zE_pop2, zE_goto, zE_if_eq, zE_icmp_eq, zE_if_ne, zE_icmp_ne, zE_if_lt, zE_icmp_lt, zE_if_ge, zE_icmp_ge, zE_if_gt, zE_icmp_gt, zE_if_le, zE_icmp_le, zE_iaload, zE_baload, zE_laload, zE_aaload, zE_iastore, zE_bastore, zE_lastore, zE_aastore, zE_alen, zE_getf0, zE_getf1, zE_getf2, zE_getf3, zE_putf0, zE_putf1, zE_putf2, zE_putf3, zE_new, zE_newa, zE_newq, zE_ireturn, zE_lreturn, zE_areturn, zE_return, zE_athrow, zE_st0, zE_vi0, zE_st1, zE_vi1, zE_st2, zE_vi2, zE_st3, zE_vi3, zE_st4, zE_vi4, zE_st5, zE_vi5, zE_st6, zE_vi6, zE_st7, zE_vi7, zE_st8, zE_vi8, zSt_0, zSL_0, zSt_1n, zSt_1i, zSt_1a, zSt_1l, zSt_2n, zSt_2i, zSt_2a, zSt_2l, zSt_3n, zSt_3i, zSt_3a, zSt_3l, zSt_4n, zSt_4i, zSt_4a, zSt_4l, zSt_5n, zSt_5i, zSt_5a, zSt_5l, zSt_6n, zSt_6i, zSt_6a, zSt_6l, zSt_7n, zSt_7i, zSt_7a, zSt_7l, zSt_8n, zSt_8i, zSt_8a, zSt_8l, zSt_9n, zSt_9i, zSt_9a, zSt_9l, zSt_10n, zSt_10i, zSt_10a, zSt_10l, zSt_11n, zSt_11i, zSt_11a, zSt_11l, zSt_12n, zSt_12i, zSt_12a, zSt_12l, zSt_13n, zSt_13i, zSt_13a, zSt_13l, zSL_1n, zSL_1i, zSL_1a, zSL_1l, zSL_2n, zSL_2i, zSL_2a, zSL_2l, zSL_3n, zSL_3i, zSL_3a, zSL_3l, zSL_4n, zSL_4i, zSL_4a, zSL_4l, zSL_5n, zSL_5i, zSL_5a, zSL_5l, zSL_6n, zSL_6i, zSL_6a, zSL_6l, zSL_7n, zSL_7i, zSL_7a, zSL_7l, zSL_8n, zSL_8i, zSL_8a, zSL_8l, zSL_9n, zSL_9i, zSL_9a, zSL_9l, zSL_10n, zSL_10i, zSL_10a, zSL_10l, zSL_11n, zSL_11i, zSL_11a, zSL_11l, zSL_12n, zSL_12i, zSL_12a, zSL_12l, zLI_0, zLL_0, zLA_0, zLI_1, zLL_1, zLA_1, zLI_2, zLL_2, zLA_2, zLI_3, zLL_3, zLA_3, zLI_4, zLL_4, zLA_4, zLI_5, zLL_5, zLA_5, zLI_6, zLL_6, zLA_6, zLI_7, zLL_7, zLA_7, zLI_8, zLL_8, zLA_8, zLI_9, zLL_9, zLA_9, zLI_10, zLL_10, zLA_10, zLI_11, zLL_11, zLA_11, zLI_12, zLL_12, zLA_12, zLI_13, zLL_13, zLA_13, zst_0, zst_1n, zst_1i, zst_1a, zst_2n, zst_2i, zst_2a, zst_3n, zst_3i, zst_3a, zst_4n, zst_4i, zst_4a, zst_5n, zst_5i, zst_5a, zst_6n, zst_6i, zst_6a, zst_7n, zst_7i, zst_7a, zst_8n, zst_8i, zst_8a, zst_9n, zst_9i, zst_9a, zst_10n, zst_10i, zst_10a, zst_11n, zst_11i, zst_11a, zst_12n, zst_12i, zst_12a, zst_13n, zst_13i, zst_13a, zst_14n, zst_14i, zst_14a, zst_15n, zst_15i, zst_15a, zR1_n, zR1_v, zsum_n, zsum_i, zsum_l, zsum_a, zlen_n, zlen_i, zlen_l, zlen_a, List.not_mem_nil, List.mem_cons, or_false, false_or, or_self, ↓reduceIte, if_false, if_true, Nat.reduceEqDiff, Nat.reduceAdd, Nat.reduceLeDiff, true_and, and_true, reduceCtorEq, ne_eq, Int.toNat_natCast, not_true_eq_false, not_false_eq_true, true_implies, false_implies, implies_true, Int.reduceToNat, Int.toNat_zero, Int.reduceLT, Int.reduceLE, Int.reduceEq, Int.reduceAdd, Int.reduceMul, Int.reduceNeg]
          exact ⟨fun _ => ⟨by unfold zr32; omega, o9⟩, fun h => absurd (by omega) h⟩
        · intro i hi ihi f' h1 h2
          have em : f' (s + 2 + 3 * k) 0 = (m : Int) := by rw [h2 _ (by omega)]; exact hm
          have eP : l1 ++ zeP (zN f s k) (zX f s k) (zY f s k) (2 ^ (fb + k)) (i + 1) = (l1 ++ zeP (zN f s k) (zX f s k) (zY f s k) (2 ^ (fb + k)) i) ++ zeL (zN f s k) (zX f s k) (zY f s k) (2 ^ (fb + k)) i := by
            show l1 ++ (zeP (zN f s k) (zX f s k) (zY f s k) (2 ^ (fb + k)) i ++ zeL (zN f s k) (zX f s k) (zY f s k) (2 ^ (fb + k)) i) = _
            rw [List.append_assoc]
          rw [eP] at ihi
          have zp := zeP_n (n := zN f s k) (X := zX f s k) (Y := zY f s k) (b := 2 ^ (fb + k)) i
          have g0 : f' (s + 2 + 3 * k) = f (s + 2 + 3 * k) := h2 _ (by omega)
          have g1 : f' (s + 2 + 3 * k + 1) = zX f s k := h2 _ (by omega)
          have g2 : f' (s + 2 + 3 * k + 2) = zY f s k := h2 _ (by omega)
          have e0 : f' (s + 2 + 3 * k) 0 = zN f s k := by rw [g0]; rfl
          obtain ⟨r, M2, ⟨f2, hr, hM2, h3, h4⟩, e107⟩ := zFRx (c107 (L := L) (M := M) (f := f') (p := s + 2 + 3 * k) (e := i) (bb := 2 ^ (fb + k)) pa hR (by rw [e0, g1, g2]; exact pg) (by rw [em]; omega) (by rw [List.length_append]; omega) h1)
          subst hr hM2
          rw [e0, g1, g2] at h3
          have o9 := ihi f2 h3 (fun a ha => (h4 a ha).trans (h2 a ha))
          rw [show ((i + 1 : Nat) : Int) = (i : Int) + 1 by omega] at o9
          refine zW_sound 60 [21, 50] ?_
          simp only [ZR106, zk_1105, q1, zwI_I, em, eK, eH, ZF107.1, ZF107.2.1, ZF107.2.2.1, e107, zW_succ, zE_iload, zE_aload, zE_lload, zE_iinc, zE_istore, zE_astore, zE_lstore, zE_iconst, zE_ldc2, zE_iadd, zE_isub, zE_imul, zE_idiv, zE_irem, zE_ineg, zE_iand, zE_ior, zE_ixor, zE_ishl, zE_ishr, zE_land, zE_lor, zE_lxor, zE_lshl, zE_lshr, zE_i2l, zE_lcmp, zE_dup_i, zE_dup_a, zE_dup2_ia, zE_pop_i, zE_pop_a, zE_pop2, zE_goto, zE_if_eq, zE_icmp_eq, zE_if_ne, zE_icmp_ne, zE_if_lt, zE_icmp_lt, zE_if_ge, zE_icmp_ge, zE_if_gt, zE_icmp_gt, zE_if_le, zE_icmp_le, zE_iaload, zE_baload, zE_laload, zE_aaload, zE_iastore, zE_bastore, zE_lastore, zE_aastore, zE_alen, zE_getf0, zE_getf1, zE_getf2, zE_getf3, zE_putf0, zE_putf1, zE_putf2, zE_putf3, zE_new, zE_newa, zE_newq, zE_ireturn, zE_lreturn, zE_areturn, zE_return, zE_athrow, zE_st0, zE_vi0, zE_st1, zE_vi1, zE_st2, zE_vi2, zE_st3, zE_vi3, zE_st4, zE_vi4, zE_st5, zE_vi5, zE_st6, zE_vi6, zE_st7, zE_vi7, zE_st8, zE_vi8, zSt_0, zSL_0, zSt_1n, zSt_1i, zSt_1a, zSt_1l, zSt_2n, zSt_2i, zSt_2a, zSt_2l, zSt_3n, zSt_3i, zSt_3a, zSt_3l, zSt_4n, zSt_4i, zSt_4a, zSt_4l, zSt_5n, zSt_5i, zSt_5a, zSt_5l, zSt_6n, zSt_6i, zSt_6a, zSt_6l, zSt_7n, zSt_7i, zSt_7a, zSt_7l, zSt_8n, zSt_8i, zSt_8a, zSt_8l, zSt_9n, zSt_9i, zSt_9a, zSt_9l, zSt_10n, zSt_10i, zSt_10a, zSt_10l, zSt_11n, zSt_11i, zSt_11a, zSt_11l, zSt_12n, zSt_12i, zSt_12a, zSt_12l, zSt_13n, zSt_13i, zSt_13a, zSt_13l, zSL_1n, zSL_1i, zSL_1a, zSL_1l, zSL_2n, zSL_2i, zSL_2a, zSL_2l, zSL_3n, zSL_3i, zSL_3a, zSL_3l, zSL_4n, zSL_4i, zSL_4a, zSL_4l, zSL_5n, zSL_5i, zSL_5a, zSL_5l, zSL_6n, zSL_6i, zSL_6a, zSL_6l, zSL_7n, zSL_7i, zSL_7a, zSL_7l, zSL_8n, zSL_8i, zSL_8a, zSL_8l, zSL_9n, zSL_9i, zSL_9a, zSL_9l, zSL_10n, zSL_10i, zSL_10a, zSL_10l, zSL_11n, zSL_11i, zSL_11a, zSL_11l, zSL_12n, zSL_12i, zSL_12a, zSL_12l, zLI_0, zLL_0, zLA_0, zLI_1, zLL_1, zLA_1, zLI_2, zLL_2, zLA_2, zLI_3, zLL_3, zLA_3, zLI_4, zLL_4, zLA_4, zLI_5, zLL_5, zLA_5, zLI_6, zLL_6, zLA_6, zLI_7, zLL_7, zLA_7, zLI_8, zLL_8, zLA_8, zLI_9, zLL_9, zLA_9, zLI_10, zLL_10, zLA_10, zLI_11, zLL_11, zLA_11, zLI_12, zLL_12, zLA_12, zLI_13, zLL_13, zLA_13, zst_0, zst_1n, zst_1i, zst_1a, zst_2n, zst_2i, zst_2a, zst_3n, zst_3i, zst_3a, zst_4n, zst_4i, zst_4a, zst_5n, zst_5i, zst_5a, zst_6n, zst_6i, zst_6a, zst_7n, zst_7i, zst_7a, zst_8n, zst_8i, zst_8a, zst_9n, zst_9i, zst_9a, zst_10n, zst_10i, zst_10a, zst_11n, zst_11i, zst_11a, zst_12n, zst_12i, zst_12a, zst_13n, zst_13i, zst_13a, zst_14n, zst_14i, zst_14a, zst_15n, zst_15i, zst_15a, zR1_n, zR1_v, zsum_n, zsum_i, zsum_l, zsum_a, zlen_n, zlen_i, zlen_l, zlen_a, List.not_mem_nil, List.mem_cons, or_false, false_or, or_self, ↓reduceIte, if_false, if_true, Nat.reduceEqDiff, Nat.reduceAdd, Nat.reduceLeDiff, true_and, and_true, reduceCtorEq, ne_eq, Int.toNat_natCast, not_true_eq_false, not_false_eq_true, true_implies, false_implies, implies_true, Int.reduceToNat, Int.toNat_zero, Int.reduceLT, Int.reduceLE, Int.reduceEq, Int.reduceAdd, Int.reduceMul, Int.reduceNeg]
          (repeat' (first | with_reducible refine And.intro ?_ ?_ | with_reducible intro _)) <;> try first | with_reducible rfl | with_reducible assumption | omega | (unfold zr32; omega) | contradiction | (exact absurd (by omega) (by assumption)) | rfl | (simp only [Sum.inl.injEq, Option.some.injEq]; omega)
      have o9 := inner 0 (Nat.zero_le _) f' (by show zELd f' (l1 ++ []); rw [List.append_nil]; exact h1) h2
      have e10 : f' s 10 = (c : Int) := by rw [h2 s (by omega), hc]
      refine zW_sound 60 [21, 56] ?_
      simp only [ZR106, k1, k2, r1, r2 k (by omega), zwI_I, zwI_2, e10, zW_succ, zE_iload, zE_aload, zE_lload, zE_iinc, zE_istore, zE_astore, zE_lstore, zE_iconst, zE_ldc2, zE_iadd, zE_isub, zE_imul, zE_idiv, zE_irem, zE_ineg, zE_iand, zE_ior, zE_ixor, zE_ishl, zE_ishr, zE_land, zE_lor, zE_lxor, zE_lshl, zE_lshr, zE_i2l, zE_lcmp, zE_dup_i, zE_dup_a, zE_dup2_ia, zE_pop_i, zE_pop_a, zE_pop2, zE_goto, zE_if_eq, zE_icmp_eq, zE_if_ne, zE_icmp_ne, zE_if_lt, zE_icmp_lt, zE_if_ge, zE_icmp_ge, zE_if_gt, zE_icmp_gt, zE_if_le, zE_icmp_le, zE_iaload, zE_baload, zE_laload, zE_aaload, zE_iastore, zE_bastore, zE_lastore, zE_aastore, zE_alen, zE_getf0, zE_getf1, zE_getf2, zE_getf3, zE_putf0, zE_putf1, zE_putf2, zE_putf3, zE_new, zE_newa, zE_newq, zE_ireturn, zE_lreturn, zE_areturn, zE_return, zE_athrow, zE_st0, zE_vi0, zE_st1, zE_vi1, zE_st2, zE_vi2, zE_st3, zE_vi3, zE_st4, zE_vi4, zE_st5, zE_vi5, zE_st6, zE_vi6, zE_st7, zE_vi7, zE_st8, zE_vi8, zSt_0, zSL_0, zSt_1n, zSt_1i, zSt_1a, zSt_1l, zSt_2n, zSt_2i, zSt_2a, zSt_2l, zSt_3n, zSt_3i, zSt_3a, zSt_3l, zSt_4n, zSt_4i, zSt_4a, zSt_4l, zSt_5n, zSt_5i, zSt_5a, zSt_5l, zSt_6n, zSt_6i, zSt_6a, zSt_6l, zSt_7n, zSt_7i, zSt_7a, zSt_7l, zSt_8n, zSt_8i, zSt_8a, zSt_8l, zSt_9n, zSt_9i, zSt_9a, zSt_9l, zSt_10n, zSt_10i, zSt_10a, zSt_10l, zSt_11n, zSt_11i, zSt_11a, zSt_11l, zSt_12n, zSt_12i, zSt_12a, zSt_12l, zSt_13n, zSt_13i, zSt_13a, zSt_13l, zSL_1n, zSL_1i, zSL_1a, zSL_1l, zSL_2n, zSL_2i, zSL_2a, zSL_2l, zSL_3n, zSL_3i, zSL_3a, zSL_3l, zSL_4n, zSL_4i, zSL_4a, zSL_4l, zSL_5n, zSL_5i, zSL_5a, zSL_5l, zSL_6n, zSL_6i, zSL_6a, zSL_6l, zSL_7n, zSL_7i, zSL_7a, zSL_7l, zSL_8n, zSL_8i, zSL_8a, zSL_8l, zSL_9n, zSL_9i, zSL_9a, zSL_9l, zSL_10n, zSL_10i, zSL_10a, zSL_10l, zSL_11n, zSL_11i, zSL_11a, zSL_11l, zSL_12n, zSL_12i, zSL_12a, zSL_12l, zLI_0, zLL_0, zLA_0, zLI_1, zLL_1, zLA_1, zLI_2, zLL_2, zLA_2, zLI_3, zLL_3, zLA_3, zLI_4, zLL_4, zLA_4, zLI_5, zLL_5, zLA_5, zLI_6, zLL_6, zLA_6, zLI_7, zLL_7, zLA_7, zLI_8, zLL_8, zLA_8, zLI_9, zLL_9, zLA_9, zLI_10, zLL_10, zLA_10, zLI_11, zLL_11, zLA_11, zLI_12, zLL_12, zLA_12, zLI_13, zLL_13, zLA_13, zst_0, zst_1n, zst_1i, zst_1a, zst_2n, zst_2i, zst_2a, zst_3n, zst_3i, zst_3a, zst_4n, zst_4i, zst_4a, zst_5n, zst_5i, zst_5a, zst_6n, zst_6i, zst_6a, zst_7n, zst_7i, zst_7a, zst_8n, zst_8i, zst_8a, zst_9n, zst_9i, zst_9a, zst_10n, zst_10i, zst_10a, zst_11n, zst_11i, zst_11a, zst_12n, zst_12i, zst_12a, zst_13n, zst_13i, zst_13a, zst_14n, zst_14i, zst_14a, zst_15n, zst_15i, zst_15a, zR1_n, zR1_v, zsum_n, zsum_i, zsum_l, zsum_a, zlen_n, zlen_i, zlen_l, zlen_a, List.not_mem_nil, List.mem_cons, or_false, false_or, or_self, ↓reduceIte, if_false, if_true, Nat.reduceEqDiff, Nat.reduceAdd, Nat.reduceLeDiff, true_and, and_true, reduceCtorEq, ne_eq, Int.toNat_natCast, not_true_eq_false, not_false_eq_true, true_implies, false_implies, implies_true, Int.reduceToNat, Int.toNat_zero, Int.reduceLT, Int.reduceLE, Int.reduceEq, Int.reduceAdd, Int.reduceMul, Int.reduceNeg]
      (repeat' (first | with_reducible refine And.intro ?_ ?_ | with_reducible intro _)) <;> try first | with_reducible rfl | with_reducible assumption | omega | (unfold zr32; omega) | contradiction | (exact absurd (by omega) (by assumption)) | rfl | (simp only [Sum.inl.injEq, Option.some.injEq]; omega)
  have o9 := outer 0 (Nat.zero_le _) f none none (by show zELd f (l ++ []); rw [List.append_nil]; exact hl) (fun a _ => rfl)
  refine zW_sound 60 [2] ?_
  simp only [ZF106, ZR106, zW_succ, zE_iload, zE_aload, zE_lload, zE_iinc, zE_istore, zE_astore, zE_lstore, zE_iconst, zE_ldc2, zE_iadd, zE_isub, zE_imul, zE_idiv, zE_irem, zE_ineg, zE_iand, zE_ior, zE_ixor, zE_ishl, zE_ishr, zE_land, zE_lor, zE_lxor, zE_lshl, zE_lshr, zE_i2l, zE_lcmp, zE_dup_i, zE_dup_a, zE_dup2_ia, zE_pop_i, zE_pop_a, zE_pop2, zE_goto, zE_if_eq, zE_icmp_eq, zE_if_ne, zE_icmp_ne, zE_if_lt, zE_icmp_lt, zE_if_ge, zE_icmp_ge, zE_if_gt, zE_icmp_gt, zE_if_le, zE_icmp_le, zE_iaload, zE_baload, zE_laload, zE_aaload, zE_iastore, zE_bastore, zE_lastore, zE_aastore, zE_alen, zE_getf0, zE_getf1, zE_getf2, zE_getf3, zE_putf0, zE_putf1, zE_putf2, zE_putf3, zE_new, zE_newa, zE_newq, zE_ireturn, zE_lreturn, zE_areturn, zE_return, zE_athrow, zE_st0, zE_vi0, zE_st1, zE_vi1, zE_st2, zE_vi2, zE_st3, zE_vi3, zE_st4, zE_vi4, zE_st5, zE_vi5, zE_st6, zE_vi6, zE_st7, zE_vi7, zE_st8, zE_vi8, zSt_0, zSL_0, zSt_1n, zSt_1i, zSt_1a, zSt_1l, zSt_2n, zSt_2i, zSt_2a, zSt_2l, zSt_3n, zSt_3i, zSt_3a, zSt_3l, zSt_4n, zSt_4i, zSt_4a, zSt_4l, zSt_5n, zSt_5i, zSt_5a, zSt_5l, zSt_6n, zSt_6i, zSt_6a, zSt_6l, zSt_7n, zSt_7i, zSt_7a, zSt_7l, zSt_8n, zSt_8i, zSt_8a, zSt_8l, zSt_9n, zSt_9i, zSt_9a, zSt_9l, zSt_10n, zSt_10i, zSt_10a, zSt_10l, zSt_11n, zSt_11i, zSt_11a, zSt_11l, zSt_12n, zSt_12i, zSt_12a, zSt_12l, zSt_13n, zSt_13i, zSt_13a, zSt_13l, zSL_1n, zSL_1i, zSL_1a, zSL_1l, zSL_2n, zSL_2i, zSL_2a, zSL_2l, zSL_3n, zSL_3i, zSL_3a, zSL_3l, zSL_4n, zSL_4i, zSL_4a, zSL_4l, zSL_5n, zSL_5i, zSL_5a, zSL_5l, zSL_6n, zSL_6i, zSL_6a, zSL_6l, zSL_7n, zSL_7i, zSL_7a, zSL_7l, zSL_8n, zSL_8i, zSL_8a, zSL_8l, zSL_9n, zSL_9i, zSL_9a, zSL_9l, zSL_10n, zSL_10i, zSL_10a, zSL_10l, zSL_11n, zSL_11i, zSL_11a, zSL_11l, zSL_12n, zSL_12i, zSL_12a, zSL_12l, zLI_0, zLL_0, zLA_0, zLI_1, zLL_1, zLA_1, zLI_2, zLL_2, zLA_2, zLI_3, zLL_3, zLA_3, zLI_4, zLL_4, zLA_4, zLI_5, zLL_5, zLA_5, zLI_6, zLL_6, zLA_6, zLI_7, zLL_7, zLA_7, zLI_8, zLL_8, zLA_8, zLI_9, zLL_9, zLA_9, zLI_10, zLL_10, zLA_10, zLI_11, zLL_11, zLA_11, zLI_12, zLL_12, zLA_12, zLI_13, zLL_13, zLA_13, zst_0, zst_1n, zst_1i, zst_1a, zst_2n, zst_2i, zst_2a, zst_3n, zst_3i, zst_3a, zst_4n, zst_4i, zst_4a, zst_5n, zst_5i, zst_5a, zst_6n, zst_6i, zst_6a, zst_7n, zst_7i, zst_7a, zst_8n, zst_8i, zst_8a, zst_9n, zst_9i, zst_9a, zst_10n, zst_10i, zst_10a, zst_11n, zst_11i, zst_11a, zst_12n, zst_12i, zst_12a, zst_13n, zst_13i, zst_13a, zst_14n, zst_14i, zst_14a, zst_15n, zst_15i, zst_15a, zR1_n, zR1_v, zsum_n, zsum_i, zsum_l, zsum_a, zlen_n, zlen_i, zlen_l, zlen_a, List.not_mem_nil, List.mem_cons, or_false, false_or, or_self, ↓reduceIte, if_false, if_true, Nat.reduceEqDiff, Nat.reduceAdd, Nat.reduceLeDiff, true_and, and_true, reduceCtorEq, ne_eq, Int.toNat_natCast, not_true_eq_false, not_false_eq_true, true_implies, false_implies, implies_true, Int.reduceToNat, Int.toNat_zero, Int.reduceLT, Int.reduceLE, Int.reduceEq, Int.reduceAdd, Int.reduceMul, Int.reduceNeg]
  exact o9
/-- cut so far -/
def zCf (l : List zEd) (e c : Nat) (y : Int) : Prop := zEnd l y ∨ ∃ e' c', c' < e' ∧ (e' < e ∨ (e' = e ∧ c' < c)) ∧ e' < l.length ∧ zxs (zegd l e') (zegd l c') y
theorem zCf_cut {l : List zEd} {c : Nat} {y : Int} : zCf l l.length c y ↔ zCut l y := by
  unfold zCf zCut zEnd
  constructor
  · rintro (h | ⟨e', c', h1, h2, h3, h4⟩)
    · exact Or.inl h
    · exact Or.inr ⟨e', c', h1, h3, h4⟩
  · rintro (h | ⟨e', c', h1, h3, h4⟩)
    · exact Or.inl h
    · exact Or.inr ⟨e', c', h1, Or.inl h3, h3, h4⟩
theorem zCf_n {l : List zEd} {e : Nat} {y : Int} : zCf l e e y ↔ zCf l (e + 1) 0 y := by
  unfold zCf
  constructor
  · rintro (h | ⟨e', c', h1, h2, h3, h4⟩)
    · exact Or.inl h
    · exact Or.inr ⟨e', c', h1, by omega, h3, h4⟩
  · rintro (h | ⟨e', c', h1, h2, h3, h4⟩)
    · exact Or.inl h
    · exact Or.inr ⟨e', c', h1, by omega, h3, h4⟩
theorem zCf_0 {l : List zEd} {y : Int} : zEnd l y ↔ zCf l 0 0 y := by
  unfold zCf
  constructor
  · exact Or.inl
  · rintro (h | ⟨e', c', h1, h2, h3, h4⟩)
    · exact h
    · omega
theorem zCf_s {l : List zEd} {e c : Nat} (hc : c < e) (he : e < l.length) {y : Int} : zCf l e (c + 1) y ↔ (zCf l e c y ∨ zxs (zegd l e) (zegd l c) y) := by
  unfold zCf
  constructor
  · rintro (h | ⟨e', c', h1, h2, h3, h4⟩)
    · exact Or.inl (Or.inl h)
    · by_cases h5 : e' = e ∧ c' = c
      · obtain ⟨rfl, rfl⟩ := h5
        exact Or.inr h4
      · exact Or.inl (Or.inr ⟨e', c', h1, by omega, h3, h4⟩)
  · rintro ((h | ⟨e', c', h1, h2, h3, h4⟩) | h)
    · exact Or.inl h
    · exact Or.inr ⟨e', c', h1, by omega, h3, h4⟩
    · exact Or.inr ⟨e, c, hc, Or.inr ⟨rfl, by omega⟩, he, h⟩
theorem zCk_c {f : Nat → Nat → Int} {P P' : Int → Prop} (h : zCk f P) (hp : ∀ y, P y ↔ P' y) : zCk f P' := fun y => ⟨(h y).1, (h y).2.trans (hp _)⟩
theorem zCk_s {f : Nat → Nat → Int} {P P' : Int → Prop} {v : Nat} (h : zCk f P) (hp : ∀ y, P' y ↔ (P y ∨ y = (v : Int))) : zCk (zu2 f 1114 v 1) P' := by
  intro y
  rw [zu2_if]
  by_cases e : y = v
  · subst e
    rw [if_pos ⟨rfl, rfl⟩]
    exact ⟨Or.inr rfl, fun _ => (hp _).mpr (Or.inr rfl), fun _ => rfl⟩
  · rw [if_neg (fun h => e h.2)]
    exact ⟨(h y).1, fun h1 => (hp _).mpr (Or.inl ((h y).2.mp h1)), fun h1 => (h y).2.mpr (((hp _).mp h1).elim id (fun h2 => absurd (by omega) e))⟩
theorem zEw_b {d : zEd} (h : zEw d) : -7200 ≤ d.2.2.2.1 ∧ d.2.2.2.1 ≤ 7320 := by
  obtain ⟨h1, h2, h3, h4, h5⟩ := h
  have := zmulb (u := d.1) (v := d.2.2.1) (A := 60) (B := 120) (by omega) (by omega) (by omega) (by omega)
  omega
theorem c108 {f : Nat → Nat → Int} {l : List zEd} (hR : zLay M.2.2.2) (hn : l.length ≤ 64) (hA : zEA l) (hE : zCE f l) (hC : zCk f (zEnd l)) : zFR (zK L) 108 0 (zcall 108 [.inr (.inr 1105)]) [] (zwI M f) (fun r M2 => ∃ f', r = .inl none ∧ M2 = zwI M f' ∧ zCk f' (zCut l) ∧ ∀ a, a ≠ 1114 → f' a = f a) := by
  have hF := hR.1
  unfold zLayF at hF
  obtain ⟨hE1, hE2⟩ := hE
  generalize hQ : (fun r M2 => ∃ f', r = (Sum.inl none : zO) ∧ M2 = zwI M f' ∧ zCk f' (zCut l) ∧ ∀ a, a ≠ 1114 → f' a = f a) = Q9
  have outer : ∀ e : Nat, e ≤ l.length → ∀ f' y2 y3 y4, zCk f' (zCf l e 0) → (∀ a, a ≠ 1114 → f' a = f a) → zFR (zK L) 108 2 [some (.inr (.inr 1105)), some (.inl (e : Int)), y2, y3, y4] [] (zwI M f') Q9 := by
    refine zloop ?_ ?_
    · intro f' y2 y3 y4 h1 h2
      have e1 : f' 1105 1 = (l.length : Int) := by rw [h2 1105 (by omega), hE1]
      refine zW_sound 60 [115] ?_
      simp only [ZR108, zk_1105, zwI_I, e1, zW_succ, zE_iload, zE_aload, zE_lload, zE_iinc, zE_istore, zE_astore, zE_lstore, zE_iconst, zE_ldc2, zE_iadd, zE_isub, zE_imul, zE_idiv, zE_irem, zE_ineg, zE_iand, zE_ior, zE_ixor, zE_ishl, zE_ishr, zE_land, zE_lor, zE_lxor, zE_lshl, zE_lshr, zE_i2l, zE_lcmp, zE_dup_i, zE_dup_a, zE_dup2_ia, zE_pop_i, zE_pop_a, zE_pop2, zE_goto, zE_if_eq, zE_icmp_eq, zE_if_ne, zE_icmp_ne, zE_if_lt, zE_icmp_lt, zE_if_ge, zE_icmp_ge, zE_if_gt, zE_icmp_gt, zE_if_le, zE_icmp_le, zE_iaload, zE_baload, zE_laload, zE_aaload, zE_iastore, zE_bastore, zE_lastore, zE_aastore, zE_alen, zE_getf0, zE_getf1, zE_getf2, zE_getf3, zE_putf0, zE_putf1, zE_putf2, zE_putf3, zE_new, zE_newa, zE_newq, zE_ireturn, zE_lreturn, zE_areturn, zE_return, zE_athrow, zE_st0, zE_vi0, zE_st1, zE_vi1, zE_st2, zE_vi2, zE_st3, zE_vi3, zE_st4, zE_vi4, zE_st5, zE_vi5, zE_st6, zE_vi6, zE_st7, zE_vi7, zE_st8, zE_vi8, zSt_0, zSL_0, zSt_1n, zSt_1i, zSt_1a, zSt_1l, zSt_2n, zSt_2i, zSt_2a, zSt_2l, zSt_3n, zSt_3i, zSt_3a, zSt_3l, zSt_4n, zSt_4i, zSt_4a, zSt_4l, zSt_5n, zSt_5i, zSt_5a, zSt_5l, zSt_6n, zSt_6i, zSt_6a, zSt_6l, zSt_7n, zSt_7i, zSt_7a, zSt_7l, zSt_8n, zSt_8i, zSt_8a, zSt_8l, zSt_9n, zSt_9i, zSt_9a, zSt_9l, zSt_10n, zSt_10i, zSt_10a, zSt_10l, zSt_11n, zSt_11i, zSt_11a, zSt_11l, zSt_12n, zSt_12i, zSt_12a, zSt_12l, zSt_13n, zSt_13i, zSt_13a, zSt_13l, zSL_1n, zSL_1i, zSL_1a, zSL_1l, zSL_2n, zSL_2i, zSL_2a, zSL_2l, zSL_3n, zSL_3i, zSL_3a, zSL_3l, zSL_4n, zSL_4i, zSL_4a, zSL_4l, zSL_5n, zSL_5i, zSL_5a, zSL_5l, zSL_6n, zSL_6i, zSL_6a, zSL_6l, zSL_7n, zSL_7i, zSL_7a, zSL_7l, zSL_8n, zSL_8i, zSL_8a, zSL_8l, zSL_9n, zSL_9i, zSL_9a, zSL_9l, zSL_10n, zSL_10i, zSL_10a, zSL_10l, zSL_11n, zSL_11i, zSL_11a, zSL_11l, zSL_12n, zSL_12i, zSL_12a, zSL_12l, zLI_0, zLL_0, zLA_0, zLI_1, zLL_1, zLA_1, zLI_2, zLL_2, zLA_2, zLI_3, zLL_3, zLA_3, zLI_4, zLL_4, zLA_4, zLI_5, zLL_5, zLA_5, zLI_6, zLL_6, zLA_6, zLI_7, zLL_7, zLA_7, zLI_8, zLL_8, zLA_8, zLI_9, zLL_9, zLA_9, zLI_10, zLL_10, zLA_10, zLI_11, zLL_11, zLA_11, zLI_12, zLL_12, zLA_12, zLI_13, zLL_13, zLA_13, zst_0, zst_1n, zst_1i, zst_1a, zst_2n, zst_2i, zst_2a, zst_3n, zst_3i, zst_3a, zst_4n, zst_4i, zst_4a, zst_5n, zst_5i, zst_5a, zst_6n, zst_6i, zst_6a, zst_7n, zst_7i, zst_7a, zst_8n, zst_8i, zst_8a, zst_9n, zst_9i, zst_9a, zst_10n, zst_10i, zst_10a, zst_11n, zst_11i, zst_11a, zst_12n, zst_12i, zst_12a, zst_13n, zst_13i, zst_13a, zst_14n, zst_14i, zst_14a, zst_15n, zst_15i, zst_15a, zR1_n, zR1_v, zsum_n, zsum_i, zsum_l, zsum_a, zlen_n, zlen_i, zlen_l, zlen_a, List.not_mem_nil, List.mem_cons, or_false, false_or, or_self, ↓reduceIte, if_false, if_true, Nat.reduceEqDiff, Nat.reduceAdd, Nat.reduceLeDiff, true_and, and_true, reduceCtorEq, ne_eq, Int.toNat_natCast, not_true_eq_false, not_false_eq_true, true_implies, false_implies, implies_true, Int.reduceToNat, Int.toNat_zero, Int.reduceLT, Int.reduceLE, Int.reduceEq, Int.reduceAdd, Int.reduceMul, Int.reduceNeg]
      refine ⟨fun _ => ?_, fun h => absurd (by omega) h⟩
      refine zW_sound 60 [] ?_
      simp only [ZR108, zW_succ, zE_iload, zE_aload, zE_lload, zE_iinc, zE_istore, zE_astore, zE_lstore, zE_iconst, zE_ldc2, zE_iadd, zE_isub, zE_imul, zE_idiv, zE_irem, zE_ineg, zE_iand, zE_ior, zE_ixor, zE_ishl, zE_ishr, zE_land, zE_lor, zE_lxor, zE_lshl, zE_lshr, zE_i2l, zE_lcmp, zE_dup_i, zE_dup_a, zE_dup2_ia, zE_pop_i, zE_pop_a, zE_pop2, zE_goto, zE_if_eq, zE_icmp_eq, zE_if_ne, zE_icmp_ne, zE_if_lt, zE_icmp_lt, zE_if_ge, zE_icmp_ge, zE_if_gt, zE_icmp_gt, zE_if_le, zE_icmp_le, zE_iaload, zE_baload, zE_laload, zE_aaload, zE_iastore, zE_bastore, zE_lastore, zE_aastore, zE_alen, zE_getf0, zE_getf1, zE_getf2, zE_getf3, zE_putf0, zE_putf1, zE_putf2, zE_putf3, zE_new, zE_newa, zE_newq, zE_ireturn, zE_lreturn, zE_areturn, zE_return, zE_athrow, zE_st0, zE_vi0, zE_st1, zE_vi1, zE_st2, zE_vi2, zE_st3, zE_vi3, zE_st4, zE_vi4, zE_st5, zE_vi5, zE_st6, zE_vi6, zE_st7, zE_vi7, zE_st8, zE_vi8, zSt_0, zSL_0, zSt_1n, zSt_1i, zSt_1a, zSt_1l, zSt_2n, zSt_2i, zSt_2a, zSt_2l, zSt_3n, zSt_3i, zSt_3a, zSt_3l, zSt_4n, zSt_4i, zSt_4a, zSt_4l, zSt_5n, zSt_5i, zSt_5a, zSt_5l, zSt_6n, zSt_6i, zSt_6a, zSt_6l, zSt_7n, zSt_7i, zSt_7a, zSt_7l, zSt_8n, zSt_8i, zSt_8a, zSt_8l, zSt_9n, zSt_9i, zSt_9a, zSt_9l, zSt_10n, zSt_10i, zSt_10a, zSt_10l, zSt_11n, zSt_11i, zSt_11a, zSt_11l, zSt_12n, zSt_12i, zSt_12a, zSt_12l, zSt_13n, zSt_13i, zSt_13a, zSt_13l, zSL_1n, zSL_1i, zSL_1a, zSL_1l, zSL_2n, zSL_2i, zSL_2a, zSL_2l, zSL_3n, zSL_3i, zSL_3a, zSL_3l, zSL_4n, zSL_4i, zSL_4a, zSL_4l, zSL_5n, zSL_5i, zSL_5a, zSL_5l, zSL_6n, zSL_6i, zSL_6a, zSL_6l, zSL_7n, zSL_7i, zSL_7a, zSL_7l, zSL_8n, zSL_8i, zSL_8a, zSL_8l, zSL_9n, zSL_9i, zSL_9a, zSL_9l, zSL_10n, zSL_10i, zSL_10a, zSL_10l, zSL_11n, zSL_11i, zSL_11a, zSL_11l, zSL_12n, zSL_12i, zSL_12a, zSL_12l, zLI_0, zLL_0, zLA_0, zLI_1, zLL_1, zLA_1, zLI_2, zLL_2, zLA_2, zLI_3, zLL_3, zLA_3, zLI_4, zLL_4, zLA_4, zLI_5, zLL_5, zLA_5, zLI_6, zLL_6, zLA_6, zLI_7, zLL_7, zLA_7, zLI_8, zLL_8, zLA_8, zLI_9, zLL_9, zLA_9, zLI_10, zLL_10, zLA_10, zLI_11, zLL_11, zLA_11, zLI_12, zLL_12, zLA_12, zLI_13, zLL_13, zLA_13, zst_0, zst_1n, zst_1i, zst_1a, zst_2n, zst_2i, zst_2a, zst_3n, zst_3i, zst_3a, zst_4n, zst_4i, zst_4a, zst_5n, zst_5i, zst_5a, zst_6n, zst_6i, zst_6a, zst_7n, zst_7i, zst_7a, zst_8n, zst_8i, zst_8a, zst_9n, zst_9i, zst_9a, zst_10n, zst_10i, zst_10a, zst_11n, zst_11i, zst_11a, zst_12n, zst_12i, zst_12a, zst_13n, zst_13i, zst_13a, zst_14n, zst_14i, zst_14a, zst_15n, zst_15i, zst_15a, zR1_n, zR1_v, zsum_n, zsum_i, zsum_l, zsum_a, zlen_n, zlen_i, zlen_l, zlen_a, List.not_mem_nil, List.mem_cons, or_false, false_or, or_self, ↓reduceIte, if_false, if_true, Nat.reduceEqDiff, Nat.reduceAdd, Nat.reduceLeDiff, true_and, and_true, reduceCtorEq, ne_eq, Int.toNat_natCast, not_true_eq_false, not_false_eq_true, true_implies, false_implies, implies_true, Int.reduceToNat, Int.toNat_zero, Int.reduceLT, Int.reduceLE, Int.reduceEq, Int.reduceAdd, Int.reduceMul, Int.reduceNeg]
      subst hQ
      exact ⟨f', rfl, rfl, zCk_c h1 (fun y => zCf_cut), h2⟩
    · intro e he ih f' y2 y3 y4 h1 h2
      have we := hA e he
      have be := zEw_b we
      have inner : ∀ c : Nat, c ≤ e → ∀ f' y3 y4, zCk f' (zCf l e c) → (∀ a, a ≠ 1114 → f' a = f a) → zFR (zK L) 108 12 [some (.inr (.inr 1105)), some (.inl (e : Int)), some (.inl (c : Int)), y3, y4] [] (zwI M f') Q9 := by
        refine zloop ?_ ?_
        · intro f' y3 y4 h1 h2
          have o9 := ih f' (some (.inl (e : Int))) y3 y4 (zCk_c h1 (fun y => zCf_n)) h2
          rw [show ((e + 1 : Nat) : Int) = (e : Int) + 1 by omega] at o9
          refine zW_sound 60 [2] ?_
          simp only [ZR108, zW_succ, zE_iload, zE_aload, zE_lload, zE_iinc, zE_istore, zE_astore, zE_lstore, zE_iconst, zE_ldc2, zE_iadd, zE_isub, zE_imul, zE_idiv, zE_irem, zE_ineg, zE_iand, zE_ior, zE_ixor, zE_ishl, zE_ishr, zE_land, zE_lor, zE_lxor, zE_lshl, zE_lshr, zE_i2l, zE_lcmp, zE_dup_i, zE_dup_a, zE_dup2_ia, zE_pop_i, zE_pop_a, zE_pop2, zE_goto, zE_if_eq, zE_icmp_eq, zE_if_ne, zE_icmp_ne, zE_if_lt, zE_icmp_lt, zE_if_ge, zE_icmp_ge, zE_if_gt, zE_icmp_gt, zE_if_le, zE_icmp_le, zE_iaload, zE_baload, zE_laload, zE_aaload, zE_iastore, zE_bastore, zE_lastore, zE_aastore, zE_alen, zE_getf0, zE_getf1, zE_getf2, zE_getf3, zE_putf0, zE_putf1, zE_putf2, zE_putf3, zE_new, zE_newa, zE_newq, zE_ireturn, zE_lreturn, zE_areturn, zE_return, zE_athrow, zE_st0, zE_vi0, zE_st1, zE_vi1, zE_st2, zE_vi2, zE_st3, zE_vi3, zE_st4, zE_vi4, zE_st5, zE_vi5, zE_st6, zE_vi6, zE_st7, zE_vi7, zE_st8, zE_vi8, zSt_0, zSL_0, zSt_1n, zSt_1i, zSt_1a, zSt_1l, zSt_2n, zSt_2i, zSt_2a, zSt_2l, zSt_3n, zSt_3i, zSt_3a, zSt_3l, zSt_4n, zSt_4i, zSt_4a, zSt_4l, zSt_5n, zSt_5i, zSt_5a, zSt_5l, zSt_6n, zSt_6i, zSt_6a, zSt_6l, zSt_7n, zSt_7i, zSt_7a, zSt_7l, zSt_8n, zSt_8i, zSt_8a, zSt_8l, zSt_9n, zSt_9i, zSt_9a, zSt_9l, zSt_10n, zSt_10i, zSt_10a, zSt_10l, zSt_11n, zSt_11i, zSt_11a, zSt_11l, zSt_12n, zSt_12i, zSt_12a, zSt_12l, zSt_13n, zSt_13i, zSt_13a, zSt_13l, zSL_1n, zSL_1i, zSL_1a, zSL_1l, zSL_2n, zSL_2i, zSL_2a, zSL_2l, zSL_3n, zSL_3i, zSL_3a, zSL_3l, zSL_4n, zSL_4i, zSL_4a, zSL_4l, zSL_5n, zSL_5i, zSL_5a, zSL_5l, zSL_6n, zSL_6i, zSL_6a, zSL_6l, zSL_7n, zSL_7i, zSL_7a, zSL_7l, zSL_8n, zSL_8i, zSL_8a, zSL_8l, zSL_9n, zSL_9i, zSL_9a, zSL_9l, zSL_10n, zSL_10i, zSL_10a, zSL_10l, zSL_11n, zSL_11i, zSL_11a, zSL_11l, zSL_12n, zSL_12i, zSL_12a, zSL_12l, zLI_0, zLL_0, zLA_0, zLI_1, zLL_1, zLA_1, zLI_2, zLL_2, zLA_2, zLI_3, zLL_3, zLA_3, zLI_4, zLL_4, zLA_4, zLI_5, zLL_5, zLA_5, zLI_6, zLL_6, zLA_6, zLI_7, zLL_7, zLA_7, zLI_8, zLL_8, zLA_8, zLI_9, zLL_9, zLA_9, zLI_10, zLL_10, zLA_10, zLI_11, zLL_11, zLA_11, zLI_12, zLL_12, zLA_12, zLI_13, zLL_13, zLA_13, zst_0, zst_1n, zst_1i, zst_1a, zst_2n, zst_2i, zst_2a, zst_3n, zst_3i, zst_3a, zst_4n, zst_4i, zst_4a, zst_5n, zst_5i, zst_5a, zst_6n, zst_6i, zst_6a, zst_7n, zst_7i, zst_7a, zst_8n, zst_8i, zst_8a, zst_9n, zst_9i, zst_9a, zst_10n, zst_10i, zst_10a, zst_11n, zst_11i, zst_11a, zst_12n, zst_12i, zst_12a, zst_13n, zst_13i, zst_13a, zst_14n, zst_14i, zst_14a, zst_15n, zst_15i, zst_15a, zR1_n, zR1_v, zsum_n, zsum_i, zsum_l, zsum_a, zlen_n, zlen_i, zlen_l, zlen_a, List.not_mem_nil, List.mem_cons, or_false, false_or, or_self, ↓reduceIte, if_false, if_true, Nat.reduceEqDiff, Nat.reduceAdd, Nat.reduceLeDiff, true_and, and_true, reduceCtorEq, ne_eq, Int.toNat_natCast, not_true_eq_false, not_false_eq_true, true_implies, false_implies, implies_true, Int.reduceToNat, Int.toNat_zero, Int.reduceLT, Int.reduceLE, Int.reduceEq, Int.reduceAdd, Int.reduceMul, Int.reduceNeg]
          exact ⟨fun _ => ⟨by unfold zr32; omega, o9⟩, fun h => absurd (by omega) h⟩
        · intro c hc ihc f' y3 y4 h1 h2
          have wc := hA c (by omega)
          have bc := zEw_b wc
          obtain ⟨a1, a2, a3, a4, a5⟩ := hE2 e he
          obtain ⟨b1, b2, b3, b4, b5⟩ := hE2 c (by omega)
          rw [← h2 1107 (by omega)] at a1 b1
          rw [← h2 1108 (by omega)] at a2 b2
          rw [← h2 1109 (by omega)] at a3 b3
          rw [← h2 1110 (by omega)] at a4 b4
          have hs := fun y => zCf_s (l := l) (y := y) hc he
          unfold zxs zxy at hs
          obtain ⟨we1, we2, -⟩ := we
          obtain ⟨wc1, wc2, -⟩ := wc
          generalize zegd l e = d at *
          generalize zegd l c = k at *
          obtain ⟨lo1, hi1, ln1, bs1, bt1⟩ := d
          obtain ⟨lo2, hi2, ln2, bs2, bt2⟩ := k
          dsimp only at *
          have next : ∀ f' y3 y4, zCk f' (zCf l e (c + 1)) → (∀ a, a ≠ 1114 → f' a = f a) → zFR (zK L) 108 103 [some (.inr (.inr 1105)), some (.inl (e : Int)), some (.inl (c : Int)), y3, y4] [] (zwI M f') Q9 := by
            intro f' y3 y4 h1 h2
            have o9 := ihc f' y3 y4 h1 h2
            rw [show ((c + 1 : Nat) : Int) = (c : Int) + 1 by omega] at o9
            refine zW_sound 60 [12] ?_
            simp only [ZR108, zW_succ, zE_iload, zE_aload, zE_lload, zE_iinc, zE_istore, zE_astore, zE_lstore, zE_iconst, zE_ldc2, zE_iadd, zE_isub, zE_imul, zE_idiv, zE_irem, zE_ineg, zE_iand, zE_ior, zE_ixor, zE_ishl, zE_ishr, zE_land, zE_lor, zE_lxor, zE_lshl, zE_lshr, zE_i2l, zE_lcmp, zE_dup_i, zE_dup_a, zE_dup2_ia, zE_pop_i, zE_pop_a, zE_pop2, zE_goto, zE_if_eq, zE_icmp_eq, zE_if_ne, zE_icmp_ne, zE_if_lt, zE_icmp_lt, zE_if_ge, zE_icmp_ge, zE_if_gt, zE_icmp_gt, zE_if_le, zE_icmp_le, zE_iaload, zE_baload, zE_laload, zE_aaload, zE_iastore, zE_bastore, zE_lastore, zE_aastore, zE_alen, zE_getf0, zE_getf1, zE_getf2, zE_getf3, zE_putf0, zE_putf1, zE_putf2, zE_putf3, zE_new, zE_newa, zE_newq, zE_ireturn, zE_lreturn, zE_areturn, zE_return, zE_athrow, zE_st0, zE_vi0, zE_st1, zE_vi1, zE_st2, zE_vi2, zE_st3, zE_vi3, zE_st4, zE_vi4, zE_st5, zE_vi5, zE_st6, zE_vi6, zE_st7, zE_vi7, zE_st8, zE_vi8, zSt_0, zSL_0, zSt_1n, zSt_1i, zSt_1a, zSt_1l, zSt_2n, zSt_2i, zSt_2a, zSt_2l, zSt_3n, zSt_3i, zSt_3a, zSt_3l, zSt_4n, zSt_4i, zSt_4a, zSt_4l, zSt_5n, zSt_5i, zSt_5a, zSt_5l, zSt_6n, zSt_6i, zSt_6a, zSt_6l, zSt_7n, zSt_7i, zSt_7a, zSt_7l, zSt_8n, zSt_8i, zSt_8a, zSt_8l, zSt_9n, zSt_9i, zSt_9a, zSt_9l, zSt_10n, zSt_10i, zSt_10a, zSt_10l, zSt_11n, zSt_11i, zSt_11a, zSt_11l, zSt_12n, zSt_12i, zSt_12a, zSt_12l, zSt_13n, zSt_13i, zSt_13a, zSt_13l, zSL_1n, zSL_1i, zSL_1a, zSL_1l, zSL_2n, zSL_2i, zSL_2a, zSL_2l, zSL_3n, zSL_3i, zSL_3a, zSL_3l, zSL_4n, zSL_4i, zSL_4a, zSL_4l, zSL_5n, zSL_5i, zSL_5a, zSL_5l, zSL_6n, zSL_6i, zSL_6a, zSL_6l, zSL_7n, zSL_7i, zSL_7a, zSL_7l, zSL_8n, zSL_8i, zSL_8a, zSL_8l, zSL_9n, zSL_9i, zSL_9a, zSL_9l, zSL_10n, zSL_10i, zSL_10a, zSL_10l, zSL_11n, zSL_11i, zSL_11a, zSL_11l, zSL_12n, zSL_12i, zSL_12a, zSL_12l, zLI_0, zLL_0, zLA_0, zLI_1, zLL_1, zLA_1, zLI_2, zLL_2, zLA_2, zLI_3, zLL_3, zLA_3, zLI_4, zLL_4, zLA_4, zLI_5, zLL_5, zLA_5, zLI_6, zLL_6, zLA_6, zLI_7, zLL_7, zLA_7, zLI_8, zLL_8, zLA_8, zLI_9, zLL_9, zLA_9, zLI_10, zLL_10, zLA_10, zLI_11, zLL_11, zLA_11, zLI_12, zLL_12, zLA_12, zLI_13, zLL_13, zLA_13, zst_0, zst_1n, zst_1i, zst_1a, zst_2n, zst_2i, zst_2a, zst_3n, zst_3i, zst_3a, zst_4n, zst_4i, zst_4a, zst_5n, zst_5i, zst_5a, zst_6n, zst_6i, zst_6a, zst_7n, zst_7i, zst_7a, zst_8n, zst_8i, zst_8a, zst_9n, zst_9i, zst_9a, zst_10n, zst_10i, zst_10a, zst_11n, zst_11i, zst_11a, zst_12n, zst_12i, zst_12a, zst_13n, zst_13i, zst_13a, zst_14n, zst_14i, zst_14a, zst_15n, zst_15i, zst_15a, zR1_n, zR1_v, zsum_n, zsum_i, zsum_l, zsum_a, zlen_n, zlen_i, zlen_l, zlen_a, List.not_mem_nil, List.mem_cons, or_false, false_or, or_self, ↓reduceIte, if_false, if_true, Nat.reduceEqDiff, Nat.reduceAdd, Nat.reduceLeDiff, true_and, and_true, reduceCtorEq, ne_eq, Int.toNat_natCast, not_true_eq_false, not_false_eq_true, true_implies, false_implies, implies_true, Int.reduceToNat, Int.toNat_zero, Int.reduceLT, Int.reduceLE, Int.reduceEq, Int.reduceAdd, Int.reduceMul, Int.reduceNeg]
            exact ⟨by unfold zr32; omega, o9⟩
          by_cases h0 : ln1 - ln2 = 0
          · have n9 := next f' (some (.inl (ln1 - ln2))) y4 (zCk_c h1 (fun y => ⟨fun h => (hs y).mpr (Or.inl h), fun h => ((hs y).mp h).elim id (fun h3 => absurd h0 h3.1)⟩)) h2
            refine zW_sound 60 [103] ?_
            simp only [ZR108, zk_1105, zk_1109, hF, zwI_I, zwI_2, a3, b3, zW_succ, zE_iload, zE_aload, zE_lload, zE_iinc, zE_istore, zE_astore, zE_lstore, zE_iconst, zE_ldc2, zE_iadd, zE_isub, zE_imul, zE_idiv, zE_irem, zE_ineg, zE_iand, zE_ior, zE_ixor, zE_ishl, zE_ishr, zE_land, zE_lor, zE_lxor, zE_lshl, zE_lshr, zE_i2l, zE_lcmp, zE_dup_i, zE_dup_a, zE_dup2_ia, zE_pop_i, zE_pop_a, zE_pop2, zE_goto, zE_if_eq, zE_icmp_eq, zE_if_ne, zE_icmp_ne, zE_if_lt, zE_icmp_lt, zE_if_ge, zE_icmp_ge, zE_if_gt, zE_icmp_gt, zE_if_le, zE_icmp_le, zE_iaload, zE_baload, zE_laload, zE_aaload, zE_iastore, zE_bastore, zE_lastore, zE_aastore, zE_alen, zE_getf0, zE_getf1, zE_getf2, zE_getf3, zE_putf0, zE_putf1, zE_putf2, zE_putf3, zE_new, zE_newa, zE_newq, zE_ireturn, zE_lreturn, zE_areturn, zE_return, zE_athrow, zE_st0, zE_vi0, zE_st1, zE_vi1, zE_st2, zE_vi2, zE_st3, zE_vi3, zE_st4, zE_vi4, zE_st5, zE_vi5, zE_st6, zE_vi6, zE_st7, zE_vi7, zE_st8, zE_vi8, zSt_0, zSL_0, zSt_1n, zSt_1i, zSt_1a, zSt_1l, zSt_2n, zSt_2i, zSt_2a, zSt_2l, zSt_3n, zSt_3i, zSt_3a, zSt_3l, zSt_4n, zSt_4i, zSt_4a, zSt_4l, zSt_5n, zSt_5i, zSt_5a, zSt_5l, zSt_6n, zSt_6i, zSt_6a, zSt_6l, zSt_7n, zSt_7i, zSt_7a, zSt_7l, zSt_8n, zSt_8i, zSt_8a, zSt_8l, zSt_9n, zSt_9i, zSt_9a, zSt_9l, zSt_10n, zSt_10i, zSt_10a, zSt_10l, zSt_11n, zSt_11i, zSt_11a, zSt_11l, zSt_12n, zSt_12i, zSt_12a, zSt_12l, zSt_13n, zSt_13i, zSt_13a, zSt_13l, zSL_1n, zSL_1i, zSL_1a, zSL_1l, zSL_2n, zSL_2i, zSL_2a, zSL_2l, zSL_3n, zSL_3i, zSL_3a, zSL_3l, zSL_4n, zSL_4i, zSL_4a, zSL_4l, zSL_5n, zSL_5i, zSL_5a, zSL_5l, zSL_6n, zSL_6i, zSL_6a, zSL_6l, zSL_7n, zSL_7i, zSL_7a, zSL_7l, zSL_8n, zSL_8i, zSL_8a, zSL_8l, zSL_9n, zSL_9i, zSL_9a, zSL_9l, zSL_10n, zSL_10i, zSL_10a, zSL_10l, zSL_11n, zSL_11i, zSL_11a, zSL_11l, zSL_12n, zSL_12i, zSL_12a, zSL_12l, zLI_0, zLL_0, zLA_0, zLI_1, zLL_1, zLA_1, zLI_2, zLL_2, zLA_2, zLI_3, zLL_3, zLA_3, zLI_4, zLL_4, zLA_4, zLI_5, zLL_5, zLA_5, zLI_6, zLL_6, zLA_6, zLI_7, zLL_7, zLA_7, zLI_8, zLL_8, zLA_8, zLI_9, zLL_9, zLA_9, zLI_10, zLL_10, zLA_10, zLI_11, zLL_11, zLA_11, zLI_12, zLL_12, zLA_12, zLI_13, zLL_13, zLA_13, zst_0, zst_1n, zst_1i, zst_1a, zst_2n, zst_2i, zst_2a, zst_3n, zst_3i, zst_3a, zst_4n, zst_4i, zst_4a, zst_5n, zst_5i, zst_5a, zst_6n, zst_6i, zst_6a, zst_7n, zst_7i, zst_7a, zst_8n, zst_8i, zst_8a, zst_9n, zst_9i, zst_9a, zst_10n, zst_10i, zst_10a, zst_11n, zst_11i, zst_11a, zst_12n, zst_12i, zst_12a, zst_13n, zst_13i, zst_13a, zst_14n, zst_14i, zst_14a, zst_15n, zst_15i, zst_15a, zR1_n, zR1_v, zsum_n, zsum_i, zsum_l, zsum_a, zlen_n, zlen_i, zlen_l, zlen_a, List.not_mem_nil, List.mem_cons, or_false, false_or, or_self, ↓reduceIte, if_false, if_true, Nat.reduceEqDiff, Nat.reduceAdd, Nat.reduceLeDiff, true_and, and_true, reduceCtorEq, ne_eq, Int.toNat_natCast, not_true_eq_false, not_false_eq_true, true_implies, false_implies, implies_true, Int.reduceToNat, Int.toNat_zero, Int.reduceLT, Int.reduceLE, Int.reduceEq, Int.reduceAdd, Int.reduceMul, Int.reduceNeg]
            (repeat' (first | with_reducible refine And.intro ?_ ?_ | with_reducible intro _)) <;> try first | with_reducible rfl | with_reducible assumption | omega | (unfold zr32; omega) | contradiction | (exact absurd (by omega) (by assumption)) | rfl | (simp only [Sum.inl.injEq, Option.some.injEq]; omega)
          · have tb : -871200 ≤ (60 * (bs2 - bs1)).tdiv (ln1 - ln2) ∧ (60 * (bs2 - bs1)).tdiv (ln1 - ln2) ≤ 871200 := by
              have := Int.natAbs_tdiv_le_natAbs (60 * (bs2 - bs1)) (ln1 - ln2)
              omega
            generalize hy : (60 * (bs2 - bs1)).tdiv (ln1 - ln2) = y at *
            by_cases hin : max (60 * lo1) (60 * lo2) < y ∧ y < min (60 * hi1) (60 * hi2)
            · obtain ⟨v, hv⟩ : ∃ v : Nat, y = (v : Int) := ⟨y.toNat, by omega⟩
              have n9 := next (zu2 f' 1114 v 1) (some (.inl (ln1 - ln2))) (some (.inl y)) (zCk_s h1 (fun z => (hs z).trans (or_congr_right ⟨fun h => h.2.1.trans hv, fun h => ⟨h0, h.trans hv.symm, by rw [h, ← hv]; exact hin.1, by rw [h, ← hv]; exact hin.2⟩⟩))) (fun a ha => by
                rw [← h2 a ha]
                funext j
                rw [zu2_a ha])
              have eT : y.toNat = v := by omega
              refine zW_sound 60 [103] ?_
              simp only [ZR108, zk_1105, zk_1107, zk_1108, zk_1109, zk_1110, zk_1114, hF, zwI_I, zwI_2, zsI_wI, a1, a2, a3, a4, b1, b2, b3, b4, hy, eT, ZF387.1, ZF387.2.1, ZF387.2.2.1, ZF388.1, ZF388.2.1, ZF388.2.2.1, c387, c388, zW_succ, zE_iload, zE_aload, zE_lload, zE_iinc, zE_istore, zE_astore, zE_lstore, zE_iconst, zE_ldc2, zE_iadd, zE_isub, zE_imul, zE_idiv, zE_irem, zE_ineg, zE_iand, zE_ior, zE_ixor, zE_ishl, zE_ishr, zE_land, zE_lor, zE_lxor, zE_lshl, zE_lshr, zE_i2l, zE_lcmp, zE_dup_i, zE_dup_a, zE_dup2_ia, zE_pop_i, zE_pop_a, zE_pop2, zE_goto, zE_if_eq, zE_icmp_eq, zE_if_ne, zE_icmp_ne, zE_if_lt, zE_icmp_lt, zE_if_ge, zE_icmp_ge, zE_if_gt, zE_icmp_gt, zE_if_le, zE_icmp_le, zE_iaload, zE_baload, zE_laload, zE_aaload, zE_iastore, zE_bastore, zE_lastore, zE_aastore, zE_alen, zE_getf0, zE_getf1, zE_getf2, zE_getf3, zE_putf0, zE_putf1, zE_putf2, zE_putf3, zE_new, zE_newa, zE_newq, zE_ireturn, zE_lreturn, zE_areturn, zE_return, zE_athrow, zE_st0, zE_vi0, zE_st1, zE_vi1, zE_st2, zE_vi2, zE_st3, zE_vi3, zE_st4, zE_vi4, zE_st5, zE_vi5, zE_st6, zE_vi6, zE_st7, zE_vi7, zE_st8, zE_vi8, zSt_0, zSL_0, zSt_1n, zSt_1i, zSt_1a, zSt_1l, zSt_2n, zSt_2i, zSt_2a, zSt_2l, zSt_3n, zSt_3i, zSt_3a, zSt_3l, zSt_4n, zSt_4i, zSt_4a, zSt_4l, zSt_5n, zSt_5i, zSt_5a, zSt_5l, zSt_6n, zSt_6i, zSt_6a, zSt_6l, zSt_7n, zSt_7i, zSt_7a, zSt_7l, zSt_8n, zSt_8i, zSt_8a, zSt_8l, zSt_9n, zSt_9i, zSt_9a, zSt_9l, zSt_10n, zSt_10i, zSt_10a, zSt_10l, zSt_11n, zSt_11i, zSt_11a, zSt_11l, zSt_12n, zSt_12i, zSt_12a, zSt_12l, zSt_13n, zSt_13i, zSt_13a, zSt_13l, zSL_1n, zSL_1i, zSL_1a, zSL_1l, zSL_2n, zSL_2i, zSL_2a, zSL_2l, zSL_3n, zSL_3i, zSL_3a, zSL_3l, zSL_4n, zSL_4i, zSL_4a, zSL_4l, zSL_5n, zSL_5i, zSL_5a, zSL_5l, zSL_6n, zSL_6i, zSL_6a, zSL_6l, zSL_7n, zSL_7i, zSL_7a, zSL_7l, zSL_8n, zSL_8i, zSL_8a, zSL_8l, zSL_9n, zSL_9i, zSL_9a, zSL_9l, zSL_10n, zSL_10i, zSL_10a, zSL_10l, zSL_11n, zSL_11i, zSL_11a, zSL_11l, zSL_12n, zSL_12i, zSL_12a, zSL_12l, zLI_0, zLL_0, zLA_0, zLI_1, zLL_1, zLA_1, zLI_2, zLL_2, zLA_2, zLI_3, zLL_3, zLA_3, zLI_4, zLL_4, zLA_4, zLI_5, zLL_5, zLA_5, zLI_6, zLL_6, zLA_6, zLI_7, zLL_7, zLA_7, zLI_8, zLL_8, zLA_8, zLI_9, zLL_9, zLA_9, zLI_10, zLL_10, zLA_10, zLI_11, zLL_11, zLA_11, zLI_12, zLL_12, zLA_12, zLI_13, zLL_13, zLA_13, zst_0, zst_1n, zst_1i, zst_1a, zst_2n, zst_2i, zst_2a, zst_3n, zst_3i, zst_3a, zst_4n, zst_4i, zst_4a, zst_5n, zst_5i, zst_5a, zst_6n, zst_6i, zst_6a, zst_7n, zst_7i, zst_7a, zst_8n, zst_8i, zst_8a, zst_9n, zst_9i, zst_9a, zst_10n, zst_10i, zst_10a, zst_11n, zst_11i, zst_11a, zst_12n, zst_12i, zst_12a, zst_13n, zst_13i, zst_13a, zst_14n, zst_14i, zst_14a, zst_15n, zst_15i, zst_15a, zR1_n, zR1_v, zsum_n, zsum_i, zsum_l, zsum_a, zlen_n, zlen_i, zlen_l, zlen_a, List.not_mem_nil, List.mem_cons, or_false, false_or, or_self, ↓reduceIte, if_false, if_true, Nat.reduceEqDiff, Nat.reduceAdd, Nat.reduceLeDiff, true_and, and_true, reduceCtorEq, ne_eq, Int.toNat_natCast, not_true_eq_false, not_false_eq_true, true_implies, false_implies, implies_true, Int.reduceToNat, Int.toNat_zero, Int.reduceLT, Int.reduceLE, Int.reduceEq, Int.reduceAdd, Int.reduceMul, Int.reduceNeg]
              (repeat' (first | with_reducible refine And.intro ?_ ?_ | with_reducible intro _)) <;> try first | with_reducible rfl | with_reducible assumption | omega | (unfold zr32; omega) | contradiction | (exact absurd (by omega) (by assumption)) | rfl | (simp only [Sum.inl.injEq, Option.some.injEq]; omega)
            · have n9 := next f' (some (.inl (ln1 - ln2))) (some (.inl y)) (zCk_c h1 (fun z => ⟨fun h => (hs z).mpr (Or.inl h), fun h => ((hs z).mp h).elim id (fun h3 => absurd (by rw [← h3.2.1]; exact h3.2.2) hin)⟩)) h2
              refine zW_sound 60 [103] ?_
              simp only [ZR108, zk_1105, zk_1107, zk_1108, zk_1109, zk_1110, zk_1114, hF, zwI_I, zwI_2, zsI_wI, a1, a2, a3, a4, b1, b2, b3, b4, hy, ZF387.1, ZF387.2.1, ZF387.2.2.1, ZF388.1, ZF388.2.1, ZF388.2.2.1, c387, c388, zW_succ, zE_iload, zE_aload, zE_lload, zE_iinc, zE_istore, zE_astore, zE_lstore, zE_iconst, zE_ldc2, zE_iadd, zE_isub, zE_imul, zE_idiv, zE_irem, zE_ineg, zE_iand, zE_ior, zE_ixor, zE_ishl, zE_ishr, zE_land, zE_lor, zE_lxor, zE_lshl, zE_lshr, zE_i2l, zE_lcmp, zE_dup_i, zE_dup_a, zE_dup2_ia, zE_pop_i, zE_pop_a, zE_pop2, zE_goto, zE_if_eq, zE_icmp_eq, zE_if_ne, zE_icmp_ne, zE_if_lt, zE_icmp_lt, zE_if_ge, zE_icmp_ge, zE_if_gt, zE_icmp_gt, zE_if_le, zE_icmp_le, zE_iaload, zE_baload, zE_laload, zE_aaload, zE_iastore, zE_bastore, zE_lastore, zE_aastore, zE_alen, zE_getf0, zE_getf1, zE_getf2, zE_getf3, zE_putf0, zE_putf1, zE_putf2, zE_putf3, zE_new, zE_newa, zE_newq, zE_ireturn, zE_lreturn, zE_areturn, zE_return, zE_athrow, zE_st0, zE_vi0, zE_st1, zE_vi1, zE_st2, zE_vi2, zE_st3, zE_vi3, zE_st4, zE_vi4, zE_st5, zE_vi5, zE_st6, zE_vi6, zE_st7, zE_vi7, zE_st8, zE_vi8, zSt_0, zSL_0, zSt_1n, zSt_1i, zSt_1a, zSt_1l, zSt_2n, zSt_2i, zSt_2a, zSt_2l, zSt_3n, zSt_3i, zSt_3a, zSt_3l, zSt_4n, zSt_4i, zSt_4a, zSt_4l, zSt_5n, zSt_5i, zSt_5a, zSt_5l, zSt_6n, zSt_6i, zSt_6a, zSt_6l, zSt_7n, zSt_7i, zSt_7a, zSt_7l, zSt_8n, zSt_8i, zSt_8a, zSt_8l, zSt_9n, zSt_9i, zSt_9a, zSt_9l, zSt_10n, zSt_10i, zSt_10a, zSt_10l, zSt_11n, zSt_11i, zSt_11a, zSt_11l, zSt_12n, zSt_12i, zSt_12a, zSt_12l, zSt_13n, zSt_13i, zSt_13a, zSt_13l, zSL_1n, zSL_1i, zSL_1a, zSL_1l, zSL_2n, zSL_2i, zSL_2a, zSL_2l, zSL_3n, zSL_3i, zSL_3a, zSL_3l, zSL_4n, zSL_4i, zSL_4a, zSL_4l, zSL_5n, zSL_5i, zSL_5a, zSL_5l, zSL_6n, zSL_6i, zSL_6a, zSL_6l, zSL_7n, zSL_7i, zSL_7a, zSL_7l, zSL_8n, zSL_8i, zSL_8a, zSL_8l, zSL_9n, zSL_9i, zSL_9a, zSL_9l, zSL_10n, zSL_10i, zSL_10a, zSL_10l, zSL_11n, zSL_11i, zSL_11a, zSL_11l, zSL_12n, zSL_12i, zSL_12a, zSL_12l, zLI_0, zLL_0, zLA_0, zLI_1, zLL_1, zLA_1, zLI_2, zLL_2, zLA_2, zLI_3, zLL_3, zLA_3, zLI_4, zLL_4, zLA_4, zLI_5, zLL_5, zLA_5, zLI_6, zLL_6, zLA_6, zLI_7, zLL_7, zLA_7, zLI_8, zLL_8, zLA_8, zLI_9, zLL_9, zLA_9, zLI_10, zLL_10, zLA_10, zLI_11, zLL_11, zLA_11, zLI_12, zLL_12, zLA_12, zLI_13, zLL_13, zLA_13, zst_0, zst_1n, zst_1i, zst_1a, zst_2n, zst_2i, zst_2a, zst_3n, zst_3i, zst_3a, zst_4n, zst_4i, zst_4a, zst_5n, zst_5i, zst_5a, zst_6n, zst_6i, zst_6a, zst_7n, zst_7i, zst_7a, zst_8n, zst_8i, zst_8a, zst_9n, zst_9i, zst_9a, zst_10n, zst_10i, zst_10a, zst_11n, zst_11i, zst_11a, zst_12n, zst_12i, zst_12a, zst_13n, zst_13i, zst_13a, zst_14n, zst_14i, zst_14a, zst_15n, zst_15i, zst_15a, zR1_n, zR1_v, zsum_n, zsum_i, zsum_l, zsum_a, zlen_n, zlen_i, zlen_l, zlen_a, List.not_mem_nil, List.mem_cons, or_false, false_or, or_self, ↓reduceIte, if_false, if_true, Nat.reduceEqDiff, Nat.reduceAdd, Nat.reduceLeDiff, true_and, and_true, reduceCtorEq, ne_eq, Int.toNat_natCast, not_true_eq_false, not_false_eq_true, true_implies, false_implies, implies_true, Int.reduceToNat, Int.toNat_zero, Int.reduceLT, Int.reduceLE, Int.reduceEq, Int.reduceAdd, Int.reduceMul, Int.reduceNeg]
              (repeat' (first | with_reducible refine And.intro ?_ ?_ | with_reducible intro _)) <;> try first | with_reducible rfl | with_reducible assumption | omega | (unfold zr32; omega) | contradiction | (exact absurd (by omega) (by assumption)) | rfl | (simp only [Sum.inl.injEq, Option.some.injEq]; omega)
      have o9 := inner 0 (Nat.zero_le _) f' y3 y4 h1 h2
      have e1 : f' 1105 1 = (l.length : Int) := by rw [h2 1105 (by omega), hE1]
      refine zW_sound 60 [12, 115] ?_
      simp only [ZR108, zk_1105, zwI_I, e1, zW_succ, zE_iload, zE_aload, zE_lload, zE_iinc, zE_istore, zE_astore, zE_lstore, zE_iconst, zE_ldc2, zE_iadd, zE_isub, zE_imul, zE_idiv, zE_irem, zE_ineg, zE_iand, zE_ior, zE_ixor, zE_ishl, zE_ishr, zE_land, zE_lor, zE_lxor, zE_lshl, zE_lshr, zE_i2l, zE_lcmp, zE_dup_i, zE_dup_a, zE_dup2_ia, zE_pop_i, zE_pop_a, zE_pop2, zE_goto, zE_if_eq, zE_icmp_eq, zE_if_ne, zE_icmp_ne, zE_if_lt, zE_icmp_lt, zE_if_ge, zE_icmp_ge, zE_if_gt, zE_icmp_gt, zE_if_le, zE_icmp_le, zE_iaload, zE_baload, zE_laload, zE_aaload, zE_iastore, zE_bastore, zE_lastore, zE_aastore, zE_alen, zE_getf0, zE_getf1, zE_getf2, zE_getf3, zE_putf0, zE_putf1, zE_putf2, zE_putf3, zE_new, zE_newa, zE_newq, zE_ireturn, zE_lreturn, zE_areturn, zE_return, zE_athrow, zE_st0, zE_vi0, zE_st1, zE_vi1, zE_st2, zE_vi2, zE_st3, zE_vi3, zE_st4, zE_vi4, zE_st5, zE_vi5, zE_st6, zE_vi6, zE_st7, zE_vi7, zE_st8, zE_vi8, zSt_0, zSL_0, zSt_1n, zSt_1i, zSt_1a, zSt_1l, zSt_2n, zSt_2i, zSt_2a, zSt_2l, zSt_3n, zSt_3i, zSt_3a, zSt_3l, zSt_4n, zSt_4i, zSt_4a, zSt_4l, zSt_5n, zSt_5i, zSt_5a, zSt_5l, zSt_6n, zSt_6i, zSt_6a, zSt_6l, zSt_7n, zSt_7i, zSt_7a, zSt_7l, zSt_8n, zSt_8i, zSt_8a, zSt_8l, zSt_9n, zSt_9i, zSt_9a, zSt_9l, zSt_10n, zSt_10i, zSt_10a, zSt_10l, zSt_11n, zSt_11i, zSt_11a, zSt_11l, zSt_12n, zSt_12i, zSt_12a, zSt_12l, zSt_13n, zSt_13i, zSt_13a, zSt_13l, zSL_1n, zSL_1i, zSL_1a, zSL_1l, zSL_2n, zSL_2i, zSL_2a, zSL_2l, zSL_3n, zSL_3i, zSL_3a, zSL_3l, zSL_4n, zSL_4i, zSL_4a, zSL_4l, zSL_5n, zSL_5i, zSL_5a, zSL_5l, zSL_6n, zSL_6i, zSL_6a, zSL_6l, zSL_7n, zSL_7i, zSL_7a, zSL_7l, zSL_8n, zSL_8i, zSL_8a, zSL_8l, zSL_9n, zSL_9i, zSL_9a, zSL_9l, zSL_10n, zSL_10i, zSL_10a, zSL_10l, zSL_11n, zSL_11i, zSL_11a, zSL_11l, zSL_12n, zSL_12i, zSL_12a, zSL_12l, zLI_0, zLL_0, zLA_0, zLI_1, zLL_1, zLA_1, zLI_2, zLL_2, zLA_2, zLI_3, zLL_3, zLA_3, zLI_4, zLL_4, zLA_4, zLI_5, zLL_5, zLA_5, zLI_6, zLL_6, zLA_6, zLI_7, zLL_7, zLA_7, zLI_8, zLL_8, zLA_8, zLI_9, zLL_9, zLA_9, zLI_10, zLL_10, zLA_10, zLI_11, zLL_11, zLA_11, zLI_12, zLL_12, zLA_12, zLI_13, zLL_13, zLA_13, zst_0, zst_1n, zst_1i, zst_1a, zst_2n, zst_2i, zst_2a, zst_3n, zst_3i, zst_3a, zst_4n, zst_4i, zst_4a, zst_5n, zst_5i, zst_5a, zst_6n, zst_6i, zst_6a, zst_7n, zst_7i, zst_7a, zst_8n, zst_8i, zst_8a, zst_9n, zst_9i, zst_9a, zst_10n, zst_10i, zst_10a, zst_11n, zst_11i, zst_11a, zst_12n, zst_12i, zst_12a, zst_13n, zst_13i, zst_13a, zst_14n, zst_14i, zst_14a, zst_15n, zst_15i, zst_15a, zR1_n, zR1_v, zsum_n, zsum_i, zsum_l, zsum_a, zlen_n, zlen_i, zlen_l, zlen_a, List.not_mem_nil, List.mem_cons, or_false, false_or, or_self, ↓reduceIte, if_false, if_true, Nat.reduceEqDiff, Nat.reduceAdd, Nat.reduceLeDiff, true_and, and_true, reduceCtorEq, ne_eq, Int.toNat_natCast, not_true_eq_false, not_false_eq_true, true_implies, false_implies, implies_true, Int.reduceToNat, Int.toNat_zero, Int.reduceLT, Int.reduceLE, Int.reduceEq, Int.reduceAdd, Int.reduceMul, Int.reduceNeg]
      (repeat' (first | with_reducible refine And.intro ?_ ?_ | with_reducible intro _)) <;> try first | with_reducible rfl | with_reducible assumption | omega | (unfold zr32; omega) | contradiction | (exact absurd (by omega) (by assumption)) | rfl | (simp only [Sum.inl.injEq, Option.some.injEq]; omega)
  have o9 := outer 0 (Nat.zero_le _) f none none none (zCk_c hC (fun y => zCf_0)) (fun a _ => rfl)
  refine zW_sound 60 [2] ?_
  simp only [ZF108, ZR108, zW_succ, zE_iload, zE_aload, zE_lload, zE_iinc, zE_istore, zE_astore, zE_lstore, zE_iconst, zE_ldc2, zE_iadd, zE_isub, zE_imul, zE_idiv, zE_irem, zE_ineg, zE_iand, zE_ior, zE_ixor, zE_ishl, zE_ishr, zE_land, zE_lor, zE_lxor, zE_lshl, zE_lshr, zE_i2l, zE_lcmp, zE_dup_i, zE_dup_a, zE_dup2_ia, zE_pop_i, zE_pop_a, zE_pop2, zE_goto, zE_if_eq, zE_icmp_eq, zE_if_ne, zE_icmp_ne, zE_if_lt, zE_icmp_lt, zE_if_ge, zE_icmp_ge, zE_if_gt, zE_icmp_gt, zE_if_le, zE_icmp_le, zE_iaload, zE_baload, zE_laload, zE_aaload, zE_iastore, zE_bastore, zE_lastore, zE_aastore, zE_alen, zE_getf0, zE_getf1, zE_getf2, zE_getf3, zE_putf0, zE_putf1, zE_putf2, zE_putf3, zE_new, zE_newa, zE_newq, zE_ireturn, zE_lreturn, zE_areturn, zE_return, zE_athrow, zE_st0, zE_vi0, zE_st1, zE_vi1, zE_st2, zE_vi2, zE_st3, zE_vi3, zE_st4, zE_vi4, zE_st5, zE_vi5, zE_st6, zE_vi6, zE_st7, zE_vi7, zE_st8, zE_vi8, zSt_0, zSL_0, zSt_1n, zSt_1i, zSt_1a, zSt_1l, zSt_2n, zSt_2i, zSt_2a, zSt_2l, zSt_3n, zSt_3i, zSt_3a, zSt_3l, zSt_4n, zSt_4i, zSt_4a, zSt_4l, zSt_5n, zSt_5i, zSt_5a, zSt_5l, zSt_6n, zSt_6i, zSt_6a, zSt_6l, zSt_7n, zSt_7i, zSt_7a, zSt_7l, zSt_8n, zSt_8i, zSt_8a, zSt_8l, zSt_9n, zSt_9i, zSt_9a, zSt_9l, zSt_10n, zSt_10i, zSt_10a, zSt_10l, zSt_11n, zSt_11i, zSt_11a, zSt_11l, zSt_12n, zSt_12i, zSt_12a, zSt_12l, zSt_13n, zSt_13i, zSt_13a, zSt_13l, zSL_1n, zSL_1i, zSL_1a, zSL_1l, zSL_2n, zSL_2i, zSL_2a, zSL_2l, zSL_3n, zSL_3i, zSL_3a, zSL_3l, zSL_4n, zSL_4i, zSL_4a, zSL_4l, zSL_5n, zSL_5i, zSL_5a, zSL_5l, zSL_6n, zSL_6i, zSL_6a, zSL_6l, zSL_7n, zSL_7i, zSL_7a, zSL_7l, zSL_8n, zSL_8i, zSL_8a, zSL_8l, zSL_9n, zSL_9i, zSL_9a, zSL_9l, zSL_10n, zSL_10i, zSL_10a, zSL_10l, zSL_11n, zSL_11i, zSL_11a, zSL_11l, zSL_12n, zSL_12i, zSL_12a, zSL_12l, zLI_0, zLL_0, zLA_0, zLI_1, zLL_1, zLA_1, zLI_2, zLL_2, zLA_2, zLI_3, zLL_3, zLA_3, zLI_4, zLL_4, zLA_4, zLI_5, zLL_5, zLA_5, zLI_6, zLL_6, zLA_6, zLI_7, zLL_7, zLA_7, zLI_8, zLL_8, zLA_8, zLI_9, zLL_9, zLA_9, zLI_10, zLL_10, zLA_10, zLI_11, zLL_11, zLA_11, zLI_12, zLL_12, zLA_12, zLI_13, zLL_13, zLA_13, zst_0, zst_1n, zst_1i, zst_1a, zst_2n, zst_2i, zst_2a, zst_3n, zst_3i, zst_3a, zst_4n, zst_4i, zst_4a, zst_5n, zst_5i, zst_5a, zst_6n, zst_6i, zst_6a, zst_7n, zst_7i, zst_7a, zst_8n, zst_8i, zst_8a, zst_9n, zst_9i, zst_9a, zst_10n, zst_10i, zst_10a, zst_11n, zst_11i, zst_11a, zst_12n, zst_12i, zst_12a, zst_13n, zst_13i, zst_13a, zst_14n, zst_14i, zst_14a, zst_15n, zst_15i, zst_15a, zR1_n, zR1_v, zsum_n, zsum_i, zsum_l, zsum_a, zlen_n, zlen_i, zlen_l, zlen_a, List.not_mem_nil, List.mem_cons, or_false, false_or, or_self, ↓reduceIte, if_false, if_true, Nat.reduceEqDiff, Nat.reduceAdd, Nat.reduceLeDiff, true_and, and_true, reduceCtorEq, ne_eq, Int.toNat_natCast, not_true_eq_false, not_false_eq_true, true_implies, false_implies, implies_true, Int.reduceToNat, Int.toNat_zero, Int.reduceLT, Int.reduceLE, Int.reduceEq, Int.reduceAdd, Int.reduceMul, Int.reduceNeg]
  exact o9
end ZCUTS
end SG_9J_cuts
section SG_9K_open
/-! rows of numbers in arrays; put in order -/
section ZOPEN
variable {L : Nat} {M : zM} {s a b : Nat} {Q : zO → zM → Prop}
def zAL (g : Nat → Int) (l : List Nat) : Prop := ∀ (i x : Nat), l[i]? = some x → g i = (x : Int)
theorem zins_at {m : Nat → Int} {v : Nat} : ∀ (p : List Nat) (t : Nat), t ≤ p.length → (∀ i x, i < t → p[i]? = some x → m x ≤ m v) → (∀ x, p[t]? = some x → m v < m x) → zins m v p = p.take t ++ v :: p.drop t
  | [], t, _, _, _ => by
    rw [List.take_nil, List.drop_nil]
    rfl
  | a :: q, 0, _, _, h => by
    have h1 := h a rfl
    unfold zins
    rw [if_pos h1]
    rfl
  | a :: q, t + 1, ht, h1, h2 => by
    have h3 := h1 0 a (by omega) rfl
    have ih := zins_at q t (by rw [List.length_cons] at ht; omega) (fun i x hi hx => h1 (i + 1) x (by omega) (by rw [List.getElem?_cons_succ]; exact hx)) (fun x hx => h2 x (by rw [List.getElem?_cons_succ]; exact hx))
    unfold zins
    rw [if_neg (by omega), ih]
    rfl
theorem zgt_ins {p : List Nat} {t v i : Nat} (ht : t ≤ p.length) : (p.take t ++ v :: p.drop t)[i]? = if i < t then p[i]? else if i = t then some v else p[i - 1]? := by
  have hl : (p.take t).length = t := by rw [List.length_take]; omega
  by_cases h1 : i < t
  · rw [if_pos h1, List.getElem?_append_left (by omega), List.getElem?_take_of_lt h1]
  · rw [if_neg h1, List.getElem?_append_right (by omega), hl]
    by_cases h2 : i = t
    · subst h2
      rw [if_pos rfl, Nat.sub_self]
      rfl
    · obtain ⟨d, rfl⟩ : ∃ d, i = t + 1 + d := ⟨i - t - 1, by omega⟩
      rw [if_neg h2, show t + 1 + d - t = d + 1 by omega, List.getElem?_cons_succ, List.getElem?_drop, show t + 1 + d - 1 = t + d by omega]
/-- while room is made -/
def zMk (m : Nat → Int) (v : Nat) (p : List Nat) (t : Nat) (g : Nat → Int) : Prop := (∀ i x, i < t → p[i]? = some x → g i = (x : Int)) ∧ ∀ i x, t ≤ i → p[i]? = some x → g (i + 1) = (x : Int) ∧ m v < m x
theorem zMk_e {m : Nat → Int} {v : Nat} {p : List Nat} {t : Nat} {g : Nat → Int} (hs : zSo m p) (ht : t ≤ p.length) (h : zMk m v p t g) (he : t = 0 ∨ ∃ x, p[t - 1]? = some x ∧ m x ≤ m v) : zAL (zup g t (v : Int)) (zins m v p) := by
  have e : zins m v p = p.take t ++ v :: p.drop t := by
    refine zins_at p t ht (fun i x hi hx => ?_) (fun x hx => (h.2 t x (Nat.le_refl t) hx).2)
    rcases he with h0 | ⟨y, hy, hm⟩
    · omega
    · by_cases h1 : i = t - 1
      · rw [h1, hy] at hx
        cases hx
        exact hm
      · have h2 : m x ≤ m y := by
          have h3 := List.pairwise_iff_getElem.mp hs i (t - 1) (by omega) (by omega) (by omega)
          rw [List.getElem?_eq_getElem (by omega)] at hx hy
          have hx2 := Option.some.inj hx
          have hy2 := Option.some.inj hy
          rw [hx2, hy2] at h3
          exact h3
        omega
  intro i x hx
  rw [e, zgt_ins ht] at hx
  rw [zup_if]
  by_cases h1 : i < t
  · rw [if_pos h1] at hx
    rw [if_neg (by omega)]
    exact h.1 i x h1 hx
  · rw [if_neg h1] at hx
    by_cases h2 : i = t
    · rw [if_pos h2] at hx ⊢
      cases hx
      rfl
    · rw [if_neg h2] at hx ⊢
      have h3 := (h.2 (i - 1) x (by omega) hx).1
      rw [show i - 1 + 1 = i by omega] at h3
      exact h3
theorem zMk_s {m : Nat → Int} {v : Nat} {p : List Nat} {t x : Nat} {g : Nat → Int} (h : zMk m v p (t + 1) g) (hx : p[t]? = some x) (hm : m v < m x) : zMk m v p t (zup g (t + 1) (x : Int)) := by
  refine ⟨fun i y hi hy => ?_, fun i y hi hy => ?_⟩
  · rw [zup_if, if_neg (by omega)]
    exact h.1 i y (by omega) hy
  · rw [zup_if]
    by_cases h1 : i = t
    · subst h1
      rw [hx] at hy
      cases hy
      rw [if_pos rfl]
      exact ⟨rfl, hm⟩
    · rw [if_neg (by omega)]
      exact h.2 i y (by omega) hy
theorem zMk_0 {m : Nat → Int} {v : Nat} {p : List Nat} {g : Nat → Int} (h : zAL g p) : zMk m v p p.length g := by
  refine ⟨fun i x _ hx => h i x hx, fun i x hi hx => ?_⟩
  rw [List.getElem?_eq_none (by omega)] at hx
  cases hx
theorem zAL_a {g : Nat → Int} {l : List Nat} {v : Nat} (h : zAL g l) : zAL (zup g l.length (v : Int)) (l ++ [v]) := by
  intro i x hx
  rw [zup_if]
  by_cases h1 : i < l.length
  · rw [List.getElem?_append_left h1] at hx
    rw [if_neg (by omega)]
    exact h i x hx
  · rw [List.getElem?_append_right (by omega)] at hx
    by_cases h2 : i = l.length
    · subst h2
      rw [Nat.sub_self] at hx
      rw [if_pos rfl]
      cases hx
      rfl
    · rw [List.getElem?_eq_none (by show 1 ≤ i - l.length; omega)] at hx
      cases hx
theorem zrfs {A : Nat → Bool} {n : Nat} : (List.range (n + 1)).filter A = (List.range n).filter A ++ (if A n = true then [n] else []) := by
  rw [List.range_succ, List.filter_append]
  congr 1
  by_cases h : A n = true
  · rw [if_pos h, List.filter_cons_of_pos h]; rfl
  · rw [if_neg h, List.filter_cons_of_neg h]; rfl
theorem zrf2 {A B : Nat → Bool} (h : ∀ x, A x = true → B x = true → False) : ∀ n, ((List.range n).filter A).length + ((List.range n).filter B).length ≤ n
  | 0 => Nat.le_refl _
  | n + 1 => by
    have ih := zrf2 h n
    have h1 := h n
    rw [zrfs, zrfs, List.length_append, List.length_append]
    by_cases a1 : A n = true <;> by_cases b1 : B n = true
    · exact absurd b1 (h1 a1)
    · rw [if_pos a1, if_neg b1]; simp; omega
    · rw [if_neg a1, if_pos b1]; simp; omega
    · rw [if_neg a1, if_neg b1]; simp; omega
theorem zrfy {B : Nat → Bool} {e : Nat} : ∀ n, e ≤ n → ((List.range e).filter B).length ≤ ((List.range n).filter B).length ∧ (e < n → B e = true → ((List.range e).filter B).length + 1 ≤ ((List.range n).filter B).length)
  | 0, h => ⟨by rw [show e = 0 by omega]; exact Nat.le_refl _, fun h2 => by omega⟩
  | n + 1, h => by
    by_cases he : e = n + 1
    · rw [he]; exact ⟨Nat.le_refl _, fun h2 => by omega⟩
    · have ih := zrfy (B := B) n (show e ≤ n by omega)
      rw [zrfs, List.length_append]
      refine ⟨by omega, fun _ hb => ?_⟩
      by_cases h2 : e = n
      · subst h2
        rw [if_pos hb]; simp
      · have := ih.2 (by omega) hb
        omega
theorem zrfe {B : Nat → Bool} {e : Nat} : ∀ n, e ≤ n → (∀ x, e ≤ x → x < n → B x ≠ true) → (List.range n).filter B = (List.range e).filter B
  | 0, h, _ => by rw [show e = 0 by omega]
  | n + 1, h, hb => by
    by_cases he : e = n + 1
    · rw [he]
    · rw [zrfs, if_neg (hb n (by omega) (by omega)), List.append_nil]
      exact zrfe n (by omega) (fun x h1 h2 => hb x h1 (by omega))
theorem zrfz {A B C : Nat → Bool} (hd : ∀ x, A x = true → B x = true → False) : ∀ n, (∀ x, x < n → (C x = true ↔ (A x = true ∨ B x = true))) → ((List.range n).filter A ++ (List.range n).filter B).Perm ((List.range n).filter C)
  | 0, _ => List.Perm.refl _
  | n + 1, h => by
    have ih := zrfz hd n (fun x hx => h x (by omega))
    have h1 := h n (by omega)
    have h2 := hd n
    rw [zrfs, zrfs, zrfs]
    by_cases a1 : A n = true <;> by_cases b1 : B n = true
    · exact absurd b1 (h2 a1)
    · rw [if_pos a1, if_neg b1, if_pos (h1.mpr (Or.inl a1)), List.append_nil, List.append_assoc]
      exact (List.perm_middle.trans (List.Perm.cons n ih)).trans (List.perm_append_singleton n _).symm
    · rw [if_neg a1, if_pos b1, if_pos (h1.mpr (Or.inr b1)), List.append_nil, ← List.append_assoc]
      exact ih.append_right _
    · rw [if_neg a1, if_neg b1, if_neg (fun h => (h1.mp h).elim a1 b1), List.append_nil, List.append_nil, List.append_nil]
      exact ih
end ZOPEN
end SG_9K_open
