/-! the step's rule for each instruction, for simp -/
section ZOPS
variable {K : Nat → Nat × Nat} {mi pc : Nat} {ls : zLs} {st : List zV} {M : zM} {Q : zO → zM → Prop} {kk : Nat → zLs → List zV → zM → Prop}
theorem zT_if {c : Prop} [Decidable c] {a : zR} : zT K mi pc ls M Q kk (if c then some a else none) = (c ∧ zT K mi pc ls M Q kk (some a)) := by
  by_cases h : c
  · rw [if_pos h]; exact propext ⟨fun q => ⟨h, q⟩, fun q => q.2⟩
  · rw [if_neg h]; exact propext ⟨fun q => q.elim, fun q => absurd q.1 h⟩
theorem zT_ite {c : Prop} [Decidable c] {a b : Option zR} : zT K mi pc ls M Q kk (if c then a else b) = ((c → zT K mi pc ls M Q kk a) ∧ (¬ c → zT K mi pc ls M Q kk b)) := by
  by_cases h : c
  · rw [if_pos h]; exact propext ⟨fun q => ⟨fun _ => q, fun h2 => absurd h h2⟩, fun q => q.1 h⟩
  · rw [if_neg h]; exact propext ⟨fun q => ⟨fun h2 => absurd h2 h, fun _ => q⟩, fun q => q.2 h⟩
/-- a local read -/
def zLI (ls : zLs) (k : Nat) (f : Int → Prop) : Prop := match ls[k]? with
  | some (some (.inl x)) => f x
  | _ => False
def zLL (ls : zLs) (k : Nat) (f : Int64 → Prop) : Prop := match ls[k]? with
  | some (some (.inr (.inl x))) => f x
  | _ => False
def zLA (ls : zLs) (k : Nat) (f : Nat → Prop) : Prop := match ls[k]? with
  | some (some (.inr (.inr x))) => f x
  | _ => False
/-- a local written -/
def zSt (ls : zLs) (k : Nat) (v : zV) (f : zLs → Prop) : Prop := k < ls.length ∧ f (zst ls k v)
/-- a long written -/
def zSL (ls : zLs) (k : Nat) (v : zV) (f : zLs → Prop) : Prop := k + 1 < ls.length ∧ f ((zst ls k v).set (k + 1) none)
theorem zLI_0 {t : zLs} {x : Int} {f : Int → Prop} : zLI (some (.inl x) :: t) 0 f = f x := rfl
theorem zLL_0 {t : zLs} {x : Int64} {f : Int64 → Prop} : zLL (some (.inr (.inl x)) :: t) 0 f = f x := rfl
theorem zLA_0 {t : zLs} {x : Nat} {f : Nat → Prop} : zLA (some (.inr (.inr x)) :: t) 0 f = f x := rfl
theorem zSt_0 {o : Option zV} {t : zLs} {v : zV} {f : zLs → Prop} : zSt (o :: t) 0 v f = f (some v :: t) := propext ⟨fun h => h.2, fun h => ⟨Nat.succ_pos _, h⟩⟩
theorem zSL_0 {o o2 : Option zV} {t : zLs} {v : zV} {f : zLs → Prop} : zSL (o :: o2 :: t) 0 v f = f (some v :: none :: t) := propext ⟨fun h => h.2, fun h => ⟨by show 0 + 1 < t.length + 1 + 1; omega, h⟩⟩
theorem zLI_1 {a0 : Option zV} {t : zLs} {x : Int} {f : Int → Prop} : zLI (a0 :: some (.inl x) :: t) 1 f = f x := rfl
theorem zLL_1 {a0 : Option zV} {t : zLs} {x : Int64} {f : Int64 → Prop} : zLL (a0 :: some (.inr (.inl x)) :: t) 1 f = f x := rfl
theorem zLA_1 {a0 : Option zV} {t : zLs} {x : Nat} {f : Nat → Prop} : zLA (a0 :: some (.inr (.inr x)) :: t) 1 f = f x := rfl
theorem zSt_1n {o : Option zV} {t : zLs} {v : zV} {f : zLs → Prop} : zSt (none :: o :: t) 1 v f = f (none :: some v :: t) := propext ⟨fun h => h.2, fun h => ⟨by show 1 < t.length + 1 + 1; omega, h⟩⟩
theorem zSL_1n {o o2 : Option zV} {t : zLs} {v : zV} {f : zLs → Prop} : zSL (none :: o :: o2 :: t) 1 v f = f (none :: some v :: none :: t) := propext ⟨fun h => h.2, fun h => ⟨by show 1 + 1 < t.length + 1 + 1 + 1; omega, h⟩⟩
theorem zSt_1i {y : Int} {o : Option zV} {t : zLs} {v : zV} {f : zLs → Prop} : zSt (some (.inl y) :: o :: t) 1 v f = f (some (.inl y) :: some v :: t) := propext ⟨fun h => h.2, fun h => ⟨by show 1 < t.length + 1 + 1; omega, h⟩⟩
theorem zSL_1i {y : Int} {o o2 : Option zV} {t : zLs} {v : zV} {f : zLs → Prop} : zSL (some (.inl y) :: o :: o2 :: t) 1 v f = f (some (.inl y) :: some v :: none :: t) := propext ⟨fun h => h.2, fun h => ⟨by show 1 + 1 < t.length + 1 + 1 + 1; omega, h⟩⟩
theorem zSt_1a {z : Nat} {o : Option zV} {t : zLs} {v : zV} {f : zLs → Prop} : zSt (some (.inr (.inr z)) :: o :: t) 1 v f = f (some (.inr (.inr z)) :: some v :: t) := propext ⟨fun h => h.2, fun h => ⟨by show 1 < t.length + 1 + 1; omega, h⟩⟩
theorem zSL_1a {z : Nat} {o o2 : Option zV} {t : zLs} {v : zV} {f : zLs → Prop} : zSL (some (.inr (.inr z)) :: o :: o2 :: t) 1 v f = f (some (.inr (.inr z)) :: some v :: none :: t) := propext ⟨fun h => h.2, fun h => ⟨by show 1 + 1 < t.length + 1 + 1 + 1; omega, h⟩⟩
theorem zSt_1l {w : Int64} {o : Option zV} {t : zLs} {v : zV} {f : zLs → Prop} : zSt (some (.inr (.inl w)) :: o :: t) 1 v f = f (none :: some v :: t) := propext ⟨fun h => h.2, fun h => ⟨by show 1 < t.length + 1 + 1; omega, h⟩⟩
theorem zSL_1l {w : Int64} {o o2 : Option zV} {t : zLs} {v : zV} {f : zLs → Prop} : zSL (some (.inr (.inl w)) :: o :: o2 :: t) 1 v f = f (none :: some v :: none :: t) := propext ⟨fun h => h.2, fun h => ⟨by show 1 + 1 < t.length + 1 + 1 + 1; omega, h⟩⟩
theorem zLI_2 {a0 a1 : Option zV} {t : zLs} {x : Int} {f : Int → Prop} : zLI (a0 :: a1 :: some (.inl x) :: t) 2 f = f x := rfl
theorem zLL_2 {a0 a1 : Option zV} {t : zLs} {x : Int64} {f : Int64 → Prop} : zLL (a0 :: a1 :: some (.inr (.inl x)) :: t) 2 f = f x := rfl
theorem zLA_2 {a0 a1 : Option zV} {t : zLs} {x : Nat} {f : Nat → Prop} : zLA (a0 :: a1 :: some (.inr (.inr x)) :: t) 2 f = f x := rfl
theorem zSt_2n {a0 : Option zV} {o : Option zV} {t : zLs} {v : zV} {f : zLs → Prop} : zSt (a0 :: none :: o :: t) 2 v f = f (a0 :: none :: some v :: t) := propext ⟨fun h => h.2, fun h => ⟨by show 2 < t.length + 1 + 1 + 1; omega, h⟩⟩
theorem zSL_2n {a0 : Option zV} {o o2 : Option zV} {t : zLs} {v : zV} {f : zLs → Prop} : zSL (a0 :: none :: o :: o2 :: t) 2 v f = f (a0 :: none :: some v :: none :: t) := propext ⟨fun h => h.2, fun h => ⟨by show 2 + 1 < t.length + 1 + 1 + 1 + 1; omega, h⟩⟩
theorem zSt_2i {a0 : Option zV} {y : Int} {o : Option zV} {t : zLs} {v : zV} {f : zLs → Prop} : zSt (a0 :: some (.inl y) :: o :: t) 2 v f = f (a0 :: some (.inl y) :: some v :: t) := propext ⟨fun h => h.2, fun h => ⟨by show 2 < t.length + 1 + 1 + 1; omega, h⟩⟩
theorem zSL_2i {a0 : Option zV} {y : Int} {o o2 : Option zV} {t : zLs} {v : zV} {f : zLs → Prop} : zSL (a0 :: some (.inl y) :: o :: o2 :: t) 2 v f = f (a0 :: some (.inl y) :: some v :: none :: t) := propext ⟨fun h => h.2, fun h => ⟨by show 2 + 1 < t.length + 1 + 1 + 1 + 1; omega, h⟩⟩
theorem zSt_2a {a0 : Option zV} {z : Nat} {o : Option zV} {t : zLs} {v : zV} {f : zLs → Prop} : zSt (a0 :: some (.inr (.inr z)) :: o :: t) 2 v f = f (a0 :: some (.inr (.inr z)) :: some v :: t) := propext ⟨fun h => h.2, fun h => ⟨by show 2 < t.length + 1 + 1 + 1; omega, h⟩⟩
theorem zSL_2a {a0 : Option zV} {z : Nat} {o o2 : Option zV} {t : zLs} {v : zV} {f : zLs → Prop} : zSL (a0 :: some (.inr (.inr z)) :: o :: o2 :: t) 2 v f = f (a0 :: some (.inr (.inr z)) :: some v :: none :: t) := propext ⟨fun h => h.2, fun h => ⟨by show 2 + 1 < t.length + 1 + 1 + 1 + 1; omega, h⟩⟩
theorem zSt_2l {a0 : Option zV} {w : Int64} {o : Option zV} {t : zLs} {v : zV} {f : zLs → Prop} : zSt (a0 :: some (.inr (.inl w)) :: o :: t) 2 v f = f (a0 :: none :: some v :: t) := propext ⟨fun h => h.2, fun h => ⟨by show 2 < t.length + 1 + 1 + 1; omega, h⟩⟩
theorem zSL_2l {a0 : Option zV} {w : Int64} {o o2 : Option zV} {t : zLs} {v : zV} {f : zLs → Prop} : zSL (a0 :: some (.inr (.inl w)) :: o :: o2 :: t) 2 v f = f (a0 :: none :: some v :: none :: t) := propext ⟨fun h => h.2, fun h => ⟨by show 2 + 1 < t.length + 1 + 1 + 1 + 1; omega, h⟩⟩
theorem zLI_3 {a0 a1 a2 : Option zV} {t : zLs} {x : Int} {f : Int → Prop} : zLI (a0 :: a1 :: a2 :: some (.inl x) :: t) 3 f = f x := rfl
theorem zLL_3 {a0 a1 a2 : Option zV} {t : zLs} {x : Int64} {f : Int64 → Prop} : zLL (a0 :: a1 :: a2 :: some (.inr (.inl x)) :: t) 3 f = f x := rfl
theorem zLA_3 {a0 a1 a2 : Option zV} {t : zLs} {x : Nat} {f : Nat → Prop} : zLA (a0 :: a1 :: a2 :: some (.inr (.inr x)) :: t) 3 f = f x := rfl
theorem zSt_3n {a0 a1 : Option zV} {o : Option zV} {t : zLs} {v : zV} {f : zLs → Prop} : zSt (a0 :: a1 :: none :: o :: t) 3 v f = f (a0 :: a1 :: none :: some v :: t) := propext ⟨fun h => h.2, fun h => ⟨by show 3 < t.length + 1 + 1 + 1 + 1; omega, h⟩⟩
theorem zSL_3n {a0 a1 : Option zV} {o o2 : Option zV} {t : zLs} {v : zV} {f : zLs → Prop} : zSL (a0 :: a1 :: none :: o :: o2 :: t) 3 v f = f (a0 :: a1 :: none :: some v :: none :: t) := propext ⟨fun h => h.2, fun h => ⟨by show 3 + 1 < t.length + 1 + 1 + 1 + 1 + 1; omega, h⟩⟩
theorem zSt_3i {a0 a1 : Option zV} {y : Int} {o : Option zV} {t : zLs} {v : zV} {f : zLs → Prop} : zSt (a0 :: a1 :: some (.inl y) :: o :: t) 3 v f = f (a0 :: a1 :: some (.inl y) :: some v :: t) := propext ⟨fun h => h.2, fun h => ⟨by show 3 < t.length + 1 + 1 + 1 + 1; omega, h⟩⟩
theorem zSL_3i {a0 a1 : Option zV} {y : Int} {o o2 : Option zV} {t : zLs} {v : zV} {f : zLs → Prop} : zSL (a0 :: a1 :: some (.inl y) :: o :: o2 :: t) 3 v f = f (a0 :: a1 :: some (.inl y) :: some v :: none :: t) := propext ⟨fun h => h.2, fun h => ⟨by show 3 + 1 < t.length + 1 + 1 + 1 + 1 + 1; omega, h⟩⟩
theorem zSt_3a {a0 a1 : Option zV} {z : Nat} {o : Option zV} {t : zLs} {v : zV} {f : zLs → Prop} : zSt (a0 :: a1 :: some (.inr (.inr z)) :: o :: t) 3 v f = f (a0 :: a1 :: some (.inr (.inr z)) :: some v :: t) := propext ⟨fun h => h.2, fun h => ⟨by show 3 < t.length + 1 + 1 + 1 + 1; omega, h⟩⟩
theorem zSL_3a {a0 a1 : Option zV} {z : Nat} {o o2 : Option zV} {t : zLs} {v : zV} {f : zLs → Prop} : zSL (a0 :: a1 :: some (.inr (.inr z)) :: o :: o2 :: t) 3 v f = f (a0 :: a1 :: some (.inr (.inr z)) :: some v :: none :: t) := propext ⟨fun h => h.2, fun h => ⟨by show 3 + 1 < t.length + 1 + 1 + 1 + 1 + 1; omega, h⟩⟩
theorem zSt_3l {a0 a1 : Option zV} {w : Int64} {o : Option zV} {t : zLs} {v : zV} {f : zLs → Prop} : zSt (a0 :: a1 :: some (.inr (.inl w)) :: o :: t) 3 v f = f (a0 :: a1 :: none :: some v :: t) := propext ⟨fun h => h.2, fun h => ⟨by show 3 < t.length + 1 + 1 + 1 + 1; omega, h⟩⟩
theorem zSL_3l {a0 a1 : Option zV} {w : Int64} {o o2 : Option zV} {t : zLs} {v : zV} {f : zLs → Prop} : zSL (a0 :: a1 :: some (.inr (.inl w)) :: o :: o2 :: t) 3 v f = f (a0 :: a1 :: none :: some v :: none :: t) := propext ⟨fun h => h.2, fun h => ⟨by show 3 + 1 < t.length + 1 + 1 + 1 + 1 + 1; omega, h⟩⟩
theorem zLI_4 {a0 a1 a2 a3 : Option zV} {t : zLs} {x : Int} {f : Int → Prop} : zLI (a0 :: a1 :: a2 :: a3 :: some (.inl x) :: t) 4 f = f x := rfl
theorem zLL_4 {a0 a1 a2 a3 : Option zV} {t : zLs} {x : Int64} {f : Int64 → Prop} : zLL (a0 :: a1 :: a2 :: a3 :: some (.inr (.inl x)) :: t) 4 f = f x := rfl
theorem zLA_4 {a0 a1 a2 a3 : Option zV} {t : zLs} {x : Nat} {f : Nat → Prop} : zLA (a0 :: a1 :: a2 :: a3 :: some (.inr (.inr x)) :: t) 4 f = f x := rfl
theorem zSt_4n {a0 a1 a2 : Option zV} {o : Option zV} {t : zLs} {v : zV} {f : zLs → Prop} : zSt (a0 :: a1 :: a2 :: none :: o :: t) 4 v f = f (a0 :: a1 :: a2 :: none :: some v :: t) := propext ⟨fun h => h.2, fun h => ⟨by show 4 < t.length + 1 + 1 + 1 + 1 + 1; omega, h⟩⟩
theorem zSL_4n {a0 a1 a2 : Option zV} {o o2 : Option zV} {t : zLs} {v : zV} {f : zLs → Prop} : zSL (a0 :: a1 :: a2 :: none :: o :: o2 :: t) 4 v f = f (a0 :: a1 :: a2 :: none :: some v :: none :: t) := propext ⟨fun h => h.2, fun h => ⟨by show 4 + 1 < t.length + 1 + 1 + 1 + 1 + 1 + 1; omega, h⟩⟩
theorem zSt_4i {a0 a1 a2 : Option zV} {y : Int} {o : Option zV} {t : zLs} {v : zV} {f : zLs → Prop} : zSt (a0 :: a1 :: a2 :: some (.inl y) :: o :: t) 4 v f = f (a0 :: a1 :: a2 :: some (.inl y) :: some v :: t) := propext ⟨fun h => h.2, fun h => ⟨by show 4 < t.length + 1 + 1 + 1 + 1 + 1; omega, h⟩⟩
theorem zSL_4i {a0 a1 a2 : Option zV} {y : Int} {o o2 : Option zV} {t : zLs} {v : zV} {f : zLs → Prop} : zSL (a0 :: a1 :: a2 :: some (.inl y) :: o :: o2 :: t) 4 v f = f (a0 :: a1 :: a2 :: some (.inl y) :: some v :: none :: t) := propext ⟨fun h => h.2, fun h => ⟨by show 4 + 1 < t.length + 1 + 1 + 1 + 1 + 1 + 1; omega, h⟩⟩
theorem zSt_4a {a0 a1 a2 : Option zV} {z : Nat} {o : Option zV} {t : zLs} {v : zV} {f : zLs → Prop} : zSt (a0 :: a1 :: a2 :: some (.inr (.inr z)) :: o :: t) 4 v f = f (a0 :: a1 :: a2 :: some (.inr (.inr z)) :: some v :: t) := propext ⟨fun h => h.2, fun h => ⟨by show 4 < t.length + 1 + 1 + 1 + 1 + 1; omega, h⟩⟩
theorem zSL_4a {a0 a1 a2 : Option zV} {z : Nat} {o o2 : Option zV} {t : zLs} {v : zV} {f : zLs → Prop} : zSL (a0 :: a1 :: a2 :: some (.inr (.inr z)) :: o :: o2 :: t) 4 v f = f (a0 :: a1 :: a2 :: some (.inr (.inr z)) :: some v :: none :: t) := propext ⟨fun h => h.2, fun h => ⟨by show 4 + 1 < t.length + 1 + 1 + 1 + 1 + 1 + 1; omega, h⟩⟩
theorem zSt_4l {a0 a1 a2 : Option zV} {w : Int64} {o : Option zV} {t : zLs} {v : zV} {f : zLs → Prop} : zSt (a0 :: a1 :: a2 :: some (.inr (.inl w)) :: o :: t) 4 v f = f (a0 :: a1 :: a2 :: none :: some v :: t) := propext ⟨fun h => h.2, fun h => ⟨by show 4 < t.length + 1 + 1 + 1 + 1 + 1; omega, h⟩⟩
theorem zSL_4l {a0 a1 a2 : Option zV} {w : Int64} {o o2 : Option zV} {t : zLs} {v : zV} {f : zLs → Prop} : zSL (a0 :: a1 :: a2 :: some (.inr (.inl w)) :: o :: o2 :: t) 4 v f = f (a0 :: a1 :: a2 :: none :: some v :: none :: t) := propext ⟨fun h => h.2, fun h => ⟨by show 4 + 1 < t.length + 1 + 1 + 1 + 1 + 1 + 1; omega, h⟩⟩
theorem zLI_5 {a0 a1 a2 a3 a4 : Option zV} {t : zLs} {x : Int} {f : Int → Prop} : zLI (a0 :: a1 :: a2 :: a3 :: a4 :: some (.inl x) :: t) 5 f = f x := rfl
theorem zLL_5 {a0 a1 a2 a3 a4 : Option zV} {t : zLs} {x : Int64} {f : Int64 → Prop} : zLL (a0 :: a1 :: a2 :: a3 :: a4 :: some (.inr (.inl x)) :: t) 5 f = f x := rfl
theorem zLA_5 {a0 a1 a2 a3 a4 : Option zV} {t : zLs} {x : Nat} {f : Nat → Prop} : zLA (a0 :: a1 :: a2 :: a3 :: a4 :: some (.inr (.inr x)) :: t) 5 f = f x := rfl
theorem zSt_5n {a0 a1 a2 a3 : Option zV} {o : Option zV} {t : zLs} {v : zV} {f : zLs → Prop} : zSt (a0 :: a1 :: a2 :: a3 :: none :: o :: t) 5 v f = f (a0 :: a1 :: a2 :: a3 :: none :: some v :: t) := propext ⟨fun h => h.2, fun h => ⟨by show 5 < t.length + 1 + 1 + 1 + 1 + 1 + 1; omega, h⟩⟩
theorem zSL_5n {a0 a1 a2 a3 : Option zV} {o o2 : Option zV} {t : zLs} {v : zV} {f : zLs → Prop} : zSL (a0 :: a1 :: a2 :: a3 :: none :: o :: o2 :: t) 5 v f = f (a0 :: a1 :: a2 :: a3 :: none :: some v :: none :: t) := propext ⟨fun h => h.2, fun h => ⟨by show 5 + 1 < t.length + 1 + 1 + 1 + 1 + 1 + 1 + 1; omega, h⟩⟩
theorem zSt_5i {a0 a1 a2 a3 : Option zV} {y : Int} {o : Option zV} {t : zLs} {v : zV} {f : zLs → Prop} : zSt (a0 :: a1 :: a2 :: a3 :: some (.inl y) :: o :: t) 5 v f = f (a0 :: a1 :: a2 :: a3 :: some (.inl y) :: some v :: t) := propext ⟨fun h => h.2, fun h => ⟨by show 5 < t.length + 1 + 1 + 1 + 1 + 1 + 1; omega, h⟩⟩
theorem zSL_5i {a0 a1 a2 a3 : Option zV} {y : Int} {o o2 : Option zV} {t : zLs} {v : zV} {f : zLs → Prop} : zSL (a0 :: a1 :: a2 :: a3 :: some (.inl y) :: o :: o2 :: t) 5 v f = f (a0 :: a1 :: a2 :: a3 :: some (.inl y) :: some v :: none :: t) := propext ⟨fun h => h.2, fun h => ⟨by show 5 + 1 < t.length + 1 + 1 + 1 + 1 + 1 + 1 + 1; omega, h⟩⟩
theorem zSt_5a {a0 a1 a2 a3 : Option zV} {z : Nat} {o : Option zV} {t : zLs} {v : zV} {f : zLs → Prop} : zSt (a0 :: a1 :: a2 :: a3 :: some (.inr (.inr z)) :: o :: t) 5 v f = f (a0 :: a1 :: a2 :: a3 :: some (.inr (.inr z)) :: some v :: t) := propext ⟨fun h => h.2, fun h => ⟨by show 5 < t.length + 1 + 1 + 1 + 1 + 1 + 1; omega, h⟩⟩
theorem zSL_5a {a0 a1 a2 a3 : Option zV} {z : Nat} {o o2 : Option zV} {t : zLs} {v : zV} {f : zLs → Prop} : zSL (a0 :: a1 :: a2 :: a3 :: some (.inr (.inr z)) :: o :: o2 :: t) 5 v f = f (a0 :: a1 :: a2 :: a3 :: some (.inr (.inr z)) :: some v :: none :: t) := propext ⟨fun h => h.2, fun h => ⟨by show 5 + 1 < t.length + 1 + 1 + 1 + 1 + 1 + 1 + 1; omega, h⟩⟩
theorem zSt_5l {a0 a1 a2 a3 : Option zV} {w : Int64} {o : Option zV} {t : zLs} {v : zV} {f : zLs → Prop} : zSt (a0 :: a1 :: a2 :: a3 :: some (.inr (.inl w)) :: o :: t) 5 v f = f (a0 :: a1 :: a2 :: a3 :: none :: some v :: t) := propext ⟨fun h => h.2, fun h => ⟨by show 5 < t.length + 1 + 1 + 1 + 1 + 1 + 1; omega, h⟩⟩
theorem zSL_5l {a0 a1 a2 a3 : Option zV} {w : Int64} {o o2 : Option zV} {t : zLs} {v : zV} {f : zLs → Prop} : zSL (a0 :: a1 :: a2 :: a3 :: some (.inr (.inl w)) :: o :: o2 :: t) 5 v f = f (a0 :: a1 :: a2 :: a3 :: none :: some v :: none :: t) := propext ⟨fun h => h.2, fun h => ⟨by show 5 + 1 < t.length + 1 + 1 + 1 + 1 + 1 + 1 + 1; omega, h⟩⟩
theorem zLI_6 {a0 a1 a2 a3 a4 a5 : Option zV} {t : zLs} {x : Int} {f : Int → Prop} : zLI (a0 :: a1 :: a2 :: a3 :: a4 :: a5 :: some (.inl x) :: t) 6 f = f x := rfl
theorem zLL_6 {a0 a1 a2 a3 a4 a5 : Option zV} {t : zLs} {x : Int64} {f : Int64 → Prop} : zLL (a0 :: a1 :: a2 :: a3 :: a4 :: a5 :: some (.inr (.inl x)) :: t) 6 f = f x := rfl
theorem zLA_6 {a0 a1 a2 a3 a4 a5 : Option zV} {t : zLs} {x : Nat} {f : Nat → Prop} : zLA (a0 :: a1 :: a2 :: a3 :: a4 :: a5 :: some (.inr (.inr x)) :: t) 6 f = f x := rfl
theorem zSt_6n {a0 a1 a2 a3 a4 : Option zV} {o : Option zV} {t : zLs} {v : zV} {f : zLs → Prop} : zSt (a0 :: a1 :: a2 :: a3 :: a4 :: none :: o :: t) 6 v f = f (a0 :: a1 :: a2 :: a3 :: a4 :: none :: some v :: t) := propext ⟨fun h => h.2, fun h => ⟨by show 6 < t.length + 1 + 1 + 1 + 1 + 1 + 1 + 1; omega, h⟩⟩
theorem zSL_6n {a0 a1 a2 a3 a4 : Option zV} {o o2 : Option zV} {t : zLs} {v : zV} {f : zLs → Prop} : zSL (a0 :: a1 :: a2 :: a3 :: a4 :: none :: o :: o2 :: t) 6 v f = f (a0 :: a1 :: a2 :: a3 :: a4 :: none :: some v :: none :: t) := propext ⟨fun h => h.2, fun h => ⟨by show 6 + 1 < t.length + 1 + 1 + 1 + 1 + 1 + 1 + 1 + 1; omega, h⟩⟩
theorem zSt_6i {a0 a1 a2 a3 a4 : Option zV} {y : Int} {o : Option zV} {t : zLs} {v : zV} {f : zLs → Prop} : zSt (a0 :: a1 :: a2 :: a3 :: a4 :: some (.inl y) :: o :: t) 6 v f = f (a0 :: a1 :: a2 :: a3 :: a4 :: some (.inl y) :: some v :: t) := propext ⟨fun h => h.2, fun h => ⟨by show 6 < t.length + 1 + 1 + 1 + 1 + 1 + 1 + 1; omega, h⟩⟩
theorem zSL_6i {a0 a1 a2 a3 a4 : Option zV} {y : Int} {o o2 : Option zV} {t : zLs} {v : zV} {f : zLs → Prop} : zSL (a0 :: a1 :: a2 :: a3 :: a4 :: some (.inl y) :: o :: o2 :: t) 6 v f = f (a0 :: a1 :: a2 :: a3 :: a4 :: some (.inl y) :: some v :: none :: t) := propext ⟨fun h => h.2, fun h => ⟨by show 6 + 1 < t.length + 1 + 1 + 1 + 1 + 1 + 1 + 1 + 1; omega, h⟩⟩
theorem zSt_6a {a0 a1 a2 a3 a4 : Option zV} {z : Nat} {o : Option zV} {t : zLs} {v : zV} {f : zLs → Prop} : zSt (a0 :: a1 :: a2 :: a3 :: a4 :: some (.inr (.inr z)) :: o :: t) 6 v f = f (a0 :: a1 :: a2 :: a3 :: a4 :: some (.inr (.inr z)) :: some v :: t) := propext ⟨fun h => h.2, fun h => ⟨by show 6 < t.length + 1 + 1 + 1 + 1 + 1 + 1 + 1; omega, h⟩⟩
theorem zSL_6a {a0 a1 a2 a3 a4 : Option zV} {z : Nat} {o o2 : Option zV} {t : zLs} {v : zV} {f : zLs → Prop} : zSL (a0 :: a1 :: a2 :: a3 :: a4 :: some (.inr (.inr z)) :: o :: o2 :: t) 6 v f = f (a0 :: a1 :: a2 :: a3 :: a4 :: some (.inr (.inr z)) :: some v :: none :: t) := propext ⟨fun h => h.2, fun h => ⟨by show 6 + 1 < t.length + 1 + 1 + 1 + 1 + 1 + 1 + 1 + 1; omega, h⟩⟩
theorem zSt_6l {a0 a1 a2 a3 a4 : Option zV} {w : Int64} {o : Option zV} {t : zLs} {v : zV} {f : zLs → Prop} : zSt (a0 :: a1 :: a2 :: a3 :: a4 :: some (.inr (.inl w)) :: o :: t) 6 v f = f (a0 :: a1 :: a2 :: a3 :: a4 :: none :: some v :: t) := propext ⟨fun h => h.2, fun h => ⟨by show 6 < t.length + 1 + 1 + 1 + 1 + 1 + 1 + 1; omega, h⟩⟩
theorem zSL_6l {a0 a1 a2 a3 a4 : Option zV} {w : Int64} {o o2 : Option zV} {t : zLs} {v : zV} {f : zLs → Prop} : zSL (a0 :: a1 :: a2 :: a3 :: a4 :: some (.inr (.inl w)) :: o :: o2 :: t) 6 v f = f (a0 :: a1 :: a2 :: a3 :: a4 :: none :: some v :: none :: t) := propext ⟨fun h => h.2, fun h => ⟨by show 6 + 1 < t.length + 1 + 1 + 1 + 1 + 1 + 1 + 1 + 1; omega, h⟩⟩
theorem zLI_7 {a0 a1 a2 a3 a4 a5 a6 : Option zV} {t : zLs} {x : Int} {f : Int → Prop} : zLI (a0 :: a1 :: a2 :: a3 :: a4 :: a5 :: a6 :: some (.inl x) :: t) 7 f = f x := rfl
theorem zLL_7 {a0 a1 a2 a3 a4 a5 a6 : Option zV} {t : zLs} {x : Int64} {f : Int64 → Prop} : zLL (a0 :: a1 :: a2 :: a3 :: a4 :: a5 :: a6 :: some (.inr (.inl x)) :: t) 7 f = f x := rfl
theorem zLA_7 {a0 a1 a2 a3 a4 a5 a6 : Option zV} {t : zLs} {x : Nat} {f : Nat → Prop} : zLA (a0 :: a1 :: a2 :: a3 :: a4 :: a5 :: a6 :: some (.inr (.inr x)) :: t) 7 f = f x := rfl
theorem zSt_7n {a0 a1 a2 a3 a4 a5 : Option zV} {o : Option zV} {t : zLs} {v : zV} {f : zLs → Prop} : zSt (a0 :: a1 :: a2 :: a3 :: a4 :: a5 :: none :: o :: t) 7 v f = f (a0 :: a1 :: a2 :: a3 :: a4 :: a5 :: none :: some v :: t) := propext ⟨fun h => h.2, fun h => ⟨by show 7 < t.length + 1 + 1 + 1 + 1 + 1 + 1 + 1 + 1; omega, h⟩⟩
theorem zSL_7n {a0 a1 a2 a3 a4 a5 : Option zV} {o o2 : Option zV} {t : zLs} {v : zV} {f : zLs → Prop} : zSL (a0 :: a1 :: a2 :: a3 :: a4 :: a5 :: none :: o :: o2 :: t) 7 v f = f (a0 :: a1 :: a2 :: a3 :: a4 :: a5 :: none :: some v :: none :: t) := propext ⟨fun h => h.2, fun h => ⟨by show 7 + 1 < t.length + 1 + 1 + 1 + 1 + 1 + 1 + 1 + 1 + 1; omega, h⟩⟩
theorem zSt_7i {a0 a1 a2 a3 a4 a5 : Option zV} {y : Int} {o : Option zV} {t : zLs} {v : zV} {f : zLs → Prop} : zSt (a0 :: a1 :: a2 :: a3 :: a4 :: a5 :: some (.inl y) :: o :: t) 7 v f = f (a0 :: a1 :: a2 :: a3 :: a4 :: a5 :: some (.inl y) :: some v :: t) := propext ⟨fun h => h.2, fun h => ⟨by show 7 < t.length + 1 + 1 + 1 + 1 + 1 + 1 + 1 + 1; omega, h⟩⟩
theorem zSL_7i {a0 a1 a2 a3 a4 a5 : Option zV} {y : Int} {o o2 : Option zV} {t : zLs} {v : zV} {f : zLs → Prop} : zSL (a0 :: a1 :: a2 :: a3 :: a4 :: a5 :: some (.inl y) :: o :: o2 :: t) 7 v f = f (a0 :: a1 :: a2 :: a3 :: a4 :: a5 :: some (.inl y) :: some v :: none :: t) := propext ⟨fun h => h.2, fun h => ⟨by show 7 + 1 < t.length + 1 + 1 + 1 + 1 + 1 + 1 + 1 + 1 + 1; omega, h⟩⟩
theorem zSt_7a {a0 a1 a2 a3 a4 a5 : Option zV} {z : Nat} {o : Option zV} {t : zLs} {v : zV} {f : zLs → Prop} : zSt (a0 :: a1 :: a2 :: a3 :: a4 :: a5 :: some (.inr (.inr z)) :: o :: t) 7 v f = f (a0 :: a1 :: a2 :: a3 :: a4 :: a5 :: some (.inr (.inr z)) :: some v :: t) := propext ⟨fun h => h.2, fun h => ⟨by show 7 < t.length + 1 + 1 + 1 + 1 + 1 + 1 + 1 + 1; omega, h⟩⟩
theorem zSL_7a {a0 a1 a2 a3 a4 a5 : Option zV} {z : Nat} {o o2 : Option zV} {t : zLs} {v : zV} {f : zLs → Prop} : zSL (a0 :: a1 :: a2 :: a3 :: a4 :: a5 :: some (.inr (.inr z)) :: o :: o2 :: t) 7 v f = f (a0 :: a1 :: a2 :: a3 :: a4 :: a5 :: some (.inr (.inr z)) :: some v :: none :: t) := propext ⟨fun h => h.2, fun h => ⟨by show 7 + 1 < t.length + 1 + 1 + 1 + 1 + 1 + 1 + 1 + 1 + 1; omega, h⟩⟩
theorem zSt_7l {a0 a1 a2 a3 a4 a5 : Option zV} {w : Int64} {o : Option zV} {t : zLs} {v : zV} {f : zLs → Prop} : zSt (a0 :: a1 :: a2 :: a3 :: a4 :: a5 :: some (.inr (.inl w)) :: o :: t) 7 v f = f (a0 :: a1 :: a2 :: a3 :: a4 :: a5 :: none :: some v :: t) := propext ⟨fun h => h.2, fun h => ⟨by show 7 < t.length + 1 + 1 + 1 + 1 + 1 + 1 + 1 + 1; omega, h⟩⟩
theorem zSL_7l {a0 a1 a2 a3 a4 a5 : Option zV} {w : Int64} {o o2 : Option zV} {t : zLs} {v : zV} {f : zLs → Prop} : zSL (a0 :: a1 :: a2 :: a3 :: a4 :: a5 :: some (.inr (.inl w)) :: o :: o2 :: t) 7 v f = f (a0 :: a1 :: a2 :: a3 :: a4 :: a5 :: none :: some v :: none :: t) := propext ⟨fun h => h.2, fun h => ⟨by show 7 + 1 < t.length + 1 + 1 + 1 + 1 + 1 + 1 + 1 + 1 + 1; omega, h⟩⟩
theorem zLI_8 {a0 a1 a2 a3 a4 a5 a6 a7 : Option zV} {t : zLs} {x : Int} {f : Int → Prop} : zLI (a0 :: a1 :: a2 :: a3 :: a4 :: a5 :: a6 :: a7 :: some (.inl x) :: t) 8 f = f x := rfl
theorem zLL_8 {a0 a1 a2 a3 a4 a5 a6 a7 : Option zV} {t : zLs} {x : Int64} {f : Int64 → Prop} : zLL (a0 :: a1 :: a2 :: a3 :: a4 :: a5 :: a6 :: a7 :: some (.inr (.inl x)) :: t) 8 f = f x := rfl
theorem zLA_8 {a0 a1 a2 a3 a4 a5 a6 a7 : Option zV} {t : zLs} {x : Nat} {f : Nat → Prop} : zLA (a0 :: a1 :: a2 :: a3 :: a4 :: a5 :: a6 :: a7 :: some (.inr (.inr x)) :: t) 8 f = f x := rfl
theorem zSt_8n {a0 a1 a2 a3 a4 a5 a6 : Option zV} {o : Option zV} {t : zLs} {v : zV} {f : zLs → Prop} : zSt (a0 :: a1 :: a2 :: a3 :: a4 :: a5 :: a6 :: none :: o :: t) 8 v f = f (a0 :: a1 :: a2 :: a3 :: a4 :: a5 :: a6 :: none :: some v :: t) := propext ⟨fun h => h.2, fun h => ⟨by show 8 < t.length + 1 + 1 + 1 + 1 + 1 + 1 + 1 + 1 + 1; omega, h⟩⟩
theorem zSL_8n {a0 a1 a2 a3 a4 a5 a6 : Option zV} {o o2 : Option zV} {t : zLs} {v : zV} {f : zLs → Prop} : zSL (a0 :: a1 :: a2 :: a3 :: a4 :: a5 :: a6 :: none :: o :: o2 :: t) 8 v f = f (a0 :: a1 :: a2 :: a3 :: a4 :: a5 :: a6 :: none :: some v :: none :: t) := propext ⟨fun h => h.2, fun h => ⟨by show 8 + 1 < t.length + 1 + 1 + 1 + 1 + 1 + 1 + 1 + 1 + 1 + 1; omega, h⟩⟩
theorem zSt_8i {a0 a1 a2 a3 a4 a5 a6 : Option zV} {y : Int} {o : Option zV} {t : zLs} {v : zV} {f : zLs → Prop} : zSt (a0 :: a1 :: a2 :: a3 :: a4 :: a5 :: a6 :: some (.inl y) :: o :: t) 8 v f = f (a0 :: a1 :: a2 :: a3 :: a4 :: a5 :: a6 :: some (.inl y) :: some v :: t) := propext ⟨fun h => h.2, fun h => ⟨by show 8 < t.length + 1 + 1 + 1 + 1 + 1 + 1 + 1 + 1 + 1; omega, h⟩⟩
theorem zSL_8i {a0 a1 a2 a3 a4 a5 a6 : Option zV} {y : Int} {o o2 : Option zV} {t : zLs} {v : zV} {f : zLs → Prop} : zSL (a0 :: a1 :: a2 :: a3 :: a4 :: a5 :: a6 :: some (.inl y) :: o :: o2 :: t) 8 v f = f (a0 :: a1 :: a2 :: a3 :: a4 :: a5 :: a6 :: some (.inl y) :: some v :: none :: t) := propext ⟨fun h => h.2, fun h => ⟨by show 8 + 1 < t.length + 1 + 1 + 1 + 1 + 1 + 1 + 1 + 1 + 1 + 1; omega, h⟩⟩
theorem zSt_8a {a0 a1 a2 a3 a4 a5 a6 : Option zV} {z : Nat} {o : Option zV} {t : zLs} {v : zV} {f : zLs → Prop} : zSt (a0 :: a1 :: a2 :: a3 :: a4 :: a5 :: a6 :: some (.inr (.inr z)) :: o :: t) 8 v f = f (a0 :: a1 :: a2 :: a3 :: a4 :: a5 :: a6 :: some (.inr (.inr z)) :: some v :: t) := propext ⟨fun h => h.2, fun h => ⟨by show 8 < t.length + 1 + 1 + 1 + 1 + 1 + 1 + 1 + 1 + 1; omega, h⟩⟩
theorem zSL_8a {a0 a1 a2 a3 a4 a5 a6 : Option zV} {z : Nat} {o o2 : Option zV} {t : zLs} {v : zV} {f : zLs → Prop} : zSL (a0 :: a1 :: a2 :: a3 :: a4 :: a5 :: a6 :: some (.inr (.inr z)) :: o :: o2 :: t) 8 v f = f (a0 :: a1 :: a2 :: a3 :: a4 :: a5 :: a6 :: some (.inr (.inr z)) :: some v :: none :: t) := propext ⟨fun h => h.2, fun h => ⟨by show 8 + 1 < t.length + 1 + 1 + 1 + 1 + 1 + 1 + 1 + 1 + 1 + 1; omega, h⟩⟩
theorem zSt_8l {a0 a1 a2 a3 a4 a5 a6 : Option zV} {w : Int64} {o : Option zV} {t : zLs} {v : zV} {f : zLs → Prop} : zSt (a0 :: a1 :: a2 :: a3 :: a4 :: a5 :: a6 :: some (.inr (.inl w)) :: o :: t) 8 v f = f (a0 :: a1 :: a2 :: a3 :: a4 :: a5 :: a6 :: none :: some v :: t) := propext ⟨fun h => h.2, fun h => ⟨by show 8 < t.length + 1 + 1 + 1 + 1 + 1 + 1 + 1 + 1 + 1; omega, h⟩⟩
theorem zSL_8l {a0 a1 a2 a3 a4 a5 a6 : Option zV} {w : Int64} {o o2 : Option zV} {t : zLs} {v : zV} {f : zLs → Prop} : zSL (a0 :: a1 :: a2 :: a3 :: a4 :: a5 :: a6 :: some (.inr (.inl w)) :: o :: o2 :: t) 8 v f = f (a0 :: a1 :: a2 :: a3 :: a4 :: a5 :: a6 :: none :: some v :: none :: t) := propext ⟨fun h => h.2, fun h => ⟨by show 8 + 1 < t.length + 1 + 1 + 1 + 1 + 1 + 1 + 1 + 1 + 1 + 1; omega, h⟩⟩
theorem zLI_9 {a0 a1 a2 a3 a4 a5 a6 a7 a8 : Option zV} {t : zLs} {x : Int} {f : Int → Prop} : zLI (a0 :: a1 :: a2 :: a3 :: a4 :: a5 :: a6 :: a7 :: a8 :: some (.inl x) :: t) 9 f = f x := rfl
theorem zLL_9 {a0 a1 a2 a3 a4 a5 a6 a7 a8 : Option zV} {t : zLs} {x : Int64} {f : Int64 → Prop} : zLL (a0 :: a1 :: a2 :: a3 :: a4 :: a5 :: a6 :: a7 :: a8 :: some (.inr (.inl x)) :: t) 9 f = f x := rfl
theorem zLA_9 {a0 a1 a2 a3 a4 a5 a6 a7 a8 : Option zV} {t : zLs} {x : Nat} {f : Nat → Prop} : zLA (a0 :: a1 :: a2 :: a3 :: a4 :: a5 :: a6 :: a7 :: a8 :: some (.inr (.inr x)) :: t) 9 f = f x := rfl
theorem zSt_9n {a0 a1 a2 a3 a4 a5 a6 a7 : Option zV} {o : Option zV} {t : zLs} {v : zV} {f : zLs → Prop} : zSt (a0 :: a1 :: a2 :: a3 :: a4 :: a5 :: a6 :: a7 :: none :: o :: t) 9 v f = f (a0 :: a1 :: a2 :: a3 :: a4 :: a5 :: a6 :: a7 :: none :: some v :: t) := propext ⟨fun h => h.2, fun h => ⟨by show 9 < t.length + 1 + 1 + 1 + 1 + 1 + 1 + 1 + 1 + 1 + 1; omega, h⟩⟩
theorem zSL_9n {a0 a1 a2 a3 a4 a5 a6 a7 : Option zV} {o o2 : Option zV} {t : zLs} {v : zV} {f : zLs → Prop} : zSL (a0 :: a1 :: a2 :: a3 :: a4 :: a5 :: a6 :: a7 :: none :: o :: o2 :: t) 9 v f = f (a0 :: a1 :: a2 :: a3 :: a4 :: a5 :: a6 :: a7 :: none :: some v :: none :: t) := propext ⟨fun h => h.2, fun h => ⟨by show 9 + 1 < t.length + 1 + 1 + 1 + 1 + 1 + 1 + 1 + 1 + 1 + 1 + 1; omega, h⟩⟩
theorem zSt_9i {a0 a1 a2 a3 a4 a5 a6 a7 : Option zV} {y : Int} {o : Option zV} {t : zLs} {v : zV} {f : zLs → Prop} : zSt (a0 :: a1 :: a2 :: a3 :: a4 :: a5 :: a6 :: a7 :: some (.inl y) :: o :: t) 9 v f = f (a0 :: a1 :: a2 :: a3 :: a4 :: a5 :: a6 :: a7 :: some (.inl y) :: some v :: t) := propext ⟨fun h => h.2, fun h => ⟨by show 9 < t.length + 1 + 1 + 1 + 1 + 1 + 1 + 1 + 1 + 1 + 1; omega, h⟩⟩
theorem zSL_9i {a0 a1 a2 a3 a4 a5 a6 a7 : Option zV} {y : Int} {o o2 : Option zV} {t : zLs} {v : zV} {f : zLs → Prop} : zSL (a0 :: a1 :: a2 :: a3 :: a4 :: a5 :: a6 :: a7 :: some (.inl y) :: o :: o2 :: t) 9 v f = f (a0 :: a1 :: a2 :: a3 :: a4 :: a5 :: a6 :: a7 :: some (.inl y) :: some v :: none :: t) := propext ⟨fun h => h.2, fun h => ⟨by show 9 + 1 < t.length + 1 + 1 + 1 + 1 + 1 + 1 + 1 + 1 + 1 + 1 + 1; omega, h⟩⟩
theorem zSt_9a {a0 a1 a2 a3 a4 a5 a6 a7 : Option zV} {z : Nat} {o : Option zV} {t : zLs} {v : zV} {f : zLs → Prop} : zSt (a0 :: a1 :: a2 :: a3 :: a4 :: a5 :: a6 :: a7 :: some (.inr (.inr z)) :: o :: t) 9 v f = f (a0 :: a1 :: a2 :: a3 :: a4 :: a5 :: a6 :: a7 :: some (.inr (.inr z)) :: some v :: t) := propext ⟨fun h => h.2, fun h => ⟨by show 9 < t.length + 1 + 1 + 1 + 1 + 1 + 1 + 1 + 1 + 1 + 1; omega, h⟩⟩
theorem zSL_9a {a0 a1 a2 a3 a4 a5 a6 a7 : Option zV} {z : Nat} {o o2 : Option zV} {t : zLs} {v : zV} {f : zLs → Prop} : zSL (a0 :: a1 :: a2 :: a3 :: a4 :: a5 :: a6 :: a7 :: some (.inr (.inr z)) :: o :: o2 :: t) 9 v f = f (a0 :: a1 :: a2 :: a3 :: a4 :: a5 :: a6 :: a7 :: some (.inr (.inr z)) :: some v :: none :: t) := propext ⟨fun h => h.2, fun h => ⟨by show 9 + 1 < t.length + 1 + 1 + 1 + 1 + 1 + 1 + 1 + 1 + 1 + 1 + 1; omega, h⟩⟩
theorem zSt_9l {a0 a1 a2 a3 a4 a5 a6 a7 : Option zV} {w : Int64} {o : Option zV} {t : zLs} {v : zV} {f : zLs → Prop} : zSt (a0 :: a1 :: a2 :: a3 :: a4 :: a5 :: a6 :: a7 :: some (.inr (.inl w)) :: o :: t) 9 v f = f (a0 :: a1 :: a2 :: a3 :: a4 :: a5 :: a6 :: a7 :: none :: some v :: t) := propext ⟨fun h => h.2, fun h => ⟨by show 9 < t.length + 1 + 1 + 1 + 1 + 1 + 1 + 1 + 1 + 1 + 1; omega, h⟩⟩
theorem zSL_9l {a0 a1 a2 a3 a4 a5 a6 a7 : Option zV} {w : Int64} {o o2 : Option zV} {t : zLs} {v : zV} {f : zLs → Prop} : zSL (a0 :: a1 :: a2 :: a3 :: a4 :: a5 :: a6 :: a7 :: some (.inr (.inl w)) :: o :: o2 :: t) 9 v f = f (a0 :: a1 :: a2 :: a3 :: a4 :: a5 :: a6 :: a7 :: none :: some v :: none :: t) := propext ⟨fun h => h.2, fun h => ⟨by show 9 + 1 < t.length + 1 + 1 + 1 + 1 + 1 + 1 + 1 + 1 + 1 + 1 + 1; omega, h⟩⟩
theorem zLI_10 {a0 a1 a2 a3 a4 a5 a6 a7 a8 a9 : Option zV} {t : zLs} {x : Int} {f : Int → Prop} : zLI (a0 :: a1 :: a2 :: a3 :: a4 :: a5 :: a6 :: a7 :: a8 :: a9 :: some (.inl x) :: t) 10 f = f x := rfl
theorem zLL_10 {a0 a1 a2 a3 a4 a5 a6 a7 a8 a9 : Option zV} {t : zLs} {x : Int64} {f : Int64 → Prop} : zLL (a0 :: a1 :: a2 :: a3 :: a4 :: a5 :: a6 :: a7 :: a8 :: a9 :: some (.inr (.inl x)) :: t) 10 f = f x := rfl
theorem zLA_10 {a0 a1 a2 a3 a4 a5 a6 a7 a8 a9 : Option zV} {t : zLs} {x : Nat} {f : Nat → Prop} : zLA (a0 :: a1 :: a2 :: a3 :: a4 :: a5 :: a6 :: a7 :: a8 :: a9 :: some (.inr (.inr x)) :: t) 10 f = f x := rfl
theorem zSt_10n {a0 a1 a2 a3 a4 a5 a6 a7 a8 : Option zV} {o : Option zV} {t : zLs} {v : zV} {f : zLs → Prop} : zSt (a0 :: a1 :: a2 :: a3 :: a4 :: a5 :: a6 :: a7 :: a8 :: none :: o :: t) 10 v f = f (a0 :: a1 :: a2 :: a3 :: a4 :: a5 :: a6 :: a7 :: a8 :: none :: some v :: t) := propext ⟨fun h => h.2, fun h => ⟨by show 10 < t.length + 1 + 1 + 1 + 1 + 1 + 1 + 1 + 1 + 1 + 1 + 1; omega, h⟩⟩
theorem zSL_10n {a0 a1 a2 a3 a4 a5 a6 a7 a8 : Option zV} {o o2 : Option zV} {t : zLs} {v : zV} {f : zLs → Prop} : zSL (a0 :: a1 :: a2 :: a3 :: a4 :: a5 :: a6 :: a7 :: a8 :: none :: o :: o2 :: t) 10 v f = f (a0 :: a1 :: a2 :: a3 :: a4 :: a5 :: a6 :: a7 :: a8 :: none :: some v :: none :: t) := propext ⟨fun h => h.2, fun h => ⟨by show 10 + 1 < t.length + 1 + 1 + 1 + 1 + 1 + 1 + 1 + 1 + 1 + 1 + 1 + 1; omega, h⟩⟩
theorem zSt_10i {a0 a1 a2 a3 a4 a5 a6 a7 a8 : Option zV} {y : Int} {o : Option zV} {t : zLs} {v : zV} {f : zLs → Prop} : zSt (a0 :: a1 :: a2 :: a3 :: a4 :: a5 :: a6 :: a7 :: a8 :: some (.inl y) :: o :: t) 10 v f = f (a0 :: a1 :: a2 :: a3 :: a4 :: a5 :: a6 :: a7 :: a8 :: some (.inl y) :: some v :: t) := propext ⟨fun h => h.2, fun h => ⟨by show 10 < t.length + 1 + 1 + 1 + 1 + 1 + 1 + 1 + 1 + 1 + 1 + 1; omega, h⟩⟩
theorem zSL_10i {a0 a1 a2 a3 a4 a5 a6 a7 a8 : Option zV} {y : Int} {o o2 : Option zV} {t : zLs} {v : zV} {f : zLs → Prop} : zSL (a0 :: a1 :: a2 :: a3 :: a4 :: a5 :: a6 :: a7 :: a8 :: some (.inl y) :: o :: o2 :: t) 10 v f = f (a0 :: a1 :: a2 :: a3 :: a4 :: a5 :: a6 :: a7 :: a8 :: some (.inl y) :: some v :: none :: t) := propext ⟨fun h => h.2, fun h => ⟨by show 10 + 1 < t.length + 1 + 1 + 1 + 1 + 1 + 1 + 1 + 1 + 1 + 1 + 1 + 1; omega, h⟩⟩
theorem zSt_10a {a0 a1 a2 a3 a4 a5 a6 a7 a8 : Option zV} {z : Nat} {o : Option zV} {t : zLs} {v : zV} {f : zLs → Prop} : zSt (a0 :: a1 :: a2 :: a3 :: a4 :: a5 :: a6 :: a7 :: a8 :: some (.inr (.inr z)) :: o :: t) 10 v f = f (a0 :: a1 :: a2 :: a3 :: a4 :: a5 :: a6 :: a7 :: a8 :: some (.inr (.inr z)) :: some v :: t) := propext ⟨fun h => h.2, fun h => ⟨by show 10 < t.length + 1 + 1 + 1 + 1 + 1 + 1 + 1 + 1 + 1 + 1 + 1; omega, h⟩⟩
theorem zSL_10a {a0 a1 a2 a3 a4 a5 a6 a7 a8 : Option zV} {z : Nat} {o o2 : Option zV} {t : zLs} {v : zV} {f : zLs → Prop} : zSL (a0 :: a1 :: a2 :: a3 :: a4 :: a5 :: a6 :: a7 :: a8 :: some (.inr (.inr z)) :: o :: o2 :: t) 10 v f = f (a0 :: a1 :: a2 :: a3 :: a4 :: a5 :: a6 :: a7 :: a8 :: some (.inr (.inr z)) :: some v :: none :: t) := propext ⟨fun h => h.2, fun h => ⟨by show 10 + 1 < t.length + 1 + 1 + 1 + 1 + 1 + 1 + 1 + 1 + 1 + 1 + 1 + 1; omega, h⟩⟩
theorem zSt_10l {a0 a1 a2 a3 a4 a5 a6 a7 a8 : Option zV} {w : Int64} {o : Option zV} {t : zLs} {v : zV} {f : zLs → Prop} : zSt (a0 :: a1 :: a2 :: a3 :: a4 :: a5 :: a6 :: a7 :: a8 :: some (.inr (.inl w)) :: o :: t) 10 v f = f (a0 :: a1 :: a2 :: a3 :: a4 :: a5 :: a6 :: a7 :: a8 :: none :: some v :: t) := propext ⟨fun h => h.2, fun h => ⟨by show 10 < t.length + 1 + 1 + 1 + 1 + 1 + 1 + 1 + 1 + 1 + 1 + 1; omega, h⟩⟩
theorem zSL_10l {a0 a1 a2 a3 a4 a5 a6 a7 a8 : Option zV} {w : Int64} {o o2 : Option zV} {t : zLs} {v : zV} {f : zLs → Prop} : zSL (a0 :: a1 :: a2 :: a3 :: a4 :: a5 :: a6 :: a7 :: a8 :: some (.inr (.inl w)) :: o :: o2 :: t) 10 v f = f (a0 :: a1 :: a2 :: a3 :: a4 :: a5 :: a6 :: a7 :: a8 :: none :: some v :: none :: t) := propext ⟨fun h => h.2, fun h => ⟨by show 10 + 1 < t.length + 1 + 1 + 1 + 1 + 1 + 1 + 1 + 1 + 1 + 1 + 1 + 1; omega, h⟩⟩
theorem zLI_11 {a0 a1 a2 a3 a4 a5 a6 a7 a8 a9 a10 : Option zV} {t : zLs} {x : Int} {f : Int → Prop} : zLI (a0 :: a1 :: a2 :: a3 :: a4 :: a5 :: a6 :: a7 :: a8 :: a9 :: a10 :: some (.inl x) :: t) 11 f = f x := rfl
theorem zLL_11 {a0 a1 a2 a3 a4 a5 a6 a7 a8 a9 a10 : Option zV} {t : zLs} {x : Int64} {f : Int64 → Prop} : zLL (a0 :: a1 :: a2 :: a3 :: a4 :: a5 :: a6 :: a7 :: a8 :: a9 :: a10 :: some (.inr (.inl x)) :: t) 11 f = f x := rfl
theorem zLA_11 {a0 a1 a2 a3 a4 a5 a6 a7 a8 a9 a10 : Option zV} {t : zLs} {x : Nat} {f : Nat → Prop} : zLA (a0 :: a1 :: a2 :: a3 :: a4 :: a5 :: a6 :: a7 :: a8 :: a9 :: a10 :: some (.inr (.inr x)) :: t) 11 f = f x := rfl
theorem zSt_11n {a0 a1 a2 a3 a4 a5 a6 a7 a8 a9 : Option zV} {o : Option zV} {t : zLs} {v : zV} {f : zLs → Prop} : zSt (a0 :: a1 :: a2 :: a3 :: a4 :: a5 :: a6 :: a7 :: a8 :: a9 :: none :: o :: t) 11 v f = f (a0 :: a1 :: a2 :: a3 :: a4 :: a5 :: a6 :: a7 :: a8 :: a9 :: none :: some v :: t) := propext ⟨fun h => h.2, fun h => ⟨by show 11 < t.length + 1 + 1 + 1 + 1 + 1 + 1 + 1 + 1 + 1 + 1 + 1 + 1; omega, h⟩⟩
theorem zSL_11n {a0 a1 a2 a3 a4 a5 a6 a7 a8 a9 : Option zV} {o o2 : Option zV} {t : zLs} {v : zV} {f : zLs → Prop} : zSL (a0 :: a1 :: a2 :: a3 :: a4 :: a5 :: a6 :: a7 :: a8 :: a9 :: none :: o :: o2 :: t) 11 v f = f (a0 :: a1 :: a2 :: a3 :: a4 :: a5 :: a6 :: a7 :: a8 :: a9 :: none :: some v :: none :: t) := propext ⟨fun h => h.2, fun h => ⟨by show 11 + 1 < t.length + 1 + 1 + 1 + 1 + 1 + 1 + 1 + 1 + 1 + 1 + 1 + 1 + 1; omega, h⟩⟩
theorem zSt_11i {a0 a1 a2 a3 a4 a5 a6 a7 a8 a9 : Option zV} {y : Int} {o : Option zV} {t : zLs} {v : zV} {f : zLs → Prop} : zSt (a0 :: a1 :: a2 :: a3 :: a4 :: a5 :: a6 :: a7 :: a8 :: a9 :: some (.inl y) :: o :: t) 11 v f = f (a0 :: a1 :: a2 :: a3 :: a4 :: a5 :: a6 :: a7 :: a8 :: a9 :: some (.inl y) :: some v :: t) := propext ⟨fun h => h.2, fun h => ⟨by show 11 < t.length + 1 + 1 + 1 + 1 + 1 + 1 + 1 + 1 + 1 + 1 + 1 + 1; omega, h⟩⟩
theorem zSL_11i {a0 a1 a2 a3 a4 a5 a6 a7 a8 a9 : Option zV} {y : Int} {o o2 : Option zV} {t : zLs} {v : zV} {f : zLs → Prop} : zSL (a0 :: a1 :: a2 :: a3 :: a4 :: a5 :: a6 :: a7 :: a8 :: a9 :: some (.inl y) :: o :: o2 :: t) 11 v f = f (a0 :: a1 :: a2 :: a3 :: a4 :: a5 :: a6 :: a7 :: a8 :: a9 :: some (.inl y) :: some v :: none :: t) := propext ⟨fun h => h.2, fun h => ⟨by show 11 + 1 < t.length + 1 + 1 + 1 + 1 + 1 + 1 + 1 + 1 + 1 + 1 + 1 + 1 + 1; omega, h⟩⟩
theorem zSt_11a {a0 a1 a2 a3 a4 a5 a6 a7 a8 a9 : Option zV} {z : Nat} {o : Option zV} {t : zLs} {v : zV} {f : zLs → Prop} : zSt (a0 :: a1 :: a2 :: a3 :: a4 :: a5 :: a6 :: a7 :: a8 :: a9 :: some (.inr (.inr z)) :: o :: t) 11 v f = f (a0 :: a1 :: a2 :: a3 :: a4 :: a5 :: a6 :: a7 :: a8 :: a9 :: some (.inr (.inr z)) :: some v :: t) := propext ⟨fun h => h.2, fun h => ⟨by show 11 < t.length + 1 + 1 + 1 + 1 + 1 + 1 + 1 + 1 + 1 + 1 + 1 + 1; omega, h⟩⟩
theorem zSL_11a {a0 a1 a2 a3 a4 a5 a6 a7 a8 a9 : Option zV} {z : Nat} {o o2 : Option zV} {t : zLs} {v : zV} {f : zLs → Prop} : zSL (a0 :: a1 :: a2 :: a3 :: a4 :: a5 :: a6 :: a7 :: a8 :: a9 :: some (.inr (.inr z)) :: o :: o2 :: t) 11 v f = f (a0 :: a1 :: a2 :: a3 :: a4 :: a5 :: a6 :: a7 :: a8 :: a9 :: some (.inr (.inr z)) :: some v :: none :: t) := propext ⟨fun h => h.2, fun h => ⟨by show 11 + 1 < t.length + 1 + 1 + 1 + 1 + 1 + 1 + 1 + 1 + 1 + 1 + 1 + 1 + 1; omega, h⟩⟩
theorem zSt_11l {a0 a1 a2 a3 a4 a5 a6 a7 a8 a9 : Option zV} {w : Int64} {o : Option zV} {t : zLs} {v : zV} {f : zLs → Prop} : zSt (a0 :: a1 :: a2 :: a3 :: a4 :: a5 :: a6 :: a7 :: a8 :: a9 :: some (.inr (.inl w)) :: o :: t) 11 v f = f (a0 :: a1 :: a2 :: a3 :: a4 :: a5 :: a6 :: a7 :: a8 :: a9 :: none :: some v :: t) := propext ⟨fun h => h.2, fun h => ⟨by show 11 < t.length + 1 + 1 + 1 + 1 + 1 + 1 + 1 + 1 + 1 + 1 + 1 + 1; omega, h⟩⟩
theorem zSL_11l {a0 a1 a2 a3 a4 a5 a6 a7 a8 a9 : Option zV} {w : Int64} {o o2 : Option zV} {t : zLs} {v : zV} {f : zLs → Prop} : zSL (a0 :: a1 :: a2 :: a3 :: a4 :: a5 :: a6 :: a7 :: a8 :: a9 :: some (.inr (.inl w)) :: o :: o2 :: t) 11 v f = f (a0 :: a1 :: a2 :: a3 :: a4 :: a5 :: a6 :: a7 :: a8 :: a9 :: none :: some v :: none :: t) := propext ⟨fun h => h.2, fun h => ⟨by show 11 + 1 < t.length + 1 + 1 + 1 + 1 + 1 + 1 + 1 + 1 + 1 + 1 + 1 + 1 + 1; omega, h⟩⟩
theorem zLI_12 {a0 a1 a2 a3 a4 a5 a6 a7 a8 a9 a10 a11 : Option zV} {t : zLs} {x : Int} {f : Int → Prop} : zLI (a0 :: a1 :: a2 :: a3 :: a4 :: a5 :: a6 :: a7 :: a8 :: a9 :: a10 :: a11 :: some (.inl x) :: t) 12 f = f x := rfl
theorem zLL_12 {a0 a1 a2 a3 a4 a5 a6 a7 a8 a9 a10 a11 : Option zV} {t : zLs} {x : Int64} {f : Int64 → Prop} : zLL (a0 :: a1 :: a2 :: a3 :: a4 :: a5 :: a6 :: a7 :: a8 :: a9 :: a10 :: a11 :: some (.inr (.inl x)) :: t) 12 f = f x := rfl
theorem zLA_12 {a0 a1 a2 a3 a4 a5 a6 a7 a8 a9 a10 a11 : Option zV} {t : zLs} {x : Nat} {f : Nat → Prop} : zLA (a0 :: a1 :: a2 :: a3 :: a4 :: a5 :: a6 :: a7 :: a8 :: a9 :: a10 :: a11 :: some (.inr (.inr x)) :: t) 12 f = f x := rfl
theorem zSt_12n {a0 a1 a2 a3 a4 a5 a6 a7 a8 a9 a10 : Option zV} {o : Option zV} {t : zLs} {v : zV} {f : zLs → Prop} : zSt (a0 :: a1 :: a2 :: a3 :: a4 :: a5 :: a6 :: a7 :: a8 :: a9 :: a10 :: none :: o :: t) 12 v f = f (a0 :: a1 :: a2 :: a3 :: a4 :: a5 :: a6 :: a7 :: a8 :: a9 :: a10 :: none :: some v :: t) := propext ⟨fun h => h.2, fun h => ⟨by show 12 < t.length + 1 + 1 + 1 + 1 + 1 + 1 + 1 + 1 + 1 + 1 + 1 + 1 + 1; omega, h⟩⟩
theorem zSL_12n {a0 a1 a2 a3 a4 a5 a6 a7 a8 a9 a10 : Option zV} {o o2 : Option zV} {t : zLs} {v : zV} {f : zLs → Prop} : zSL (a0 :: a1 :: a2 :: a3 :: a4 :: a5 :: a6 :: a7 :: a8 :: a9 :: a10 :: none :: o :: o2 :: t) 12 v f = f (a0 :: a1 :: a2 :: a3 :: a4 :: a5 :: a6 :: a7 :: a8 :: a9 :: a10 :: none :: some v :: none :: t) := propext ⟨fun h => h.2, fun h => ⟨by show 12 + 1 < t.length + 1 + 1 + 1 + 1 + 1 + 1 + 1 + 1 + 1 + 1 + 1 + 1 + 1 + 1; omega, h⟩⟩
theorem zSt_12i {a0 a1 a2 a3 a4 a5 a6 a7 a8 a9 a10 : Option zV} {y : Int} {o : Option zV} {t : zLs} {v : zV} {f : zLs → Prop} : zSt (a0 :: a1 :: a2 :: a3 :: a4 :: a5 :: a6 :: a7 :: a8 :: a9 :: a10 :: some (.inl y) :: o :: t) 12 v f = f (a0 :: a1 :: a2 :: a3 :: a4 :: a5 :: a6 :: a7 :: a8 :: a9 :: a10 :: some (.inl y) :: some v :: t) := propext ⟨fun h => h.2, fun h => ⟨by show 12 < t.length + 1 + 1 + 1 + 1 + 1 + 1 + 1 + 1 + 1 + 1 + 1 + 1 + 1; omega, h⟩⟩
theorem zSL_12i {a0 a1 a2 a3 a4 a5 a6 a7 a8 a9 a10 : Option zV} {y : Int} {o o2 : Option zV} {t : zLs} {v : zV} {f : zLs → Prop} : zSL (a0 :: a1 :: a2 :: a3 :: a4 :: a5 :: a6 :: a7 :: a8 :: a9 :: a10 :: some (.inl y) :: o :: o2 :: t) 12 v f = f (a0 :: a1 :: a2 :: a3 :: a4 :: a5 :: a6 :: a7 :: a8 :: a9 :: a10 :: some (.inl y) :: some v :: none :: t) := propext ⟨fun h => h.2, fun h => ⟨by show 12 + 1 < t.length + 1 + 1 + 1 + 1 + 1 + 1 + 1 + 1 + 1 + 1 + 1 + 1 + 1 + 1; omega, h⟩⟩
theorem zSt_12a {a0 a1 a2 a3 a4 a5 a6 a7 a8 a9 a10 : Option zV} {z : Nat} {o : Option zV} {t : zLs} {v : zV} {f : zLs → Prop} : zSt (a0 :: a1 :: a2 :: a3 :: a4 :: a5 :: a6 :: a7 :: a8 :: a9 :: a10 :: some (.inr (.inr z)) :: o :: t) 12 v f = f (a0 :: a1 :: a2 :: a3 :: a4 :: a5 :: a6 :: a7 :: a8 :: a9 :: a10 :: some (.inr (.inr z)) :: some v :: t) := propext ⟨fun h => h.2, fun h => ⟨by show 12 < t.length + 1 + 1 + 1 + 1 + 1 + 1 + 1 + 1 + 1 + 1 + 1 + 1 + 1; omega, h⟩⟩
theorem zSL_12a {a0 a1 a2 a3 a4 a5 a6 a7 a8 a9 a10 : Option zV} {z : Nat} {o o2 : Option zV} {t : zLs} {v : zV} {f : zLs → Prop} : zSL (a0 :: a1 :: a2 :: a3 :: a4 :: a5 :: a6 :: a7 :: a8 :: a9 :: a10 :: some (.inr (.inr z)) :: o :: o2 :: t) 12 v f = f (a0 :: a1 :: a2 :: a3 :: a4 :: a5 :: a6 :: a7 :: a8 :: a9 :: a10 :: some (.inr (.inr z)) :: some v :: none :: t) := propext ⟨fun h => h.2, fun h => ⟨by show 12 + 1 < t.length + 1 + 1 + 1 + 1 + 1 + 1 + 1 + 1 + 1 + 1 + 1 + 1 + 1 + 1; omega, h⟩⟩
theorem zSt_12l {a0 a1 a2 a3 a4 a5 a6 a7 a8 a9 a10 : Option zV} {w : Int64} {o : Option zV} {t : zLs} {v : zV} {f : zLs → Prop} : zSt (a0 :: a1 :: a2 :: a3 :: a4 :: a5 :: a6 :: a7 :: a8 :: a9 :: a10 :: some (.inr (.inl w)) :: o :: t) 12 v f = f (a0 :: a1 :: a2 :: a3 :: a4 :: a5 :: a6 :: a7 :: a8 :: a9 :: a10 :: none :: some v :: t) := propext ⟨fun h => h.2, fun h => ⟨by show 12 < t.length + 1 + 1 + 1 + 1 + 1 + 1 + 1 + 1 + 1 + 1 + 1 + 1 + 1; omega, h⟩⟩
theorem zSL_12l {a0 a1 a2 a3 a4 a5 a6 a7 a8 a9 a10 : Option zV} {w : Int64} {o o2 : Option zV} {t : zLs} {v : zV} {f : zLs → Prop} : zSL (a0 :: a1 :: a2 :: a3 :: a4 :: a5 :: a6 :: a7 :: a8 :: a9 :: a10 :: some (.inr (.inl w)) :: o :: o2 :: t) 12 v f = f (a0 :: a1 :: a2 :: a3 :: a4 :: a5 :: a6 :: a7 :: a8 :: a9 :: a10 :: none :: some v :: none :: t) := propext ⟨fun h => h.2, fun h => ⟨by show 12 + 1 < t.length + 1 + 1 + 1 + 1 + 1 + 1 + 1 + 1 + 1 + 1 + 1 + 1 + 1 + 1; omega, h⟩⟩
theorem zLI_13 {a0 a1 a2 a3 a4 a5 a6 a7 a8 a9 a10 a11 a12 : Option zV} {t : zLs} {x : Int} {f : Int → Prop} : zLI (a0 :: a1 :: a2 :: a3 :: a4 :: a5 :: a6 :: a7 :: a8 :: a9 :: a10 :: a11 :: a12 :: some (.inl x) :: t) 13 f = f x := rfl
theorem zLL_13 {a0 a1 a2 a3 a4 a5 a6 a7 a8 a9 a10 a11 a12 : Option zV} {t : zLs} {x : Int64} {f : Int64 → Prop} : zLL (a0 :: a1 :: a2 :: a3 :: a4 :: a5 :: a6 :: a7 :: a8 :: a9 :: a10 :: a11 :: a12 :: some (.inr (.inl x)) :: t) 13 f = f x := rfl
theorem zLA_13 {a0 a1 a2 a3 a4 a5 a6 a7 a8 a9 a10 a11 a12 : Option zV} {t : zLs} {x : Nat} {f : Nat → Prop} : zLA (a0 :: a1 :: a2 :: a3 :: a4 :: a5 :: a6 :: a7 :: a8 :: a9 :: a10 :: a11 :: a12 :: some (.inr (.inr x)) :: t) 13 f = f x := rfl
theorem zSt_13n {a0 a1 a2 a3 a4 a5 a6 a7 a8 a9 a10 a11 : Option zV} {o : Option zV} {t : zLs} {v : zV} {f : zLs → Prop} : zSt (a0 :: a1 :: a2 :: a3 :: a4 :: a5 :: a6 :: a7 :: a8 :: a9 :: a10 :: a11 :: none :: o :: t) 13 v f = f (a0 :: a1 :: a2 :: a3 :: a4 :: a5 :: a6 :: a7 :: a8 :: a9 :: a10 :: a11 :: none :: some v :: t) := propext ⟨fun h => h.2, fun h => ⟨by show 13 < t.length + 1 + 1 + 1 + 1 + 1 + 1 + 1 + 1 + 1 + 1 + 1 + 1 + 1 + 1; omega, h⟩⟩
theorem zSt_13i {a0 a1 a2 a3 a4 a5 a6 a7 a8 a9 a10 a11 : Option zV} {y : Int} {o : Option zV} {t : zLs} {v : zV} {f : zLs → Prop} : zSt (a0 :: a1 :: a2 :: a3 :: a4 :: a5 :: a6 :: a7 :: a8 :: a9 :: a10 :: a11 :: some (.inl y) :: o :: t) 13 v f = f (a0 :: a1 :: a2 :: a3 :: a4 :: a5 :: a6 :: a7 :: a8 :: a9 :: a10 :: a11 :: some (.inl y) :: some v :: t) := propext ⟨fun h => h.2, fun h => ⟨by show 13 < t.length + 1 + 1 + 1 + 1 + 1 + 1 + 1 + 1 + 1 + 1 + 1 + 1 + 1 + 1; omega, h⟩⟩
theorem zSt_13a {a0 a1 a2 a3 a4 a5 a6 a7 a8 a9 a10 a11 : Option zV} {z : Nat} {o : Option zV} {t : zLs} {v : zV} {f : zLs → Prop} : zSt (a0 :: a1 :: a2 :: a3 :: a4 :: a5 :: a6 :: a7 :: a8 :: a9 :: a10 :: a11 :: some (.inr (.inr z)) :: o :: t) 13 v f = f (a0 :: a1 :: a2 :: a3 :: a4 :: a5 :: a6 :: a7 :: a8 :: a9 :: a10 :: a11 :: some (.inr (.inr z)) :: some v :: t) := propext ⟨fun h => h.2, fun h => ⟨by show 13 < t.length + 1 + 1 + 1 + 1 + 1 + 1 + 1 + 1 + 1 + 1 + 1 + 1 + 1 + 1; omega, h⟩⟩
theorem zSt_13l {a0 a1 a2 a3 a4 a5 a6 a7 a8 a9 a10 a11 : Option zV} {w : Int64} {o : Option zV} {t : zLs} {v : zV} {f : zLs → Prop} : zSt (a0 :: a1 :: a2 :: a3 :: a4 :: a5 :: a6 :: a7 :: a8 :: a9 :: a10 :: a11 :: some (.inr (.inl w)) :: o :: t) 13 v f = f (a0 :: a1 :: a2 :: a3 :: a4 :: a5 :: a6 :: a7 :: a8 :: a9 :: a10 :: a11 :: none :: some v :: t) := propext ⟨fun h => h.2, fun h => ⟨by show 13 < t.length + 1 + 1 + 1 + 1 + 1 + 1 + 1 + 1 + 1 + 1 + 1 + 1 + 1 + 1; omega, h⟩⟩
theorem zE_iload {j : Nat} {v : Int} {k c n : Nat} : zE K mi pc ls st M Q kk (some (.iload j, v, k, c, n)) = (zLI ls k fun x => kk n ls (.inl x :: st) M) := by
  show zT K mi pc ls M Q kk (zall ls k fun v => z1i [v] fun x _ => znx n ls (.inl x :: st) M) = _
  unfold zall zLI
  split
  · rename_i w hw
    rcases w with x | x | x <;> simp only [hw] <;> rfl
  · rename_i hw
    split
    · rename_i x hx
      exact absurd hx (hw _)
    · rfl
theorem zE_aload {j : Nat} {v : Int} {k c n : Nat} : zE K mi pc ls st M Q kk (some (.aload j, v, k, c, n)) = (zLA ls k fun x => kk n ls (.inr (.inr x) :: st) M) := by
  show zT K mi pc ls M Q kk (zall ls k fun v => z1a [v] fun x _ => znx n ls (.inr (.inr x) :: st) M) = _
  unfold zall zLA
  split
  · rename_i w hw
    rcases w with x | x | x <;> simp only [hw] <;> rfl
  · rename_i hw
    split
    · rename_i x hx
      exact absurd hx (hw _)
    · rfl
theorem zE_lload {j : Nat} {v : Int} {k c n : Nat} : zE K mi pc ls st M Q kk (some (.lload j, v, k, c, n)) = (zLL ls k fun x => kk n ls (.inr (.inl x) :: st) M) := by
  show zT K mi pc ls M Q kk (zall ls k fun v => z1l [v] fun x _ => znx n ls (.inr (.inl x) :: st) M) = _
  unfold zall zLL
  split
  · rename_i w hw
    rcases w with x | x | x <;> simp only [hw] <;> rfl
  · rename_i hw
    split
    · rename_i x hx
      exact absurd hx (hw _)
    · rfl
theorem zE_iinc {j : Nat} {i : Int} {v : Int} {k c n : Nat} : zE K mi pc ls st M Q kk (some (.iinc j i, v, k, c, n)) = (zLI ls k fun x => zr32 (x + v) ∧ kk n (zst ls k (.inl (x + v))) st M) := by
  show zT K mi pc ls M Q kk (zall ls k fun w => z1i [w] fun x _ => if zr32 (x + v) then znx n (zst ls k (.inl (x + v))) st M else none) = _
  unfold zall zLI
  split
  · rename_i w hw
    rcases w with x | x | x
    · simp only [hw]
      exact zT_if
    · simp only [hw]; rfl
    · simp only [hw]; rfl
  · rename_i hw
    split
    · rename_i x hx
      exact absurd hx (hw _)
    · rfl
theorem zE_istore {j : Nat} {x : Int} {v : Int} {k c n : Nat} : zE K mi pc ls (.inl x :: st) M Q kk (some (.istore j, v, k, c, n)) = (zSt ls k (.inl x) fun ls2 => kk n ls2 st M) := zT_if
theorem zE_astore {j : Nat} {x : Nat} {v : Int} {k c n : Nat} : zE K mi pc ls (.inr (.inr x) :: st) M Q kk (some (.astore j, v, k, c, n)) = (zSt ls k (.inr (.inr x)) fun ls2 => kk n ls2 st M) := zT_if
theorem zE_lstore {j : Nat} {x : Int64} {v : Int} {k c n : Nat} : zE K mi pc ls (.inr (.inl x) :: st) M Q kk (some (.lstore j, v, k, c, n)) = (zSL ls k (.inr (.inl x)) fun ls2 => kk n ls2 st M) := zT_if
theorem zE_iconst {j : Int} {v : Int} {k c n : Nat} : zE K mi pc ls st M Q kk (some (.iconst j, v, k, c, n)) = (kk n ls (.inl v :: st) M) := rfl
theorem zE_ldc2 {j : Nat} {v : Int} {k c n : Nat} : zE K mi pc ls st M Q kk (some (.ldc2_w j, v, k, c, n)) = (kk n ls (.inr (.inl (Int64.ofInt v)) :: st) M) := rfl
theorem zE_iadd {x y : Int} {v : Int} {k c n : Nat} : zE K mi pc ls (.inl y :: .inl x :: st) M Q kk (some (.iadd, v, k, c, n)) = (zr32 (x + y) ∧ kk n ls (.inl (x + y) :: st) M) := zT_if
theorem zE_isub {x y : Int} {v : Int} {k c n : Nat} : zE K mi pc ls (.inl y :: .inl x :: st) M Q kk (some (.isub, v, k, c, n)) = (zr32 (x - y) ∧ kk n ls (.inl (x - y) :: st) M) := zT_if
theorem zE_imul {x y : Int} {v : Int} {k c n : Nat} : zE K mi pc ls (.inl y :: .inl x :: st) M Q kk (some (.imul, v, k, c, n)) = (zr32 (x * y) ∧ kk n ls (.inl (x * y) :: st) M) := zT_if
theorem zE_idiv {x y : Int} {v : Int} {k c n : Nat} : zE K mi pc ls (.inl y :: .inl x :: st) M Q kk (some (.idiv, v, k, c, n)) = ((y ≠ 0 ∧ (y = -1 → -2147483648 < x)) ∧ kk n ls (.inl (x.tdiv y) :: st) M) := zT_if
theorem zE_irem {x y : Int} {v : Int} {k c n : Nat} : zE K mi pc ls (.inl y :: .inl x :: st) M Q kk (some (.irem, v, k, c, n)) = ((y ≠ 0 ∧ (y = -1 → -2147483648 < x)) ∧ kk n ls (.inl (x.tmod y) :: st) M) := zT_if
theorem zE_ineg {x : Int} {v : Int} {k c n : Nat} : zE K mi pc ls (.inl x :: st) M Q kk (some (.ineg, v, k, c, n)) = (zr32 (-x) ∧ kk n ls (.inl (-x) :: st) M) := zT_if
theorem zE_iand {x y : Int} {v : Int} {k c n : Nat} : zE K mi pc ls (.inl y :: .inl x :: st) M Q kk (some (.iand, v, k, c, n)) = (kk n ls (.inl (Int32.ofInt x &&& Int32.ofInt y).toInt :: st) M) := rfl
theorem zE_ior {x y : Int} {v : Int} {k c n : Nat} : zE K mi pc ls (.inl y :: .inl x :: st) M Q kk (some (.ior, v, k, c, n)) = (kk n ls (.inl (Int32.ofInt x ||| Int32.ofInt y).toInt :: st) M) := rfl
theorem zE_ixor {x y : Int} {v : Int} {k c n : Nat} : zE K mi pc ls (.inl y :: .inl x :: st) M Q kk (some (.ixor, v, k, c, n)) = (kk n ls (.inl (Int32.ofInt x ^^^ Int32.ofInt y).toInt :: st) M) := rfl
theorem zE_ishl {x y : Int} {v : Int} {k c n : Nat} : zE K mi pc ls (.inl y :: .inl x :: st) M Q kk (some (.ishl, v, k, c, n)) = (kk n ls (.inl (Int32.ofInt x <<< (Int32.ofInt y &&& 31)).toInt :: st) M) := rfl
theorem zE_ishr {x y : Int} {v : Int} {k c n : Nat} : zE K mi pc ls (.inl y :: .inl x :: st) M Q kk (some (.ishr, v, k, c, n)) = (kk n ls (.inl (Int32.ofInt x >>> (Int32.ofInt y &&& 31)).toInt :: st) M) := rfl
theorem zE_ladd {x y : Int64} {v : Int} {k c n : Nat} : zE K mi pc ls (.inr (.inl y) :: .inr (.inl x) :: st) M Q kk (some (.ladd, v, k, c, n)) = (kk n ls (.inr (.inl (x + y)) :: st) M) := rfl
theorem zE_lmul {x y : Int64} {v : Int} {k c n : Nat} : zE K mi pc ls (.inr (.inl y) :: .inr (.inl x) :: st) M Q kk (some (.lmul, v, k, c, n)) = (kk n ls (.inr (.inl (x * y)) :: st) M) := rfl
theorem zE_ldiv {x y : Int64} {v : Int} {k c n : Nat} : zE K mi pc ls (.inr (.inl y) :: .inr (.inl x) :: st) M Q kk (some (.ldiv, v, k, c, n)) = (y ≠ 0 ∧ kk n ls (.inr (.inl (x / y)) :: st) M) := zT_if
theorem zE_land {x y : Int64} {v : Int} {k c n : Nat} : zE K mi pc ls (.inr (.inl y) :: .inr (.inl x) :: st) M Q kk (some (.land, v, k, c, n)) = (kk n ls (.inr (.inl (x &&& y)) :: st) M) := rfl
theorem zE_lor {x y : Int64} {v : Int} {k c n : Nat} : zE K mi pc ls (.inr (.inl y) :: .inr (.inl x) :: st) M Q kk (some (.lor, v, k, c, n)) = (kk n ls (.inr (.inl (x ||| y)) :: st) M) := rfl
theorem zE_lxor {x y : Int64} {v : Int} {k c n : Nat} : zE K mi pc ls (.inr (.inl y) :: .inr (.inl x) :: st) M Q kk (some (.lxor, v, k, c, n)) = (kk n ls (.inr (.inl (x ^^^ y)) :: st) M) := rfl
theorem zE_lshl {x : Int64} {y : Int} {v : Int} {k c n : Nat} : zE K mi pc ls (.inl y :: .inr (.inl x) :: st) M Q kk (some (.lshl, v, k, c, n)) = (kk n ls (.inr (.inl (x <<< ((Int32.ofInt y).toInt64 &&& 63))) :: st) M) := rfl
theorem zE_lshr {x : Int64} {y : Int} {v : Int} {k c n : Nat} : zE K mi pc ls (.inl y :: .inr (.inl x) :: st) M Q kk (some (.lshr, v, k, c, n)) = (kk n ls (.inr (.inl (x >>> ((Int32.ofInt y).toInt64 &&& 63))) :: st) M) := rfl
theorem zE_i2l {x : Int} {v : Int} {k c n : Nat} : zE K mi pc ls (.inl x :: st) M Q kk (some (.i2l, v, k, c, n)) = (kk n ls (.inr (.inl (Int32.ofInt x).toInt64) :: st) M) := rfl
theorem zE_lcmp {x y : Int64} {v : Int} {k c n : Nat} : zE K mi pc ls (.inr (.inl y) :: .inr (.inl x) :: st) M Q kk (some (.lcmp, v, k, c, n)) = (kk n ls (.inl (lg_cmp x y).toInt :: st) M) := rfl
theorem zE_dup_i {x : Int} {v : Int} {k c n : Nat} : zE K mi pc ls (.inl x :: st) M Q kk (some (.dup, v, k, c, n)) = (kk n ls (.inl x :: .inl x :: st) M) := rfl
theorem zE_dup_a {x : Nat} {v : Int} {k c n : Nat} : zE K mi pc ls (.inr (.inr x) :: st) M Q kk (some (.dup, v, k, c, n)) = (kk n ls (.inr (.inr x) :: .inr (.inr x) :: st) M) := rfl
theorem zE_dup2_ia {x : Int} {a : Nat} {v : Int} {k c n : Nat} : zE K mi pc ls (.inl x :: .inr (.inr a) :: st) M Q kk (some (.dup2, v, k, c, n)) = (kk n ls (.inl x :: .inr (.inr a) :: .inl x :: .inr (.inr a) :: st) M) := rfl
theorem zE_pop_i {x : Int} {v : Int} {k c n : Nat} : zE K mi pc ls (.inl x :: st) M Q kk (some (.pop, v, k, c, n)) = (kk n ls st M) := rfl
theorem zE_pop_a {x : Nat} {v : Int} {k c n : Nat} : zE K mi pc ls (.inr (.inr x) :: st) M Q kk (some (.pop, v, k, c, n)) = (kk n ls st M) := rfl
theorem zE_pop2 {a : Nat} {v : Int} {k c n : Nat} : zE K mi pc ls (.inr (.inr a) :: st) M Q kk (some (.pop2, v, k, c, n)) = ((st.map zcat).sum ≤ 8 ∧ kk n ls st M) := zT_if
theorem zE_goto {j : Int} {v : Int} {k c n : Nat} : zE K mi pc ls st M Q kk (some (.goto j, v, k, c, n)) = (kk k ls st M) := rfl
theorem zE_if_eq {j : Int} {x : Int} {v : Int} {k c n : Nat} : zE K mi pc ls (.inl x :: st) M Q kk (some (.ifCond .eq j, v, k, c, n)) = ((x = 0 → kk k ls st M) ∧ (¬ (x = 0) → kk n ls st M)) := by
  show zT K mi pc ls M Q kk (if decide (x = 0) = true then znx k ls st M else znx n ls st M) = _
  simp only [decide_eq_true_eq]
  exact zT_ite
theorem zE_icmp_eq {j : Int} {x y : Int} {v : Int} {k c n : Nat} : zE K mi pc ls (.inl y :: .inl x :: st) M Q kk (some (.if_icmp .eq j, v, k, c, n)) = ((x = y → kk k ls st M) ∧ (¬ (x = y) → kk n ls st M)) := by
  show zT K mi pc ls M Q kk (if decide (x = y) = true then znx k ls st M else znx n ls st M) = _
  simp only [decide_eq_true_eq]
  exact zT_ite
theorem zE_if_ne {j : Int} {x : Int} {v : Int} {k c n : Nat} : zE K mi pc ls (.inl x :: st) M Q kk (some (.ifCond .ne j, v, k, c, n)) = ((x ≠ 0 → kk k ls st M) ∧ (¬ (x ≠ 0) → kk n ls st M)) := by
  show zT K mi pc ls M Q kk (if decide (x ≠ 0) = true then znx k ls st M else znx n ls st M) = _
  simp only [decide_eq_true_eq]
  exact zT_ite
theorem zE_icmp_ne {j : Int} {x y : Int} {v : Int} {k c n : Nat} : zE K mi pc ls (.inl y :: .inl x :: st) M Q kk (some (.if_icmp .ne j, v, k, c, n)) = ((x ≠ y → kk k ls st M) ∧ (¬ (x ≠ y) → kk n ls st M)) := by
  show zT K mi pc ls M Q kk (if decide (x ≠ y) = true then znx k ls st M else znx n ls st M) = _
  simp only [decide_eq_true_eq]
  exact zT_ite
theorem zE_if_lt {j : Int} {x : Int} {v : Int} {k c n : Nat} : zE K mi pc ls (.inl x :: st) M Q kk (some (.ifCond .lt j, v, k, c, n)) = ((x < 0 → kk k ls st M) ∧ (¬ (x < 0) → kk n ls st M)) := by
  show zT K mi pc ls M Q kk (if decide (x < 0) = true then znx k ls st M else znx n ls st M) = _
  simp only [decide_eq_true_eq]
  exact zT_ite
theorem zE_icmp_lt {j : Int} {x y : Int} {v : Int} {k c n : Nat} : zE K mi pc ls (.inl y :: .inl x :: st) M Q kk (some (.if_icmp .lt j, v, k, c, n)) = ((x < y → kk k ls st M) ∧ (¬ (x < y) → kk n ls st M)) := by
  show zT K mi pc ls M Q kk (if decide (x < y) = true then znx k ls st M else znx n ls st M) = _
  simp only [decide_eq_true_eq]
  exact zT_ite
theorem zE_if_ge {j : Int} {x : Int} {v : Int} {k c n : Nat} : zE K mi pc ls (.inl x :: st) M Q kk (some (.ifCond .ge j, v, k, c, n)) = ((0 ≤ x → kk k ls st M) ∧ (¬ (0 ≤ x) → kk n ls st M)) := by
  show zT K mi pc ls M Q kk (if decide (0 ≤ x) = true then znx k ls st M else znx n ls st M) = _
  simp only [decide_eq_true_eq]
  exact zT_ite
theorem zE_icmp_ge {j : Int} {x y : Int} {v : Int} {k c n : Nat} : zE K mi pc ls (.inl y :: .inl x :: st) M Q kk (some (.if_icmp .ge j, v, k, c, n)) = ((y ≤ x → kk k ls st M) ∧ (¬ (y ≤ x) → kk n ls st M)) := by
  show zT K mi pc ls M Q kk (if decide (y ≤ x) = true then znx k ls st M else znx n ls st M) = _
  simp only [decide_eq_true_eq]
  exact zT_ite
theorem zE_if_gt {j : Int} {x : Int} {v : Int} {k c n : Nat} : zE K mi pc ls (.inl x :: st) M Q kk (some (.ifCond .gt j, v, k, c, n)) = ((0 < x → kk k ls st M) ∧ (¬ (0 < x) → kk n ls st M)) := by
  show zT K mi pc ls M Q kk (if decide (0 < x) = true then znx k ls st M else znx n ls st M) = _
  simp only [decide_eq_true_eq]
  exact zT_ite
theorem zE_icmp_gt {j : Int} {x y : Int} {v : Int} {k c n : Nat} : zE K mi pc ls (.inl y :: .inl x :: st) M Q kk (some (.if_icmp .gt j, v, k, c, n)) = ((y < x → kk k ls st M) ∧ (¬ (y < x) → kk n ls st M)) := by
  show zT K mi pc ls M Q kk (if decide (y < x) = true then znx k ls st M else znx n ls st M) = _
  simp only [decide_eq_true_eq]
  exact zT_ite
theorem zE_if_le {j : Int} {x : Int} {v : Int} {k c n : Nat} : zE K mi pc ls (.inl x :: st) M Q kk (some (.ifCond .le j, v, k, c, n)) = ((x ≤ 0 → kk k ls st M) ∧ (¬ (x ≤ 0) → kk n ls st M)) := by
  show zT K mi pc ls M Q kk (if decide (x ≤ 0) = true then znx k ls st M else znx n ls st M) = _
  simp only [decide_eq_true_eq]
  exact zT_ite
theorem zE_icmp_le {j : Int} {x y : Int} {v : Int} {k c n : Nat} : zE K mi pc ls (.inl y :: .inl x :: st) M Q kk (some (.if_icmp .le j, v, k, c, n)) = ((x ≤ y → kk k ls st M) ∧ (¬ (x ≤ y) → kk n ls st M)) := by
  show zT K mi pc ls M Q kk (if decide (x ≤ y) = true then znx k ls st M else znx n ls st M) = _
  simp only [decide_eq_true_eq]
  exact zT_ite
theorem zE_iaload {j : Int} {a : Nat} {v : Int} {k c n : Nat} : zE K mi pc ls (.inl j :: .inr (.inr a) :: st) M Q kk (some (.iaload, v, k, c, n)) = (((K a).1 = 20 ∧ 0 ≤ j ∧ j < (K a).2) ∧ kk n ls (.inl (M.2.1 a j.toNat) :: st) M) := zT_if
theorem zE_baload {j : Int} {a : Nat} {v : Int} {k c n : Nat} : zE K mi pc ls (.inl j :: .inr (.inr a) :: st) M Q kk (some (.baload, v, k, c, n)) = (((K a).1 = 21 ∧ 0 ≤ j ∧ j < (K a).2) ∧ kk n ls (.inl (M.2.1 a j.toNat) :: st) M) := zT_if
theorem zE_laload {j : Int} {a : Nat} {v : Int} {k c n : Nat} : zE K mi pc ls (.inl j :: .inr (.inr a) :: st) M Q kk (some (.laload, v, k, c, n)) = (((K a).1 = 22 ∧ 0 ≤ j ∧ j < (K a).2) ∧ kk n ls (.inr (.inl (M.2.2.1 a j.toNat)) :: st) M) := zT_if
theorem zE_aaload {j : Int} {a : Nat} {v : Int} {k c n : Nat} : zE K mi pc ls (.inl j :: .inr (.inr a) :: st) M Q kk (some (.aaload, v, k, c, n)) = (((23 ≤ (K a).1 ∧ (K a).1 ≤ 25) ∧ 0 ≤ j ∧ j < (K a).2 ∧ M.2.2.2 a j.toNat ≠ 0) ∧ kk n ls (.inr (.inr (M.2.2.2 a j.toNat)) :: st) M) := zT_if
theorem zE_iastore {j w : Int} {a : Nat} {v : Int} {k c n : Nat} : zE K mi pc ls (.inl w :: .inl j :: .inr (.inr a) :: st) M Q kk (some (.iastore, v, k, c, n)) = ((2 ≤ a ∧ (K a).1 = 20 ∧ 0 ≤ j ∧ j < (K a).2) ∧ kk n ls st (zsI M a j.toNat w)) := zT_if
theorem zE_bastore {j w : Int} {a : Nat} {v : Int} {k c n : Nat} : zE K mi pc ls (.inl w :: .inl j :: .inr (.inr a) :: st) M Q kk (some (.bastore, v, k, c, n)) = ((2 ≤ a ∧ (K a).1 = 21 ∧ 0 ≤ j ∧ j < (K a).2 ∧ (w = 0 ∨ w = 1)) ∧ kk n ls st (zsI M a j.toNat w)) := zT_if
theorem zE_lastore {j : Int} {w : Int64} {a : Nat} {v : Int} {k c n : Nat} : zE K mi pc ls (.inr (.inl w) :: .inl j :: .inr (.inr a) :: st) M Q kk (some (.lastore, v, k, c, n)) = ((2 ≤ a ∧ (K a).1 = 22 ∧ 0 ≤ j ∧ j < (K a).2) ∧ kk n ls st (zsL M a j.toNat w)) := zT_if
theorem zE_aastore {j : Int} {a w : Nat} {v : Int} {k c n : Nat} : zE K mi pc ls (.inr (.inr w) :: .inl j :: .inr (.inr a) :: st) M Q kk (some (.aastore, v, k, c, n)) = ((2 ≤ a ∧ 2 ≤ w ∧ (((K a).1 = 23 ∧ (K w).1 = 7) ∨ ((K a).1 = 24 ∧ (K w).1 = 6) ∨ ((K a).1 = 25 ∧ (K w).1 = 1)) ∧ 0 ≤ j ∧ j < (K a).2) ∧ kk n ls st (zsR M a j.toNat w)) := zT_if
theorem zE_alen {a : Nat} {v : Int} {k c n : Nat} : zE K mi pc ls (.inr (.inr a) :: st) M Q kk (some (.arraylength, v, k, c, n)) = (((20 ≤ (K a).1 ∧ (K a).1 ≤ 25) ∧ (K a).2 ≤ 2147483647) ∧ kk n ls (.inl ((K a).2 : Int) :: st) M) := zT_if
theorem zE_getf0 {a : Nat} {v : Int} {k c n : Nat} : zE K mi pc ls (.inr (.inr a) :: st) M Q kk (some (.getfield 0, v, k, c, n)) = ((K a).1 = c ∧ kk n ls (.inl (M.2.1 a k) :: st) M) := zT_if
theorem zE_getf1 {a : Nat} {v : Int} {k c n : Nat} : zE K mi pc ls (.inr (.inr a) :: st) M Q kk (some (.getfield 1, v, k, c, n)) = ((K a).1 = c ∧ kk n ls (.inl (M.2.1 a k) :: st) M) := zT_if
theorem zE_getf2 {a : Nat} {v : Int} {k c n : Nat} : zE K mi pc ls (.inr (.inr a) :: st) M Q kk (some (.getfield 2, v, k, c, n)) = ((K a).1 = c ∧ kk n ls (.inr (.inl (M.2.2.1 a k)) :: st) M) := zT_if
theorem zE_getf3 {a : Nat} {v : Int} {k c n : Nat} : zE K mi pc ls (.inr (.inr a) :: st) M Q kk (some (.getfield 3, v, k, c, n)) = ((K a).1 = c ∧ M.2.2.2 a k ≠ 0 ∧ kk n ls (.inr (.inr (M.2.2.2 a k)) :: st) M) := by
  show zT K mi pc ls M Q kk (if (K a).1 = c then (if M.2.2.2 a k ≠ 0 then znx n ls (.inr (.inr (M.2.2.2 a k)) :: st) M else none) else none) = _
  rw [zT_ite]
  apply propext
  constructor
  · intro h
    by_cases hc : (K a).1 = c
    · have h1 := h.1 hc
      rw [zT_if] at h1
      exact ⟨hc, h1⟩
    · exact (h.2 hc).elim
  · intro h
    refine ⟨fun hc => ?_, fun hc => absurd h.1 hc⟩
    rw [zT_if]
    exact h.2
theorem zE_putf0 {a : Nat} {w : Int} {v : Int} {k c n : Nat} : zE K mi pc ls (.inl w :: .inr (.inr a) :: st) M Q kk (some (.putfield 0, v, k, c, n)) = ((K a).1 = c ∧ kk n ls st (zsI M a k w)) := by
  show zT K mi pc ls M Q kk (if (K a).1 = c ∧ (0 = 1 → (w = 0 ∨ w = 1)) then znx n ls st (zsI M a k w) else none) = _
  rw [zT_if]
  exact propext ⟨fun h => ⟨h.1.1, h.2⟩, fun h => ⟨⟨h.1, fun q => by cases q⟩, h.2⟩⟩
theorem zE_putf1 {a : Nat} {w : Int} {v : Int} {k c n : Nat} : zE K mi pc ls (.inl w :: .inr (.inr a) :: st) M Q kk (some (.putfield 1, v, k, c, n)) = ((K a).1 = c ∧ (w = 0 ∨ w = 1) ∧ kk n ls st (zsI M a k w)) := by
  show zT K mi pc ls M Q kk (if (K a).1 = c ∧ (1 = 1 → (w = 0 ∨ w = 1)) then znx n ls st (zsI M a k w) else none) = _
  rw [zT_if]
  exact propext ⟨fun h => ⟨h.1.1, h.1.2 rfl, h.2⟩, fun h => ⟨⟨h.1, fun _ => h.2.1⟩, h.2.2⟩⟩
theorem zE_putf2 {a : Nat} {w : Int64} {v : Int} {k c n : Nat} : zE K mi pc ls (.inr (.inl w) :: .inr (.inr a) :: st) M Q kk (some (.putfield 2, v, k, c, n)) = ((K a).1 = c ∧ kk n ls st (zsL M a k w)) := zT_if
theorem zE_putf3 {a w : Nat} {v : Int} {k c n : Nat} : zE K mi pc ls (.inr (.inr w) :: .inr (.inr a) :: st) M Q kk (some (.putfield 3, v, k, c, n)) = (((K a).1 = c ∧ 0 < w) ∧ kk n ls st (zsR M a k w)) := zT_if
theorem zE_new {j : Nat} {v : Int} {k c n : Nat} : zE K mi pc ls st M Q kk (some (.new j, v, k, c, n)) = ((M.1.2.1 = true ∧ (K (M.1.1 + 2)).1 = k) ∧ kk n ls (.inr (.inr (M.1.1 + 2)) :: st) (zborn M c)) := zT_if
theorem zE_newa {j : ArrayType} {m : Int} {v : Int} {k c n : Nat} : zE K mi pc ls (.inl m :: st) M Q kk (some (.newarray j, v, k, c, n)) = ((M.1.2.1 = true ∧ K (M.1.1 + 2) = (k, m.toNat) ∧ 0 ≤ m ∧ m * c ≤ 536870912) ∧ kk n ls (.inr (.inr (M.1.1 + 2)) :: st) (zborn M m.toNat)) := zT_if
theorem zE_newq {j : Nat} {m : Int} {v : Int} {k c n : Nat} : zE K mi pc ls (.inl m :: st) M Q kk (some (.anewarray j, v, k, c, n)) = ((M.1.2.1 = true ∧ K (M.1.1 + 2) = (k, m.toNat) ∧ 0 ≤ m ∧ m * 4 ≤ 536870912) ∧ kk n ls (.inr (.inr (M.1.1 + 2)) :: st) (zborn M m.toNat)) := zT_if
theorem zE_ireturn {x : Int} {v : Int} {k c n : Nat} : zE K mi pc ls [.inl x] M Q kk (some (.ireturn, v, k, c, n)) = ((v = 1 → (x = 0 ∨ x = 1)) ∧ Q (.inl (some (.inl x))) M) := by
  show zT K mi pc ls M Q kk (if ([] : List zV) = [] ∧ (v = 1 → (x = 0 ∨ x = 1)) then some (.inr (.inl (some (.inl x)))) else none) = _
  rw [zT_if]
  exact propext ⟨fun h => ⟨h.1.2, h.2⟩, fun h => ⟨⟨rfl, h.1⟩, h.2⟩⟩
theorem zE_lreturn {x : Int64} {v : Int} {k c n : Nat} : zE K mi pc ls [.inr (.inl x)] M Q kk (some (.lreturn, v, k, c, n)) = (Q (.inl (some (.inr (.inl x)))) M) := rfl
theorem zE_areturn {x : Nat} {v : Int} {k c n : Nat} : zE K mi pc ls [.inr (.inr x)] M Q kk (some (.areturn, v, k, c, n)) = (Q (.inl (some (.inr (.inr x)))) M) := rfl
theorem zE_return {v : Int} {k c n : Nat} : zE K mi pc ls [] M Q kk (some (.return_, v, k, c, n)) = (Q (.inl none) M) := rfl
theorem zE_athrow {v : Int} {k c n : Nat} : zE K mi pc ls st M Q kk (some (.athrow, v, k, c, n)) = ((st.map zcat).sum ≤ 8 ∧ Q (.inr k) (zthrown M)) := zT_if
theorem zE_table {d lo hi : Int} {offs : Array Int} {x : Int} {v : Int} {k c n : Nat} : zE K mi pc ls (.inl x :: st) M Q kk (some (.tableswitch d lo hi offs, v, k, c, n)) = (((x < lo ∨ hi < x) → kk d.toNat ls st M) ∧ (¬ (x < lo ∨ hi < x) → (match offs[(x - lo).toNat]? with | some t => kk t.toNat ls st M | none => False))) := by
  show zT K mi pc ls M Q kk (if x < lo ∨ hi < x then znx d.toNat ls st M else (match offs[(x - lo).toNat]? with
    | some t => znx t.toNat ls st M
    | none => none)) = _
  rw [zT_ite]
  cases offs[(x - lo).toNat]? <;> rfl
theorem zE_st0 {j : Nat} {v : Int} {k n : Nat} : zE K mi pc ls (st) M Q kk (some (.invokestatic j, v, k, 0, n)) = (((st.map zcat).sum ≤ 8 ∧ (zargs []).length ≤ (zmr k).2.2.2.1) ∧ zFR K k 0 (zcall k []) [] M (zR1 mi pc ls Q kk n st)) := by
  show zT K mi pc ls M Q kk (if 0 ≤ (st).length ∧ (st.map zcat).sum ≤ 8 ∧ (zargs []).length ≤ (zmr k).2.2.2.1 then some (.inr (.inr (.inl (k, [], n, st)))) else none) = _
  rw [zT_if]
  exact propext ⟨fun h => ⟨h.1.2, h.2⟩, fun h => ⟨⟨by first | exact Nat.zero_le _ | (simp only [List.length_cons]; omega), h.1⟩, h.2⟩⟩
theorem zE_vi0 {a j : Nat} {v : Int} {k n : Nat} : zE K mi pc ls (.inr (.inr a) :: st) M Q kk (some (.invokevirtual j, v, k, 0, n)) = (((K a).1 = (zmr k).1 ∧ (st.map zcat).sum ≤ 8 ∧ (zargs [.inr (.inr a)]).length ≤ (zmr k).2.2.2.1) ∧ zFR K k 0 (zcall k [.inr (.inr a)]) [] M (zR1 mi pc ls Q kk n st)) := zT_if
theorem zE_st1 {v0 : zV} {j : Nat} {v : Int} {k n : Nat} : zE K mi pc ls (v0 :: st) M Q kk (some (.invokestatic j, v, k, 1, n)) = (((st.map zcat).sum ≤ 8 ∧ (zargs [v0]).length ≤ (zmr k).2.2.2.1) ∧ zFR K k 0 (zcall k [v0]) [] M (zR1 mi pc ls Q kk n st)) := by
  show zT K mi pc ls M Q kk (if 1 ≤ (v0 :: st).length ∧ (st.map zcat).sum ≤ 8 ∧ (zargs [v0]).length ≤ (zmr k).2.2.2.1 then some (.inr (.inr (.inl (k, [v0], n, st)))) else none) = _
  rw [zT_if]
  exact propext ⟨fun h => ⟨h.1.2, h.2⟩, fun h => ⟨⟨by first | exact Nat.zero_le _ | (simp only [List.length_cons]; omega), h.1⟩, h.2⟩⟩
theorem zE_vi1 {v0 : zV} {a j : Nat} {v : Int} {k n : Nat} : zE K mi pc ls (v0 :: .inr (.inr a) :: st) M Q kk (some (.invokevirtual j, v, k, 1, n)) = (((K a).1 = (zmr k).1 ∧ (st.map zcat).sum ≤ 8 ∧ (zargs [.inr (.inr a), v0]).length ≤ (zmr k).2.2.2.1) ∧ zFR K k 0 (zcall k [.inr (.inr a), v0]) [] M (zR1 mi pc ls Q kk n st)) := zT_if
theorem zE_st2 {v0 v1 : zV} {j : Nat} {v : Int} {k n : Nat} : zE K mi pc ls (v1 :: v0 :: st) M Q kk (some (.invokestatic j, v, k, 2, n)) = (((st.map zcat).sum ≤ 8 ∧ (zargs [v0, v1]).length ≤ (zmr k).2.2.2.1) ∧ zFR K k 0 (zcall k [v0, v1]) [] M (zR1 mi pc ls Q kk n st)) := by
  show zT K mi pc ls M Q kk (if 2 ≤ (v1 :: v0 :: st).length ∧ (st.map zcat).sum ≤ 8 ∧ (zargs [v0, v1]).length ≤ (zmr k).2.2.2.1 then some (.inr (.inr (.inl (k, [v0, v1], n, st)))) else none) = _
  rw [zT_if]
  exact propext ⟨fun h => ⟨h.1.2, h.2⟩, fun h => ⟨⟨by first | exact Nat.zero_le _ | (simp only [List.length_cons]; omega), h.1⟩, h.2⟩⟩
theorem zE_vi2 {v0 v1 : zV} {a j : Nat} {v : Int} {k n : Nat} : zE K mi pc ls (v1 :: v0 :: .inr (.inr a) :: st) M Q kk (some (.invokevirtual j, v, k, 2, n)) = (((K a).1 = (zmr k).1 ∧ (st.map zcat).sum ≤ 8 ∧ (zargs [.inr (.inr a), v0, v1]).length ≤ (zmr k).2.2.2.1) ∧ zFR K k 0 (zcall k [.inr (.inr a), v0, v1]) [] M (zR1 mi pc ls Q kk n st)) := zT_if
theorem zE_st3 {v0 v1 v2 : zV} {j : Nat} {v : Int} {k n : Nat} : zE K mi pc ls (v2 :: v1 :: v0 :: st) M Q kk (some (.invokestatic j, v, k, 3, n)) = (((st.map zcat).sum ≤ 8 ∧ (zargs [v0, v1, v2]).length ≤ (zmr k).2.2.2.1) ∧ zFR K k 0 (zcall k [v0, v1, v2]) [] M (zR1 mi pc ls Q kk n st)) := by
  show zT K mi pc ls M Q kk (if 3 ≤ (v2 :: v1 :: v0 :: st).length ∧ (st.map zcat).sum ≤ 8 ∧ (zargs [v0, v1, v2]).length ≤ (zmr k).2.2.2.1 then some (.inr (.inr (.inl (k, [v0, v1, v2], n, st)))) else none) = _
  rw [zT_if]
  exact propext ⟨fun h => ⟨h.1.2, h.2⟩, fun h => ⟨⟨by first | exact Nat.zero_le _ | (simp only [List.length_cons]; omega), h.1⟩, h.2⟩⟩
theorem zE_vi3 {v0 v1 v2 : zV} {a j : Nat} {v : Int} {k n : Nat} : zE K mi pc ls (v2 :: v1 :: v0 :: .inr (.inr a) :: st) M Q kk (some (.invokevirtual j, v, k, 3, n)) = (((K a).1 = (zmr k).1 ∧ (st.map zcat).sum ≤ 8 ∧ (zargs [.inr (.inr a), v0, v1, v2]).length ≤ (zmr k).2.2.2.1) ∧ zFR K k 0 (zcall k [.inr (.inr a), v0, v1, v2]) [] M (zR1 mi pc ls Q kk n st)) := zT_if
theorem zE_st4 {v0 v1 v2 v3 : zV} {j : Nat} {v : Int} {k n : Nat} : zE K mi pc ls (v3 :: v2 :: v1 :: v0 :: st) M Q kk (some (.invokestatic j, v, k, 4, n)) = (((st.map zcat).sum ≤ 8 ∧ (zargs [v0, v1, v2, v3]).length ≤ (zmr k).2.2.2.1) ∧ zFR K k 0 (zcall k [v0, v1, v2, v3]) [] M (zR1 mi pc ls Q kk n st)) := by
  show zT K mi pc ls M Q kk (if 4 ≤ (v3 :: v2 :: v1 :: v0 :: st).length ∧ (st.map zcat).sum ≤ 8 ∧ (zargs [v0, v1, v2, v3]).length ≤ (zmr k).2.2.2.1 then some (.inr (.inr (.inl (k, [v0, v1, v2, v3], n, st)))) else none) = _
  rw [zT_if]
  exact propext ⟨fun h => ⟨h.1.2, h.2⟩, fun h => ⟨⟨by first | exact Nat.zero_le _ | (simp only [List.length_cons]; omega), h.1⟩, h.2⟩⟩
theorem zE_vi4 {v0 v1 v2 v3 : zV} {a j : Nat} {v : Int} {k n : Nat} : zE K mi pc ls (v3 :: v2 :: v1 :: v0 :: .inr (.inr a) :: st) M Q kk (some (.invokevirtual j, v, k, 4, n)) = (((K a).1 = (zmr k).1 ∧ (st.map zcat).sum ≤ 8 ∧ (zargs [.inr (.inr a), v0, v1, v2, v3]).length ≤ (zmr k).2.2.2.1) ∧ zFR K k 0 (zcall k [.inr (.inr a), v0, v1, v2, v3]) [] M (zR1 mi pc ls Q kk n st)) := zT_if
theorem zE_st5 {v0 v1 v2 v3 v4 : zV} {j : Nat} {v : Int} {k n : Nat} : zE K mi pc ls (v4 :: v3 :: v2 :: v1 :: v0 :: st) M Q kk (some (.invokestatic j, v, k, 5, n)) = (((st.map zcat).sum ≤ 8 ∧ (zargs [v0, v1, v2, v3, v4]).length ≤ (zmr k).2.2.2.1) ∧ zFR K k 0 (zcall k [v0, v1, v2, v3, v4]) [] M (zR1 mi pc ls Q kk n st)) := by
  show zT K mi pc ls M Q kk (if 5 ≤ (v4 :: v3 :: v2 :: v1 :: v0 :: st).length ∧ (st.map zcat).sum ≤ 8 ∧ (zargs [v0, v1, v2, v3, v4]).length ≤ (zmr k).2.2.2.1 then some (.inr (.inr (.inl (k, [v0, v1, v2, v3, v4], n, st)))) else none) = _
  rw [zT_if]
  exact propext ⟨fun h => ⟨h.1.2, h.2⟩, fun h => ⟨⟨by first | exact Nat.zero_le _ | (simp only [List.length_cons]; omega), h.1⟩, h.2⟩⟩
theorem zE_vi5 {v0 v1 v2 v3 v4 : zV} {a j : Nat} {v : Int} {k n : Nat} : zE K mi pc ls (v4 :: v3 :: v2 :: v1 :: v0 :: .inr (.inr a) :: st) M Q kk (some (.invokevirtual j, v, k, 5, n)) = (((K a).1 = (zmr k).1 ∧ (st.map zcat).sum ≤ 8 ∧ (zargs [.inr (.inr a), v0, v1, v2, v3, v4]).length ≤ (zmr k).2.2.2.1) ∧ zFR K k 0 (zcall k [.inr (.inr a), v0, v1, v2, v3, v4]) [] M (zR1 mi pc ls Q kk n st)) := zT_if
theorem zE_st6 {v0 v1 v2 v3 v4 v5 : zV} {j : Nat} {v : Int} {k n : Nat} : zE K mi pc ls (v5 :: v4 :: v3 :: v2 :: v1 :: v0 :: st) M Q kk (some (.invokestatic j, v, k, 6, n)) = (((st.map zcat).sum ≤ 8 ∧ (zargs [v0, v1, v2, v3, v4, v5]).length ≤ (zmr k).2.2.2.1) ∧ zFR K k 0 (zcall k [v0, v1, v2, v3, v4, v5]) [] M (zR1 mi pc ls Q kk n st)) := by
  show zT K mi pc ls M Q kk (if 6 ≤ (v5 :: v4 :: v3 :: v2 :: v1 :: v0 :: st).length ∧ (st.map zcat).sum ≤ 8 ∧ (zargs [v0, v1, v2, v3, v4, v5]).length ≤ (zmr k).2.2.2.1 then some (.inr (.inr (.inl (k, [v0, v1, v2, v3, v4, v5], n, st)))) else none) = _
  rw [zT_if]
  exact propext ⟨fun h => ⟨h.1.2, h.2⟩, fun h => ⟨⟨by first | exact Nat.zero_le _ | (simp only [List.length_cons]; omega), h.1⟩, h.2⟩⟩
theorem zE_vi6 {v0 v1 v2 v3 v4 v5 : zV} {a j : Nat} {v : Int} {k n : Nat} : zE K mi pc ls (v5 :: v4 :: v3 :: v2 :: v1 :: v0 :: .inr (.inr a) :: st) M Q kk (some (.invokevirtual j, v, k, 6, n)) = (((K a).1 = (zmr k).1 ∧ (st.map zcat).sum ≤ 8 ∧ (zargs [.inr (.inr a), v0, v1, v2, v3, v4, v5]).length ≤ (zmr k).2.2.2.1) ∧ zFR K k 0 (zcall k [.inr (.inr a), v0, v1, v2, v3, v4, v5]) [] M (zR1 mi pc ls Q kk n st)) := zT_if
theorem zE_st7 {v0 v1 v2 v3 v4 v5 v6 : zV} {j : Nat} {v : Int} {k n : Nat} : zE K mi pc ls (v6 :: v5 :: v4 :: v3 :: v2 :: v1 :: v0 :: st) M Q kk (some (.invokestatic j, v, k, 7, n)) = (((st.map zcat).sum ≤ 8 ∧ (zargs [v0, v1, v2, v3, v4, v5, v6]).length ≤ (zmr k).2.2.2.1) ∧ zFR K k 0 (zcall k [v0, v1, v2, v3, v4, v5, v6]) [] M (zR1 mi pc ls Q kk n st)) := by
  show zT K mi pc ls M Q kk (if 7 ≤ (v6 :: v5 :: v4 :: v3 :: v2 :: v1 :: v0 :: st).length ∧ (st.map zcat).sum ≤ 8 ∧ (zargs [v0, v1, v2, v3, v4, v5, v6]).length ≤ (zmr k).2.2.2.1 then some (.inr (.inr (.inl (k, [v0, v1, v2, v3, v4, v5, v6], n, st)))) else none) = _
  rw [zT_if]
  exact propext ⟨fun h => ⟨h.1.2, h.2⟩, fun h => ⟨⟨by first | exact Nat.zero_le _ | (simp only [List.length_cons]; omega), h.1⟩, h.2⟩⟩
theorem zE_vi7 {v0 v1 v2 v3 v4 v5 v6 : zV} {a j : Nat} {v : Int} {k n : Nat} : zE K mi pc ls (v6 :: v5 :: v4 :: v3 :: v2 :: v1 :: v0 :: .inr (.inr a) :: st) M Q kk (some (.invokevirtual j, v, k, 7, n)) = (((K a).1 = (zmr k).1 ∧ (st.map zcat).sum ≤ 8 ∧ (zargs [.inr (.inr a), v0, v1, v2, v3, v4, v5, v6]).length ≤ (zmr k).2.2.2.1) ∧ zFR K k 0 (zcall k [.inr (.inr a), v0, v1, v2, v3, v4, v5, v6]) [] M (zR1 mi pc ls Q kk n st)) := zT_if
theorem zE_st8 {v0 v1 v2 v3 v4 v5 v6 v7 : zV} {j : Nat} {v : Int} {k n : Nat} : zE K mi pc ls (v7 :: v6 :: v5 :: v4 :: v3 :: v2 :: v1 :: v0 :: st) M Q kk (some (.invokestatic j, v, k, 8, n)) = (((st.map zcat).sum ≤ 8 ∧ (zargs [v0, v1, v2, v3, v4, v5, v6, v7]).length ≤ (zmr k).2.2.2.1) ∧ zFR K k 0 (zcall k [v0, v1, v2, v3, v4, v5, v6, v7]) [] M (zR1 mi pc ls Q kk n st)) := by
  show zT K mi pc ls M Q kk (if 8 ≤ (v7 :: v6 :: v5 :: v4 :: v3 :: v2 :: v1 :: v0 :: st).length ∧ (st.map zcat).sum ≤ 8 ∧ (zargs [v0, v1, v2, v3, v4, v5, v6, v7]).length ≤ (zmr k).2.2.2.1 then some (.inr (.inr (.inl (k, [v0, v1, v2, v3, v4, v5, v6, v7], n, st)))) else none) = _
  rw [zT_if]
  exact propext ⟨fun h => ⟨h.1.2, h.2⟩, fun h => ⟨⟨by first | exact Nat.zero_le _ | (simp only [List.length_cons]; omega), h.1⟩, h.2⟩⟩
theorem zE_vi8 {v0 v1 v2 v3 v4 v5 v6 v7 : zV} {a j : Nat} {v : Int} {k n : Nat} : zE K mi pc ls (v7 :: v6 :: v5 :: v4 :: v3 :: v2 :: v1 :: v0 :: .inr (.inr a) :: st) M Q kk (some (.invokevirtual j, v, k, 8, n)) = (((K a).1 = (zmr k).1 ∧ (st.map zcat).sum ≤ 8 ∧ (zargs [.inr (.inr a), v0, v1, v2, v3, v4, v5, v6, v7]).length ≤ (zmr k).2.2.2.1) ∧ zFR K k 0 (zcall k [.inr (.inr a), v0, v1, v2, v3, v4, v5, v6, v7]) [] M (zR1 mi pc ls Q kk n st)) := zT_if
theorem zR1_n {pc' : Nat} {st' : List zV} {M1 : zM} : zR1 mi pc ls Q kk pc' st' (.inl none) M1 = kk pc' ls st' M1 := rfl
theorem zR1_v {x : zV} {pc' : Nat} {st' : List zV} {M1 : zM} : zR1 mi pc ls Q kk pc' st' (.inl (some x)) M1 = kk pc' ls (x :: st') M1 := rfl
theorem zR1_e {e : Nat} {pc' : Nat} {st' : List zV} {M1 : zM} : zR1 mi pc ls Q kk pc' st' (.inr e) M1 = (match zcatch mi pc e with
    | some (h, k) => k < ls.length ∧ kk h ((zst ls k (.inl 0)).set k none) [] M1
    | none => (zmr mi).2.2.2.2.2.1 = [] ∧ Q (.inr e) M1) := rfl
theorem zsum_n : (([] : List zV).map zcat).sum = 0 := rfl
theorem zsum_i {x : Int} {t : List zV} : (((.inl x :: t : List zV)).map zcat).sum = 1 + (t.map zcat).sum := rfl
theorem zsum_l {x : Int64} {t : List zV} : (((.inr (.inl x) :: t : List zV)).map zcat).sum = 2 + (t.map zcat).sum := rfl
theorem zsum_a {x : Nat} {t : List zV} : (((.inr (.inr x) :: t : List zV)).map zcat).sum = 1 + (t.map zcat).sum := rfl
theorem zlen_n : (zargs []).length = 0 := rfl
theorem zlen_i {x : Int} {t : List zV} : (zargs (.inl x :: t)).length = 1 + (zargs t).length := by rw [zargs_cons, List.length_append]; rfl
theorem zlen_l {x : Int64} {t : List zV} : (zargs (.inr (.inl x) :: t)).length = 2 + (zargs t).length := by rw [zargs_cons, List.length_append]; rfl
theorem zlen_a {x : Nat} {t : List zV} : (zargs (.inr (.inr x) :: t)).length = 1 + (zargs t).length := by rw [zargs_cons, List.length_append]; rfl
theorem zst_0 {o : Option zV} {t : zLs} {v : zV} : zst (o :: t) 0 v = some v :: t := rfl
theorem zst_1n {o : Option zV} {t : zLs} {v : zV} : zst (none :: o :: t) 1 v = none :: some v :: t := rfl
theorem zst_1i {y : Int} {o : Option zV} {t : zLs} {v : zV} : zst (some (.inl y) :: o :: t) 1 v = some (.inl y) :: some v :: t := rfl
theorem zst_1a {z : Nat} {o : Option zV} {t : zLs} {v : zV} : zst (some (.inr (.inr z)) :: o :: t) 1 v = some (.inr (.inr z)) :: some v :: t := rfl
theorem zst_2n {a0 : Option zV} {o : Option zV} {t : zLs} {v : zV} : zst (a0 :: none :: o :: t) 2 v = a0 :: none :: some v :: t := rfl
theorem zst_2i {a0 : Option zV} {y : Int} {o : Option zV} {t : zLs} {v : zV} : zst (a0 :: some (.inl y) :: o :: t) 2 v = a0 :: some (.inl y) :: some v :: t := rfl
theorem zst_2a {a0 : Option zV} {z : Nat} {o : Option zV} {t : zLs} {v : zV} : zst (a0 :: some (.inr (.inr z)) :: o :: t) 2 v = a0 :: some (.inr (.inr z)) :: some v :: t := rfl
theorem zst_3n {a0 a1 : Option zV} {o : Option zV} {t : zLs} {v : zV} : zst (a0 :: a1 :: none :: o :: t) 3 v = a0 :: a1 :: none :: some v :: t := rfl
theorem zst_3i {a0 a1 : Option zV} {y : Int} {o : Option zV} {t : zLs} {v : zV} : zst (a0 :: a1 :: some (.inl y) :: o :: t) 3 v = a0 :: a1 :: some (.inl y) :: some v :: t := rfl
theorem zst_3a {a0 a1 : Option zV} {z : Nat} {o : Option zV} {t : zLs} {v : zV} : zst (a0 :: a1 :: some (.inr (.inr z)) :: o :: t) 3 v = a0 :: a1 :: some (.inr (.inr z)) :: some v :: t := rfl
theorem zst_4n {a0 a1 a2 : Option zV} {o : Option zV} {t : zLs} {v : zV} : zst (a0 :: a1 :: a2 :: none :: o :: t) 4 v = a0 :: a1 :: a2 :: none :: some v :: t := rfl
theorem zst_4i {a0 a1 a2 : Option zV} {y : Int} {o : Option zV} {t : zLs} {v : zV} : zst (a0 :: a1 :: a2 :: some (.inl y) :: o :: t) 4 v = a0 :: a1 :: a2 :: some (.inl y) :: some v :: t := rfl
theorem zst_4a {a0 a1 a2 : Option zV} {z : Nat} {o : Option zV} {t : zLs} {v : zV} : zst (a0 :: a1 :: a2 :: some (.inr (.inr z)) :: o :: t) 4 v = a0 :: a1 :: a2 :: some (.inr (.inr z)) :: some v :: t := rfl
theorem zst_5n {a0 a1 a2 a3 : Option zV} {o : Option zV} {t : zLs} {v : zV} : zst (a0 :: a1 :: a2 :: a3 :: none :: o :: t) 5 v = a0 :: a1 :: a2 :: a3 :: none :: some v :: t := rfl
theorem zst_5i {a0 a1 a2 a3 : Option zV} {y : Int} {o : Option zV} {t : zLs} {v : zV} : zst (a0 :: a1 :: a2 :: a3 :: some (.inl y) :: o :: t) 5 v = a0 :: a1 :: a2 :: a3 :: some (.inl y) :: some v :: t := rfl
theorem zst_5a {a0 a1 a2 a3 : Option zV} {z : Nat} {o : Option zV} {t : zLs} {v : zV} : zst (a0 :: a1 :: a2 :: a3 :: some (.inr (.inr z)) :: o :: t) 5 v = a0 :: a1 :: a2 :: a3 :: some (.inr (.inr z)) :: some v :: t := rfl
theorem zst_6n {a0 a1 a2 a3 a4 : Option zV} {o : Option zV} {t : zLs} {v : zV} : zst (a0 :: a1 :: a2 :: a3 :: a4 :: none :: o :: t) 6 v = a0 :: a1 :: a2 :: a3 :: a4 :: none :: some v :: t := rfl
theorem zst_6i {a0 a1 a2 a3 a4 : Option zV} {y : Int} {o : Option zV} {t : zLs} {v : zV} : zst (a0 :: a1 :: a2 :: a3 :: a4 :: some (.inl y) :: o :: t) 6 v = a0 :: a1 :: a2 :: a3 :: a4 :: some (.inl y) :: some v :: t := rfl
theorem zst_6a {a0 a1 a2 a3 a4 : Option zV} {z : Nat} {o : Option zV} {t : zLs} {v : zV} : zst (a0 :: a1 :: a2 :: a3 :: a4 :: some (.inr (.inr z)) :: o :: t) 6 v = a0 :: a1 :: a2 :: a3 :: a4 :: some (.inr (.inr z)) :: some v :: t := rfl
theorem zst_7n {a0 a1 a2 a3 a4 a5 : Option zV} {o : Option zV} {t : zLs} {v : zV} : zst (a0 :: a1 :: a2 :: a3 :: a4 :: a5 :: none :: o :: t) 7 v = a0 :: a1 :: a2 :: a3 :: a4 :: a5 :: none :: some v :: t := rfl
theorem zst_7i {a0 a1 a2 a3 a4 a5 : Option zV} {y : Int} {o : Option zV} {t : zLs} {v : zV} : zst (a0 :: a1 :: a2 :: a3 :: a4 :: a5 :: some (.inl y) :: o :: t) 7 v = a0 :: a1 :: a2 :: a3 :: a4 :: a5 :: some (.inl y) :: some v :: t := rfl
theorem zst_7a {a0 a1 a2 a3 a4 a5 : Option zV} {z : Nat} {o : Option zV} {t : zLs} {v : zV} : zst (a0 :: a1 :: a2 :: a3 :: a4 :: a5 :: some (.inr (.inr z)) :: o :: t) 7 v = a0 :: a1 :: a2 :: a3 :: a4 :: a5 :: some (.inr (.inr z)) :: some v :: t := rfl
theorem zst_8n {a0 a1 a2 a3 a4 a5 a6 : Option zV} {o : Option zV} {t : zLs} {v : zV} : zst (a0 :: a1 :: a2 :: a3 :: a4 :: a5 :: a6 :: none :: o :: t) 8 v = a0 :: a1 :: a2 :: a3 :: a4 :: a5 :: a6 :: none :: some v :: t := rfl
theorem zst_8i {a0 a1 a2 a3 a4 a5 a6 : Option zV} {y : Int} {o : Option zV} {t : zLs} {v : zV} : zst (a0 :: a1 :: a2 :: a3 :: a4 :: a5 :: a6 :: some (.inl y) :: o :: t) 8 v = a0 :: a1 :: a2 :: a3 :: a4 :: a5 :: a6 :: some (.inl y) :: some v :: t := rfl
theorem zst_8a {a0 a1 a2 a3 a4 a5 a6 : Option zV} {z : Nat} {o : Option zV} {t : zLs} {v : zV} : zst (a0 :: a1 :: a2 :: a3 :: a4 :: a5 :: a6 :: some (.inr (.inr z)) :: o :: t) 8 v = a0 :: a1 :: a2 :: a3 :: a4 :: a5 :: a6 :: some (.inr (.inr z)) :: some v :: t := rfl
theorem zst_9n {a0 a1 a2 a3 a4 a5 a6 a7 : Option zV} {o : Option zV} {t : zLs} {v : zV} : zst (a0 :: a1 :: a2 :: a3 :: a4 :: a5 :: a6 :: a7 :: none :: o :: t) 9 v = a0 :: a1 :: a2 :: a3 :: a4 :: a5 :: a6 :: a7 :: none :: some v :: t := rfl
theorem zst_9i {a0 a1 a2 a3 a4 a5 a6 a7 : Option zV} {y : Int} {o : Option zV} {t : zLs} {v : zV} : zst (a0 :: a1 :: a2 :: a3 :: a4 :: a5 :: a6 :: a7 :: some (.inl y) :: o :: t) 9 v = a0 :: a1 :: a2 :: a3 :: a4 :: a5 :: a6 :: a7 :: some (.inl y) :: some v :: t := rfl
theorem zst_9a {a0 a1 a2 a3 a4 a5 a6 a7 : Option zV} {z : Nat} {o : Option zV} {t : zLs} {v : zV} : zst (a0 :: a1 :: a2 :: a3 :: a4 :: a5 :: a6 :: a7 :: some (.inr (.inr z)) :: o :: t) 9 v = a0 :: a1 :: a2 :: a3 :: a4 :: a5 :: a6 :: a7 :: some (.inr (.inr z)) :: some v :: t := rfl
theorem zst_10n {a0 a1 a2 a3 a4 a5 a6 a7 a8 : Option zV} {o : Option zV} {t : zLs} {v : zV} : zst (a0 :: a1 :: a2 :: a3 :: a4 :: a5 :: a6 :: a7 :: a8 :: none :: o :: t) 10 v = a0 :: a1 :: a2 :: a3 :: a4 :: a5 :: a6 :: a7 :: a8 :: none :: some v :: t := rfl
theorem zst_10i {a0 a1 a2 a3 a4 a5 a6 a7 a8 : Option zV} {y : Int} {o : Option zV} {t : zLs} {v : zV} : zst (a0 :: a1 :: a2 :: a3 :: a4 :: a5 :: a6 :: a7 :: a8 :: some (.inl y) :: o :: t) 10 v = a0 :: a1 :: a2 :: a3 :: a4 :: a5 :: a6 :: a7 :: a8 :: some (.inl y) :: some v :: t := rfl
theorem zst_10a {a0 a1 a2 a3 a4 a5 a6 a7 a8 : Option zV} {z : Nat} {o : Option zV} {t : zLs} {v : zV} : zst (a0 :: a1 :: a2 :: a3 :: a4 :: a5 :: a6 :: a7 :: a8 :: some (.inr (.inr z)) :: o :: t) 10 v = a0 :: a1 :: a2 :: a3 :: a4 :: a5 :: a6 :: a7 :: a8 :: some (.inr (.inr z)) :: some v :: t := rfl
theorem zst_11n {a0 a1 a2 a3 a4 a5 a6 a7 a8 a9 : Option zV} {o : Option zV} {t : zLs} {v : zV} : zst (a0 :: a1 :: a2 :: a3 :: a4 :: a5 :: a6 :: a7 :: a8 :: a9 :: none :: o :: t) 11 v = a0 :: a1 :: a2 :: a3 :: a4 :: a5 :: a6 :: a7 :: a8 :: a9 :: none :: some v :: t := rfl
theorem zst_11i {a0 a1 a2 a3 a4 a5 a6 a7 a8 a9 : Option zV} {y : Int} {o : Option zV} {t : zLs} {v : zV} : zst (a0 :: a1 :: a2 :: a3 :: a4 :: a5 :: a6 :: a7 :: a8 :: a9 :: some (.inl y) :: o :: t) 11 v = a0 :: a1 :: a2 :: a3 :: a4 :: a5 :: a6 :: a7 :: a8 :: a9 :: some (.inl y) :: some v :: t := rfl
theorem zst_11a {a0 a1 a2 a3 a4 a5 a6 a7 a8 a9 : Option zV} {z : Nat} {o : Option zV} {t : zLs} {v : zV} : zst (a0 :: a1 :: a2 :: a3 :: a4 :: a5 :: a6 :: a7 :: a8 :: a9 :: some (.inr (.inr z)) :: o :: t) 11 v = a0 :: a1 :: a2 :: a3 :: a4 :: a5 :: a6 :: a7 :: a8 :: a9 :: some (.inr (.inr z)) :: some v :: t := rfl
theorem zst_12n {a0 a1 a2 a3 a4 a5 a6 a7 a8 a9 a10 : Option zV} {o : Option zV} {t : zLs} {v : zV} : zst (a0 :: a1 :: a2 :: a3 :: a4 :: a5 :: a6 :: a7 :: a8 :: a9 :: a10 :: none :: o :: t) 12 v = a0 :: a1 :: a2 :: a3 :: a4 :: a5 :: a6 :: a7 :: a8 :: a9 :: a10 :: none :: some v :: t := rfl
theorem zst_12i {a0 a1 a2 a3 a4 a5 a6 a7 a8 a9 a10 : Option zV} {y : Int} {o : Option zV} {t : zLs} {v : zV} : zst (a0 :: a1 :: a2 :: a3 :: a4 :: a5 :: a6 :: a7 :: a8 :: a9 :: a10 :: some (.inl y) :: o :: t) 12 v = a0 :: a1 :: a2 :: a3 :: a4 :: a5 :: a6 :: a7 :: a8 :: a9 :: a10 :: some (.inl y) :: some v :: t := rfl
theorem zst_12a {a0 a1 a2 a3 a4 a5 a6 a7 a8 a9 a10 : Option zV} {z : Nat} {o : Option zV} {t : zLs} {v : zV} : zst (a0 :: a1 :: a2 :: a3 :: a4 :: a5 :: a6 :: a7 :: a8 :: a9 :: a10 :: some (.inr (.inr z)) :: o :: t) 12 v = a0 :: a1 :: a2 :: a3 :: a4 :: a5 :: a6 :: a7 :: a8 :: a9 :: a10 :: some (.inr (.inr z)) :: some v :: t := rfl
theorem zst_13n {a0 a1 a2 a3 a4 a5 a6 a7 a8 a9 a10 a11 : Option zV} {o : Option zV} {t : zLs} {v : zV} : zst (a0 :: a1 :: a2 :: a3 :: a4 :: a5 :: a6 :: a7 :: a8 :: a9 :: a10 :: a11 :: none :: o :: t) 13 v = a0 :: a1 :: a2 :: a3 :: a4 :: a5 :: a6 :: a7 :: a8 :: a9 :: a10 :: a11 :: none :: some v :: t := rfl
theorem zst_13i {a0 a1 a2 a3 a4 a5 a6 a7 a8 a9 a10 a11 : Option zV} {y : Int} {o : Option zV} {t : zLs} {v : zV} : zst (a0 :: a1 :: a2 :: a3 :: a4 :: a5 :: a6 :: a7 :: a8 :: a9 :: a10 :: a11 :: some (.inl y) :: o :: t) 13 v = a0 :: a1 :: a2 :: a3 :: a4 :: a5 :: a6 :: a7 :: a8 :: a9 :: a10 :: a11 :: some (.inl y) :: some v :: t := rfl
theorem zst_13a {a0 a1 a2 a3 a4 a5 a6 a7 a8 a9 a10 a11 : Option zV} {z : Nat} {o : Option zV} {t : zLs} {v : zV} : zst (a0 :: a1 :: a2 :: a3 :: a4 :: a5 :: a6 :: a7 :: a8 :: a9 :: a10 :: a11 :: some (.inr (.inr z)) :: o :: t) 13 v = a0 :: a1 :: a2 :: a3 :: a4 :: a5 :: a6 :: a7 :: a8 :: a9 :: a10 :: a11 :: some (.inr (.inr z)) :: some v :: t := rfl
theorem zst_14n {a0 a1 a2 a3 a4 a5 a6 a7 a8 a9 a10 a11 a12 : Option zV} {o : Option zV} {t : zLs} {v : zV} : zst (a0 :: a1 :: a2 :: a3 :: a4 :: a5 :: a6 :: a7 :: a8 :: a9 :: a10 :: a11 :: a12 :: none :: o :: t) 14 v = a0 :: a1 :: a2 :: a3 :: a4 :: a5 :: a6 :: a7 :: a8 :: a9 :: a10 :: a11 :: a12 :: none :: some v :: t := rfl
theorem zst_14i {a0 a1 a2 a3 a4 a5 a6 a7 a8 a9 a10 a11 a12 : Option zV} {y : Int} {o : Option zV} {t : zLs} {v : zV} : zst (a0 :: a1 :: a2 :: a3 :: a4 :: a5 :: a6 :: a7 :: a8 :: a9 :: a10 :: a11 :: a12 :: some (.inl y) :: o :: t) 14 v = a0 :: a1 :: a2 :: a3 :: a4 :: a5 :: a6 :: a7 :: a8 :: a9 :: a10 :: a11 :: a12 :: some (.inl y) :: some v :: t := rfl
theorem zst_14a {a0 a1 a2 a3 a4 a5 a6 a7 a8 a9 a10 a11 a12 : Option zV} {z : Nat} {o : Option zV} {t : zLs} {v : zV} : zst (a0 :: a1 :: a2 :: a3 :: a4 :: a5 :: a6 :: a7 :: a8 :: a9 :: a10 :: a11 :: a12 :: some (.inr (.inr z)) :: o :: t) 14 v = a0 :: a1 :: a2 :: a3 :: a4 :: a5 :: a6 :: a7 :: a8 :: a9 :: a10 :: a11 :: a12 :: some (.inr (.inr z)) :: some v :: t := rfl
theorem zst_15n {a0 a1 a2 a3 a4 a5 a6 a7 a8 a9 a10 a11 a12 a13 : Option zV} {o : Option zV} {t : zLs} {v : zV} : zst (a0 :: a1 :: a2 :: a3 :: a4 :: a5 :: a6 :: a7 :: a8 :: a9 :: a10 :: a11 :: a12 :: a13 :: none :: o :: t) 15 v = a0 :: a1 :: a2 :: a3 :: a4 :: a5 :: a6 :: a7 :: a8 :: a9 :: a10 :: a11 :: a12 :: a13 :: none :: some v :: t := rfl
theorem zst_15i {a0 a1 a2 a3 a4 a5 a6 a7 a8 a9 a10 a11 a12 a13 : Option zV} {y : Int} {o : Option zV} {t : zLs} {v : zV} : zst (a0 :: a1 :: a2 :: a3 :: a4 :: a5 :: a6 :: a7 :: a8 :: a9 :: a10 :: a11 :: a12 :: a13 :: some (.inl y) :: o :: t) 15 v = a0 :: a1 :: a2 :: a3 :: a4 :: a5 :: a6 :: a7 :: a8 :: a9 :: a10 :: a11 :: a12 :: a13 :: some (.inl y) :: some v :: t := rfl
theorem zst_15a {a0 a1 a2 a3 a4 a5 a6 a7 a8 a9 a10 a11 a12 a13 : Option zV} {z : Nat} {o : Option zV} {t : zLs} {v : zV} : zst (a0 :: a1 :: a2 :: a3 :: a4 :: a5 :: a6 :: a7 :: a8 :: a9 :: a10 :: a11 :: a12 :: a13 :: some (.inr (.inr z)) :: o :: t) 15 v = a0 :: a1 :: a2 :: a3 :: a4 :: a5 :: a6 :: a7 :: a8 :: a9 :: a10 :: a11 :: a12 :: a13 :: some (.inr (.inr z)) :: some v :: t := rfl
end ZOPS
