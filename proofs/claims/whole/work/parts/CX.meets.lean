/-! meetings told by both -/
section ZMEETQ
variable {L m n : Nat} {M B : zM} {s t : Nat} {Q : zO → zM → Prop} {f g : Nat → Nat → Int} {cc : Nat → Int}
theorem zapp {F G : Nat → List Int} (h0 : F 0 = []) (hs : ∀ k, F (k + 1) = F k ++ G k) (w : Int) : ∀ k, w ∈ F k ↔ ∃ j, j < k ∧ w ∈ G j
  | 0 => by
    rw [h0]
    exact ⟨fun h => absurd h (List.not_mem_nil), fun ⟨j, hj, _⟩ => absurd hj (Nat.not_lt_zero j)⟩
  | k + 1 => by
    rw [hs, List.mem_append, zapp h0 hs w k]
    constructor
    · rintro (⟨j, h1, h2⟩ | h)
      · exact ⟨j, by omega, h2⟩
      · exact ⟨k, by omega, h⟩
    · rintro ⟨j, h1, h2⟩
      by_cases e : j = k
      · exact Or.inr (e ▸ h2)
      · exact Or.inl ⟨j, by omega, h2⟩
theorem zmtl_cg {n9 m9 : Int} {X Y X' Y' U V U' V' : Nat → Int} {i j : Nat} (hi : (i : Int) < n9) (hj : (j : Int) < m9) (hx : ∀ k : Nat, (k : Int) < n9 → X' k = X k ∧ Y' k = Y k) (hu : ∀ k : Nat, (k : Int) < m9 → U' k = U k ∧ V' k = V k) : zmtl n9 X' Y' i m9 U' V' j = zmtl n9 X Y i m9 U V j := by
  have a1 := hx i hi
  have a2 := hx _ (zaf_lt hi)
  have b1 := hu j hj
  have b2 := hu _ (zaf_lt hj)
  rw [zmtl_4, zmtl_4]
  unfold zwd
  rw [a1.1, a1.2, a2.1, a2.2, b1.1, b1.2, b2.1, b2.2]
theorem zmem_c {w : Int} {S T : Nat} {a b : Nat} : w ∈ zlq f S T b a ↔ ∃ k l i j, (k < a ∧ l < b ∧ i < (zN f S k).toNat ∧ j < (zN f T l).toNat) ∧ w ∈ zmtl (zN f S k) (zX f S k) (zY f S k) i (zN f T l) (zX f T l) (zY f T l) j := by
  rw [zapp (F := zlq f S T b) (G := fun k => zll f S T k b) rfl (fun _ => rfl)]
  constructor
  · rintro ⟨k, hk, h⟩
    rw [zapp (F := zll f S T k) (G := fun l => zlp f S T k l) rfl (fun _ => rfl)] at h
    obtain ⟨l, hl, h⟩ := h
    have h' : w ∈ zli (zN f S k) (zX f S k) (zY f S k) (zN f T l) (zX f T l) (zY f T l) (zN f S k).toNat := h
    rw [zapp (F := zli (zN f S k) (zX f S k) (zY f S k) (zN f T l) (zX f T l) (zY f T l)) (G := fun i => zlj (zN f S k) (zX f S k) (zY f S k) i (zN f T l) (zX f T l) (zY f T l) (zN f T l).toNat) rfl (fun _ => rfl)] at h'
    obtain ⟨i, hi, h⟩ := h'
    rw [zapp (F := zlj (zN f S k) (zX f S k) (zY f S k) i (zN f T l) (zX f T l) (zY f T l)) (G := fun j => zmtl (zN f S k) (zX f S k) (zY f S k) i (zN f T l) (zX f T l) (zY f T l) j) rfl (fun _ => rfl)] at h
    obtain ⟨j, hj, h⟩ := h
    exact ⟨k, l, i, j, ⟨hk, hl, hi, hj⟩, h⟩
  · rintro ⟨k, l, i, j, ⟨hk, hl, hi, hj⟩, h⟩
    refine ⟨k, hk, ?_⟩
    rw [zapp (F := zll f S T k) (G := fun l => zlp f S T k l) rfl (fun _ => rfl)]
    refine ⟨l, hl, ?_⟩
    show w ∈ zli (zN f S k) (zX f S k) (zY f S k) (zN f T l) (zX f T l) (zY f T l) (zN f S k).toNat
    rw [zapp (F := zli (zN f S k) (zX f S k) (zY f S k) (zN f T l) (zX f T l) (zY f T l)) (G := fun i => zlj (zN f S k) (zX f S k) (zY f S k) i (zN f T l) (zX f T l) (zY f T l) (zN f T l).toNat) rfl (fun _ => rfl)]
    refine ⟨i, hi, ?_⟩
    rw [zapp (F := zlj (zN f S k) (zX f S k) (zY f S k) i (zN f T l) (zX f T l) (zY f T l)) (G := fun j => zmtl (zN f S k) (zX f S k) (zY f S k) i (zN f T l) (zX f T l) (zY f T l) j) rfl (fun _ => rfl)]
    exact ⟨j, hj, h⟩
theorem zmem_r {w : Int} {K N : Nat → Int} {X Y U V : Nat → Nat → Int} {a b : Nat} : w ∈ zrlm1 K X Y N U V b a ↔ ∃ k l i j, (k < a ∧ l < b ∧ i < (K k).toNat ∧ j < (N l).toNat) ∧ w ∈ zmtl (K k) (X k) (Y k) i (N l) (U l) (V l) j := by
  rw [zapp (F := zrlm1 K X Y N U V b) (G := fun p => zrlm2 (K p) (X p) (Y p) N U V b (K p).toNat) rfl (fun _ => rfl)]
  constructor
  · rintro ⟨k, hk, h⟩
    rw [zapp (F := zrlm2 (K k) (X k) (Y k) N U V b) (G := fun i => zrlm3 (K k) (X k) (Y k) i N U V b) rfl (fun _ => rfl)] at h
    obtain ⟨i, hi, h⟩ := h
    rw [zapp (F := zrlm3 (K k) (X k) (Y k) i N U V) (G := fun l => zlj (K k) (X k) (Y k) i (N l) (U l) (V l) (N l).toNat) rfl (fun _ => rfl)] at h
    obtain ⟨l, hl, h⟩ := h
    rw [zapp (F := zlj (K k) (X k) (Y k) i (N l) (U l) (V l)) (G := fun j => zmtl (K k) (X k) (Y k) i (N l) (U l) (V l) j) rfl (fun _ => rfl)] at h
    obtain ⟨j, hj, h⟩ := h
    exact ⟨k, l, i, j, ⟨hk, hl, hi, hj⟩, h⟩
  · rintro ⟨k, l, i, j, ⟨hk, hl, hi, hj⟩, h⟩
    refine ⟨k, hk, ?_⟩
    rw [zapp (F := zrlm2 (K k) (X k) (Y k) N U V b) (G := fun i => zrlm3 (K k) (X k) (Y k) i N U V b) rfl (fun _ => rfl)]
    refine ⟨i, hi, ?_⟩
    rw [zapp (F := zrlm3 (K k) (X k) (Y k) i N U V) (G := fun l => zlj (K k) (X k) (Y k) i (N l) (U l) (V l) (N l).toNat) rfl (fun _ => rfl)]
    refine ⟨l, hl, ?_⟩
    rw [zapp (F := zlj (K k) (X k) (Y k) i (N l) (U l) (V l)) (G := fun j => zmtl (K k) (X k) (Y k) i (N l) (U l) (V l) j) rfl (fun _ => rfl)]
    exact ⟨j, hj, h⟩
/-- both find the same points -/
theorem zqmem {w : Int} (h1 : zqE f g s) (o1 : zqO g s) (h2 : zqE f g t) (o2 : zqO g t) {a b : Nat} (ha : g 1174 s = (a : Int)) (hb : g 1174 t = (b : Int)) : w ∈ zmee f (14 + 14 * s) (14 + 14 * t) ↔ w ∈ zrlm1 (zrN g s) (zrX g s) (zrY g s) (zrN g t) (zrX g t) (zrY g t) b a := by
  unfold zmee
  rw [h1.2.1, h2.2.1, ha, hb, Int.toNat_natCast, Int.toNat_natCast, zmem_c, zmem_r]
  have key : ∀ k l i j, k < a → l < b → ((i < (zN f (14 + 14 * s) k).toNat ∧ j < (zN f (14 + 14 * t) l).toNat) ∧ w ∈ zmtl (zN f (14 + 14 * s) k) (zX f (14 + 14 * s) k) (zY f (14 + 14 * s) k) i (zN f (14 + 14 * t) l) (zX f (14 + 14 * t) l) (zY f (14 + 14 * t) l) j ↔ (i < (zrN g s k).toNat ∧ j < (zrN g t l).toNat) ∧ w ∈ zmtl (zrN g s k) (zrX g s k) (zrY g s k) i (zrN g t l) (zrX g t l) (zrY g t l) j) := fun k l i j hk hl => by
    obtain ⟨q1, q2⟩ := h1.2.2.1 k (by omega)
    obtain ⟨r1, r2⟩ := h2.2.2.1 l (by omega)
    rw [q1, r1]
    refine and_congr_right (fun hh => ?_)
    rw [zmtl_cg (X := zrX g s k) (Y := zrY g s k) (U := zrX g t l) (V := zrY g t l) (by omega) (by omega) (fun k hk => q2 k hk) (fun k hk => r2 k hk)]
  constructor
  · rintro ⟨k, l, i, j, ⟨hk, hl, hi, hj⟩, h⟩
    obtain ⟨⟨x1, x2⟩, x3⟩ := (key k l i j hk hl).mp ⟨⟨hi, hj⟩, h⟩
    exact ⟨k, l, i, j, ⟨hk, hl, x1, x2⟩, x3⟩
  · rintro ⟨k, l, i, j, ⟨hk, hl, hi, hj⟩, h⟩
    obtain ⟨⟨x1, x2⟩, x3⟩ := (key k l i j hk hl).mpr ⟨⟨hi, hj⟩, h⟩
    exact ⟨k, l, i, j, ⟨hk, hl, x1, x2⟩, x3⟩
end ZMEETQ
