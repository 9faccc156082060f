/-! areas: a strip as a sum over its edges, in pairs -/
section ZPAIRS
/-- 1 or 0 -/
def zio (b : Bool) : Int := if b = true then 1 else 0
theorem zio_f : zio false = 0 := rfl
theorem zio_t : zio true = 1 := rfl
/-- pairs: where an edge is, and its bit -/
def zHp (g : Nat → Bool) : Nat → List (Int × Nat) → Int
  | _, [] => 0
  | acc, q :: t => q.1 * (zio (g acc) - zio (g (acc ^^^ q.2))) + zHp g (acc ^^^ q.2) t
def zxr : Nat → List (Int × Nat) → Nat
  | acc, [] => acc
  | acc, q :: t => zxr (acc ^^^ q.2) t
def zls (m : Nat → Int) : Int → List Nat → Int
  | x, [] => x
  | _, a :: t => zls m (m a) t
theorem zHp_s (g : Nat → Bool) (acc : Nat) (q : Int × Nat) (t : List (Int × Nat)) : zHp g acc (q :: t) = q.1 * (zio (g acc) - zio (g (acc ^^^ q.2))) + zHp g (acc ^^^ q.2) t := rfl
theorem zxr_s (acc : Nat) (q : Int × Nat) (t : List (Int × Nat)) : zxr acc (q :: t) = zxr (acc ^^^ q.2) t := rfl
theorem zF_H {m : Nat → Int} {b : Nat → Nat} {g : Nat → Bool} : ∀ (k : List Nat) (acc : Nat) (m0 : Int), zF m b g acc m0 k = zHp g acc (k.map fun e => (m e, b e)) - zio (g acc) * m0 + zio (g (zxr acc (k.map fun e => (m e, b e)))) * zls m m0 k
  | [], acc, m0 => by
    show (0 : Int) = 0 - zio (g acc) * m0 + zio (g acc) * m0
    omega
  | a :: t, acc, m0 => by
    have ih := zF_H (m := m) (b := b) (g := g) t (acc ^^^ b a) (m a)
    rw [zF_s, ih, List.map_cons, zHp_s, zxr_s]
    show _ = m a * (zio (g acc) - zio (g (acc ^^^ b a))) + zHp g (acc ^^^ b a) (t.map fun e => (m e, b e)) - zio (g acc) * m0 + zio (g (zxr (acc ^^^ b a) (t.map fun e => (m e, b e)))) * zls m (m a) t
    generalize zio (g (zxr (acc ^^^ b a) (t.map fun e => (m e, b e)))) * zls m (m a) t = Z
    generalize zHp g (acc ^^^ b a) (t.map fun e => (m e, b e)) = Y
    rw [Int.mul_sub, Int.mul_comm (m a) (zio (g (acc ^^^ b a)))]
    generalize zio (g (acc ^^^ b a)) * m a = W
    cases g acc with
    | true =>
      rw [if_pos rfl, zio_t]
      omega
    | false =>
      rw [if_neg (by decide), zio_f]
      omega
theorem zFV_H {m : Nat → Int} {b : Nat → Nat} {g : Nat → Bool} {k : List Nat} (h0 : g 0 = false) (hx : zxr 0 (k.map fun e => (m e, b e)) = 0) : zFV m b g k = zHp g 0 (k.map fun e => (m e, b e)) := by
  cases k with
  | nil => rfl
  | cons a t =>
    have h := zF_H (m := m) (b := b) (g := g) t (0 ^^^ b a) (m a)
    rw [List.map_cons, zxr_s] at hx
    have hx : zxr (0 ^^^ b a) (t.map fun e => (m e, b e)) = 0 := hx
    rw [hx, h0, zio_f, Int.zero_mul] at h
    show zF m b g (0 ^^^ b a) (m a) t = m a * (zio (g 0) - zio (g (0 ^^^ b a))) + zHp g (0 ^^^ b a) (t.map fun e => (m e, b e))
    rw [h, h0, zio_f, Int.mul_sub, Int.mul_comm (m a) (zio (g (0 ^^^ b a)))]
    generalize zio (g (0 ^^^ b a)) * m a = W
    omega
def zSp (l : List (Int × Nat)) : Prop := l.Pairwise (fun p q => p.1 ≤ q.1)
theorem zHp_tie {g : Nat → Bool} {a : Int × Nat} {v : List (Int × Nat)} : ∀ (u : List (Int × Nat)) (acc : Nat), (∀ x, x ∈ u → x.1 = a.1) → zHp g acc (u ++ a :: v) = zHp g acc (a :: (u ++ v))
  | [], acc, _ => rfl
  | x :: u, acc, h => by
    have hx := h x (List.mem_cons_self ..)
    have ih := zHp_tie (g := g) (a := a) (v := v) u (acc ^^^ x.2) (fun y hy => h y (List.mem_cons_of_mem _ hy))
    rw [List.cons_append, List.cons_append, zHp_s, ih, zHp_s, zHp_s, zHp_s, hx, Nat.xor_assoc, Nat.xor_comm x.2 a.2, ← Nat.xor_assoc]
    rw [Int.mul_sub, Int.mul_sub, Int.mul_sub, Int.mul_sub]
    omega
theorem zHp_perm {g : Nat → Bool} : ∀ (l k : List (Int × Nat)) (acc : Nat), zSp l → zSp k → l.Perm k → zHp g acc l = zHp g acc k
  | [], k, acc, _, _, h => by
    rw [List.Perm.eq_nil h.symm]
  | a :: t, k, acc, hl, hk, h => by
    have ha : a ∈ k := h.mem_iff.mp (List.mem_cons_self ..)
    obtain ⟨u, v, rfl⟩ := List.append_of_mem ha
    have hl2 := List.pairwise_cons.mp hl
    have hk2 := List.pairwise_append.mp hk
    have hu : ∀ x, x ∈ u → x.1 = a.1 := fun x hx => by
      have h1 : x.1 ≤ a.1 := hk2.2.2 x hx a (List.mem_cons_self ..)
      have h2 : x ∈ a :: t := h.mem_iff.mpr (List.mem_append_left _ hx)
      have h3 : a.1 ≤ x.1 := by
        rcases List.mem_cons.mp h2 with h4 | h4
        · rw [h4]; omega
        · exact hl2.1 x h4
      omega
    rw [zHp_tie u acc hu, zHp_s, zHp_s]
    have hp : t.Perm (u ++ v) := List.Perm.cons_inv (h.trans List.perm_middle)
    have hs : zSp (u ++ v) := List.pairwise_append.mpr ⟨hk2.1, (List.pairwise_cons.mp hk2.2.1).2, fun x hx y hy => hk2.2.2 x hx y (List.mem_cons_of_mem _ hy)⟩
    rw [zHp_perm t (u ++ v) _ hl2.2 hs hp]
theorem zxr_app : ∀ (l k : List (Int × Nat)) (acc : Nat), zxr acc (l ++ k) = zxr (zxr acc l) k
  | [], _, _ => rfl
  | _ :: l, k, acc => zxr_app l k _
theorem zxr_acc : ∀ (l : List (Int × Nat)) (acc : Nat), zxr acc l = acc ^^^ zxr 0 l
  | [], acc => (Nat.xor_zero acc).symm
  | q :: l, acc => by
    rw [zxr_s, zxr_s, zxr_acc l, zxr_acc l (0 ^^^ q.2), Nat.zero_xor, Nat.xor_assoc]
theorem zxr_perm {l k : List (Int × Nat)} (h : l.Perm k) : ∀ acc, zxr acc l = zxr acc k := by
  induction h with
  | nil => exact fun _ => rfl
  | cons x _ ih => exact fun acc => ih _
  | swap x y l => exact fun acc => by rw [zxr_s, zxr_s, zxr_s, zxr_s, Nat.xor_assoc, Nat.xor_comm y.2 x.2, ← Nat.xor_assoc]
  | trans _ _ ih1 ih2 => exact fun acc => (ih1 acc).trans (ih2 acc)
/-- told otherwise: the bits by a law, those that are no more left out -/
theorem zHp_map {g g' : Nat → Bool} {r p : Nat → Nat} {N : Nat} (hg : ∀ a, a < 2 ^ N → g a = g' (r a)) : ∀ (l : List (Int × Nat)) (acc : Nat), (∀ q, q ∈ l → q.2 < 2 ^ N ∧ ∀ a, r (a ^^^ q.2) = r a ^^^ p q.2) → acc < 2 ^ N → zHp g acc l = zHp g' (r acc) (l.map fun q => (q.1, p q.2))
  | [], _, _, _ => rfl
  | q :: l, acc, h, ha => by
    obtain ⟨h1, h2⟩ := h q (List.mem_cons_self ..)
    have h3 : acc ^^^ q.2 < 2 ^ N := Nat.xor_lt_two_pow ha h1
    rw [List.map_cons, zHp_s, zHp_s, zHp_map hg l _ (fun x hx => h x (List.mem_cons_of_mem _ hx)) h3, hg acc ha, hg _ h3, h2 acc]
theorem zHp_drop {g : Nat → Bool} : ∀ (l : List (Int × Nat)) (acc : Nat), zHp g acc l = zHp g acc (l.filter fun q => decide (q.2 ≠ 0))
  | [], _ => rfl
  | q :: l, acc => by
    by_cases e : q.2 = 0
    · rw [List.filter_cons_of_neg (by rw [decide_eq_true_iff]; exact fun h => h e), zHp_s, e, Nat.xor_zero, Int.sub_self, Int.mul_zero, Int.zero_add]
      exact zHp_drop l acc
    · rw [List.filter_cons_of_pos (by rw [decide_eq_true_iff]; exact e), zHp_s, zHp_s, zHp_drop l]
theorem zHp_add {g1 g2 g3 g4 : Nat → Bool} (h : ∀ a, zio (g1 a) + zio (g2 a) = zio (g3 a) + zio (g4 a)) : ∀ (l : List (Int × Nat)) (acc : Nat), zHp g1 acc l + zHp g2 acc l = zHp g3 acc l + zHp g4 acc l
  | [], _ => rfl
  | q :: l, acc => by
    have ih := zHp_add h l (acc ^^^ q.2)
    have a1 := congrArg (fun z => q.1 * z) (h acc)
    have a2 := congrArg (fun z => q.1 * z) (h (acc ^^^ q.2))
    rw [Int.mul_add, Int.mul_add] at a1 a2
    rw [zHp_s, zHp_s, zHp_s, zHp_s, Int.mul_sub, Int.mul_sub, Int.mul_sub, Int.mul_sub]
    omega
/-- the pairs of the edges that are there between y and y + 1 -/
def zPq (d : zEd) (y : Int) : Bool := decide (60 * d.1 ≤ y ∧ y + 1 ≤ 60 * d.2.1)
def zPvv (d : zEd) (y : Int) : Int × Nat := (120 * d.2.2.2.1 + (y + (y + 1)) * d.2.2.1, d.2.2.2.2)
def zPr (l : List zEd) (y : Int) : List (Int × Nat) := (l.filter fun d => zPq d y).map fun d => zPvv d y
theorem zPr_app (l k : List zEd) (y : Int) : zPr (l ++ k) y = zPr l y ++ zPr k y := by
  unfold zPr
  rw [List.filter_append, List.map_append]
theorem zrng_l (l : List zEd) : (List.range l.length).map (zegd l) = l := by
  apply List.ext_getElem?
  intro i
  rw [List.getElem?_map]
  by_cases h : i < l.length
  · rw [List.getElem?_range h]
    show some (zegd l i) = _
    unfold zegd
    rw [List.getD_eq_getElem?_getD, List.getElem?_eq_getElem h]
    rfl
  · rw [List.getElem?_eq_none (by rw [List.length_range]; omega), List.getElem?_eq_none (by omega)]
    rfl
theorem zPr_act (l : List zEd) (y : Int) : (zAct l y (y + 1)).map (fun e => (zmd2 l y (y + 1) e, zebi l e)) = zPr l y := by
  have e1 : zPr l y = zPr ((List.range l.length).map (zegd l)) y := by rw [zrng_l]
  rw [e1]
  unfold zPr
  rw [List.filter_map, List.map_map]
  rfl
/-- a strip of one -/
theorem zSV_H {l : List zEd} {g : Nat → Bool} {y : Int} (h0 : g 0 = false) (hx : zxr 0 (zPr l y) = 0) {k : List (Int × Nat)} (hs : zSp k) (hp : k.Perm (zPr l y)) : zSV l g y (y + 1) = zHp g 0 k := by
  have p1 := (zsrt_p (zmd2 l y (y + 1)) (zAct l y (y + 1))).map (fun e => (zmd2 l y (y + 1) e, zebi l e))
  rw [zPr_act] at p1
  unfold zSV
  rw [zFV_H h0 (by rw [zxr_perm p1]; exact hx)]
  refine zHp_perm _ _ _ ?_ hs (p1.trans hp.symm)
  exact List.pairwise_map.mpr (zsrt_s _ _)
/-- some order of the pairs -/
theorem zPr_so (l : List zEd) (y : Int) : ∃ k, zSp k ∧ k.Perm (zPr l y) := by
  have p1 := (zsrt_p (zmd2 l y (y + 1)) (zAct l y (y + 1))).map (fun e => (zmd2 l y (y + 1) e, zebi l e))
  rw [zPr_act] at p1
  exact ⟨(zsrt (zmd2 l y (y + 1)) (zAct l y (y + 1))).map (fun e => (zmd2 l y (y + 1) e, zebi l e)), List.pairwise_map.mpr (zsrt_s (zmd2 l y (y + 1)) (zAct l y (y + 1))), p1⟩
/-- all strips of one -/
def zU (l : List zEd) (g : Nat → Bool) : Nat → Int
  | 0 => 0
  | y + 1 => zU l g y + zSV l g (y : Int) ((y : Int) + 1)
theorem zU_s (l : List zEd) (g : Nat → Bool) (y : Nat) : zU l g (y + 1) = zU l g y + zSV l g (y : Int) ((y : Int) + 1) := rfl
theorem zU_cg {l l' : List zEd} {g g' : Nat → Bool} (h : ∀ y : Nat, zSV l g (y : Int) ((y : Int) + 1) = zSV l' g' (y : Int) ((y : Int) + 1)) : ∀ n, zU l g n = zU l' g' n
  | 0 => rfl
  | n + 1 => by rw [zU_s, zU_s, zU_cg h n, h n]
theorem zU_add {l : List zEd} {g1 g2 g3 g4 : Nat → Bool} (z1 : g1 0 = false) (z2 : g2 0 = false) (z3 : g3 0 = false) (z4 : g4 0 = false) (hx : ∀ y : Nat, zxr 0 (zPr l (y : Int)) = 0) (h : ∀ a, zio (g1 a) + zio (g2 a) = zio (g3 a) + zio (g4 a)) : ∀ n, zU l g1 n + zU l g2 n = zU l g3 n + zU l g4 n
  | 0 => rfl
  | n + 1 => by
    have ih := zU_add z1 z2 z3 z4 hx h n
    obtain ⟨k, k1, k2⟩ := zPr_so l (n : Int)
    have a := zHp_add h k 0
    rw [← zSV_H z1 (hx n) k1 k2, ← zSV_H z2 (hx n) k1 k2, ← zSV_H z3 (hx n) k1 k2, ← zSV_H z4 (hx n) k1 k2] at a
    rw [zU_s, zU_s, zU_s, zU_s]
    omega
/-- another list, told otherwise -/
theorem zU_map {l l' : List zEd} {g g' : Nat → Bool} {r p : Nat → Nat} {N : Nat} (z : g 0 = false) (r0 : r 0 = 0) (hg : ∀ a, a < 2 ^ N → g a = g' (r a)) (hx : ∀ y : Nat, zxr 0 (zPr l (y : Int)) = 0) (hx' : ∀ y : Nat, zxr 0 (zPr l' (y : Int)) = 0) (hb : ∀ d, d ∈ l → d.2.2.2.2 < 2 ^ N ∧ ∀ a, r (a ^^^ d.2.2.2.2) = r a ^^^ p d.2.2.2.2) (hp : ∀ y : Nat, (((zPr l (y : Int)).map fun q => (q.1, p q.2)).filter fun q => decide (q.2 ≠ 0)).Perm (zPr l' (y : Int))) (n : Nat) : zU l g n = zU l' g' n := by
  have z' : g' 0 = false := by
    rw [← r0, ← hg 0 (Nat.two_pow_pos N)]
    exact z
  refine zU_cg (fun y => ?_) n
  obtain ⟨k, k1, k2⟩ := zPr_so l (y : Int)
  have hq : ∀ q, q ∈ k → q.2 < 2 ^ N ∧ ∀ a, r (a ^^^ q.2) = r a ^^^ p q.2 := fun q hq => by
    have hm := k2.mem_iff.mp hq
    unfold zPr at hm
    obtain ⟨d, d1, d2⟩ := List.mem_map.mp hm
    have d3 := hb d (List.mem_filter.mp d1).1
    rw [← d2]
    exact d3
  rw [zSV_H z (hx y) k1 k2, zHp_map hg k 0 hq (Nat.two_pow_pos N), r0, zHp_drop]
  refine (zSV_H z' (hx' y) ?_ ?_).symm
  · exact List.Pairwise.filter _ (List.pairwise_map.mpr k1)
  · exact (((k2.map (fun q => (q.1, p q.2))).filter _).trans (hp y))
end ZPAIRS
