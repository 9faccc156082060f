/-! what a state of the interpreter says of the machine's -/
def zad (sz b a : Nat) : Nat := if a = 1 then b else sz + (a - 2)
def zrf (sz b a : Nat) : Value := if a = 0 then .null else .ref (zad sz b a)
def zrfo (sz b a : Nat) : Option Nat := if a = 0 then none else some (zad sz b a)
theorem zrfo_rf (sz b a : Nat) : va_rf (zrfo sz b a) = zrf sz b a := by
  unfold zrfo zrf
  by_cases h : a = 0
  · rw [if_pos h, if_pos h]; rfl
  · rw [if_neg h, if_neg h]; rfl
def zrv (sz b : Nat) : zV → Value
  | .inl x => .int (Int32.ofInt x)
  | .inr (.inl y) => .long y
  | .inr (.inr a) => zrf sz b a
def zok (nx : Nat) : zV → Prop
  | .inl x => zr32 x
  | .inr (.inl _) => True
  | .inr (.inr a) => 0 < a ∧ a < nx + 2
theorem zok_mono {m n : Nat} (h : m ≤ n) : ∀ {v : zV}, zok m v → zok n v
  | .inl _, q => q
  | .inr (.inl _), _ => trivial
  | .inr (.inr _), q => ⟨q.1, by have := q.2; omega⟩
theorem zcat_rv (sz b : Nat) : ∀ v : zV, (zrv sz b v).category = zcat v
  | .inl _ => rfl
  | .inr (.inl _) => rfl
  | .inr (.inr a) => by
    show (zrf sz b a).category = 1
    unfold zrf
    by_cases h : a = 0
    · rw [if_pos h]; rfl
    · rw [if_neg h]; rfl
theorem zcats_rv (sz b : Nat) (st : List zV) : ((st.map (zrv sz b)).map fun v => v.category).sum = (st.map zcat).sum := by
  rw [List.map_map]
  congr 1
  exact List.map_congr_left fun v _ => zcat_rv sz b v
def zfv (sz b : Nat) (M : zM) (a c k : Nat) : Value := if zkind (zty c k) ≤ 1 then .int (Int32.ofInt (M.2.1 a k)) else if zkind (zty c k) = 2 then .long (M.2.2.1 a k) else zrf sz b (M.2.2.2 a k)
/-- what lies at a -/
def zcell (K : Nat → Nat × Nat) (sz b : Nat) (tc : Nat → ClassId) (M : zM) (a : Nat) : va_E :=
  if (K a).1 < 20 then .inr ((K a).1, (List.range (zcl (K a).1).2.2).map (zfv sz b M a (K a).1))
  else .inl (tc (K a).1, (K a).2, if (K a).1 < 22 then .inl (fun j => Int32.ofInt (M.2.1 a j)) else if (K a).1 = 22 then .inr (.inl (fun j => M.2.2.1 a j)) else .inr (.inr (.inr (.inr (fun j => zrfo sz b (M.2.2.2 a j))))))
def zws (K : Nat → Nat × Nat) (sz b : Nat) (tc : Nat → ClassId) (M : zM) : va_W := (List.range M.1.1).map fun i => (sz + i, zcell K sz b tc M (i + 2))
def ztys (tc : Nat → ClassId) : List (ClassId × FieldType) := [(tc 20, .int), (tc 21, .boolean), (tc 22, .int), (tc 23, .object (zcn 7)), (tc 24, .object (zcn 6)), (tc 25, .object (zcn 1))]
def zA (sz : Nat) : Nat → Prop := fun q => sz ≤ q
theorem zws_get {K : Nat → Nat × Nat} {sz b : Nat} {tc : Nat → ClassId} {M : zM} {a : Nat} (h2 : 2 ≤ a) (h : a < M.1.1 + 2) : (zws K sz b tc M)[a - 2]? = some (zad sz b a, zcell K sz b tc M a) := by
  unfold zws
  rw [List.getElem?_map, List.getElem?_range (by omega)]
  show some (sz + (a - 2), zcell K sz b tc M (a - 2 + 2)) = _
  rw [show a - 2 + 2 = a by omega, show zad sz b a = sz + (a - 2) from if_neg (by omega)]
theorem zws_len (K : Nat → Nat × Nat) (sz b : Nat) (tc : Nat → ClassId) (M : zM) : (zws K sz b tc M).length = M.1.1 := by
  unfold zws; rw [List.length_map, List.length_range]
theorem zws_set {K : Nat → Nat × Nat} {sz b : Nat} {tc : Nat → ClassId} {M M' : zM} {a : Nat} (h2 : 2 ≤ a) (hn : M'.1.1 = M.1.1) (hs : ∀ a', a' ≠ a → zcell K sz b tc M' a' = zcell K sz b tc M a') : (zws K sz b tc M).set (a - 2) (zad sz b a, zcell K sz b tc M' a) = zws K sz b tc M' := by
  apply List.ext_getElem?
  intro i
  rw [List.getElem?_set]
  unfold zws
  rw [hn]
  by_cases hi : i < M.1.1
  · rw [List.getElem?_map, List.getElem?_map, List.getElem?_range hi]
    by_cases hia : a - 2 = i
    · subst hia
      rw [if_pos rfl, if_pos (by rw [List.length_map, List.length_range]; exact hi)]
      show _ = some (sz + (a - 2), zcell K sz b tc M' (a - 2 + 2))
      rw [show a - 2 + 2 = a by omega, show zad sz b a = sz + (a - 2) from if_neg (by omega)]
    · rw [if_neg hia]
      show some (sz + i, zcell K sz b tc M (i + 2)) = some (sz + i, zcell K sz b tc M' (i + 2))
      rw [hs (i + 2) (by omega)]
  · have e1 : (List.range M.1.1)[i]? = none := by rw [List.getElem?_eq_none]; rw [List.length_range]; omega
    rw [List.getElem?_map, List.getElem?_map, e1]
    by_cases hia : a - 2 = i
    · rw [if_pos hia, if_neg (by rw [List.length_map, List.length_range]; omega)]; rfl
    · rw [if_neg hia]; rfl
theorem zws_push {K : Nat → Nat × Nat} {sz b : Nat} {tc : Nat → ClassId} {M M' : zM} (hn : M'.1.1 = M.1.1 + 1) (hs : ∀ a', a' < M.1.1 + 2 → zcell K sz b tc M' a' = zcell K sz b tc M a') : zws K sz b tc M' = zws K sz b tc M ++ [(sz + M.1.1, zcell K sz b tc M' (M.1.1 + 2))] := by
  unfold zws
  rw [hn, List.range_succ, List.map_append]
  congr 1
  exact List.map_congr_left fun i hi => by rw [hs (i + 2) (by have := List.mem_range.mp hi; omega)]
theorem zws_D (K : Nat → Nat × Nat) (sz b : Nat) (tc : Nat → ClassId) (M : zM) : va_D (zA sz) (zws K sz b tc M) := by
  have key : ∀ (i : Nat) (q : Nat × va_E), (zws K sz b tc M)[i]? = some q → q.1 = sz + i := by
    intro i q h
    unfold zws at h
    rw [List.getElem?_map] at h
    by_cases hi : i < M.1.1
    · rw [List.getElem?_range hi] at h
      cases h
      rfl
    · rw [List.getElem?_eq_none (by rw [List.length_range]; omega)] at h
      cases h
  refine ⟨fun i j p q hp hq he => ?_, fun k q hq => ?_⟩
  · have h1 := key i p hp
    have h2 := key j q hq
    omega
  · have h1 := key k q hq
    show sz ≤ q.1
    omega
/-- the heap holds M -/
def zHeap (K : Nat → Nat × Nat) (sz b L : Nat) (xs : Nat → Int32) (D : va_G) (tc : Nat → ClassId) (M : zM) (H : Heap) : Prop :=
  va_P D vwCl (zws K sz b tc M) H ∧ (M.1.2.1 = true → H.size = sz + M.1.1) ∧ sz + M.1.1 ≤ H.size ∧ (∀ a i, zr32 (M.2.1 a i)) ∧ (∀ a i, M.2.2.2 a i < M.1.1 + 2) ∧ K 1 = (20, L) ∧ (∀ j, j < L → M.2.1 1 j = (xs j).toInt)
/-- what the tables and the old heap say -/
def zWLD (sz b L : Nat) (xs : Nat → Int32) (D : va_G) (tc : Nat → ClassId) (U : State) : Prop :=
  va_K D vwCl (ztys tc) U ∧ (∀ w ∈ lw_tbl, zgood w = true → w.before #[] U = true) ∧ (∀ q ∈ zstrT, ∃ sa, vk_R (zcn 10) q.1 q.2 sa U) ∧
  vx_Zq Bundle.tN "UNASSIGNED_STACK" Bundle.steD (zA sz) U U.heap ∧ vx_Zq Bundle.tN "SUPPRESSED_SENTINEL" Bundle.listD (zA sz) U U.heap ∧
  (∀ e f, e < 3 → f = 1 → e ≠ f → va_Nc (zen e) (zen f) U) ∧ va_X b L xs U U.heap ∧ b < sz ∧ sz ≤ U.heap.size
theorem zgood_move {w : Jvm.Cond} (hg : zgood w = true) {a a' : Array Value} {u U : State} (hW : u.WarmedH U.vm) (h : w.before a u = true) : w.before a' U = true := by
  cases w
  case arrayClass ty => exact word_at hW (Or.inr ⟨ty, rfl⟩) h
  case arrayOver ty =>
    cases ty
    case object C =>
      have h1 : va_AO C u := h
      exact va_AO.moved hW.alike h1
    all_goals cases hg
  case methodLinkNest o i y ho => exact va_Nw.use rfl (va_Nw.warmM hW (va_Nw.of rfl h))
  all_goals first
    | (exfalso; revert hg; simp [zgood, Cond.onTables]; done)
    | exact va_Nw.use rfl (va_tabs rfl (rfl : (u.setVm U.vm).vm = U.vm) (Cond.before_shiftedFace (args := a) (State.Shifted.of_warmed hW) _ (by simpa [zgood, Cond.onTables] using hg) h))
theorem zWLD_move {sz b L : Nat} {xs : Nat → Int32} {D : va_G} {tc : Nat → ClassId} {u U : State} (h : zWLD sz b L xs D tc u) (hW : u.WarmedH U.vm) (hz : u.heap.size ≤ U.heap.size) (hq : ∀ q : Nat, q < u.heap.size → ¬ zA sz q → U.heap[q]? = u.heap[q]?) : zWLD sz b L xs D tc U := by
  obtain ⟨h1, h2, h3, h4, h5, h6, h7, h8, h9⟩ := h
  refine ⟨h1.moved hW.alike, fun w hw hg => zgood_move hg hW (h2 w hw hg), fun q hq => ?_, vx_Zq.moved hW.alike (h4.kept hq), vx_Zq.moved hW.alike (h5.kept hq), fun e f he hf hne => (h6 e f he hf hne).moved hW.alike, ?_, h8, Nat.le_trans h9 hz⟩
  · obtain ⟨sa, hs⟩ := h3 q hq
    exact ⟨sa, hs.warm hW⟩
  · obtain ⟨scr, k1, k2, k3, k4, k5⟩ := h7
    exact ⟨scr, by rw [hq b (by omega) (by show ¬ sz ≤ b; omega)]; exact k1, State.isArrayOf_alike hW.alike k2, k3, k4, k5⟩
theorem zword {sz b L : Nat} {xs : Nat → Int32} {D : va_G} {tc : Nat → ClassId} {U : State} (h : zWLD sz b L xs D tc U) {w : Jvm.Cond} (hw : w ∈ lw_tbl) (hg : zgood w = true) (a : Array Value) : w.before a U = true := zgood_move hg (State.WarmedH.refl U) (h.2.1 w hw hg)
/-- the locals -/
def zLR (sz b : Nat) (ls : zLs) (lsr : Array Slot) : Prop := lsr.size = ls.length ∧ lv_wf lsr ∧ ∀ (k : Nat) (v : zV), ls[k]? = some (some v) → lsr[k]? = some (.val (zrv sz b v))
def zokl (nx : Nat) (ls : zLs) : Prop := ∀ (k : Nat) (v : zV), ls[k]? = some (some v) → zok nx v
def zoks (nx : Nat) (st : List zV) : Prop := ∀ v ∈ st, zok nx v
