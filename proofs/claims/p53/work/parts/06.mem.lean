/-! the locals and the memory -/
section ZL
variable {sz b : Nat}
/-- the locals as the kit's rows list them -/
def zlv (sz b : Nat) (ls : zLs) : List (Nat × Value) := (List.range ls.length).filterMap fun k => match ls[k]? with
  | some (some v) => some (k, zrv sz b v)
  | _ => none
theorem zlv_mem {ls : zLs} {k : Nat} {w : Value} : (k, w) ∈ zlv sz b ls ↔ ∃ v, ls[k]? = some (some v) ∧ w = zrv sz b v := by
  unfold zlv
  rw [List.mem_filterMap]
  constructor
  · rintro ⟨i, -, h⟩
    cases hi : ls[i]? with
    | none => rw [hi] at h; cases h
    | some o =>
      cases o with
      | none => rw [hi] at h; cases h
      | some v =>
        rw [hi] at h
        cases h
        exact ⟨v, hi, rfl⟩
  · rintro ⟨v, h, rfl⟩
    refine ⟨k, List.mem_range.mpr (List.getElem?_eq_some_iff.mp h).1, ?_⟩
    rw [h]
theorem zlv_has {ls : zLs} {lsr : Array Slot} (h : zLR sz b ls lsr) : lv_has lsr ls.length (zlv sz b ls) := by
  refine ⟨h.1, h.2.1, ?_⟩
  rintro ⟨k, w⟩ hq
  obtain ⟨v, h1, rfl⟩ := zlv_mem.mp hq
  exact h.2.2 k v h1
theorem zst_len (ls : zLs) (k : Nat) (v : zV) : (zst ls k v).length = ls.length := by
  unfold zst
  cases k with
  | zero => exact List.length_set
  | succ j =>
    show (match ls[j]? with | some (some (.inr (.inl _))) => (ls.set j none).set (j + 1) (some v) | _ => ls.set (j + 1) (some v)).length = _
    split <;> simp only [List.length_set]
theorem zst_get {ls : zLs} {i : Nat} {v0 : zV} {k : Nat} {v : zV} (h : (zst ls i v0)[k]? = some (some v)) : (k = i ∧ v = v0) ∨ (k ≠ i ∧ ls[k]? = some (some v) ∧ (k + 1 = i → zcat v = 1)) := by
  have hset : ∀ {l : zLs} {j : Nat} {o : Option zV}, (l.set j o)[k]? = some (some v) → (k = j ∧ o = some v) ∨ (k ≠ j ∧ l[k]? = some (some v)) := by
    intro l j o hh
    rw [List.getElem?_set] at hh
    by_cases hj : j = k
    · subst hj
      rw [if_pos rfl] at hh
      by_cases hl : j < l.length
      · rw [if_pos hl] at hh
        exact Or.inl ⟨rfl, Option.some.inj hh⟩
      · rw [if_neg hl] at hh; cases hh
    · rw [if_neg hj] at hh
      exact Or.inr ⟨fun q => hj q.symm, hh⟩
  cases i with
  | zero =>
    rcases hset h with ⟨h1, h2⟩ | ⟨h1, h2⟩
    · exact Or.inl ⟨h1, (Option.some.inj h2).symm⟩
    · exact Or.inr ⟨h1, h2, fun q => by omega⟩
  | succ j =>
    have h9 : (match ls[j]? with | some (some (.inr (.inl _))) => (ls.set j none).set (j + 1) (some v0) | _ => ls.set (j + 1) (some v0))[k]? = some (some v) := h
    split at h9
    · rcases hset h9 with ⟨h1, h2⟩ | ⟨h1, h2⟩
      · exact Or.inl ⟨h1, (Option.some.inj h2).symm⟩
      · rcases hset h2 with ⟨h3, h4⟩ | ⟨h3, h4⟩
        · cases h4
        · exact Or.inr ⟨h1, h4, fun q => absurd (by omega) h3⟩
    · rename_i hne
      rcases hset h9 with ⟨h1, h2⟩ | ⟨h1, h2⟩
      · exact Or.inl ⟨h1, (Option.some.inj h2).symm⟩
      · refine Or.inr ⟨h1, h2, fun q => ?_⟩
        have hkj : k = j := by omega
        subst hkj
        match v, h2 with
        | .inl _, _ => rfl
        | .inr (.inr _), _ => rfl
        | .inr (.inl y), h2 => exact absurd h2 (hne y)
theorem zst_okl {nx : Nat} {ls : zLs} {i : Nat} {v0 : zV} (h : zokl nx ls) (hv : zok nx v0) : zokl nx (zst ls i v0) := fun k v hk => (zst_get hk).elim (fun q => by rw [q.2]; exact hv) (fun q => h k v q.2.1)
/-- behind a store of one word -/
theorem zst_LR {ls : zLs} {i : Nat} {v0 : zV} {ls' : Array Slot} (h : lv_has ls' ls.length ((i, zrv sz b v0) :: (zlv sz b ls).filter (fun q => !(q.1 == i) && !(q.1 + 1 == i && q.2.category == 2)))) : zLR sz b (zst ls i v0) ls' := by
  refine ⟨by rw [zst_len]; exact h.1, h.2.1, fun k v hk => ?_⟩
  rcases zst_get hk with ⟨rfl, rfl⟩ | ⟨h1, h2, h3⟩
  · exact h.2.2 _ List.mem_cons_self
  · refine h.2.2 (k, zrv sz b v) (List.mem_cons_of_mem _ (List.mem_filter.mpr ⟨zlv_mem.mpr ⟨v, h2, rfl⟩, ?_⟩))
    show (!(k == i) && !(k + 1 == i && (zrv sz b v).category == 2)) = true
    rw [zcat_rv]
    have e1 : (k == i) = false := beq_false_of_ne h1
    rw [e1]
    by_cases h4 : k + 1 = i
    · rw [h3 h4]
      simp
    · have e2 : (k + 1 == i) = false := beq_false_of_ne h4
      rw [e2]; rfl
/-- behind a store of a long -/
theorem zst_LR2 {ls : zLs} {i : Nat} {v0 : zV} {ls' : Array Slot} (h : lv_has ls' ls.length ((i, zrv sz b v0) :: (zlv sz b ls).filter (fun q => !(q.1 == i) && (!(q.1 == i + 1) && !(q.1 + 1 == i && q.2.category == 2))))) : zLR sz b ((zst ls i v0).set (i + 1) none) ls' := by
  refine ⟨by rw [List.length_set, zst_len]; exact h.1, h.2.1, fun k v hk => ?_⟩
  rw [List.getElem?_set] at hk
  by_cases hki : i + 1 = k
  · rw [if_pos hki] at hk
    split at hk <;> cases hk
  · rw [if_neg hki] at hk
    rcases zst_get hk with ⟨rfl, rfl⟩ | ⟨h1, h2, h3⟩
    · exact h.2.2 _ List.mem_cons_self
    · refine h.2.2 (k, zrv sz b v) (List.mem_cons_of_mem _ (List.mem_filter.mpr ⟨zlv_mem.mpr ⟨v, h2, rfl⟩, ?_⟩))
      show (!(k == i) && (!(k == i + 1) && !(k + 1 == i && (zrv sz b v).category == 2))) = true
      rw [zcat_rv]
      have e1 : (k == i) = false := beq_false_of_ne h1
      have e3 : (k == i + 1) = false := beq_false_of_ne fun q => hki q.symm
      rw [e1, e3]
      by_cases h4 : k + 1 = i
      · rw [h3 h4]
        simp
      · have e2 : (k + 1 == i) = false := beq_false_of_ne h4
        rw [e2]; rfl
theorem zset_okl {nx : Nat} {ls : zLs} {i : Nat} (h : zokl nx ls) : zokl nx (ls.set i none) := fun k v hk => by
  rw [List.getElem?_set] at hk
  by_cases hki : i = k
  · rw [if_pos hki] at hk
    split at hk <;> cases hk
  · rw [if_neg hki] at hk
    exact h k v hk
theorem zokl_mono {m n : Nat} (h : m ≤ n) {ls : zLs} (q : zokl m ls) : zokl n ls := fun k v hk => zok_mono h (q k v hk)
theorem zoks_mono {m n : Nat} (h : m ≤ n) {st : List zV} (q : zoks m st) : zoks n st := fun v hv => zok_mono h (q v hv)
end ZL
section ZL2
variable {p : Program} {l : Launch} {e : Env} {R : Room} {s : State} {m : MethodId} {args : Array Value} {below : List Frame} {meth : Method} {c : Code} {H : Heap} {locs : List Loc} {cells slots : Nat} {Q : State → Prop}
variable {K : Nat → Nat × Nat} {sz b L : Nat} {xs : Nat → Int32} {D : va_G} {tc : Nat → ClassId} {x : zMI}
theorem zp_iload {pc k : Nat} {ls : zLs} {st : List zV} {M : zM} {u : Int} (hd : decode (zxB x) pc = .ok (.iload k, 2)) (hk : ls[k]? = some (some (.inl u))) : zStp K sz b L xs D tc l x pc ls st M (pc + 2) ls (.inl u :: st) M :=
  zStp_st (fun ho _ hs => zoks_cons (ho k _ hk) hs) fun p e R s m args below meth c H locs cells slots Q lsr hC hH hS hL hR ho hs q => lv_iload hC.1 hC.2.1 hd (hR.2.2 k _ hk) q
theorem zp_iloadn {pc : Nat} {k : Fin 4} {ls : zLs} {st : List zV} {M : zM} {u : Int} (hd : decode (zxB x) pc = .ok (.iload_n k, 1)) (hk : ls[k.val]? = some (some (.inl u))) : zStp K sz b L xs D tc l x pc ls st M (pc + 1) ls (.inl u :: st) M :=
  zStp_st (fun ho _ hs => zoks_cons (ho k _ hk) hs) fun p e R s m args below meth c H locs cells slots Q lsr hC hH hS hL hR ho hs q => lv_iload_n hC.1 hC.2.1 hd rfl (hR.2.2 k _ hk) q
theorem zp_lload {pc k : Nat} {ls : zLs} {st : List zV} {M : zM} {u : Int64} (hd : decode (zxB x) pc = .ok (.lload k, 2)) (hk : ls[k]? = some (some (.inr (.inl u)))) : zStp K sz b L xs D tc l x pc ls st M (pc + 2) ls (.inr (.inl u) :: st) M :=
  zStp_st (fun ho _ hs => zoks_cons (ho k _ hk) hs) fun p e R s m args below meth c H locs cells slots Q lsr hC hH hS hL hR ho hs q => lv_lload hC.1 hC.2.1 hd (hR.2.2 k _ hk) q
theorem zp_lloadn {pc : Nat} {k : Fin 4} {ls : zLs} {st : List zV} {M : zM} {u : Int64} (hd : decode (zxB x) pc = .ok (.lload_n k, 1)) (hk : ls[k.val]? = some (some (.inr (.inl u)))) : zStp K sz b L xs D tc l x pc ls st M (pc + 1) ls (.inr (.inl u) :: st) M :=
  zStp_st (fun ho _ hs => zoks_cons (ho k _ hk) hs) fun p e R s m args below meth c H locs cells slots Q lsr hC hH hS hL hR ho hs q => lv_lload_n hC.1 hC.2.1 hd rfl (hR.2.2 k _ hk) q
theorem zrv_ref {nx a : Nat} (h : zok nx (.inr (.inr a))) : zrv sz b (.inr (.inr a)) = .ref (zad sz b a) := by
  show zrf sz b a = _
  unfold zrf
  rw [if_neg (by have := h.1; omega)]
theorem zp_aload {pc k : Nat} {ls : zLs} {st : List zV} {M : zM} {a : Nat} (hd : decode (zxB x) pc = .ok (.aload k, 2)) (hk : ls[k]? = some (some (.inr (.inr a)))) : zStp K sz b L xs D tc l x pc ls st M (pc + 2) ls (.inr (.inr a) :: st) M :=
  zStp_st (fun ho _ hs => zoks_cons (ho k _ hk) hs) fun p e R s m args below meth c H locs cells slots Q lsr hC hH hS hL hR ho hs q => by
    have h1 := hR.2.2 k _ hk
    rw [zrv_ref (ho k _ hk)] at h1
    refine lv_aload hC.1 hC.2.1 hd h1 ?_
    rw [List.map_cons, zrv_ref (ho k _ hk)] at q
    exact q
theorem zp_aloadn {pc : Nat} {k : Fin 4} {ls : zLs} {st : List zV} {M : zM} {a : Nat} (hd : decode (zxB x) pc = .ok (.aload_n k, 1)) (hk : ls[k.val]? = some (some (.inr (.inr a)))) : zStp K sz b L xs D tc l x pc ls st M (pc + 1) ls (.inr (.inr a) :: st) M :=
  zStp_st (fun ho _ hs => zoks_cons (ho k _ hk) hs) fun p e R s m args below meth c H locs cells slots Q lsr hC hH hS hL hR ho hs q => by
    have h1 := hR.2.2 k _ hk
    rw [zrv_ref (ho k _ hk)] at h1
    refine lv_aload_n hC.1 hC.2.1 hd rfl h1 ?_
    rw [List.map_cons, zrv_ref (ho k _ hk)] at q
    exact q
/-- an instruction that moves the locals and the stack -/
theorem zStp_ls {pc : Nat} {ls ls' : zLs} {st : List zV} {M : zM} {pc' : Nat} {st' : List zV} (hl : ls'.length = ls.length) (hok : zokl M.1.1 ls → zoks M.1.1 st → zokl M.1.1 ls' ∧ zoks M.1.1 st')
    (hw : ∀ (p : Program) (e : Env) (R : Room) (s : State) (m : MethodId) (args : Array Value) (below : List Frame) (meth : Method) (c : Code) (H : Heap) (locs : List Loc) (cells slots : Nat) (Q : State → Prop) (lsr : Array Slot),
      zCtx sz b L xs D tc x p l R s m meth c → lv_has lsr ls.length (zlv sz b ls) → zokl M.1.1 ls → zoks M.1.1 st →
      (∀ lsr', zLR sz b ls' lsr' → W p l e R s m args below meth c H locs cells slots Q (F0 m pc' lsr' (st'.map (zrv sz b)))) → W p l e R s m args below meth c H locs cells slots Q (F0 m pc lsr (st.map (zrv sz b)))) :
    zStp K sz b L xs D tc l x pc ls st M pc' ls' st' M := by
  refine ⟨Nat.le_refl _, Nat.le_refl _, fun h => hl.trans h, fun p e R s m args below meth c H locs cells slots Q lsr hC hH hS hL hR ho hs _ _ k => ?_⟩
  refine hw p e R s m args below meth c H locs cells slots Q lsr hC (zlv_has hR) ho hs fun lsr' h => ?_
  have k2 := k H locs lsr' hH hS h (hok ho hs).1 (hok ho hs).2
  rw [Nat.sub_self, Nat.sub_self] at k2
  exact k2
theorem zp_istore {pc k : Nat} {ls : zLs} {st : List zV} {M : zM} {u : Int} (hd : decode (zxB x) pc = .ok (.istore k, 2)) (hk : k < ls.length) : zStp K sz b L xs D tc l x pc ls (.inl u :: st) M (pc + 2) (zst ls k (.inl u)) st M :=
  zStp_ls (zst_len _ _ _) (fun ho hs => ⟨zst_okl ho (zoks_hd hs), zoks_tl hs⟩) fun p e R s m args below meth c H locs cells slots Q lsr hC hl ho hs q => lv_istore hC.1 hC.2.1 hd hl hk rfl fun ls' h => q ls' (zst_LR (v0 := .inl u) h)
theorem zp_istoren {pc : Nat} {k : Fin 4} {ls : zLs} {st : List zV} {M : zM} {u : Int} (hd : decode (zxB x) pc = .ok (.istore_n k, 1)) (hk : k.val < ls.length) : zStp K sz b L xs D tc l x pc ls (.inl u :: st) M (pc + 1) (zst ls k.val (.inl u)) st M :=
  zStp_ls (zst_len _ _ _) (fun ho hs => ⟨zst_okl ho (zoks_hd hs), zoks_tl hs⟩) fun p e R s m args below meth c H locs cells slots Q lsr hC hl ho hs q => lv_istore_n hC.1 hC.2.1 hd rfl hl hk rfl fun ls' h => q ls' (zst_LR (v0 := .inl u) h)
theorem zp_lstore {pc k : Nat} {ls : zLs} {st : List zV} {M : zM} {u : Int64} (hd : decode (zxB x) pc = .ok (.lstore k, 2)) (hk : k + 1 < ls.length) : zStp K sz b L xs D tc l x pc ls (.inr (.inl u) :: st) M (pc + 2) ((zst ls k (.inr (.inl u))).set (k + 1) none) st M :=
  zStp_ls (by rw [List.length_set, zst_len]) (fun ho hs => ⟨zset_okl (zst_okl ho (zoks_hd hs)), zoks_tl hs⟩) fun p e R s m args below meth c H locs cells slots Q lsr hC hl ho hs q => lv_lstore hC.1 hC.2.1 hd hl hk rfl fun ls' h => q ls' (zst_LR2 (v0 := .inr (.inl u)) h)
theorem zp_lstoren {pc : Nat} {k : Fin 4} {ls : zLs} {st : List zV} {M : zM} {u : Int64} (hd : decode (zxB x) pc = .ok (.lstore_n k, 1)) (hk : k.val + 1 < ls.length) : zStp K sz b L xs D tc l x pc ls (.inr (.inl u) :: st) M (pc + 1) ((zst ls k.val (.inr (.inl u))).set (k.val + 1) none) st M :=
  zStp_ls (by rw [List.length_set, zst_len]) (fun ho hs => ⟨zset_okl (zst_okl ho (zoks_hd hs)), zoks_tl hs⟩) fun p e R s m args below meth c H locs cells slots Q lsr hC hl ho hs q => lv_lstore_n hC.1 hC.2.1 hd rfl hl hk rfl fun ls' h => q ls' (zst_LR2 (v0 := .inr (.inl u)) h)
theorem zp_astore {pc k : Nat} {ls : zLs} {st : List zV} {M : zM} {a : Nat} (hd : decode (zxB x) pc = .ok (.astore k, 2)) (hk : k < ls.length) : zStp K sz b L xs D tc l x pc ls (.inr (.inr a) :: st) M (pc + 2) (zst ls k (.inr (.inr a))) st M :=
  zStp_ls (zst_len _ _ _) (fun ho hs => ⟨zst_okl ho (zoks_hd hs), zoks_tl hs⟩) fun p e R s m args below meth c H locs cells slots Q lsr hC hl ho hs q => by
    rw [List.map_cons, zrv_ref (zoks_hd hs)]
    exact lv_astore hC.1 hC.2.1 hd hl hk rfl fun ls' h => q ls' (zst_LR (v0 := .inr (.inr a)) (by rw [zrv_ref (zoks_hd hs)]; exact h))
theorem zp_astoren {pc : Nat} {k : Fin 4} {ls : zLs} {st : List zV} {M : zM} {a : Nat} (hd : decode (zxB x) pc = .ok (.astore_n k, 1)) (hk : k.val < ls.length) : zStp K sz b L xs D tc l x pc ls (.inr (.inr a) :: st) M (pc + 1) (zst ls k.val (.inr (.inr a))) st M :=
  zStp_ls (zst_len _ _ _) (fun ho hs => ⟨zst_okl ho (zoks_hd hs), zoks_tl hs⟩) fun p e R s m args below meth c H locs cells slots Q lsr hC hl ho hs q => by
    rw [List.map_cons, zrv_ref (zoks_hd hs)]
    exact lv_astore_n hC.1 hC.2.1 hd rfl hl hk rfl fun ls' h => q ls' (zst_LR (v0 := .inr (.inr a)) (by rw [zrv_ref (zoks_hd hs)]; exact h))
theorem zp_iinc {pc k : Nat} {v : Int} {ls : zLs} {st : List zV} {M : zM} {u : Int} (hd : decode (zxB x) pc = .ok (.iinc k v, 3)) (hk : ls[k]? = some (some (.inl u))) (hr : zr32 (u + v)) : zStp K sz b L xs D tc l x pc ls st M (pc + 3) (zst ls k (.inl (u + v))) st M :=
  zStp_ls (zst_len _ _ _) (fun ho hs => ⟨zst_okl ho hr, hs⟩) fun p e R s m args below meth c H locs cells slots Q lsr hC hl ho hs q => by
    obtain ⟨i, hi⟩ := List.getElem?_of_mem (zlv_mem.mpr ⟨_, hk, rfl⟩ : (k, zrv sz b (.inl u)) ∈ zlv sz b ls)
    exact lv_iinc hC.1 hC.2.1 hd hl hi (Int32.ofInt_add u v).symm (List.getElem?_eq_some_iff.mp hk).1 rfl fun ls' h => q ls' (zst_LR (v0 := .inl (u + v)) h)
end ZL2
