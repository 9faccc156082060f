/-! each instruction of the interpreter is the machine's -/
section ZS
variable {p : Program} {l : Launch} {e : Env} {R : Room} {s : State} {m : MethodId} {args : Array Value} {below : List Frame} {meth : Method} {c : Code} {H : Heap} {locs : List Loc} {cells slots : Nat} {Q : State → Prop}
variable {K : Nat → Nat × Nat} {sz b L : Nat} {xs : Nat → Int32} {D : va_G} {tc : Nat → ClassId} {x : zMI}
def zCtx (sz b L : Nat) (xs : Nat → Int32) (D : va_G) (tc : Nat → ClassId) (x : zMI) (p : Program) (l : Launch) (R : Room) (s : State) (m : MethodId) (meth : Method) (c : Code) : Prop :=
  p.tables.exec = Jvm.exec ∧ c.code = zxB x ∧ c.maxLocals = zxL x ∧ meth.sig.returnType = zxT x ∧ meth.locks = false ∧ c.exceptionTable.toList = tableOf (zxH x) ∧ s.vm.findClass (zcn x.1) = some m.cls ∧ (zxI x = true → meth.name = "<init>") ∧ zWLD sz b L xs D tc s ∧ zxR x + 2 ≤ R.frames ∧ 33 * zxR x + 60 ≤ R.locals ∧ l.stackTraces = false
/-- W here by W there -/
def zStp (K : Nat → Nat × Nat) (sz b L : Nat) (xs : Nat → Int32) (D : va_G) (tc : Nat → ClassId) (l : Launch) (x : zMI) (pc : Nat) (ls : zLs) (st : List zV) (M : zM) (pc' : Nat) (ls' : zLs) (st' : List zV) (M' : zM) : Prop :=
  M.1.2.2.1 ≤ M'.1.2.2.1 ∧ M.1.2.2.2 ≤ M'.1.2.2.2 ∧ (ls.length = zxL x → ls'.length = zxL x) ∧
  ∀ (p : Program) (e : Env) (R : Room) (s : State) (m : MethodId) (args : Array Value) (below : List Frame) (meth : Method) (c : Code) (H : Heap) (locs : List Loc) (cells slots : Nat) (Q : State → Prop) (lsr : Array Slot),
    zCtx sz b L xs D tc x p l R s m meth c → zHeap K sz b L xs D tc M H → va_S (zA sz) s.heap H locs → ls.length = zxL x → zLR sz b ls lsr → zokl M.1.1 ls → zoks M.1.1 st →
    cells + (M'.1.2.2.1 - M.1.2.2.1) ≤ R.cells → slots + (M'.1.2.2.2 - M.1.2.2.2) ≤ R.slots →
    (∀ (H' : Heap) (locs' : List Loc) (lsr' : Array Slot), zHeap K sz b L xs D tc M' H' → va_S (zA sz) s.heap H' locs' → zLR sz b ls' lsr' → zokl M'.1.1 ls' → zoks M'.1.1 st' →
      W p l e R s m args below meth c H' locs' (cells + (M'.1.2.2.1 - M.1.2.2.1)) (slots + (M'.1.2.2.2 - M.1.2.2.2)) Q (F0 m pc' lsr' (st'.map (zrv sz b)))) →
    W p l e R s m args below meth c H locs cells slots Q (F0 m pc lsr (st.map (zrv sz b)))
/-- an instruction that moves the stack alone -/
theorem zStp_st {pc : Nat} {ls : zLs} {st : List zV} {M : zM} {pc' : Nat} {st' : List zV} (hok : zokl M.1.1 ls → (∀ a i, zr32 (M.2.1 a i)) → zoks M.1.1 st → zoks M.1.1 st')
    (hw : ∀ (p : Program) (e : Env) (R : Room) (s : State) (m : MethodId) (args : Array Value) (below : List Frame) (meth : Method) (c : Code) (H : Heap) (locs : List Loc) (cells slots : Nat) (Q : State → Prop) (lsr : Array Slot),
      zCtx sz b L xs D tc x p l R s m meth c → zHeap K sz b L xs D tc M H → va_S (zA sz) s.heap H locs → ls.length = zxL x → zLR sz b ls lsr → zokl M.1.1 ls → zoks M.1.1 st →
      W p l e R s m args below meth c H locs cells slots Q (F0 m pc' lsr (st'.map (zrv sz b))) → W p l e R s m args below meth c H locs cells slots Q (F0 m pc lsr (st.map (zrv sz b)))) :
    zStp K sz b L xs D tc l x pc ls st M pc' ls st' M := by
  refine ⟨Nat.le_refl _, Nat.le_refl _, fun h => h, fun p e R s m args below meth c H locs cells slots Q lsr hC hH hS hL hR ho hs _ _ k => ?_⟩
  refine hw p e R s m args below meth c H locs cells slots Q lsr hC hH hS hL hR ho hs ?_
  have k2 := k H locs lsr hH hS hR ho (hok ho hH.2.2.2.1 hs)
  rw [Nat.sub_self, Nat.sub_self] at k2
  exact k2
theorem zoks_tl {nx : Nat} {v : zV} {st : List zV} (h : zoks nx (v :: st)) : zoks nx st := fun w hw => h w (List.mem_cons_of_mem _ hw)
theorem zoks_hd {nx : Nat} {v : zV} {st : List zV} (h : zoks nx (v :: st)) : zok nx v := h v List.mem_cons_self
theorem zoks_cons {nx : Nat} {v : zV} {st : List zV} (h1 : zok nx v) (h2 : zoks nx st) : zoks nx (v :: st) := fun w hw => (List.mem_cons.mp hw).elim (fun q => by rw [q]; exact h1) (h2 w)
theorem zi32 {y : Int} (h : zr32 y) : (Int32.ofInt y).toInt = y := Int32.toInt_ofInt_of_le (by have := h.1; omega) (by have := h.2; omega)
theorem zi32c {y : Int} (h : 0 ≤ y) (h2 : zr32 y) : (Int32.ofInt y).toNatClampNeg = y.toNat := by
  show (Int32.ofInt y).toInt.toNat = y.toNat
  rw [zi32 h2]
theorem zr_of (w : Int32) : zr32 w.toInt := ⟨by have := Int32.le_toInt w; omega, by have := Int32.toInt_lt w; omega⟩
theorem zin_of {j : Int} {n : Nat} (h0 : 0 ≤ j) (hn : j < n) (h2 : zr32 j) : vp_in (Int32.ofInt j) n := by
  unfold vp_in
  rw [zi32c h0 h2, Int32.lt_iff_toInt_lt, zi32 h2]
  show ¬ (j < (0 : Int32).toInt ∨ _)
  rw [show (0 : Int32).toInt = 0 from rfl]
  omega
theorem zle {u v : Int} (hu : zr32 u) (hv : zr32 v) : Int32.ofInt u ≤ Int32.ofInt v ↔ u ≤ v := by rw [Int32.le_iff_toInt_le, zi32 hu, zi32 hv]
theorem zlt {u v : Int} (hu : zr32 u) (hv : zr32 v) : Int32.ofInt u < Int32.ofInt v ↔ u < v := by rw [Int32.lt_iff_toInt_lt, zi32 hu, zi32 hv]
theorem zeq {u v : Int} (hu : zr32 u) (hv : zr32 v) : Int32.ofInt u = Int32.ofInt v ↔ u = v := by rw [← Int32.toInt_inj, zi32 hu, zi32 hv]
theorem z0r : zr32 0 := ⟨by decide, by decide⟩
theorem z0 : (0 : Int32) = Int32.ofInt 0 := rfl
-- constants
theorem zp_iconst {pc : Nat} {ls : zLs} {st : List zV} {M : zM} {v : Int} (hd : decode (zxB x) pc = .ok (.iconst v, 1)) (hr : zr32 v) : zStp K sz b L xs D tc l x pc ls st M (pc + 1) ls (.inl v :: st) M :=
  zStp_st (fun _ _ hs => zoks_cons hr hs) fun p e R s m args below meth c H locs cells slots Q lsr hC hH hS hL hR ho hs k => lv_iconst hC.1 hC.2.1 hd rfl k
theorem zp_bipush {pc : Nat} {ls : zLs} {st : List zV} {M : zM} {v : Int} (hd : decode (zxB x) pc = .ok (.bipush v, 2)) (hr : -128 ≤ v ∧ v ≤ 127) : zStp K sz b L xs D tc l x pc ls st M (pc + 2) ls (.inl v :: st) M :=
  zStp_st (fun _ _ hs => zoks_cons ⟨by omega, by omega⟩ hs) fun p e R s m args below meth c H locs cells slots Q lsr hC hH hS hL hR ho hs k => lv_bipush hC.1 hC.2.1 hd (by
    rw [← Int32.toInt_inj, Int8.toInt_toInt32, Int8.toInt_ofInt_of_le (by omega) (by omega), zi32 ⟨by omega, by omega⟩]) k
theorem zp_sipush {pc : Nat} {ls : zLs} {st : List zV} {M : zM} {v : Int} (hd : decode (zxB x) pc = .ok (.sipush v, 3)) (hr : -32768 ≤ v ∧ v ≤ 32767) : zStp K sz b L xs D tc l x pc ls st M (pc + 3) ls (.inl v :: st) M :=
  zStp_st (fun _ _ hs => zoks_cons ⟨by omega, by omega⟩ hs) fun p e R s m args below meth c H locs cells slots Q lsr hC hH hS hL hR ho hs k => lv_sipush hC.1 hC.2.1 hd (by
    rw [← Int32.toInt_inj, Int16.toInt_toInt32, Int16.toInt_ofInt_of_le (by omega) (by omega), zi32 ⟨by omega, by omega⟩]) k
theorem zp_ldc {pc k : Nat} {ls : zLs} {st : List zV} {M : zM} {v : Int} (hd : decode (zxB x) pc = .ok (.ldc k, 2)) (hk : zlk zcstT x.1 k = some v) : zStp K sz b L xs D tc l x pc ls st M (pc + 2) ls (.inl v :: st) M := by
  have h1 : zcstP ((x.1, k), v) := zcst_ok _ (zlk_mem hk)
  exact zStp_st (fun _ _ hs => zoks_cons ⟨h1.1, h1.2.1⟩ hs) fun p e R s m args below meth c H locs cells slots Q lsr hC hH hS hL hR ho hs k => lv_ldc hC.1 hC.2.1 hC.2.2.2.2.2.2.1 (zword hC.2.2.2.2.2.2.2.2.1 h1.2.2 rfl args) hd k
theorem zp_ldcw {pc k : Nat} {ls : zLs} {st : List zV} {M : zM} {v : Int} (hd : decode (zxB x) pc = .ok (.ldc_w k, 3)) (hk : zlk zcstT x.1 k = some v) : zStp K sz b L xs D tc l x pc ls st M (pc + 3) ls (.inl v :: st) M := by
  have h1 : zcstP ((x.1, k), v) := zcst_ok _ (zlk_mem hk)
  exact zStp_st (fun _ _ hs => zoks_cons ⟨h1.1, h1.2.1⟩ hs) fun p e R s m args below meth c H locs cells slots Q lsr hC hH hS hL hR ho hs k => lv_ldcw hC.1 hC.2.1 hC.2.2.2.2.2.2.1 (zword hC.2.2.2.2.2.2.2.2.1 h1.2.2 rfl args) hd k
theorem zp_lconst {pc : Nat} {ls : zLs} {st : List zV} {M : zM} {v : Fin 2} (hd : decode (zxB x) pc = .ok (.lconst v, 1)) : zStp K sz b L xs D tc l x pc ls st M (pc + 1) ls (.inr (.inl (Int64.ofInt (v.val : Int))) :: st) M :=
  zStp_st (fun _ _ hs => zoks_cons trivial hs) fun p e R s m args below meth c H locs cells slots Q lsr hC hH hS hL hR ho hs k => lv_lconst hC.1 hC.2.1 hd rfl k
theorem zp_ldc2 {pc k : Nat} {ls : zLs} {st : List zV} {M : zM} {v : Int64} (hd : decode (zxB x) pc = .ok (.ldc2_w k, 3)) (hk : zlk zcstlT x.1 k = some v) : zStp K sz b L xs D tc l x pc ls st M (pc + 3) ls (.inr (.inl (Int64.ofInt v.toInt)) :: st) M := by
  have h1 : zcstlP ((x.1, k), v) := zcstl_ok _ (zlk_mem hk)
  rw [Int64.ofInt_toInt]
  exact zStp_st (fun _ _ hs => zoks_cons trivial hs) fun p e R s m args below meth c H locs cells slots Q lsr hC hH hS hL hR ho hs k => lv_ldc2 hC.1 hC.2.1 hC.2.2.2.2.2.2.1 (zword hC.2.2.2.2.2.2.2.2.1 h1 rfl args) hd k
-- arithmetic
theorem zp_iadd {pc : Nat} {ls : zLs} {st : List zV} {M : zM} {u v : Int} (hd : decode (zxB x) pc = .ok (.iadd, 1)) (hr : zr32 (u + v)) : zStp K sz b L xs D tc l x pc ls (.inl v :: .inl u :: st) M (pc + 1) ls (.inl (u + v) :: st) M :=
  zStp_st (fun _ _ hs => zoks_cons hr (zoks_tl (zoks_tl hs))) fun p e R s m args below meth c H locs cells slots Q lsr hC hH hS hL hR ho hs k => lv_iadd hC.1 hC.2.1 hd (by rw [← Int32.ofInt_add]; exact k)
theorem zp_isub {pc : Nat} {ls : zLs} {st : List zV} {M : zM} {u v : Int} (hd : decode (zxB x) pc = .ok (.isub, 1)) (hr : zr32 (u - v)) : zStp K sz b L xs D tc l x pc ls (.inl v :: .inl u :: st) M (pc + 1) ls (.inl (u - v) :: st) M :=
  zStp_st (fun _ _ hs => zoks_cons hr (zoks_tl (zoks_tl hs))) fun p e R s m args below meth c H locs cells slots Q lsr hC hH hS hL hR ho hs k => lv_isub hC.1 hC.2.1 hd (by rw [← Int32.ofInt_sub]; exact k)
theorem zp_imul {pc : Nat} {ls : zLs} {st : List zV} {M : zM} {u v : Int} (hd : decode (zxB x) pc = .ok (.imul, 1)) (hr : zr32 (u * v)) : zStp K sz b L xs D tc l x pc ls (.inl v :: .inl u :: st) M (pc + 1) ls (.inl (u * v) :: st) M :=
  zStp_st (fun _ _ hs => zoks_cons hr (zoks_tl (zoks_tl hs))) fun p e R s m args below meth c H locs cells slots Q lsr hC hH hS hL hR ho hs k => lv_imul hC.1 hC.2.1 hd (by rw [← Int32.ofInt_mul]; exact k)
theorem zp_ineg {pc : Nat} {ls : zLs} {st : List zV} {M : zM} {u : Int} (hd : decode (zxB x) pc = .ok (.ineg, 1)) (hr : zr32 (-u)) : zStp K sz b L xs D tc l x pc ls (.inl u :: st) M (pc + 1) ls (.inl (-u) :: st) M :=
  zStp_st (fun _ _ hs => zoks_cons hr (zoks_tl hs)) fun p e R s m args below meth c H locs cells slots Q lsr hC hH hS hL hR ho hs k => lv_ineg hC.1 hC.2.1 hd (by
    have e1 : (.int (Int32.ofInt (-u)) : Value) = .int (0 - Int32.ofInt u) := by rw [Int32.ofInt_neg, Int32.zero_sub]
    first | exact k | (rw [← e1]; exact k) | (rw [← Int32.ofInt_neg]; exact k))
theorem zdiv_r {u v : Int} (hu : zr32 u) (hv : v ≠ 0 ∧ (v = -1 → -2147483648 < u)) : zr32 (u.tdiv v) := by
  by_cases h1 : v = -1
  · subst h1
    have h2 := hv.2 rfl
    have h3 : u.tdiv (-1) = -u := by rw [Int.tdiv_neg, Int.tdiv_one]
    rw [h3]
    have := hu.1; have := hu.2
    exact ⟨by omega, by omega⟩
  · have h1 : (u.tdiv v).natAbs ≤ u.natAbs := by rw [Int.natAbs_tdiv]; exact Nat.div_le_self _ _
    by_cases hc : u = -2147483648
    · subst hc
      by_cases h1v : v = 1
      · subst h1v; rw [Int.tdiv_one]; exact hu
      have h2 : ((-2147483648 : Int).tdiv v).natAbs ≤ 1073741824 := by
        rw [Int.natAbs_tdiv]
        have h3 : 2 ≤ v.natAbs := by obtain ⟨hv1, -⟩ := hv; omega
        calc (-2147483648 : Int).natAbs / v.natAbs ≤ 2147483648 / 2 := Nat.div_le_div_left h3 (by decide)
          _ = 1073741824 := rfl
      exact ⟨by omega, by omega⟩
    · have := hu.1; have := hu.2
      exact ⟨by omega, by omega⟩
theorem zp_idiv {pc : Nat} {ls : zLs} {st : List zV} {M : zM} {u v : Int} (hd : decode (zxB x) pc = .ok (.idiv, 1)) (hr : v ≠ 0 ∧ (v = -1 → -2147483648 < u)) : zStp K sz b L xs D tc l x pc ls (.inl v :: .inl u :: st) M (pc + 1) ls (.inl (u.tdiv v) :: st) M :=
  zStp_st (fun _ _ hs => zoks_cons (zdiv_r (zoks_hd (zoks_tl hs)) hr) (zoks_tl (zoks_tl hs))) fun p e R s m args below meth c H locs cells slots Q lsr hC hH hS hL hR ho hs k => by
    have hu : zr32 u := zoks_hd (zoks_tl hs)
    have hv : zr32 v := zoks_hd hs
    refine lv_idiv hC.1 hC.2.1 hd (fun h => hr.1 ((zeq hv z0r).mp h)) ?_
    rw [← Int32.ofInt_tdiv hu.1 hu.2 hv.1 hv.2]
    exact k
theorem zp_irem {pc : Nat} {ls : zLs} {st : List zV} {M : zM} {u v : Int} (hd : decode (zxB x) pc = .ok (.irem, 1)) (hr : v ≠ 0 ∧ (v = -1 → -2147483648 < u)) : zStp K sz b L xs D tc l x pc ls (.inl v :: .inl u :: st) M (pc + 1) ls (.inl (u.tmod v) :: st) M := by
  have key : ∀ {u v : Int}, zr32 u → zr32 v → (Int32.ofInt u - Int32.ofInt u / Int32.ofInt v * Int32.ofInt v).toInt = u.tmod v := fun hu hv => by rw [rem_toInt, zi32 hu, zi32 hv]
  exact zStp_st (fun _ _ hs => zoks_cons (by
      have h := zr_of (Int32.ofInt u - Int32.ofInt u / Int32.ofInt v * Int32.ofInt v)
      rw [key (zoks_hd (zoks_tl hs)) (zoks_hd hs)] at h
      exact h) (zoks_tl (zoks_tl hs))) fun p e R s m args below meth c H locs cells slots Q lsr hC hH hS hL hR ho hs k => by
    have hu : zr32 u := zoks_hd (zoks_tl hs)
    have hv : zr32 v := zoks_hd hs
    refine lv_irem hC.1 hC.2.1 hd (fun h => hr.1 ((zeq hv z0r).mp h)) ?_
    have e1 : Int32.ofInt (u.tmod v) = Int32.ofInt u - Int32.ofInt u / Int32.ofInt v * Int32.ofInt v := by rw [← key hu hv, Int32.ofInt_toInt]
    rw [← e1]
    exact k
theorem zp_iand {pc : Nat} {ls : zLs} {st : List zV} {M : zM} {u v : Int} (hd : decode (zxB x) pc = .ok (.iand, 1)) : zStp K sz b L xs D tc l x pc ls (.inl v :: .inl u :: st) M (pc + 1) ls (.inl (Int32.ofInt u &&& Int32.ofInt v).toInt :: st) M :=
  zStp_st (fun _ _ hs => zoks_cons (zr_of _) (zoks_tl (zoks_tl hs))) fun p e R s m args below meth c H locs cells slots Q lsr hC hH hS hL hR ho hs k => lv_iand hC.1 hC.2.1 hd (by
    have e1 : zrv sz b (.inl (Int32.ofInt u &&& Int32.ofInt v).toInt) = .int (Int32.ofInt u &&& Int32.ofInt v) := by show Value.int _ = _; rw [Int32.ofInt_toInt]
    rw [List.map_cons, e1] at k
    exact k)
theorem zp_ior {pc : Nat} {ls : zLs} {st : List zV} {M : zM} {u v : Int} (hd : decode (zxB x) pc = .ok (.ior, 1)) : zStp K sz b L xs D tc l x pc ls (.inl v :: .inl u :: st) M (pc + 1) ls (.inl (Int32.ofInt u ||| Int32.ofInt v).toInt :: st) M :=
  zStp_st (fun _ _ hs => zoks_cons (zr_of _) (zoks_tl (zoks_tl hs))) fun p e R s m args below meth c H locs cells slots Q lsr hC hH hS hL hR ho hs k => lv_ior hC.1 hC.2.1 hd (by
    have e1 : zrv sz b (.inl (Int32.ofInt u ||| Int32.ofInt v).toInt) = .int (Int32.ofInt u ||| Int32.ofInt v) := by show Value.int _ = _; rw [Int32.ofInt_toInt]
    rw [List.map_cons, e1] at k
    exact k)
theorem zp_ixor {pc : Nat} {ls : zLs} {st : List zV} {M : zM} {u v : Int} (hd : decode (zxB x) pc = .ok (.ixor, 1)) : zStp K sz b L xs D tc l x pc ls (.inl v :: .inl u :: st) M (pc + 1) ls (.inl (Int32.ofInt u ^^^ Int32.ofInt v).toInt :: st) M :=
  zStp_st (fun _ _ hs => zoks_cons (zr_of _) (zoks_tl (zoks_tl hs))) fun p e R s m args below meth c H locs cells slots Q lsr hC hH hS hL hR ho hs k => lv_ixor hC.1 hC.2.1 hd (by
    have e1 : zrv sz b (.inl (Int32.ofInt u ^^^ Int32.ofInt v).toInt) = .int (Int32.ofInt u ^^^ Int32.ofInt v) := by show Value.int _ = _; rw [Int32.ofInt_toInt]
    rw [List.map_cons, e1] at k
    exact k)
theorem zp_ishl {pc : Nat} {ls : zLs} {st : List zV} {M : zM} {u v : Int} (hd : decode (zxB x) pc = .ok (.ishl, 1)) : zStp K sz b L xs D tc l x pc ls (.inl v :: .inl u :: st) M (pc + 1) ls (.inl (Int32.ofInt u <<< (Int32.ofInt v &&& 31)).toInt :: st) M :=
  zStp_st (fun _ _ hs => zoks_cons (zr_of _) (zoks_tl (zoks_tl hs))) fun p e R s m args below meth c H locs cells slots Q lsr hC hH hS hL hR ho hs k => lv_ishl hC.1 hC.2.1 hd (by
    have e1 : zrv sz b (.inl (Int32.ofInt u <<< (Int32.ofInt v &&& 31)).toInt) = .int (Int32.ofInt u <<< (Int32.ofInt v &&& 31)) := by show Value.int _ = _; rw [Int32.ofInt_toInt]
    rw [List.map_cons, e1] at k
    exact k)
theorem zp_ishr {pc : Nat} {ls : zLs} {st : List zV} {M : zM} {u v : Int} (hd : decode (zxB x) pc = .ok (.ishr, 1)) : zStp K sz b L xs D tc l x pc ls (.inl v :: .inl u :: st) M (pc + 1) ls (.inl (Int32.ofInt u >>> (Int32.ofInt v &&& 31)).toInt :: st) M :=
  zStp_st (fun _ _ hs => zoks_cons (zr_of _) (zoks_tl (zoks_tl hs))) fun p e R s m args below meth c H locs cells slots Q lsr hC hH hS hL hR ho hs k => lv_ishr hC.1 hC.2.1 hd (by
    have e1 : zrv sz b (.inl (Int32.ofInt u >>> (Int32.ofInt v &&& 31)).toInt) = .int (Int32.ofInt u >>> (Int32.ofInt v &&& 31)) := by show Value.int _ = _; rw [Int32.ofInt_toInt]
    rw [List.map_cons, e1] at k
    exact k)
theorem zp_ladd {pc : Nat} {ls : zLs} {st : List zV} {M : zM} {u v : Int64} (hd : decode (zxB x) pc = .ok (.ladd, 1)) : zStp K sz b L xs D tc l x pc ls (.inr (.inl v) :: .inr (.inl u) :: st) M (pc + 1) ls (.inr (.inl (u + v)) :: st) M :=
  zStp_st (fun _ _ hs => zoks_cons trivial (zoks_tl (zoks_tl hs))) fun p e R s m args below meth c H locs cells slots Q lsr hC hH hS hL hR ho hs k => lv_ladd hC.1 hC.2.1 hd k
theorem zp_lmul {pc : Nat} {ls : zLs} {st : List zV} {M : zM} {u v : Int64} (hd : decode (zxB x) pc = .ok (.lmul, 1)) : zStp K sz b L xs D tc l x pc ls (.inr (.inl v) :: .inr (.inl u) :: st) M (pc + 1) ls (.inr (.inl (u * v)) :: st) M :=
  zStp_st (fun _ _ hs => zoks_cons trivial (zoks_tl (zoks_tl hs))) fun p e R s m args below meth c H locs cells slots Q lsr hC hH hS hL hR ho hs k => lv_lmul hC.1 hC.2.1 hd k
theorem zp_ldiv {pc : Nat} {ls : zLs} {st : List zV} {M : zM} {u v : Int64} (hd : decode (zxB x) pc = .ok (.ldiv, 1)) (hv : v ≠ 0) : zStp K sz b L xs D tc l x pc ls (.inr (.inl v) :: .inr (.inl u) :: st) M (pc + 1) ls (.inr (.inl (u / v)) :: st) M :=
  zStp_st (fun _ _ hs => zoks_cons trivial (zoks_tl (zoks_tl hs))) fun p e R s m args below meth c H locs cells slots Q lsr hC hH hS hL hR ho hs k => lv_ldiv hC.1 hC.2.1 hd hv k
theorem zp_land {pc : Nat} {ls : zLs} {st : List zV} {M : zM} {u v : Int64} (hd : decode (zxB x) pc = .ok (.land, 1)) : zStp K sz b L xs D tc l x pc ls (.inr (.inl v) :: .inr (.inl u) :: st) M (pc + 1) ls (.inr (.inl (u &&& v)) :: st) M :=
  zStp_st (fun _ _ hs => zoks_cons trivial (zoks_tl (zoks_tl hs))) fun p e R s m args below meth c H locs cells slots Q lsr hC hH hS hL hR ho hs k => lv_land hC.1 hC.2.1 hd k
theorem zp_lor {pc : Nat} {ls : zLs} {st : List zV} {M : zM} {u v : Int64} (hd : decode (zxB x) pc = .ok (.lor, 1)) : zStp K sz b L xs D tc l x pc ls (.inr (.inl v) :: .inr (.inl u) :: st) M (pc + 1) ls (.inr (.inl (u ||| v)) :: st) M :=
  zStp_st (fun _ _ hs => zoks_cons trivial (zoks_tl (zoks_tl hs))) fun p e R s m args below meth c H locs cells slots Q lsr hC hH hS hL hR ho hs k => lv_lor hC.1 hC.2.1 hd k
theorem zp_lxor {pc : Nat} {ls : zLs} {st : List zV} {M : zM} {u v : Int64} (hd : decode (zxB x) pc = .ok (.lxor, 1)) : zStp K sz b L xs D tc l x pc ls (.inr (.inl v) :: .inr (.inl u) :: st) M (pc + 1) ls (.inr (.inl (u ^^^ v)) :: st) M :=
  zStp_st (fun _ _ hs => zoks_cons trivial (zoks_tl (zoks_tl hs))) fun p e R s m args below meth c H locs cells slots Q lsr hC hH hS hL hR ho hs k => lv_lxor hC.1 hC.2.1 hd k
theorem zp_lshl {pc : Nat} {ls : zLs} {st : List zV} {M : zM} {u : Int64} {v : Int} (hd : decode (zxB x) pc = .ok (.lshl, 1)) : zStp K sz b L xs D tc l x pc ls (.inl v :: .inr (.inl u) :: st) M (pc + 1) ls (.inr (.inl (u <<< ((Int32.ofInt v).toInt64 &&& 63))) :: st) M :=
  zStp_st (fun _ _ hs => zoks_cons trivial (zoks_tl (zoks_tl hs))) fun p e R s m args below meth c H locs cells slots Q lsr hC hH hS hL hR ho hs k => lv_lshl hC.1 hC.2.1 hd rfl k
theorem zp_lshr {pc : Nat} {ls : zLs} {st : List zV} {M : zM} {u : Int64} {v : Int} (hd : decode (zxB x) pc = .ok (.lshr, 1)) : zStp K sz b L xs D tc l x pc ls (.inl v :: .inr (.inl u) :: st) M (pc + 1) ls (.inr (.inl (u >>> ((Int32.ofInt v).toInt64 &&& 63))) :: st) M :=
  zStp_st (fun _ _ hs => zoks_cons trivial (zoks_tl (zoks_tl hs))) fun p e R s m args below meth c H locs cells slots Q lsr hC hH hS hL hR ho hs k => lv_lshr hC.1 hC.2.1 hd rfl k
theorem zp_i2l {pc : Nat} {ls : zLs} {st : List zV} {M : zM} {v : Int} (hd : decode (zxB x) pc = .ok (.i2l, 1)) : zStp K sz b L xs D tc l x pc ls (.inl v :: st) M (pc + 1) ls (.inr (.inl (Int32.ofInt v).toInt64) :: st) M :=
  zStp_st (fun _ _ hs => zoks_cons trivial (zoks_tl hs)) fun p e R s m args below meth c H locs cells slots Q lsr hC hH hS hL hR ho hs k => lv_i2l hC.1 hC.2.1 hd rfl k
theorem zp_lcmp {pc : Nat} {ls : zLs} {st : List zV} {M : zM} {u v : Int64} (hd : decode (zxB x) pc = .ok (.lcmp, 1)) : zStp K sz b L xs D tc l x pc ls (.inr (.inl v) :: .inr (.inl u) :: st) M (pc + 1) ls (.inl (lg_cmp u v).toInt :: st) M :=
  zStp_st (fun _ _ hs => zoks_cons (zr_of _) (zoks_tl (zoks_tl hs))) fun p e R s m args below meth c H locs cells slots Q lsr hC hH hS hL hR ho hs k => W.lcmp hC.1 hC.2.1 hd (by
    have e1 : zrv sz b (.inl (lg_cmp u v).toInt) = .int (lg_cmp u v) := by show Value.int _ = _; rw [Int32.ofInt_toInt]
    rw [List.map_cons, e1] at k
    exact k)
theorem zp_dup {pc : Nat} {ls : zLs} {st : List zV} {M : zM} {v : zV} (hd : decode (zxB x) pc = .ok (.dup, 1)) (hc : zcat v = 1) : zStp K sz b L xs D tc l x pc ls (v :: st) M (pc + 1) ls (v :: v :: st) M :=
  zStp_st (fun _ _ hs => zoks_cons (zoks_hd hs) hs) fun p e R s m args below meth c H locs cells slots Q lsr hC hH hS hL hR ho hs k => lv_dup hC.1 hC.2.1 hd (by rw [zcat_rv]; exact hc) k
theorem zp_dup2 {pc : Nat} {ls : zLs} {st : List zV} {M : zM} {v w : zV} (hd : decode (zxB x) pc = .ok (.dup2, 1)) (hc : zcat v = 1 ∧ zcat w = 1) : zStp K sz b L xs D tc l x pc ls (v :: w :: st) M (pc + 1) ls (v :: w :: v :: w :: st) M :=
  zStp_st (fun _ _ hs => zoks_cons (zoks_hd hs) (zoks_cons (zoks_hd (zoks_tl hs)) hs)) fun p e R s m args below meth c H locs cells slots Q lsr hC hH hS hL hR ho hs k => lv_dup2_11 hC.1 hC.2.1 hd (by rw [zcat_rv]; exact hc.1) (by rw [zcat_rv]; exact hc.2) k
theorem zp_pop {pc : Nat} {ls : zLs} {st : List zV} {M : zM} {v : zV} (hd : decode (zxB x) pc = .ok (.pop, 1)) (hc : zcat v = 1) : zStp K sz b L xs D tc l x pc ls (v :: st) M (pc + 1) ls st M :=
  zStp_st (fun _ _ hs => zoks_tl hs) fun p e R s m args below meth c H locs cells slots Q lsr hC hH hS hL hR ho hs k => lv_pop hC.1 hC.2.1 hd (by rw [zcat_rv]; exact hc) k
theorem ztgE {pc : Nat} {off : Int} (h : 0 ≤ (pc : Int) + off) : (pc : Int) + off = (ztg pc off : Int) := by unfold ztg; omega
theorem zp_goto {pc : Nat} {ls : zLs} {st : List zV} {M : zM} {off : Int} (hd : decode (zxB x) pc = .ok (.goto off, 3)) (ho : 0 ≤ (pc : Int) + off) : zStp K sz b L xs D tc l x pc ls st M (ztg pc off) ls st M :=
  zStp_st (fun _ _ hs => hs) fun p e R s m args below meth c H locs cells slots Q lsr hC hH hS hL hR _ hs k => lv_goto hC.1 hC.2.1 hd (ztgE ho) k
theorem zp_if {pc : Nat} {ls : zLs} {st : List zV} {M : zM} {q : ClassFile.Cond} {off u : Int} (hd : decode (zxB x) pc = .ok (.ifCond q off, 3)) (ho : 0 ≤ (pc : Int) + off) : zStp K sz b L xs D tc l x pc ls (.inl u :: st) M (if zcond q u 0 = true then ztg pc off else pc + 3) ls st M :=
  zStp_st (fun _ _ hs => zoks_tl hs) fun p e R s m args below meth c H locs cells slots Q lsr hC hH hS hL hR _ hs k => by
    have hu : zr32 u := zoks_hd hs
    cases q
    · refine lv_if_eq hC.1 hC.2.1 hd (ztgE ho) (fun h => ?_) (fun h => ?_)
      · rw [if_pos (show zcond .eq u 0 = true from decide_eq_true ((zeq hu z0r).mp h))] at k; exact k
      · rw [if_neg (show ¬ zcond .eq u 0 = true from fun h2 => h ((zeq hu z0r).mpr (of_decide_eq_true h2)))] at k; exact k
    · refine lv_if_ne hC.1 hC.2.1 hd (ztgE ho) (fun h => ?_) (fun h => ?_)
      · rw [if_pos (show zcond .ne u 0 = true from decide_eq_true fun h2 => h ((zeq hu z0r).mpr h2))] at k; exact k
      · rw [if_neg (show ¬ zcond .ne u 0 = true from fun h2 => of_decide_eq_true h2 ((zeq hu z0r).mp h))] at k; exact k
    · refine lv_if_lt hC.1 hC.2.1 hd (ztgE ho) (fun h => ?_) (fun h => ?_)
      · rw [if_pos (show zcond .lt u 0 = true from decide_eq_true ((zlt hu z0r).mp h))] at k; exact k
      · rw [if_neg (show ¬ zcond .lt u 0 = true from fun h2 => h ((zlt hu z0r).mpr (of_decide_eq_true h2)))] at k; exact k
    · refine lv_if_ge hC.1 hC.2.1 hd (ztgE ho) (fun h => ?_) (fun h => ?_)
      · rw [if_pos (show zcond .ge u 0 = true from decide_eq_true ((zle z0r hu).mp h))] at k; exact k
      · rw [if_neg (show ¬ zcond .ge u 0 = true from fun h2 => h ((zle z0r hu).mpr (of_decide_eq_true h2)))] at k; exact k
    · refine lv_if_gt hC.1 hC.2.1 hd (ztgE ho) (fun h => ?_) (fun h => ?_)
      · rw [if_pos (show zcond .gt u 0 = true from decide_eq_true ((zlt z0r hu).mp h))] at k; exact k
      · rw [if_neg (show ¬ zcond .gt u 0 = true from fun h2 => h ((zlt z0r hu).mpr (of_decide_eq_true h2)))] at k; exact k
    · refine lv_if_le hC.1 hC.2.1 hd (ztgE ho) (fun h => ?_) (fun h => ?_)
      · rw [if_pos (show zcond .le u 0 = true from decide_eq_true ((zle hu z0r).mp h))] at k; exact k
      · rw [if_neg (show ¬ zcond .le u 0 = true from fun h2 => h ((zle hu z0r).mpr (of_decide_eq_true h2)))] at k; exact k
theorem zp_icmp {pc : Nat} {ls : zLs} {st : List zV} {M : zM} {q : ClassFile.Cond} {off u v : Int} (hd : decode (zxB x) pc = .ok (.if_icmp q off, 3)) (ho : 0 ≤ (pc : Int) + off) : zStp K sz b L xs D tc l x pc ls (.inl v :: .inl u :: st) M (if zcond q u v = true then ztg pc off else pc + 3) ls st M :=
  zStp_st (fun _ _ hs => zoks_tl (zoks_tl hs)) fun p e R s m args below meth c H locs cells slots Q lsr hC hH hS hL hR _ hs k => by
    have hv : zr32 v := zoks_hd hs
    have hu : zr32 u := zoks_hd (zoks_tl hs)
    cases q
    · refine lv_icmp_eq hC.1 hC.2.1 hd (ztgE ho) (fun h => ?_) (fun h => ?_)
      · rw [if_pos (show zcond .eq u v = true from decide_eq_true ((zeq hu hv).mp h))] at k; exact k
      · rw [if_neg (show ¬ zcond .eq u v = true from fun h2 => h ((zeq hu hv).mpr (of_decide_eq_true h2)))] at k; exact k
    · refine lv_icmp_ne hC.1 hC.2.1 hd (ztgE ho) (fun h => ?_) (fun h => ?_)
      · rw [if_pos (show zcond .ne u v = true from decide_eq_true fun h2 => h ((zeq hu hv).mpr h2))] at k; exact k
      · rw [if_neg (show ¬ zcond .ne u v = true from fun h2 => of_decide_eq_true h2 ((zeq hu hv).mp h))] at k; exact k
    · refine lv_icmp_lt hC.1 hC.2.1 hd (ztgE ho) (fun h => ?_) (fun h => ?_)
      · rw [if_pos (show zcond .lt u v = true from decide_eq_true ((zlt hu hv).mp h))] at k; exact k
      · rw [if_neg (show ¬ zcond .lt u v = true from fun h2 => h ((zlt hu hv).mpr (of_decide_eq_true h2)))] at k; exact k
    · refine lv_icmp_ge hC.1 hC.2.1 hd (ztgE ho) (fun h => ?_) (fun h => ?_)
      · rw [if_pos (show zcond .ge u v = true from decide_eq_true ((zle hv hu).mp h))] at k; exact k
      · rw [if_neg (show ¬ zcond .ge u v = true from fun h2 => h ((zle hv hu).mpr (of_decide_eq_true h2)))] at k; exact k
    · refine lv_icmp_gt hC.1 hC.2.1 hd (ztgE ho) (fun h => ?_) (fun h => ?_)
      · rw [if_pos (show zcond .gt u v = true from decide_eq_true ((zlt hv hu).mp h))] at k; exact k
      · rw [if_neg (show ¬ zcond .gt u v = true from fun h2 => h ((zlt hv hu).mpr (of_decide_eq_true h2)))] at k; exact k
    · refine lv_icmp_le hC.1 hC.2.1 hd (ztgE ho) (fun h => ?_) (fun h => ?_)
      · rw [if_pos (show zcond .le u v = true from decide_eq_true ((zle hu hv).mp h))] at k; exact k
      · rw [if_neg (show ¬ zcond .le u v = true from fun h2 => h ((zle hu hv).mpr (of_decide_eq_true h2)))] at k; exact k
theorem zp_tblOut {pc n : Nat} {ls : zLs} {st : List zV} {M : zM} {d lo hi u : Int} {offs : Array Int} (hd : decode (zxB x) pc = .ok (.tableswitch d lo hi offs, n)) (ho : 0 ≤ (pc : Int) + d) (hu : u < lo ∨ hi < u) : zStp K sz b L xs D tc l x pc ls (.inl u :: st) M ((pc : Int) + d).toNat ls st M :=
  zStp_st (fun _ _ hs => zoks_tl hs) fun p e R s m args below meth c H locs cells slots Q lsr hC hH hS hL hR _ hs k => by
    have h1 : zr32 u := zoks_hd hs
    exact lv_tableOut hC.1 hC.2.1 hd (by rw [zi32 h1]; exact hu) (by omega) k
theorem zp_tblIn {pc n : Nat} {ls : zLs} {st : List zV} {M : zM} {d lo hi u o : Int} {offs : Array Int} (hd : decode (zxB x) pc = .ok (.tableswitch d lo hi offs, n)) (ho : 0 ≤ (pc : Int) + o) (hu : ¬ (u < lo ∨ hi < u)) (hoff : offs[(u - lo).toNat]? = some o) : zStp K sz b L xs D tc l x pc ls (.inl u :: st) M ((pc : Int) + o).toNat ls st M :=
  zStp_st (fun _ _ hs => zoks_tl hs) fun p e R s m args below meth c H locs cells slots Q lsr hC hH hS hL hR _ hs k => by
    have h1 : zr32 u := zoks_hd hs
    exact lv_tableIn hC.1 hC.2.1 hd (by rw [zi32 h1]; omega) (by rw [zi32 h1]; omega) (by rw [zi32 h1]; exact hoff) (by omega) k
end ZS
