theorem zsx_380 : Jvm.Cond.exactly (.string "Layerboard" 380) "java/lang/String" ∈ flatC (Jvm.Cond.and given_1 narrow_1) := by decide +kernel
theorem zsx_157 : Jvm.Cond.exactly (.string "Layerboard" 157) "java/lang/String" ∈ flatC (Jvm.Cond.and given_1 narrow_1) := by decide +kernel
theorem zsx_159 : Jvm.Cond.exactly (.string "Layerboard" 159) "java/lang/String" ∈ flatC (Jvm.Cond.and given_1 narrow_1) := by decide +kernel
theorem zsx_397 : Jvm.Cond.exactly (.string "Layerboard" 397) "java/lang/String" ∈ flatC (Jvm.Cond.and given_1 narrow_1) := by decide +kernel
theorem zsx_416 : Jvm.Cond.exactly (.string "Layerboard" 416) "java/lang/String" ∈ flatC (Jvm.Cond.and given_1 narrow_1) := by decide +kernel
theorem zsx_393 : Jvm.Cond.exactly (.string "Layerboard" 393) "java/lang/String" ∈ flatC (Jvm.Cond.and given_1 narrow_1) := by decide +kernel
theorem zsx_243 : Jvm.Cond.exactly (.string "Layerboard" 243) "java/lang/String" ∈ flatC (Jvm.Cond.and given_1 narrow_1) := by decide +kernel
theorem zsx_387 : Jvm.Cond.exactly (.string "Layerboard" 387) "java/lang/String" ∈ flatC (Jvm.Cond.and given_1 narrow_1) := by decide +kernel
theorem zsx_309 : Jvm.Cond.exactly (.string "Layerboard" 309) "java/lang/String" ∈ flatC (Jvm.Cond.and given_1 narrow_1) := by decide +kernel
theorem zsx_175 : Jvm.Cond.exactly (.string "Layerboard" 175) "java/lang/String" ∈ flatC (Jvm.Cond.and given_1 narrow_1) := by decide +kernel
theorem zsx_231 : Jvm.Cond.exactly (.string "Layerboard" 231) "java/lang/String" ∈ flatC (Jvm.Cond.and given_1 narrow_1) := by decide +kernel
theorem zsx_208 : Jvm.Cond.exactly (.string "Layerboard" 208) "java/lang/String" ∈ flatC (Jvm.Cond.and given_1 narrow_1) := by decide +kernel
theorem zsx_382 : Jvm.Cond.exactly (.string "Layerboard" 382) "java/lang/String" ∈ flatC (Jvm.Cond.and given_1 narrow_1) := by decide +kernel
theorem znc_01 : Jvm.Cond.not (.castable (zen 0) (zen 1)) ∈ flatC (Jvm.Cond.and given_1 narrow_1) := by decide +kernel
theorem znc_21 : Jvm.Cond.not (.castable (zen 2) (zen 1)) ∈ flatC (Jvm.Cond.and given_1 narrow_1) := by decide +kernel
theorem zsx_ok : ∀ q ∈ zstrT, Jvm.Cond.exactly (.string (zcn 10) q.1) "java/lang/String" ∈ flatC (Jvm.Cond.and given_1 narrow_1) := by
  unfold zstrT zstr_0
  exact List.forall_mem_cons.mpr ⟨zsx_380, List.forall_mem_cons.mpr ⟨zsx_157, List.forall_mem_cons.mpr ⟨zsx_159, List.forall_mem_cons.mpr ⟨zsx_397, List.forall_mem_cons.mpr ⟨zsx_416, List.forall_mem_cons.mpr ⟨zsx_393, List.forall_mem_cons.mpr ⟨zsx_243, List.forall_mem_cons.mpr ⟨zsx_387, List.forall_mem_cons.mpr ⟨zsx_309, List.forall_mem_cons.mpr ⟨zsx_175, List.forall_mem_cons.mpr ⟨zsx_231, List.forall_mem_cons.mpr ⟨zsx_208, List.forall_mem_cons.mpr ⟨zsx_382, fun _ h => absurd h List.not_mem_nil⟩⟩⟩⟩⟩⟩⟩⟩⟩⟩⟩⟩⟩
theorem znc_ok : ∀ e f : Nat, e < 3 → f = 1 → e ≠ f → Jvm.Cond.not (.castable (zen e) (zen f)) ∈ flatC (Jvm.Cond.and given_1 narrow_1) := by
  intro e f he hf hne
  subst hf
  have h1 : e = 0 ∨ e = 2 := by omega
  rcases h1 with rfl | rfl
  · exact znc_01
  · exact znc_21
theorem zst_U : Jvm.Cond.isRef (.static Bundle.tN "UNASSIGNED_STACK" Bundle.steD) ∈ flatC (Jvm.Cond.and given_1 narrow_1) := by decide +kernel
theorem zst_N : Jvm.Cond.isRef (.static Bundle.tN "SUPPRESSED_SENTINEL" Bundle.listD) ∈ flatC (Jvm.Cond.and given_1 narrow_1) := by decide +kernel
theorem zls_U : Jvm.Cond.laysStatic Bundle.tN "UNASSIGNED_STACK" Bundle.steD ∈ lw_tbl ∧ Jvm.Cond.laysStatic Bundle.tN "SUPPRESSED_SENTINEL" Bundle.listD ∈ lw_tbl ∧ Jvm.Cond.initialized Bundle.tN ∈ lw_tbl := ⟨z_t2 198 rfl, z_t2 200 rfl, z_t1 13 rfl⟩

theorem zarrs {s : State} {args : Array Value} (hts : ∀ w ∈ lw_tbl, w.before args s = true) : ∃ tc : Nat → ClassId, ∀ (k : Nat) (q : ClassId × FieldType), (ztys tc)[k]? = some q → ArrOfT s q.1 q.2 ∧ va_RA s q.1 q.2 := by
  obtain ⟨z1, z2, z3, z4, z5, z6⟩ := zarr_ok
  obtain ⟨a1, k1, p1, f1, g1, h1⟩ := Cond.arrayClass_spec (hts _ z1)
  obtain ⟨a2, k2, p2, f2, g2, h2⟩ := Cond.arrayClass_spec (hts _ z2)
  obtain ⟨a3, k3, p3, f3, g3, h3⟩ := Cond.arrayClass_spec (hts _ z3)
  obtain ⟨p4, a4, k4, e4, -, g4, h4, f4⟩ := Cond.arrayOver_spec (hts _ z4)
  obtain ⟨p5, a5, k5, e5, -, g5, h5, f5⟩ := Cond.arrayOver_spec (hts _ z5)
  obtain ⟨p6, a6, k6, e6, -, g6, h6, f6⟩ := Cond.arrayOver_spec (hts _ z6)
  refine ⟨fun t => match t with | 20 => a1 | 21 => a2 | 22 => a3 | 23 => a4 | 24 => a5 | _ => a6, fun k q hq => ?_⟩
  match k, hq with
  | 0, hq => cases hq; exact ⟨fun n z => ⟨fun k h => (by cases h), k1, g1, p1, h1⟩, f1⟩
  | 1, hq => cases hq; exact ⟨fun n z => ⟨fun k h => (by cases h), k2, g2, p2, h2⟩, f2⟩
  | 2, hq => cases hq; exact ⟨fun n z => ⟨fun k h => (by cases h), k3, g3, p3, h3⟩, f3⟩
  | 3, hq => cases hq; exact ⟨fun n z => ⟨fun k h => (by cases h), k4, g4, p4, h4⟩, k4, p4, g4, h4, e4, f4⟩
  | 4, hq => cases hq; exact ⟨fun n z => ⟨fun k h => (by cases h), k5, g5, p5, h5⟩, k5, p5, g5, h5, e5, f5⟩
  | 5, hq => cases hq; exact ⟨fun n z => ⟨fun k h => (by cases h), k6, g6, p6, h6⟩, k6, p6, g6, h6, e6, f6⟩
  | k + 6, hq => cases hq
theorem zworld {s : State} {b L : Nat} {xs : Nat → Int32} (hts : ∀ w ∈ lw_tbl, w.before #[Value.ref b] s = true) (hX : va_X b L xs s s.heap) (hbl : b < s.heap.size) (hgv : (Jvm.Cond.and given_1 narrow_1).before #[Value.ref b] s = true) : ∃ (D : va_G) (tc : Nat → ClassId), zWLD s.heap.size b L xs D tc s := by
  have hfl := flat_of_before _ hgv
  have key : ∀ ci : Nat, ∃ p : ClassId × (Nat → Nat), ci < 11 → u_Kn s (zcl ci).1 (zcl ci).2.1 (zcl ci).2.2 p.1 p.2 := by
    intro ci
    by_cases h : ci < 11
    · obtain ⟨cC, iS, hk⟩ := u_known (C := (zcl ci).1) (T := (zcl ci).2.1) (N := (zcl ci).2.2) hts (zcl_in ci h) (hts _ (zcl_inst ci h).1)
      exact ⟨(cC, iS), fun _ => hk⟩
    · exact ⟨(0, fun _ => 0), fun h2 => absurd h2 h⟩
  obtain ⟨f, hf⟩ := Classical.axiomOfChoice key
  obtain ⟨tc, htc⟩ := zarrs hts
  refine ⟨(fun k => (f k).1, fun k => (f k).2), tc, ⟨fun c q hq => ?_, htc⟩, fun w hw hg => zgood_move hg (State.WarmedH.refl s) (hts w hw), fun q hq => ?_, ?_, ?_, fun e g he hg hne => va_Nc.of (hfl _ (znc_ok e g he hg hne)), hX, hbl, Nat.le_refl _⟩
  · have h12 : c < 11 := by
      by_cases h : c < 11
      · exact h
      · rw [List.getElem?_eq_none (by show 11 ≤ c; omega)] at hq
        cases hq
    have e1 : q = zcl c := Option.some.inj (hq.symm.trans (zcl_get c h12))
    subst e1
    exact hf c h12
  · obtain ⟨a, c, cell, k, h1, -⟩ := Cond.exactly_spec (hfl _ (zsx_ok q hq))
    exact ⟨a, vk_R.of (hts _ (zstr_ok q hq)) h1⟩
  · exact vx_Zqof (hts _ zls_U.1) (hts _ zls_U.2.2) (hfl _ zst_U) (fun a ha h => absurd ha (Nat.not_lt.mpr h))
  · exact vx_Zqof (hts _ zls_U.2.1) (hts _ zls_U.2.2) (hfl _ zst_N) (fun a ha h => absurd ha (Nat.not_lt.mpr h))
/-- the memory at the law's entry -/
def zM0 (xs : Nat → Int32) : zM := ((0, true, 0, 0), fun a i => if a = 1 then (xs i).toInt else 0, fun _ _ => 0, fun _ _ => 0)
/-- the law's walk out of the interpreter's -/
theorem zwhole {p : Program} {e : Env} {s : State} {m : MethodId} {below : List Frame} {meth : Method} {c : Code} (l : Launch) (hl : l.stackTraces = false) {b L : Nat} {xs : Nat → Int32} (C0 : lw_At p s m meth c b L xs) (htab : c.exceptionTable.toList = [])
    {K : Nat → Nat × Nat} (hK : K 1 = (20, L)) {M2 : zM} (hB : zBS K (407, 0, zcall 407 [.inr (.inr 1)], [], zM0 xs) (.inl (some (.inl 1))) M2) (hc : M2.1.2.2.1 ≤ 600064) (hs : M2.1.2.2.2 ≤ 7301640) :
    W p l e room_1 s m #[Value.ref b] below meth c s.heap [] 0 0 (lw_Z below #[Value.ref b] s) (entryFrame m ([Value.ref b] : List Value).toArray 7) := by
  obtain ⟨hx, hb, hr, hml, hown, hts, hX, hbl, hlocks, hgv⟩ := id C0
  obtain ⟨D, tc, hW⟩ := zworld hts hX hbl hgv
  have hx407 : zmtab[407]? = some zr_407 := zmi_407
  have hmr : zmr 407 = zr_407 := zmr_of hx407
  have hlen : (zcall 407 [.inr (.inr 1)]).length = zxL zr_407 := by unfold zcall; rw [hmr]; rfl
  obtain ⟨g1, g2, g3, g4⟩ := zBS_goal (sz := s.heap.size) (b := b) (L := L) (xs := xs) (D := D) (tc := tc) (l := l) hl hB (by decide) hx407 hlen
  have k := g4 p e room_1 s m #[Value.ref b] below meth c s.heap [] 0 0 600064 7301640 ((lg_sl (([.inr (.inr 1)] : List zV).map (zrv s.heap.size b)) ++ List.replicate (zxL zr_407 - (lg_sl (([.inr (.inr 1)] : List zV).map (zrv s.heap.size b))).length) Slot.unset).toArray)
    ⟨hx, hb, hml, hr, hlocks, ?_, hown, fun h => (by cases h), hW, by decide, by decide, hl⟩ ⟨fun k q h => ?_, fun _ => rfl, Nat.le_refl _, fun a i => ?_, fun a i => ?_, hK, fun j hj => ?_⟩ ⟨Nat.le_refl _, fun _ _ _ => rfl, fun _ h => nomatch h⟩ hlen ?_ ?_ (fun _ h => nomatch h) (by show 0 + (M2.1.2.2.1 - 0) ≤ _; omega) (by show 0 + (M2.1.2.2.2 - 0) ≤ _; omega) (Nat.le_refl _) (Nat.le_refl _)
  · rw [lg_entry_eq]
    intro T hT X
    obtain ⟨t, a1, o, b1, b2, b3⟩ := k T hT X
    refine ⟨t, a1, o, b1, b2, ?_⟩
    rcases b3 with ⟨⟨⟨v, hv, ho, -⟩, -⟩, Lc, ⟨h1, h2, h3⟩, h4⟩ | ⟨q, -, E, ce, Lc, ⟨⟨e9, he, -⟩, -⟩, -⟩
    · cases hv
      exact ⟨ho, h1, h2, h3.weaken (fun y hy hlt => absurd hlt (Nat.not_lt.mpr (h4 y hy))) (Nat.le_refl _) (Nat.le_refl _)⟩
    · cases he
  · exact htab
  · have h9 : (zws K s.heap.size b tc (zM0 xs))[k]? = none := by unfold zws; rfl
    rw [h9] at h; cases h
  · show zr32 (if a = 1 then (xs i).toInt else 0)
    by_cases h : a = 1
    · rw [if_pos h]; exact zr_of _
    · rw [if_neg h]; exact z0r
  · show 0 < 0 + 2
    omega
  · show (if 1 = 1 then (xs j).toInt else 0) = _
    rw [if_pos rfl]
  · unfold zcall
    rw [hmr]
    exact zent_LR (by decide)
  · unfold zcall
    rw [hmr]
    exact zent_okl (fun v hv => by
      have h9 : v = .inr (.inr 1) := List.mem_singleton.mp hv
      subst h9
      exact ⟨by decide, by show 1 < 0 + 2; omega⟩)
