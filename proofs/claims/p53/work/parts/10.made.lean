/-! objects and arrays are made -/
section ZB
variable {p : Program} {l : Launch} {e : Env} {R : Room} {s : State} {m : MethodId} {args : Array Value} {below : List Frame} {meth : Method} {c : Code} {H : Heap} {locs : List Loc} {cells slots : Nat} {Q : State → Prop}
variable {K : Nat → Nat × Nat} {sz b L : Nat} {xs : Nat → Int32} {D : va_G} {tc : Nat → ClassId} {x : zMI}
theorem zborn_cell {M : zM} {n a : Nat} (h : a ≠ M.1.1 + 2) : zcell K sz b tc (zborn M n) a = zcell K sz b tc M a := by
  have e1 : (zborn M n).2.1 a = M.2.1 a := zup_ne h
  have e2 : (zborn M n).2.2.1 a = M.2.2.1 a := zup_ne h
  have e3 : (zborn M n).2.2.2 a = M.2.2.2 a := zup_ne h
  unfold zcell
  have e4 : zfv sz b (zborn M n) a (K a).1 = zfv sz b M a (K a).1 := by
    funext k
    unfold zfv
    rw [e1, e2, e3]
  rw [e1, e2, e3, e4]
theorem zborn_I {M : zM} {n k : Nat} : (zborn M n).2.1 (M.1.1 + 2) k = 0 := by
  show zup M.2.1 (M.1.1 + 2) (fun _ => 0) (M.1.1 + 2) k = 0
  rw [zup_same]
theorem zborn_L {M : zM} {n k : Nat} : (zborn M n).2.2.1 (M.1.1 + 2) k = 0 := by
  show zup M.2.2.1 (M.1.1 + 2) (fun _ => 0) (M.1.1 + 2) k = 0
  rw [zup_same]
theorem zborn_R {M : zM} {n k : Nat} : (zborn M n).2.2.2 (M.1.1 + 2) k = 0 := by
  show zup M.2.2.2 (M.1.1 + 2) (fun _ => 0) (M.1.1 + 2) k = 0
  rw [zup_same]
theorem zborn_heap {M : zM} {n : Nat} {H1 : Heap} (hl : M.1.2.1 = true) (hH : zHeap K sz b L xs D tc M H) (hP : va_P D vwCl (zws K sz b tc M ++ [(H.size, zcell K sz b tc (zborn M n) (M.1.1 + 2))]) H1) (hz : H1.size = H.size + 1) : zHeap K sz b L xs D tc (zborn M n) H1 := by
  have h1 := hH.2.1 hl
  refine ⟨?_, fun _ => ?_, ?_, ?_, ?_, hH.2.2.2.2.2.1, ?_⟩
  · rw [zws_push (M := M) (M' := zborn M n) rfl (fun a' h => zborn_cell (by omega)), ← h1]
    exact hP
  · show H1.size = sz + (M.1.1 + 1)
    omega
  · show sz + (M.1.1 + 1) ≤ H1.size
    omega
  · intro a i
    show zr32 (zup M.2.1 (M.1.1 + 2) (fun _ => 0) a i)
    by_cases h : a = M.1.1 + 2
    · subst h; rw [zup_same]; exact z0r
    · rw [zup_ne h]; exact hH.2.2.2.1 a i
  · intro a i
    show zup M.2.2.2 (M.1.1 + 2) (fun _ => 0) a i < M.1.1 + 1 + 2
    by_cases h : a = M.1.1 + 2
    · subst h; rw [zup_same]; omega
    · rw [zup_ne h]; have := hH.2.2.2.2.1 a i; omega
  · intro j hj
    show zup M.2.1 (M.1.1 + 2) (fun _ => 0) 1 j = _
    rw [zup_ne (show 1 ≠ M.1.1 + 2 by omega)]
    exact hH.2.2.2.2.2.2 j hj
theorem zdef_val (M : zM) (n ci : Nat) (hc : ci < 11) (k : Nat) (hk : k < (zcl ci).2.2) (hty : ∀ c, c < 11 → ∀ k, k < (zcl c).2.2 → (zkind (zty c k) = 3 → defaultValue (zty c k) = .null)) : defaultValue (zty ci k) = vp_V ((List.range (zcl ci).2.2).map (zfv sz b (zborn M n) (M.1.1 + 2) ci)) k := by
  show _ = ((List.range (zcl ci).2.2).map (zfv sz b (zborn M n) (M.1.1 + 2) ci)).getD k .null
  rw [List.getD_eq_getElem?_getD, zfs_get hk]
  show _ = zfv sz b (zborn M n) (M.1.1 + 2) ci k
  unfold zfv
  have e1 : (zborn M n).2.1 (M.1.1 + 2) k = 0 := zborn_I
  have e2 : (zborn M n).2.2.1 (M.1.1 + 2) k = 0 := zborn_L
  have e3 : (zborn M n).2.2.2 (M.1.1 + 2) k = 0 := zborn_R
  rw [e1, e2, e3]
  by_cases h1 : zkind (zty ci k) ≤ 1
  · rw [if_pos h1]
    rcases zkind_le _ h1 with h | h <;> rw [h] <;> rfl
  · rw [if_neg h1]
    by_cases h2 : zkind (zty ci k) = 2
    · rw [if_pos h2, zkind_2 _ h2]; rfl
    · rw [if_neg h2]
      have h3 : zkind (zty ci k) = 3 := by
        revert h1 h2
        cases zty ci k <;> first | (intro h1 h2; rfl) | (intro h1 h2; exact absurd (by decide) h1) | (intro h1 h2; exact absurd rfl h2)
      rw [hty ci hc k hk h3]; rfl
theorem zty_ref : ∀ c, c < 11 → ∀ k, k < (zcl c).2.2 → (zkind (zty c k) = 3 → defaultValue (zty c k) = .null ∧ ((∃ n, zty c k = .object n) ∨ ∃ u, zty c k = .array u)) := by
  intro c hc k hk
  have hk9 : k < 63 := by
    have : (zcl c).2.2 ≤ 63 := by
      have h9 : ∀ c, c < 11 → (zcl c).2.2 ≤ 63 := by decide +kernel
      exact h9 c hc
    omega
  have h10 : ∀ c, c < 11 → ∀ k, k < 63 → (match zty c k with | .int => true | .boolean => true | .long => true | .object _ => true | .array _ => true | _ => false) = true := by decide +kernel
  have h11 := h10 c hc k hk9
  revert h11
  cases zty c k with
  | object n => exact fun _ _ => ⟨rfl, Or.inl ⟨n, rfl⟩⟩
  | array u => exact fun _ _ => ⟨rfl, Or.inr ⟨u, rfl⟩⟩
  | int => exact fun _ h => absurd (show (0 : Nat) = 3 from h) (by decide)
  | boolean => exact fun _ h => absurd (show (1 : Nat) = 3 from h) (by decide)
  | long => exact fun _ h => absurd (show (2 : Nat) = 3 from h) (by decide)
  | byte => exact fun h => by cases h
  | char => exact fun h => by cases h
  | short => exact fun h => by cases h
  | float => exact fun h => by cases h
  | double => exact fun h => by cases h
theorem zad_new {M : zM} : zad sz b (M.1.1 + 2) = sz + M.1.1 := by
  unfold zad
  rw [if_neg (by omega)]
  omega
theorem zrv_new {M : zM} : zrv sz b (.inr (.inr (M.1.1 + 2))) = .ref (sz + M.1.1) := by
  show zrf sz b (M.1.1 + 2) = _
  unfold zrf
  rw [if_neg (by omega), zad_new]
theorem zp_new {pc k ci : Nat} {ls : zLs} {st : List zV} {M : zM} (hd : decode (zxB x) pc = .ok (.new k, 3)) (hq : zlk zclsT x.1 k = some ci) (hci : ci < 11) (hl : M.1.2.1 = true) (hK : (K (M.1.1 + 2)).1 = ci) :
    zStp K sz b L xs D tc l x pc ls st M (pc + 3) ls (.inr (.inr (M.1.1 + 2)) :: st) (zborn M (zcl ci).2.2) := by
  refine ⟨Nat.le_succ _, Nat.le_add_right _ _, fun h => h, fun p e R s m args below meth c H locs cells slots Q lsr hC hH hS hL hR ho hs hr1 hr2 kk => ?_⟩
  have hW := hC.2.2.2.2.2.2.2.2.1
  have hcl : zclsP ((x.1, k), ci) := zcls_ok _ (zlk_mem hq)
  have e1 : (zborn M (zcl ci).2.2).1.2.2.1 - M.1.2.2.1 = 1 := by show M.1.2.2.1 + 1 - M.1.2.2.1 = 1; omega
  have e2 : (zborn M (zcl ci).2.2).1.2.2.2 - M.1.2.2.2 = (zcl ci).2.2 := by show M.1.2.2.2 + (zcl ci).2.2 - M.1.2.2.2 = _; omega
  rw [e1] at hr1 kk
  rw [e2] at hr2 kk
  have hsz := hH.2.1 hl
  obtain ⟨i1, i2, i3⟩ := zcl_inst ci hci
  refine z_new (C := (zcl ci).1) (T := (zcl ci).2.1) (N := (zcl ci).2.2) (ci := ci) (Ts := u_ws (zcl ci).1 (zcl ci).2.1 (zcl ci).2.2) (fs := (List.range (zcl ci).2.2).map (zfv sz b (zborn M (zcl ci).2.2) (M.1.1 + 2) ci)) hC.1 hC.2.1 (fun w hw => zword hW (zcl_in ci hci w hw) (zlay_good _ _ _ w hw) args) (fun w hw => hw) (zty ci) (zcl_ty ci hci) hC.2.2.2.2.2.2.1 ?_ (zword hW i1 rfl args) (zword hW i2 rfl args) hW.1 hH.1 hS (zcl_get ci hci)
    (fun j hj => zdef_val M _ ci hci j hj fun c hc k hk h => (zty_ref c hc k hk h).1) hr1 hr2 hd fun H1 hP1 hS1 hz1 => ?_
  · have h9 := hcl.2
    rw [if_pos (by show ci < 20; omega)] at h9
    rw [i3]
    exact zword hW h9 rfl args
  · have k2 := kk H1 locs lsr (zborn_heap hl hH (by rw [zcell_obj hK hci]; exact hP1) hz1) hS1 hR (zokl_mono (Nat.le_succ _) ho) (zoks_cons ⟨by omega, by show M.1.1 + 2 < M.1.1 + 1 + 2; omega⟩ (zoks_mono (Nat.le_succ _) hs))
    rw [List.map_cons, zrv_new, ← hsz] at k2
    exact k2
theorem zp_newa {pc t w : Nat} {n : Int} {ty : FieldType} {at9 : ArrayType} {ls : zLs} {st : List zV} {M : zM} (hd : decode (zxB x) pc = .ok (.newarray at9, 2)) (hty : newarray.typeOf at9 = ty) (ht : (ty = .int ∧ t = 20 ∧ w = 4) ∨ (ty = .boolean ∧ t = 21 ∧ w = 1)) (hl : M.1.2.1 = true) (hK : K (M.1.1 + 2) = (t, n.toNat)) (h0 : 0 ≤ n) (hw : n * w ≤ 536870912) :
    zStp K sz b L xs D tc l x pc ls (.inl n :: st) M (pc + 2) ls (.inr (.inr (M.1.1 + 2)) :: st) (zborn M n.toNat) := by
  refine ⟨Nat.le_succ _, Nat.le_add_right _ _, fun h => h, fun p e R s m args below meth c H locs cells slots Q lsr hC hH hS hL hR ho hs hr1 hr2 kk => ?_⟩
  have hW := hC.2.2.2.2.2.2.2.2.1
  have e1 : (zborn M n.toNat).1.2.2.1 - M.1.2.2.1 = 1 := by show M.1.2.2.1 + 1 - M.1.2.2.1 = 1; omega
  have e2 : (zborn M n.toNat).1.2.2.2 - M.1.2.2.2 = n.toNat := by show M.1.2.2.2 + n.toNat - M.1.2.2.2 = _; omega
  rw [e1] at hr1 kk
  rw [e2] at hr2 kk
  have hsz := hH.2.1 hl
  have hn : zr32 n := zoks_hd hs
  have hend : ∀ H1 : Heap, va_P D vwCl (zws K sz b tc M ++ [(H.size, zcell K sz b tc (zborn M n.toNat) (M.1.1 + 2))]) H1 → va_S (zA sz) s.heap H1 locs → H1.size = H.size + 1 → W p l e R s m args below meth c H1 locs (cells + 1) (slots + n.toNat) Q (F0 m (pc + 2) lsr (.ref H.size :: st.map (zrv sz b))) := by
    intro H1 hP1 hS1 hz1
    have k2 := kk H1 locs lsr (zborn_heap hl hH hP1 hz1) hS1 hR (zokl_mono (Nat.le_succ _) ho) (zoks_cons ⟨by omega, by show M.1.1 + 2 < M.1.1 + 1 + 2; omega⟩ (zoks_mono (Nat.le_succ _) (zoks_tl hs)))
    rw [List.map_cons, zrv_new, ← hsz] at k2
    exact k2
  have hneg : ¬ Int32.ofInt n < 0 := by
    rw [z0, zlt hn z0r]
    omega
  have eI : ∀ j, (zborn M n.toNat).2.1 (M.1.1 + 2) j = 0 := fun j => zborn_I
  have eL : ∀ j, (zborn M n.toNat).2.2.1 (M.1.1 + 2) j = 0 := fun j => zborn_L
  rcases ht with ⟨h1, rfl, rfl⟩ | ⟨h1, rfl, rfl⟩
  · subst h1
    refine z_newa (a0 := (n.toNat, .inl fun _ => 0)) hC.1 hC.2.1 (ty := .int) (by rw [hty]; exact zword hW zarr_ok.1 rfl args) hty hW.1 0 rfl (fun C h => by cases h) hH.1 hS (fun cA => rfl) hneg (zi32c h0 hn) (by show n.toNat * 4 ≤ _; omega) hr1 hr2 hd fun H1 hP1 hS1 hz1 => hend H1 ?_ hS1 hz1
    rw [zcell_I (by rw [hK]; exact Nat.le_refl _) (by rw [hK]; show 20 < 22; decide), hK]
    simp only [eI]
    exact hP1
  · subst h1
    refine z_newa (a0 := (n.toNat, .inl fun _ => 0)) hC.1 hC.2.1 (ty := .boolean) (by rw [hty]; exact zword hW zarr_ok.2.1 rfl args) hty hW.1 1 rfl (fun C h => by cases h) hH.1 hS (fun cA => rfl) hneg (zi32c h0 hn) (by show n.toNat * 1 ≤ _; omega) hr1 hr2 hd fun H1 hP1 hS1 hz1 => hend H1 ?_ hS1 hz1
    rw [zcell_I (by rw [hK]; show 20 ≤ 21; decide) (by rw [hK]; show 21 < 22; decide), hK]
    simp only [eI]
    exact hP1
theorem zp_newq {pc k t ci : Nat} {n : Int} {ls : zLs} {st : List zV} {M : zM} (hd : decode (zxB x) pc = .ok (.anewarray k, 3)) (hq : zlk zclsT x.1 k = some ci) (ht : (t = 23 ∧ ci = 7) ∨ (t = 24 ∧ ci = 6) ∨ (t = 25 ∧ ci = 1)) (hl : M.1.2.1 = true) (hK : K (M.1.1 + 2) = (t, n.toNat)) (h0 : 0 ≤ n) (hw : n * 4 ≤ 536870912) :
    zStp K sz b L xs D tc l x pc ls (.inl n :: st) M (pc + 3) ls (.inr (.inr (M.1.1 + 2)) :: st) (zborn M n.toNat) := by
  refine ⟨Nat.le_succ _, Nat.le_add_right _ _, fun h => h, fun p e R s m args below meth c H locs cells slots Q lsr hC hH hS hL hR ho hs hr1 hr2 kk => ?_⟩
  have hW := hC.2.2.2.2.2.2.2.2.1
  have e1 : (zborn M n.toNat).1.2.2.1 - M.1.2.2.1 = 1 := by show M.1.2.2.1 + 1 - M.1.2.2.1 = 1; omega
  have e2 : (zborn M n.toNat).1.2.2.2 - M.1.2.2.2 = n.toNat := by show M.1.2.2.2 + n.toNat - M.1.2.2.2 = _; omega
  rw [e1] at hr1 kk
  rw [e2] at hr2 kk
  have hsz := hH.2.1 hl
  have hn : zr32 n := zoks_hd hs
  have hneg : ¬ Int32.ofInt n < 0 := by
    rw [z0, zlt hn z0r]
    omega
  have hcl : zclsP ((x.1, k), ci) := zcls_ok _ (zlk_mem hq)
  have h9 := hcl.2
  have h9 : Jvm.Cond.classLink (zcn x.1) k (if ci < 20 then zcn ci else zen (ci - 20)) ∈ lw_tbl := h9
  rw [if_pos (by omega)] at h9
  have hover : Jvm.Cond.arrayOver (.object (zcn ci)) ∈ lw_tbl ∧ ∃ t0 : Nat, (ztys tc)[t0]? = some (tc t, .object (zcn ci)) := by
    rcases ht with ⟨rfl, rfl⟩ | ⟨rfl, rfl⟩ | ⟨rfl, rfl⟩
    · exact ⟨zarr_ok.2.2.2.1, 3, rfl⟩
    · exact ⟨zarr_ok.2.2.2.2.1, 4, rfl⟩
    · exact ⟨zarr_ok.2.2.2.2.2, 5, rfl⟩
  obtain ⟨ho1, t0, ht0⟩ := hover
  refine z_newq hC.1 hC.2.1 hC.2.2.2.2.2.2.1 (zword hW h9 rfl args) (zword hW ho1 rfl #[]) hW.1 t0 ht0 hH.1 hS hneg (zi32c h0 hn) (by omega) hr1 hr2 hd fun H1 hP1 hS1 hz1 => ?_
  have e3 : zcell K sz b tc (zborn M n.toNat) (M.1.1 + 2) = .inl (tc t, n.toNat, .inr (.inr (.inr (.inr fun _ => none)))) := by
    rw [zcell_R (by rw [hK]; show 22 < t; omega), hK]
    congr 8
    funext j
    have e4 : (zborn M n.toNat).2.2.2 (M.1.1 + 2) j = 0 := zborn_R
    rw [e4]; rfl
  have k2 := kk H1 locs lsr (zborn_heap hl hH (by rw [e3]; exact hP1) hz1) hS1 hR (zokl_mono (Nat.le_succ _) ho) (zoks_cons ⟨by omega, by show M.1.1 + 2 < M.1.1 + 1 + 2; omega⟩ (zoks_mono (Nat.le_succ _) (zoks_tl hs)))
  rw [List.map_cons, zrv_new, ← hsz] at k2
  exact k2
theorem zobj_in : Jvm.Cond.instanceMethod Lib.objectInit ∈ lw_tbl ∧ True := ⟨by
  have h := zmth_ok ((0, 3), 0, 6) (by decide +kernel)
  obtain ⟨y, -, h2, -⟩ := h
  exact h2 _ (List.mem_cons_of_mem _ List.mem_cons_self), trivial⟩
theorem zp_obj {pc k m0 : Nat} {ls : zLs} {st : List zV} {M : zM} {a : Nat} (hd : decode (zxB x) pc = .ok (.invokespecial k, 3)) (hq : zlk zmthT x.1 k = some (m0, 6)) (hc : (st.map zcat).sum ≤ 8) : zStp K sz b L xs D tc l x pc ls (.inr (.inr a) :: st) M (pc + 3) ls st M :=
  zStp_st (fun _ _ hs => zoks_tl hs) fun p e R s m args below meth c H locs cells slots Q lsr hC hH hS hL hR ho hs q => by
    have hW := hC.2.2.2.2.2.2.2.2.1
    obtain ⟨y, -, h2, -⟩ := zmth_ok _ (zlk_mem hq)
    rw [List.map_cons, zrv_ref (zoks_hd hs)]
    exact W.objInit hC.1 hC.2.1 hC.2.2.2.2.2.2.1 (zword hW (h2 _ List.mem_cons_self) rfl args) (zword hW (h2 _ (List.mem_cons_of_mem _ List.mem_cons_self)) rfl args) (zword hW (h2 _ (List.mem_cons_of_mem _ (List.mem_cons_of_mem _ List.mem_cons_self))) rfl args) rfl (by show lsr.size = _; rw [hR.1, hL, hC.2.2.1]) rfl hd (by have := hC.2.2.2.2.2.2.2.2.2.1; omega)
      (by have h9 := hC.2.2.2.2.2.2.2.2.2.2.1
          rw [zcats_rv]
          show 2 * 0 + _ + 12 ≤ _
          omega) q
end ZB
