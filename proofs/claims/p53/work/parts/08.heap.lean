/-! the instructions that read, write and make cells -/
section ZH
variable {p : Program} {l : Launch} {e : Env} {R : Room} {s : State} {m : MethodId} {args : Array Value} {below : List Frame} {meth : Method} {c : Code} {H : Heap} {locs : List Loc} {cells slots : Nat} {Q : State → Prop}
variable {K : Nat → Nat × Nat} {sz b L : Nat} {xs : Nat → Int32} {D : va_G} {tc : Nat → ClassId} {x : zMI}
theorem zcl_get : ∀ ci : Nat, ci < 11 → vwCl[ci]? = some (zcl ci)
  | 0, _ => rfl
  | 1, _ => rfl
  | 2, _ => rfl
  | 3, _ => rfl
  | 4, _ => rfl
  | 5, _ => rfl
  | 6, _ => rfl
  | 7, _ => rfl
  | 8, _ => rfl
  | 9, _ => rfl
  | 10, _ => rfl
  | n + 11, h => absurd h (by omega)
theorem zcl_in : ∀ ci : Nat, ci < 11 → ∀ w ∈ u_ws (zcl ci).1 (zcl ci).2.1 (zcl ci).2.2, w ∈ lw_tbl
  | 0, _ => zlay_0
  | 1, _ => zlay_1
  | 2, _ => zlay_2
  | 3, _ => zlay_3
  | 4, _ => zlay_4
  | 5, _ => zlay_5
  | 6, _ => zlay_6
  | 7, _ => zlay_7
  | 8, _ => zlay_8
  | 9, _ => zlay_9
  | 10, _ => zlay_10
  | n + 11, h => absurd h (by omega)
theorem zcl_inst : ∀ ci : Nat, ci < 11 → Jvm.Cond.instantiable (zcl ci).1 (zcl ci).2.2 ∈ lw_tbl ∧ Jvm.Cond.initialized (zcl ci).1 ∈ lw_tbl ∧ (zcl ci).1 = zcn ci
  | 0, _ => ⟨zinst_0.1, zinst_0.2.1, zinst_0.2.2.1⟩
  | 1, _ => ⟨zinst_1.1, zinst_1.2.1, zinst_1.2.2.1⟩
  | 2, _ => ⟨zinst_2.1, zinst_2.2.1, zinst_2.2.2.1⟩
  | 3, _ => ⟨zinst_3.1, zinst_3.2.1, zinst_3.2.2.1⟩
  | 4, _ => ⟨zinst_4.1, zinst_4.2.1, zinst_4.2.2.1⟩
  | 5, _ => ⟨zinst_5.1, zinst_5.2.1, zinst_5.2.2.1⟩
  | 6, _ => ⟨zinst_6.1, zinst_6.2.1, zinst_6.2.2.1⟩
  | 7, _ => ⟨zinst_7.1, zinst_7.2.1, zinst_7.2.2.1⟩
  | 8, _ => ⟨zinst_8.1, zinst_8.2.1, zinst_8.2.2.1⟩
  | 9, _ => ⟨zinst_9.1, zinst_9.2.1, zinst_9.2.2.1⟩
  | 10, _ => ⟨zinst_10.1, zinst_10.2.1, zinst_10.2.2.1⟩
  | n + 11, h => absurd h (by omega)
theorem zcl_ty : ∀ ci : Nat, ci < 11 → ∀ k, k < (zcl ci).2.2 → parseFieldDescriptor ((zcl ci).2.1 k).2.2.1 = some (zty ci k)
  | 0, _ => tyX0_ok
  | 1, _ => tyX1_ok
  | 2, _ => tyX2_ok
  | 3, _ => tyX3_ok
  | 4, _ => tyX4_ok
  | 5, _ => tyX5_ok
  | 6, _ => tyX6_ok
  | 7, _ => tyX7_ok
  | 8, _ => tyX8_ok
  | 9, _ => tyX9_ok
  | 10, _ => tyX10_ok
  | n + 11, h => absurd h (by omega)
theorem zcl_nm : ∀ ci : Nat, ci < 11 → ∀ a, a < (zcl ci).2.2 → ∀ b, b < (zcl ci).2.2 → a ≠ b → ((zcl ci).2.1 a).2.1 ≠ ((zcl ci).2.1 b).2.1
  | 0, _ => nmX0
  | 1, _ => nmX1
  | 2, _ => nmX2
  | 3, _ => nmX3
  | 4, _ => nmX4
  | 5, _ => nmX5
  | 6, _ => nmX6
  | 7, _ => nmX7
  | 8, _ => nmX8
  | 9, _ => nmX9
  | 10, _ => nmX10
  | n + 11, h => absurd h (by omega)
theorem zlay_good (C : String) (T : u_T) (N : Nat) : ∀ w ∈ u_ws C T N, zgood w = true := by
  intro w hw
  obtain ⟨k, -, rfl⟩ := List.mem_map.mp hw
  unfold u_lay
  split <;> rfl
/-- a field's place -/
theorem zfld_of {own idx : Nat} {q : Nat × Nat} (h : zlk zfldT own idx = some q) : zfldP ((own, idx), q.1, q.2) := zfld_ok _ (zlk_mem h)
theorem zcell_obj {M : zM} {a : Nat} {ci : Nat} (hK : (K a).1 = ci) (hc : ci < 11) : zcell K sz b tc M a = .inr (ci, (List.range (zcl ci).2.2).map (zfv sz b M a ci)) := by
  unfold zcell
  rw [if_pos (by omega), hK]
theorem zfs_get {M : zM} {a ci k : Nat} (hk : k < (zcl ci).2.2) : ((List.range (zcl ci).2.2).map (zfv sz b M a ci))[k]? = some (zfv sz b M a ci k) := by
  rw [List.getElem?_map, List.getElem?_range hk]; rfl
theorem zad_ok {M : zM} {a : Nat} (h : zok M.1.1 (.inr (.inr a))) (h1 : a ≠ 1) : 2 ≤ a ∧ a < M.1.1 + 2 := ⟨by have := h.1; omega, h.2⟩
theorem zK1 {M : zM} {a : Nat} (hH : zHeap K sz b L xs D tc M H) (ha : (K a).1 < 20) : a ≠ 1 := by
  intro h
  have h1 := hH.2.2.2.2.2.1
  rw [h, h1] at ha
  exact Nat.lt_irrefl 20 ha
theorem zp_getf {pc k n : Nat} {q : Nat × Nat} {ls : zLs} {st : List zV} {M : zM} {a : Nat} {v : zV} (hd : decode (zxB x) pc = .ok (.getfield k, 3)) (hq : zlk zfldT x.1 k = some q) (hK : (K a).1 = q.1)
    (hv : zrv sz b v = zfv sz b M a q.1 q.2) (hok : (∀ a i, zr32 (M.2.1 a i)) → (∀ a i, M.2.2.2 a i < M.1.1 + 2) → zok M.1.1 v) : zStp K sz b L xs D tc l x pc ls (.inr (.inr a) :: st) M (pc + 3) ls (v :: st) M := by
  obtain ⟨f1, f2, f3, f4, f5⟩ := zfld_of hq
  have f2 : q.1 < 11 := f2
  have f3 : q.2 < (zcl q.1).2.2 := f3
  refine ⟨Nat.le_refl _, Nat.le_refl _, fun h => h, fun p e R s m args below meth c H locs cells slots Q lsr hC hH hS hL hR ho hs _ _ kk => ?_⟩
  have h1 := zK1 hH (show (K a).1 < 20 by omega)
  obtain ⟨g1, g2⟩ := zad_ok (zoks_hd hs) h1
  have hW := hC.2.2.2.2.2.2.2.2.1
  have k2 := kk H locs lsr hH hS hR ho (zoks_cons (hok hH.2.2.2.1 hH.2.2.2.2.1) (zoks_tl hs))
  rw [Nat.sub_self, Nat.sub_self] at k2
  rw [List.map_cons, zrv_ref (zoks_hd hs)]
  refine va_get (C := (zcl q.1).1) (T := (zcl q.1).2.1) (N := (zcl q.1).2.2) (ref := ((zcl q.1).2.1 q.2).1) (own := zcn x.1) (Ts := u_ws (zcl q.1).1 (zcl q.1).2.1 (zcl q.1).2.2) hC.1 hC.2.1
    (fun w hw => zword hW (zcl_in q.1 f2 w hw) (zlay_good _ _ _ w hw) args) (fun w hw => hw) hC.2.2.2.2.2.2.1 hW.1 hH.1 (a - 2) (by rw [zws_get g1 g2, zcell_obj hK f2]) (zcl_get _ f2) q.2 f3 (zword hW f5 rfl args) (fun _ h => h) (v := zrv sz b v)
    (by rw [zfs_get f3, hv]) hd k2
/-- a cell's new content where one place of it changed -/
theorem zfs_set {M M' : zM} {a ci k : Nat} {v : Value} (hk : k < (zcl ci).2.2) (h1 : zfv sz b M' a ci k = v) (h2 : ∀ j, j ≠ k → zfv sz b M' a ci j = zfv sz b M a ci j) :
    ((List.range (zcl ci).2.2).map (zfv sz b M a ci)).set k v = (List.range (zcl ci).2.2).map (zfv sz b M' a ci) := by
  apply List.ext_getElem?
  intro i
  rw [List.getElem?_set]
  by_cases hi : i < (zcl ci).2.2
  · by_cases hik : k = i
    · subst hik
      rw [if_pos rfl, if_pos (by rw [List.length_map, List.length_range]; exact hk), zfs_get hk, h1]
    · rw [if_neg hik, zfs_get hi, zfs_get hi, h2 i (fun q => hik q.symm)]
  · rw [List.getElem?_eq_none (l := (List.range (zcl ci).2.2).map (zfv sz b M' a ci)) (by rw [List.length_map, List.length_range]; omega), List.getElem?_eq_none (l := (List.range (zcl ci).2.2).map (zfv sz b M a ci)) (by rw [List.length_map, List.length_range]; omega)]
    by_cases hik : k = i
    · omega
    · rw [if_neg hik]
theorem zp_putf {pc k : Nat} {q : Nat × Nat} {ls : zLs} {st : List zV} {M M' : zM} {a : Nat} {v : zV} (hd : decode (zxB x) pc = .ok (.putfield k, 3)) (hq : zlk zfldT x.1 k = some q) (hfin : ¬ (((zcl q.1).2.1 q.2).2.2.2 = true ∧ ¬ (zxI x = true ∧ x.1 = q.1))) (hK : (K a).1 = q.1)
    (hn : narrow (zty q.1 q.2) (zrv sz b v) = zrv sz b v) (hfit : fits (zty q.1 q.2) (zrv sz b v) = true)
    (e0 : M'.1 = M.1) (e1 : zfv sz b M' a q.1 q.2 = zrv sz b v) (e2 : ∀ j, j ≠ q.2 → zfv sz b M' a q.1 j = zfv sz b M a q.1 j) (e3 : ∀ a', a' ≠ a → zcell K sz b tc M' a' = zcell K sz b tc M a')
    (e4 : (∀ a i, zr32 (M.2.1 a i)) → zok M.1.1 v → ∀ a i, zr32 (M'.2.1 a i)) (e5 : (∀ a i, M.2.2.2 a i < M.1.1 + 2) → zok M.1.1 v → ∀ a i, M'.2.2.2 a i < M.1.1 + 2) (e6 : a ≠ 1 → ∀ j, M'.2.1 1 j = M.2.1 1 j) :
    zStp K sz b L xs D tc l x pc ls (v :: .inr (.inr a) :: st) M (pc + 3) ls st M' := by
  obtain ⟨f1, f2, f3, f4, f5⟩ := zfld_of hq
  have f2 : q.1 < 11 := f2
  have f3 : q.2 < (zcl q.1).2.2 := f3
  refine ⟨by rw [e0]; exact Nat.le_refl _, by rw [e0]; exact Nat.le_refl _, fun h => h, fun p e R s m args below meth c H locs cells slots Q lsr hC hH hS hL hR ho hs _ _ kk => ?_⟩
  have h1 := zK1 hH (show (K a).1 < 20 by omega)
  obtain ⟨g1, g2⟩ := zad_ok (zoks_hd (zoks_tl hs)) h1
  have hW := hC.2.2.2.2.2.2.2.2.1
  rw [e0, Nat.sub_self, Nat.sub_self] at kk
  rw [List.map_cons, List.map_cons, zrv_ref (zoks_hd (zoks_tl hs))]
  refine z_put (C := (zcl q.1).1) (T := (zcl q.1).2.1) (N := (zcl q.1).2.2) (own := zcn x.1) (Ts := u_ws (zcl q.1).1 (zcl q.1).2.1 (zcl q.1).2.2) (fs := (List.range (zcl q.1).2.2).map (zfv sz b M a q.1)) hC.1 hC.2.1
    (fun w hw => zword hW (zcl_in q.1 f2 w hw) (zlay_good _ _ _ w hw) args) (fun w hw => hw) (zty q.1) (zcl_ty q.1 f2) (zcl_nm q.1 f2) hC.2.2.2.2.2.2.1 hW.1 hH.1 (zws_D K sz b tc M) hS (a - 2) (by rw [zws_get g1 g2, zcell_obj hK f2]) (zcl_get _ f2) q.2 f3 (zword hW f5 rfl args) ?_ (zcl_ty q.1 f2 q.2 f3) hn hfit (by rw [List.length_map, List.length_range]; exact f3) hd
    (fun H1 locs1 hP1 hS1 hz1 => ?_)
  · by_cases h9 : ((zcl q.1).2.1 q.2).2.2.2 = false
    · exact Or.inl h9
    · have h10 : ((zcl q.1).2.1 q.2).2.2.2 = true := by cases h11 : ((zcl q.1).2.1 q.2).2.2.2 with
        | true => rfl
        | false => exact absurd h11 h9
      have h12 : zxI x = true ∧ x.1 = q.1 := by
        by_cases h13 : zxI x = true ∧ x.1 = q.1
        · exact h13
        · exact absurd ⟨h10, h13⟩ hfin
      exact Or.inr ⟨hC.2.2.2.2.2.2.2.1 h12.1, by rw [h12.2]; exact f4⟩
  · rw [zfs_set f3 e1 e2, ← zcell_obj (K := K) (sz := sz) (b := b) (tc := tc) (M := M') hK f2, zws_set g1 (by rw [e0]) e3] at hP1
    exact kk H1 locs1 lsr ⟨hP1, by rw [e0, hz1]; exact hH.2.1, by rw [e0, hz1]; exact hH.2.2.1, e4 hH.2.2.2.1 (zoks_hd hs), by rw [e0]; exact e5 hH.2.2.2.2.1 (zoks_hd hs), hH.2.2.2.2.2.1, fun j hj => by rw [e6 h1 j]; exact hH.2.2.2.2.2.2 j hj⟩ hS1 hR ho (zoks_tl (zoks_tl hs))
-- the three kinds of stores
theorem zup_same {α : Type} (f : Nat → α) (k : Nat) (v : α) : zup f k v k = v := if_pos rfl
theorem zup_ne {α : Type} {f : Nat → α} {k j : Nat} {v : α} (h : j ≠ k) : zup f k v j = f j := if_neg h
theorem zcell_sI {M : zM} {a i : Nat} {v : Int} {a' : Nat} (h : a' ≠ a) : zcell K sz b tc (zsI M a i v) a' = zcell K sz b tc M a' := by
  have e1 : (zsI M a i v).2.1 a' = M.2.1 a' := zup_ne h
  unfold zcell
  have e2 : zfv sz b (zsI M a i v) a' (K a').1 = zfv sz b M a' (K a').1 := by
    funext k
    unfold zfv
    rw [e1]
    rfl
  rw [e1, e2]
  rfl
theorem zcell_sL {M : zM} {a i : Nat} {v : Int64} {a' : Nat} (h : a' ≠ a) : zcell K sz b tc (zsL M a i v) a' = zcell K sz b tc M a' := by
  have e1 : (zsL M a i v).2.2.1 a' = M.2.2.1 a' := zup_ne h
  unfold zcell
  have e2 : zfv sz b (zsL M a i v) a' (K a').1 = zfv sz b M a' (K a').1 := by
    funext k
    unfold zfv
    rw [e1]
    rfl
  rw [e1, e2]
  rfl
theorem zcell_sR {M : zM} {a i v : Nat} {a' : Nat} (h : a' ≠ a) : zcell K sz b tc (zsR M a i v) a' = zcell K sz b tc M a' := by
  have e1 : (zsR M a i v).2.2.2 a' = M.2.2.2 a' := zup_ne h
  unfold zcell
  have e2 : zfv sz b (zsR M a i v) a' (K a').1 = zfv sz b M a' (K a').1 := by
    funext k
    unfold zfv
    rw [e1]
    rfl
  rw [e1, e2]
  rfl
theorem zr_sI {M : zM} {a i : Nat} {v : Int} (h : ∀ a i, zr32 (M.2.1 a i)) (hv : zr32 v) : ∀ a' i', zr32 ((zsI M a i v).2.1 a' i') := by
  intro a' i'
  show zr32 (zup M.2.1 a (zup (M.2.1 a) i v) a' i')
  by_cases h1 : a' = a
  · subst h1
    rw [zup_same]
    by_cases h2 : i' = i
    · subst h2; rw [zup_same]; exact hv
    · rw [zup_ne h2]; exact h _ _
  · rw [zup_ne h1]; exact h _ _
theorem zr_sR {n : Nat} {M : zM} {a i v : Nat} (h : ∀ a i, M.2.2.2 a i < n) (hv : v < n) : ∀ a' i', (zsR M a i v).2.2.2 a' i' < n := by
  intro a' i'
  show zup M.2.2.2 a (zup (M.2.2.2 a) i v) a' i' < n
  by_cases h1 : a' = a
  · subst h1
    rw [zup_same]
    by_cases h2 : i' = i
    · subst h2; rw [zup_same]; exact hv
    · rw [zup_ne h2]; exact h _ _
  · rw [zup_ne h1]; exact h _ _
theorem zkind_le : ∀ t : FieldType, zkind t ≤ 1 → (t = .int ∨ t = .boolean)
  | .int, _ => Or.inl rfl
  | .boolean, _ => Or.inr rfl
  | .long, h => absurd h (by decide)
  | .byte, h => absurd h (by decide)
  | .char, h => absurd h (by decide)
  | .short, h => absurd h (by decide)
  | .float, h => absurd h (by decide)
  | .double, h => absurd h (by decide)
  | .object _, h => absurd (show (3 : Nat) ≤ 1 from h) (by decide)
  | .array _, h => absurd (show (3 : Nat) ≤ 1 from h) (by decide)
theorem zkind_2 : ∀ t : FieldType, zkind t = 2 → t = .long
  | .int, h => absurd h (by decide)
  | .boolean, h => absurd h (by decide)
  | .long, _ => rfl
  | .byte, h => absurd h (by decide)
  | .char, h => absurd h (by decide)
  | .short, h => absurd h (by decide)
  | .float, h => absurd h (by decide)
  | .double, h => absurd h (by decide)
  | .object _, h => absurd (show (3 : Nat) = 2 from h) (by decide)
  | .array _, h => absurd (show (3 : Nat) = 2 from h) (by decide)
theorem zp_putI {pc k : Nat} {q : Nat × Nat} {ls : zLs} {st : List zV} {M : zM} {a : Nat} {v : Int} (hd : decode (zxB x) pc = .ok (.putfield k, 3)) (hq : zlk zfldT x.1 k = some q) (hfin : ¬ (((zcl q.1).2.1 q.2).2.2.2 = true ∧ ¬ (zxI x = true ∧ x.1 = q.1))) (hK : (K a).1 = q.1)
    (hk : zkind (zty q.1 q.2) ≤ 1) (hb : zkind (zty q.1 q.2) = 1 → (v = 0 ∨ v = 1)) : zStp K sz b L xs D tc l x pc ls (.inl v :: .inr (.inr a) :: st) M (pc + 3) ls st (zsI M a q.2 v) := by
  refine zp_putf hd hq hfin hK ?_ ?_ rfl ?_ ?_ (fun a' h => zcell_sI h) (fun h hv => zr_sI h hv) (fun h _ => h) ?_
  · rcases zkind_le _ hk with h | h
    · rw [h]; rfl
    · rw [h]
      rcases hb (by rw [h]; rfl) with h2 | h2 <;> subst h2 <;> rfl
  · rcases zkind_le _ hk with h | h
    · rw [h]; rfl
    · rw [h]
      rcases hb (by rw [h]; rfl) with h2 | h2 <;> subst h2 <;> rfl
  · unfold zfv
    rw [if_pos hk]
    show Value.int (Int32.ofInt (zup M.2.1 a (zup (M.2.1 a) q.2 v) a q.2)) = _
    rw [zup_same, zup_same]; rfl
  · intro j hj
    unfold zfv
    have e1 : (zsI M a q.2 v).2.1 a j = M.2.1 a j := by
      show zup M.2.1 a (zup (M.2.1 a) q.2 v) a j = _
      rw [zup_same, zup_ne hj]
    rw [e1]; rfl
  · intro h j
    show zup M.2.1 a (zup (M.2.1 a) q.2 v) 1 j = _
    rw [zup_ne (fun h2 => h h2.symm)]
theorem zp_putL {pc k : Nat} {q : Nat × Nat} {ls : zLs} {st : List zV} {M : zM} {a : Nat} {v : Int64} (hd : decode (zxB x) pc = .ok (.putfield k, 3)) (hq : zlk zfldT x.1 k = some q) (hfin : ¬ (((zcl q.1).2.1 q.2).2.2.2 = true ∧ ¬ (zxI x = true ∧ x.1 = q.1))) (hK : (K a).1 = q.1)
    (hk : zkind (zty q.1 q.2) = 2) : zStp K sz b L xs D tc l x pc ls (.inr (.inl v) :: .inr (.inr a) :: st) M (pc + 3) ls st (zsL M a q.2 v) := by
  refine zp_putf hd hq hfin hK ?_ ?_ rfl ?_ ?_ (fun a' h => zcell_sL h) (fun h hv => h) (fun h _ => h) (fun _ _ => rfl)
  · rw [zkind_2 _ hk]; rfl
  · rw [zkind_2 _ hk]; rfl
  · unfold zfv
    rw [if_neg (by omega), if_pos hk]
    show Value.long (zup M.2.2.1 a (zup (M.2.2.1 a) q.2 v) a q.2) = _
    rw [zup_same, zup_same]; rfl
  · intro j hj
    unfold zfv
    have e1 : (zsL M a q.2 v).2.2.1 a j = M.2.2.1 a j := by
      show zup M.2.2.1 a (zup (M.2.2.1 a) q.2 v) a j = _
      rw [zup_same, zup_ne hj]
    rw [e1]; rfl
theorem zref_fits {nx a : Nat} (h : zok nx (.inr (.inr a))) (t : FieldType) (ht : (∃ n, t = .object n) ∨ ∃ u, t = .array u) : narrow t (zrv sz b (.inr (.inr a))) = zrv sz b (.inr (.inr a)) ∧ fits t (zrv sz b (.inr (.inr a))) = true := by
  rw [zrv_ref h]
  rcases ht with ⟨n, rfl⟩ | ⟨u, rfl⟩ <;> exact ⟨rfl, rfl⟩
theorem zp_putR {pc k : Nat} {q : Nat × Nat} {ls : zLs} {st : List zV} {M : zM} {a v : Nat} (hd : decode (zxB x) pc = .ok (.putfield k, 3)) (hq : zlk zfldT x.1 k = some q) (hfin : ¬ (((zcl q.1).2.1 q.2).2.2.2 = true ∧ ¬ (zxI x = true ∧ x.1 = q.1))) (hK : (K a).1 = q.1)
    (hk : zkind (zty q.1 q.2) = 3) (ht : (∃ n, zty q.1 q.2 = .object n) ∨ ∃ u, zty q.1 q.2 = .array u) (h0 : 0 < v) : zStp K sz b L xs D tc l x pc ls (.inr (.inr v) :: .inr (.inr a) :: st) M (pc + 3) ls st (zsR M a q.2 v) := by
  have hok : zok (v + 1) (.inr (.inr v)) := ⟨h0, by omega⟩
  refine zp_putf hd hq hfin hK (zref_fits hok _ ht).1 (zref_fits hok _ ht).2 rfl ?_ ?_ (fun a' h => zcell_sR h) (fun h hv => h) (fun h hv => zr_sR h hv.2) (fun _ _ => rfl)
  · unfold zfv
    rw [if_neg (by omega), if_neg (by omega)]
    show zrf sz b (zup M.2.2.2 a (zup (M.2.2.2 a) q.2 v) a q.2) = _
    rw [zup_same, zup_same]; rfl
  · intro j hj
    unfold zfv
    have e1 : (zsR M a q.2 v).2.2.2 a j = M.2.2.2 a j := by
      show zup M.2.2.2 a (zup (M.2.2.2 a) q.2 v) a j = _
      rw [zup_same, zup_ne hj]
    rw [e1]; rfl
end ZH
