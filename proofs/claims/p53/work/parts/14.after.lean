/-! behind a call -/
section ZAF
variable {p : Program} {l : Launch} {e : Env} {R : Room} {s : State} {m : MethodId} {args : Array Value} {below : List Frame} {meth : Method} {c : Code} {H : Heap} {locs : List Loc} {cells slots : Nat} {Q : State → Prop}
variable {K : Nat → Nat × Nat} {sz b L : Nat} {xs : Nat → Int32} {D : va_G} {tc : Nat → ClassId} {x : zMI}
theorem zGoal_ret {pc : Nat} {ls : zLs} {st st' : List zV} {M M1 M2 : zM} {v : Option zV} {r : zO} (hrun : zRunP K sz b L xs D tc l x pc ls st st' M (.inl v) M1) (m1 : M.1.2.2.1 ≤ M1.1.2.2.1) (m2 : M.1.2.2.2 ≤ M1.1.2.2.2) (m3 : M.1.1 ≤ M1.1.1) (hsub : zoks M.1.1 st → zoks M.1.1 st') (hl : ls.length = zxL x)
    (g : zGoal K sz b L xs D tc l x (pc + 3) ls (zpush v st') M1 r M2) : zGoal K sz b L xs D tc l x pc ls st M r M2 := by
  obtain ⟨g1, g2, g3, g4⟩ := g
  refine ⟨Nat.le_trans m1 g1, Nat.le_trans m2 g2, Nat.le_trans m3 g3, fun p e R s m args below meth c H locs cells slots mc ms lsr hC hH hS hL hR ho hs h1 h2 h3 h4 T hT X => ?_⟩
  rcases hrun p e R s m args below meth c H locs cells slots lsr hC hH hS hL hR hs (by omega) (by omega) T hT X with ⟨vv, st₀, t, T', Lq, h0, X', hLq, e1, e2, ⟨⟨v', hv', hov, hok, hHp⟩, hF⟩, go⟩ | ⟨q, st₀, t, T', Lq, E, ce, h0, X', hLq, e1, e2, ⟨⟨e9, he9, -⟩, -⟩, -⟩
  · cases hv'
    have hvv : vv = v.map (zrv sz b) := by injection hov
    subst hvv
    obtain ⟨k1, k2, k3⟩ := vx_keep (A0 := zA sz) (A1 := zA sz) h0 e1 hS (fun _ _ h => h) (fun _ h => h) hLq hF
    obtain ⟨t2, a1, b1⟩ := g4 p e R s m args below meth c T'.heap (locs ++ Lq) (cells + (M1.1.2.2.1 - M.1.2.2.1)) (slots + (M1.1.2.2.2 - M.1.2.2.2)) mc ms lsr hC (by rw [e1]; exact hHp) k3 hL hR (zokl_mono m3 ho) (by
      cases v with
      | none => exact zoks_mono m3 (hsub hs)
      | some w => exact zoks_cons (hok w rfl) (zoks_mono m3 (hsub hs))) (by omega) (by omega) h3 h4 T' rfl X'
    refine ⟨t2, go t2 ?_, b1⟩
    cases v with
    | none => exact a1
    | some w => exact a1
  · cases he9
theorem zGoal_out {pc : Nat} {ls : zLs} {st st' : List zV} {M M1 : zM} {e9 : Nat} (hrun : zRunP K sz b L xs D tc l x pc ls st st' M (.inr e9) M1) (m1 : M.1.2.2.1 ≤ M1.1.2.2.1) (m2 : M.1.2.2.2 ≤ M1.1.2.2.2) (m3 : M.1.1 ≤ M1.1.1) (hh : zxH x = []) : zGoal K sz b L xs D tc l x pc ls st M (.inr e9) M1 := by
  refine ⟨m1, m2, m3, fun p e R s m args below meth c H locs cells slots mc ms lsr hC hH hS hL hR ho hs h1 h2 h3 h4 T hT X => ?_⟩
  rcases hrun p e R s m args below meth c H locs cells slots lsr hC hH hS hL hR hs (by omega) (by omega) T hT X with ⟨vv, st₀, t, T', Lq, h0, X', hLq, e1, e2, ⟨⟨v', hv', -⟩, -⟩, -⟩ | ⟨q, st₀, t, T', Lq, E, ce, h0, X', hLq, e1, e2, ⟨⟨e8, he8, he3, hE, hHp⟩, hF⟩, hce, hcv, hcl, go⟩
  · cases hv'
  · cases he8
    obtain ⟨k1, k2, k3⟩ := vx_keep (A0 := zA sz) (A1 := zA sz) h0 e1 hS (fun _ _ h => h) (fun _ h => h) hLq hF
    have hout : ∀ z ∈ c.exceptionTable.toList, covers z pc = false := fun z hz => by
      rw [hC.2.2.2.2.2.1, hh] at hz
      cases hz
    have kx := vx_out (p := p) (l := l) (e := e) (R := R) (below := below) (c := c) (m := m) (args := args) (meth := meth) (H := T'.heap) (locs := locs ++ Lq) (cells := cells + (M1.1.2.2.1 - M.1.2.2.1)) (slots := slots + (M1.1.2.2.2 - M.1.2.2.2)) (Qc := zQc K sz b L xs D tc (.inr e9) M1) (XC := zXc K sz b L xs D tc (.inr e9) M1) (free := zA sz) (ls := lsr) (rest := st'.map (zrv sz b)) (mc := mc) (ms := ms) hout hC.2.2.2.2.1 (by rw [e1]; exact hce) hcv hcl (fun t9 ht9 _ => ⟨⟨e9, rfl, he3, hE, by rw [ht9, e1]; exact hHp⟩, zva_F k3 ht9⟩) k3.2.2 (by omega) (by omega)
    obtain ⟨t2, a1, b1⟩ := kx T' rfl X'
    exact ⟨t2, go.trans a1, b1⟩
theorem zst_LR3 {ls : zLs} {i : Nat} {w : Value} {ls' : Array Slot} (h : lv_has ls' ls.length ((i, w) :: (zlv sz b ls).filter (fun q => !(q.1 == i) && !(q.1 + 1 == i && q.2.category == 2)))) : zLR sz b ((zst ls i (.inl 0)).set i none) ls' := by
  refine ⟨by rw [List.length_set, zst_len]; exact h.1, h.2.1, fun k v hk => ?_⟩
  rw [List.getElem?_set] at hk
  by_cases hki : i = k
  · rw [if_pos hki] at hk
    split at hk <;> cases hk
  · rw [if_neg hki] at hk
    rcases zst_get hk with ⟨rfl, -⟩ | ⟨h1, h2, h3⟩
    · exact absurd rfl hki
    · refine h.2.2 (k, zrv sz b v) (List.mem_cons_of_mem _ (List.mem_filter.mpr ⟨zlv_mem.mpr ⟨v, h2, rfl⟩, ?_⟩))
      show (!(k == i) && !(k + 1 == i && (zrv sz b v).category == 2)) = true
      rw [zcat_rv]
      have e1 : (k == i) = false := beq_false_of_ne h1
      rw [e1]
      by_cases h4 : k + 1 = i
      · rw [h3 h4]
        simp
      · have e2 : (k + 1 == i) = false := beq_false_of_ne h4
        rw [e2]; rfl
theorem zctch_spec {pc e9 : Nat} {h' k : Nat} : ∀ {hs : List (Nat × Nat × Nat × Nat)}, zctch x pc e9 hs = some (h', k) → ∃ (pre : List (Nat × Nat × Nat × Nat)) (y : Nat × Nat × Nat × Nat) (suf : List (Nat × Nat × Nat × Nat)), hs = pre ++ y :: suf ∧
    (∀ z ∈ pre, ¬ (z.1 ≤ pc ∧ pc < z.2.1) ∨ (z.2.2.2 ≠ 0 ∧ ∃ q, zlk zclsT x.1 z.2.2.2 = some q ∧ q = 21 ∧ q ≠ 20 + e9)) ∧ (y.1 ≤ pc ∧ pc < y.2.1) ∧ y.2.2.2 ≠ 0 ∧ zlk zclsT x.1 y.2.2.2 = some (20 + e9) ∧
    ((decode (zxB x) y.2.2.1 = .ok (.astore k, 2) ∧ h' = y.2.2.1 + 2) ∨ (∃ kf : Fin 4, decode (zxB x) y.2.2.1 = .ok (.astore_n kf, 1) ∧ h' = y.2.2.1 + 1 ∧ k = kf.val))
  | [], h => by cases h
  | h0 :: t, h => by
    unfold zctch at h
    by_cases hc : h0.1 ≤ pc ∧ pc < h0.2.1
    · rw [if_pos hc] at h
      cases hz : zlk zclsT x.1 h0.2.2.2 with
      | none => rw [hz] at h; cases h
      | some q =>
        rw [hz] at h
        by_cases h00 : h0.2.2.2 = 0
        · have h : (if h0.2.2.2 = 0 then none else _ : Option (Nat × Nat)) = some (h', k) := h
          rw [if_pos h00] at h; cases h
        · have h : (if h0.2.2.2 = 0 then none else if q = 20 + e9 then (match decode (zxB x) h0.2.2.1 with
              | .ok (.astore k, 2) => some (h0.2.2.1 + 2, k)
              | .ok (.astore_n k, 1) => some (h0.2.2.1 + 1, k.val)
              | _ => none) else if q = 21 then zctch x pc e9 t else none : Option (Nat × Nat)) = some (h', k) := h
          rw [if_neg h00] at h
          by_cases hq : q = 20 + e9
          · rw [if_pos hq] at h
            refine ⟨[], h0, t, rfl, fun z hz8 => (nomatch hz8), hc, h00, by rw [hz, hq], ?_⟩
            split at h
            · rename_i k9 hd
              cases h
              exact Or.inl ⟨hd, rfl⟩
            · rename_i k9 hd
              cases h
              exact Or.inr ⟨k9, hd, rfl, rfl⟩
            · cases h
          · rw [if_neg hq] at h
            by_cases hr : q = 21
            · rw [if_pos hr] at h
              obtain ⟨pre, y, suf, e1, e2, e3⟩ := zctch_spec h
              refine ⟨h0 :: pre, y, suf, by rw [e1]; rfl, fun z hz9 => ?_, e3⟩
              rcases List.mem_cons.mp hz9 with rfl | hz9
              · exact Or.inr ⟨h00, q, hz, hr, hq⟩
              · exact e2 z hz9
            · rw [if_neg hr] at h; cases h
    · rw [if_neg hc] at h
      obtain ⟨pre, y, suf, e1, e2, e3⟩ := zctch_spec h
      refine ⟨h0 :: pre, y, suf, by rw [e1]; rfl, fun z hz9 => ?_, e3⟩
      rcases List.mem_cons.mp hz9 with rfl | hz9
      · exact Or.inl hc
      · exact e2 z hz9
theorem zcov {y : Nat × Nat × Nat × Nat} {pc : Nat} : covers ⟨y.1, y.2.1, y.2.2.1, y.2.2.2⟩ pc = (decide (y.1 ≤ pc) && decide (pc < y.2.1)) := rfl
theorem zGoal_catch {pc h' k : Nat} {ls : zLs} {st st' : List zV} {M M1 M2 : zM} {e9 : Nat} {r : zO} (hrun : zRunP K sz b L xs D tc l x pc ls st st' M (.inr e9) M1) (m1 : M.1.2.2.1 ≤ M1.1.2.2.1) (m2 : M.1.2.2.2 ≤ M1.1.2.2.2) (m3 : M.1.1 ≤ M1.1.1) (hl : ls.length = zxL x)
    (hc : zctch x pc e9 (zxH x) = some (h', k)) (hk : k < ls.length) (g : zGoal K sz b L xs D tc l x h' ((zst ls k (.inl 0)).set k none) [] M1 r M2) : zGoal K sz b L xs D tc l x pc ls st M r M2 := by
  obtain ⟨g1, g2, g3, g4⟩ := g
  obtain ⟨pre, y, suf, s1, s2, s3, s4, s5, s6⟩ := zctch_spec hc
  refine ⟨Nat.le_trans m1 g1, Nat.le_trans m2 g2, Nat.le_trans m3 g3, fun p e R s m args below meth c H locs cells slots mc ms lsr hC hH hS hL hR ho hs h1 h2 h3 h4 T hT X => ?_⟩
  rcases hrun p e R s m args below meth c H locs cells slots lsr hC hH hS hL hR hs (by omega) (by omega) T hT X with ⟨vv, st₀, t, T', Lq, h0, X', hLq, e1, e2, ⟨⟨v', hv', -⟩, -⟩, -⟩ | ⟨q, st₀, t, T', Lq, E, ce, h0, X', hLq, e1, e2, ⟨⟨e8, he8, he3, hE, hHp⟩, hF⟩, hce, hcv, hcl, go⟩
  · cases hv'
  · cases he8
    subst hE
    have hW := hC.2.2.2.2.2.2.2.2.1
    obtain ⟨k1, k2, k3⟩ := vx_keep (A0 := zA sz) (A1 := zA sz) h0 e1 hS (fun _ _ h => h) (fun _ h => h) hLq hF
    have hword : ∀ {idx f : Nat}, zlk zclsT x.1 idx = some (20 + f) → (Jvm.Cond.classLink (zcn x.1) idx (zen f)).before args s = true := fun {idx f} hz => by
      have h9 : Jvm.Cond.classLink (zcn x.1) idx (if 20 + f < 20 then zcn (20 + f) else zen (20 + f - 20)) ∈ lw_tbl := (zcls_ok _ (zlk_mem hz)).2
      rw [if_neg (by omega), show 20 + f - 20 = f by omega] at h9
      exact zword hW h9 rfl args
    have kx : vx_W p l e R s m args below meth c T'.heap (locs ++ Lq) (cells + (M1.1.2.2.1 - M.1.2.2.1)) (slots + (M1.1.2.2.2 - M.1.2.2.2)) (vx_MQ below (zQc K sz b L xs D tc r M2) (zXc K sz b L xs D tc r M2) args s mc ms (zA sz)) (F0 m pc lsr (st'.map (zrv sz b))) q := by
      refine vx_catch (name := zen e9) hC.2.2.2.2.2.2.1 (tableOf pre) ⟨y.1, y.2.1, y.2.2.1, y.2.2.2⟩ (tableOf suf) ?_ ?_ ?_ s4 (hword s5) (zword hW (zexc_ini e9 he3).2 rfl args) (by rw [e1]; exact hce) hcv hcl ?_
      · rw [hC.2.2.2.2.2.1, s1]
        show (pre ++ y :: suf).map _ = _
        rw [List.map_append, List.map_cons]
        rfl
      · intro z hz
        obtain ⟨z0, hz0, rfl⟩ := List.mem_map.mp hz
        rcases s2 z0 hz0 with h9 | ⟨h9, q9, hq1, hq2, hq4⟩
        · refine Or.inl ?_
          rw [zcov]
          by_cases h10 : z0.1 ≤ pc
          · rw [decide_eq_false (fun h11 => h9 ⟨h10, h11⟩), Bool.and_false]
          · rw [decide_eq_false h10, Bool.false_and]
        · have e20 : q9 = 20 + (q9 - 20) := by omega
          rw [e20] at hq1
          exact Or.inr ⟨h9, zen (q9 - 20), hword hq1, hW.2.2.2.2.2.1 e9 (q9 - 20) he3 (by omega) (by omega)⟩
      · rw [zcov, decide_eq_true s3.1, decide_eq_true s3.2]; rfl
      · have hend : ∀ lsr' : Array Slot, lv_has lsr' ls.length ((k, Value.ref q) :: (zlv sz b ls).filter (fun q => !(q.1 == k) && !(q.1 + 1 == k && q.2.category == 2))) →
            W p l e R s m args below meth c T'.heap (locs ++ Lq) (cells + (M1.1.2.2.1 - M.1.2.2.1)) (slots + (M1.1.2.2.2 - M.1.2.2.2)) (vx_MQ below (zQc K sz b L xs D tc r M2) (zXc K sz b L xs D tc r M2) args s mc ms (zA sz)) (F0 m h' lsr' []) := fun lsr' h9 =>
          g4 p e R s m args below meth c T'.heap (locs ++ Lq) _ _ mc ms lsr' hC (by rw [e1]; exact hHp) k3 (by rw [List.length_set, zst_len]; exact hL) (zst_LR3 h9) (zset_okl (zst_okl (zokl_mono m3 ho) z0r)) (fun _ h => nomatch h) (by omega) (by omega) h3 h4
        rcases s6 with ⟨hd, rfl⟩ | ⟨kf, hd, rfl, rfl⟩
        · exact lv_astore hC.1 hC.2.1 hd (zlv_has hR) hk rfl hend
        · exact lv_astore_n hC.1 hC.2.1 hd rfl (zlv_has hR) hk rfl hend
    obtain ⟨t2, a1, b1⟩ := kx T' rfl X'
    exact ⟨t2, go.trans a1, b1⟩
end ZAF
