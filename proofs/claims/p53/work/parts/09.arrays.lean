/-! arrays, and what is made -/
section ZA
variable {p : Program} {l : Launch} {e : Env} {R : Room} {s : State} {m : MethodId} {args : Array Value} {below : List Frame} {meth : Method} {c : Code} {H : Heap} {locs : List Loc} {cells slots : Nat} {Q : State → Prop}
variable {K : Nat → Nat × Nat} {sz b L : Nat} {xs : Nat → Int32} {D : va_G} {tc : Nat → ClassId} {x : zMI}
theorem zcell_I {M : zM} {a : Nat} (h1 : 20 ≤ (K a).1) (h2 : (K a).1 < 22) : zcell K sz b tc M a = .inl (tc (K a).1, (K a).2, .inl (fun j => Int32.ofInt (M.2.1 a j))) := by
  unfold zcell
  rw [if_neg (by omega), if_pos h2]
theorem zcell_L {M : zM} {a : Nat} (h1 : (K a).1 = 22) : zcell K sz b tc M a = .inl (tc (K a).1, (K a).2, .inr (.inl (fun j => M.2.2.1 a j))) := by
  unfold zcell
  rw [if_neg (by omega), if_neg (by omega), if_pos h1]
theorem zcell_R {M : zM} {a : Nat} (h1 : 22 < (K a).1) : zcell K sz b tc M a = .inl (tc (K a).1, (K a).2, .inr (.inr (.inr (.inr (fun j => zrfo sz b (M.2.2.2 a j)))))) := by
  unfold zcell
  rw [if_neg (by omega), if_neg (by omega), if_neg (by omega)]
theorem zp_iald {pc : Nat} {ls : zLs} {st : List zV} {M : zM} {a : Nat} {j : Int} (hd : decode (zxB x) pc = .ok (.iaload, 1)) (hK : (K a).1 = 20) (h0 : 0 ≤ j) (hn : j < (K a).2) : zStp K sz b L xs D tc l x pc ls (.inl j :: .inr (.inr a) :: st) M (pc + 1) ls (.inl (M.2.1 a j.toNat) :: st) M := by
  refine zStp_st (fun _ hr hs => zoks_cons (hr _ _) (zoks_tl (zoks_tl hs))) fun p e R s m args below meth c H locs cells slots Q lsr hC hH hS hL hR ho hs k => ?_
  have hj : zr32 j := zoks_hd hs
  have ha := zoks_hd (zoks_tl hs)
  have hW := hC.2.2.2.2.2.2.2.2.1
  rw [List.map_cons, List.map_cons, zrv_ref ha]
  by_cases h1 : a = 1
  · subst h1
    have hKL := hH.2.2.2.2.2.1
    rw [hKL] at hn
    have e1 : M.2.1 1 j.toNat = (xs j.toNat).toInt := hH.2.2.2.2.2.2 _ (by omega)
    refine va_sld hC.1 hC.2.1 hW.2.2.2.2.2.2.1 (Nat.lt_of_lt_of_le hW.2.2.2.2.2.2.2.1 hW.2.2.2.2.2.2.2.2) (show ¬ sz ≤ b by have := hW.2.2.2.2.2.2.2.1; omega) hS (zin_of h0 hn hj) hd ?_
    rw [zi32c h0 hj]
    rw [List.map_cons] at k
    have e2 : zrv sz b (.inl (M.2.1 1 j.toNat)) = .int (xs j.toNat) := by
      show Value.int _ = _
      rw [e1, Int32.ofInt_toInt]
    rw [e2] at k
    exact k
  · obtain ⟨g1, g2⟩ := zad_ok ha h1
    refine va_iald hC.1 hC.2.1 hW.1 hH.1 (a - 2) 0 (by rw [zws_get g1 g2, zcell_I (by omega) (by omega)]) (by rw [hK]; rfl) (zin_of h0 hn hj) hd ?_
    rw [zi32c h0 hj]
    exact k
theorem zp_zald {pc : Nat} {ls : zLs} {st : List zV} {M : zM} {a : Nat} {j : Int} (hd : decode (zxB x) pc = .ok (.baload, 1)) (hK : (K a).1 = 21) (h0 : 0 ≤ j) (hn : j < (K a).2) : zStp K sz b L xs D tc l x pc ls (.inl j :: .inr (.inr a) :: st) M (pc + 1) ls (.inl (M.2.1 a j.toNat) :: st) M := by
  refine zStp_st (fun _ hr hs => zoks_cons (hr _ _) (zoks_tl (zoks_tl hs))) fun p e R s m args below meth c H locs cells slots Q lsr hC hH hS hL hR ho hs k => ?_
  have hj : zr32 j := zoks_hd hs
  have ha := zoks_hd (zoks_tl hs)
  have hW := hC.2.2.2.2.2.2.2.2.1
  rw [List.map_cons, List.map_cons, zrv_ref ha]
  have h1 : a ≠ 1 := fun h => by
    have h9 := hH.2.2.2.2.2.1
    rw [h, h9] at hK
    exact absurd (show (20 : Nat) = 21 from hK) (by decide)
  obtain ⟨g1, g2⟩ := zad_ok ha h1
  refine va_zald hC.1 hC.2.1 hW.1 hH.1 (a - 2) 1 (by rw [zws_get g1 g2, zcell_I (by omega) (by omega)]) (by rw [hK]; rfl) (zin_of h0 hn hj) hd ?_
  rw [zi32c h0 hj]
  exact k
theorem zty_at {tc : Nat → ClassId} {t : Nat} (h1 : 23 ≤ t) (h2 : t ≤ 25) : ∃ (t0 ci : Nat), (ztys tc)[t0]? = some (tc t, .object (zcn ci)) ∧ ci < 11 ∧ ((t = 23 ∧ ci = 7) ∨ (t = 24 ∧ ci = 6) ∨ (t = 25 ∧ ci = 1)) := by
  have h3 : t = 23 ∨ t = 24 ∨ t = 25 := by omega
  rcases h3 with rfl | rfl | rfl
  · exact ⟨3, 7, rfl, by decide, Or.inl ⟨rfl, rfl⟩⟩
  · exact ⟨4, 6, rfl, by decide, Or.inr (Or.inl ⟨rfl, rfl⟩)⟩
  · exact ⟨5, 1, rfl, by decide, Or.inr (Or.inr ⟨rfl, rfl⟩)⟩
theorem zp_aald {pc : Nat} {ls : zLs} {st : List zV} {M : zM} {a : Nat} {j : Int} (hd : decode (zxB x) pc = .ok (.aaload, 1)) (hK1 : 23 ≤ (K a).1) (hK2 : (K a).1 ≤ 25) (h0 : 0 ≤ j) (hn : j < (K a).2) (hnn : M.2.2.2 a j.toNat ≠ 0) : zStp K sz b L xs D tc l x pc ls (.inl j :: .inr (.inr a) :: st) M (pc + 1) ls (.inr (.inr (M.2.2.2 a j.toNat)) :: st) M := by
  refine ⟨Nat.le_refl _, Nat.le_refl _, fun h => h, fun p e R s m args below meth c H locs cells slots Q lsr hC hH hS hL hR ho hs _ _ kk => ?_⟩
  have hv : zok M.1.1 (.inr (.inr (M.2.2.2 a j.toNat))) := ⟨by omega, hH.2.2.2.2.1 _ _⟩
  have k := kk H locs lsr hH hS hR ho (zoks_cons hv (zoks_tl (zoks_tl hs)))
  rw [Nat.sub_self, Nat.sub_self] at k
  have hj : zr32 j := zoks_hd hs
  have ha := zoks_hd (zoks_tl hs)
  have hW := hC.2.2.2.2.2.2.2.2.1
  rw [List.map_cons, List.map_cons, zrv_ref ha]
  have h1 : a ≠ 1 := fun h => by
    have h9 := hH.2.2.2.2.2.1
    rw [h, h9] at hK1
    exact absurd (show 23 ≤ (20 : Nat) from hK1) (by decide)
  obtain ⟨g1, g2⟩ := zad_ok ha h1
  obtain ⟨t0, ci, ht, -⟩ := zty_at (tc := tc) hK1 hK2
  refine va_aldq hC.1 hC.2.1 hW.1 hH.1 (a - 2) t0 (by rw [zws_get g1 g2, zcell_R (by omega)]) ht (zin_of h0 hn hj) hd ?_
  rw [zi32c h0 hj]
  rw [zrfo_rf]
  exact k
theorem zp_alen {pc : Nat} {ls : zLs} {st : List zV} {M : zM} {a : Nat} (hd : decode (zxB x) pc = .ok (.arraylength, 1)) (hK1 : 20 ≤ (K a).1) (hK2 : (K a).1 ≤ 25) (hn : (K a).2 ≤ 2147483647) : zStp K sz b L xs D tc l x pc ls (.inr (.inr a) :: st) M (pc + 1) ls (.inl ((K a).2 : Int) :: st) M := by
  refine zStp_st (fun _ hr hs => zoks_cons ⟨by omega, by omega⟩ (zoks_tl hs)) fun p e R s m args below meth c H locs cells slots Q lsr hC hH hS hL hR ho hs k => ?_
  have ha := zoks_hd hs
  have hW := hC.2.2.2.2.2.2.2.2.1
  have e0 : Int32.ofNat (K a).2 = Int32.ofInt ((K a).2 : Int) := rfl
  rw [List.map_cons, zrv_ref ha]
  by_cases h1 : a = 1
  · subst h1
    have hKL := hH.2.2.2.2.2.1
    refine va_slen hC.1 hC.2.1 hW.2.2.2.2.2.2.1 (Nat.lt_of_lt_of_le hW.2.2.2.2.2.2.2.1 hW.2.2.2.2.2.2.2.2) (show ¬ sz ≤ b by have := hW.2.2.2.2.2.2.2.1; omega) hS hd ?_
    rw [hKL] at k
    exact k
  · obtain ⟨g1, g2⟩ := zad_ok ha h1
    by_cases h2 : (K a).1 < 22
    · by_cases h3 : (K a).1 = 20
      · exact va_alen hC.1 hC.2.1 hW.1 hH.1 (a - 2) 0 (by rw [zws_get g1 g2, zcell_I (by omega) (by omega)]) (by rw [h3]; rfl) e0 hd k
      · exact va_alen hC.1 hC.2.1 hW.1 hH.1 (a - 2) 1 (by rw [zws_get g1 g2, zcell_I (by omega) (by omega)]) (by rw [show (K a).1 = 21 by omega]; rfl) e0 hd k
    · by_cases h3 : (K a).1 = 22
      · exact va_alen hC.1 hC.2.1 hW.1 hH.1 (a - 2) 2 (by rw [zws_get g1 g2, zcell_L h3]) (by rw [h3]; rfl) e0 hd k
      · obtain ⟨t0, ci, ht, -⟩ := zty_at (tc := tc) (show 23 ≤ (K a).1 by omega) hK2
        exact va_alen hC.1 hC.2.1 hW.1 hH.1 (a - 2) t0 (by rw [zws_get g1 g2, zcell_R (by omega)]) ht e0 hd k
theorem zp_iast {pc : Nat} {ls : zLs} {st : List zV} {M : zM} {a : Nat} {j v : Int} (hd : decode (zxB x) pc = .ok (.iastore, 1)) (h2 : 2 ≤ a) (hK : (K a).1 = 20) (h0 : 0 ≤ j) (hn : j < (K a).2) : zStp K sz b L xs D tc l x pc ls (.inl v :: .inl j :: .inr (.inr a) :: st) M (pc + 1) ls st (zsI M a j.toNat v) := by
  refine ⟨Nat.le_refl _, Nat.le_refl _, fun h => h, fun p e R s m args below meth c H locs cells slots Q lsr hC hH hS hL hR ho hs _ _ kk => ?_⟩
  have hj : zr32 j := zoks_hd (zoks_tl hs)
  have ha := zoks_hd (zoks_tl (zoks_tl hs))
  have hW := hC.2.2.2.2.2.2.2.2.1
  rw [List.map_cons, List.map_cons, List.map_cons, zrv_ref ha]
  have g2 : a < M.1.1 + 2 := ha.2
  refine z_iast hC.1 hC.2.1 hW.1 hH.1 (zws_D K sz b tc M) hS (a - 2) 0 (by rw [zws_get h2 g2, zcell_I (by omega) (by omega)]) (by rw [hK]; rfl) (zin_of h0 hn hj) hd fun H1 locs1 hP1 hS1 hz1 => ?_
  have k := kk H1 locs1 lsr ⟨?_, by rw [hz1]; exact hH.2.1, by rw [hz1]; exact hH.2.2.1, zr_sI hH.2.2.2.1 (zoks_hd hs), hH.2.2.2.2.1, hH.2.2.2.2.2.1, fun i hi => ?_⟩ hS1 hR ho (zoks_tl (zoks_tl (zoks_tl hs)))
  · rw [show (zsI M a j.toNat v).1.2.2.1 = M.1.2.2.1 from rfl, show (zsI M a j.toNat v).1.2.2.2 = M.1.2.2.2 from rfl, Nat.sub_self, Nat.sub_self] at k
    exact k
  · rw [zi32c h0 hj] at hP1
    rw [← zws_set (K := K) (sz := sz) (b := b) (tc := tc) (M := M) (M' := zsI M a j.toNat v) h2 rfl (fun a' h => zcell_sI h)]
    have e1 : zcell K sz b tc (zsI M a j.toNat v) a = .inl (tc (K a).1, (K a).2, .inl (zup (fun i => Int32.ofInt (M.2.1 a i)) j.toNat (Int32.ofInt v))) := by
      rw [zcell_I (by omega) (by omega)]
      congr 4
      funext i
      show Int32.ofInt (zup M.2.1 a (zup (M.2.1 a) j.toNat v) a i) = _
      rw [zup_same]
      by_cases hi : i = j.toNat
      · subst hi; rw [zup_same, zup_same]
      · rw [zup_ne hi, zup_ne hi]
    rw [e1]
    exact hP1
  · show zup M.2.1 a _ 1 i = _
    rw [zup_ne (show 1 ≠ a by omega)]
    exact hH.2.2.2.2.2.2 i hi
theorem zp_zast {pc : Nat} {ls : zLs} {st : List zV} {M : zM} {a : Nat} {j v : Int} (hd : decode (zxB x) pc = .ok (.bastore, 1)) (h2 : 2 ≤ a) (hK : (K a).1 = 21) (h0 : 0 ≤ j) (hn : j < (K a).2) (hv : v = 0 ∨ v = 1) : zStp K sz b L xs D tc l x pc ls (.inl v :: .inl j :: .inr (.inr a) :: st) M (pc + 1) ls st (zsI M a j.toNat v) := by
  refine ⟨Nat.le_refl _, Nat.le_refl _, fun h => h, fun p e R s m args below meth c H locs cells slots Q lsr hC hH hS hL hR ho hs _ _ kk => ?_⟩
  have hj : zr32 j := zoks_hd (zoks_tl hs)
  have ha := zoks_hd (zoks_tl (zoks_tl hs))
  have hW := hC.2.2.2.2.2.2.2.2.1
  rw [List.map_cons, List.map_cons, List.map_cons, zrv_ref ha]
  have g2 : a < M.1.1 + 2 := ha.2
  refine z_zast hC.1 hC.2.1 hW.1 hH.1 (zws_D K sz b tc M) hS (a - 2) 1 (by rw [zws_get h2 g2, zcell_I (by omega) (by omega)]) (by rw [hK]; rfl) (by rcases hv with rfl | rfl <;> rfl) (zin_of h0 hn hj) hd fun H1 locs1 hP1 hS1 hz1 => ?_
  have k := kk H1 locs1 lsr ⟨?_, by rw [hz1]; exact hH.2.1, by rw [hz1]; exact hH.2.2.1, zr_sI hH.2.2.2.1 (zoks_hd hs), hH.2.2.2.2.1, hH.2.2.2.2.2.1, fun i hi => ?_⟩ hS1 hR ho (zoks_tl (zoks_tl (zoks_tl hs)))
  · rw [show (zsI M a j.toNat v).1.2.2.1 = M.1.2.2.1 from rfl, show (zsI M a j.toNat v).1.2.2.2 = M.1.2.2.2 from rfl, Nat.sub_self, Nat.sub_self] at k
    exact k
  · rw [zi32c h0 hj] at hP1
    rw [← zws_set (K := K) (sz := sz) (b := b) (tc := tc) (M := M) (M' := zsI M a j.toNat v) h2 rfl (fun a' h => zcell_sI h)]
    have e1 : zcell K sz b tc (zsI M a j.toNat v) a = .inl (tc (K a).1, (K a).2, .inl (zup (fun i => Int32.ofInt (M.2.1 a i)) j.toNat (Int32.ofInt v))) := by
      rw [zcell_I (by omega) (by omega)]
      congr 4
      funext i
      show Int32.ofInt (zup M.2.1 a (zup (M.2.1 a) j.toNat v) a i) = _
      rw [zup_same]
      by_cases hi : i = j.toNat
      · subst hi; rw [zup_same, zup_same]
      · rw [zup_ne hi, zup_ne hi]
    rw [e1]
    exact hP1
  · show zup M.2.1 a _ 1 i = _
    rw [zup_ne (show 1 ≠ a by omega)]
    exact hH.2.2.2.2.2.2 i hi
theorem zp_aast {pc : Nat} {ls : zLs} {st : List zV} {M : zM} {a v : Nat} {j : Int} (hd : decode (zxB x) pc = .ok (.aastore, 1)) (h2 : 2 ≤ a) (hv2 : 2 ≤ v) (hK : ((K a).1 = 23 ∧ (K v).1 = 7) ∨ ((K a).1 = 24 ∧ (K v).1 = 6) ∨ ((K a).1 = 25 ∧ (K v).1 = 1)) (h0 : 0 ≤ j) (hn : j < (K a).2) : zStp K sz b L xs D tc l x pc ls (.inr (.inr v) :: .inl j :: .inr (.inr a) :: st) M (pc + 1) ls st (zsR M a j.toNat v) := by
  refine ⟨Nat.le_refl _, Nat.le_refl _, fun h => h, fun p e R s m args below meth c H locs cells slots Q lsr hC hH hS hL hR ho hs _ _ kk => ?_⟩
  have hj : zr32 j := zoks_hd (zoks_tl hs)
  have hv := zoks_hd hs
  have ha := zoks_hd (zoks_tl (zoks_tl hs))
  have hW := hC.2.2.2.2.2.2.2.2.1
  rw [List.map_cons, List.map_cons, List.map_cons, zrv_ref ha, zrv_ref hv]
  have g2 : a < M.1.1 + 2 := ha.2
  have gv : v < M.1.1 + 2 := hv.2
  obtain ⟨t0, ci, ht, hci, hcases⟩ := zty_at (tc := tc) (show 23 ≤ (K a).1 by omega) (show (K a).1 ≤ 25 by omega)
  have hKv : (K v).1 = ci := by omega
  refine z_astq (r := zcl ci) hC.1 hC.2.1 hW.1 hH.1 (zws_D K sz b tc M) hS (a - 2) t0 (v - 2) ci (by rw [zws_get h2 g2, zcell_R (by omega)]) (by rw [(zcl_inst ci hci).2.2]; exact ht) (by rw [zws_get hv2 gv, zcell_obj hKv hci]) (zcl_get ci hci) (zin_of h0 hn hj) hd fun H1 locs1 hP1 hS1 hz1 => ?_
  have k := kk H1 locs1 lsr ⟨?_, by rw [hz1]; exact hH.2.1, by rw [hz1]; exact hH.2.2.1, hH.2.2.2.1, zr_sR hH.2.2.2.2.1 gv, hH.2.2.2.2.2.1, hH.2.2.2.2.2.2⟩ hS1 hR ho (zoks_tl (zoks_tl (zoks_tl hs)))
  · rw [show (zsR M a j.toNat v).1.2.2.1 = M.1.2.2.1 from rfl, show (zsR M a j.toNat v).1.2.2.2 = M.1.2.2.2 from rfl, Nat.sub_self, Nat.sub_self] at k
    exact k
  · rw [zi32c h0 hj] at hP1
    rw [← zws_set (K := K) (sz := sz) (b := b) (tc := tc) (M := M) (M' := zsR M a j.toNat v) h2 rfl (fun a' h => zcell_sR h)]
    have e1 : zcell K sz b tc (zsR M a j.toNat v) a = .inl (tc (K a).1, (K a).2, .inr (.inr (.inr (.inr (zup (fun i => zrfo sz b (M.2.2.2 a i)) j.toNat (some (zad sz b v))))))) := by
      rw [zcell_R (by omega)]
      congr 8
      funext i
      show zrfo sz b (zup M.2.2.2 a (zup (M.2.2.2 a) j.toNat v) a i) = _
      rw [zup_same]
      by_cases hi : i = j.toNat
      · subst hi
        rw [zup_same, zup_same]
        exact if_neg (by omega)
      · rw [zup_ne hi, zup_ne hi]
    rw [e1]
    exact hP1
end ZA
