/-! the reference: the area by what the shapes are -/
section ZRAREAOF
variable {L : Nat} {M : zM} {s t : Nat} {Q : zO → zM → Prop}
noncomputable def zra (f : Nat → Nat → Int) (w : Int) (s t : Nat) : Int := (zTot (zrE2 f w s t (f 1174 s).toNat (f 1174 t).toNat) (zg3 w (f 1175 s) (f 1175 t) (f 1174 s).toNat) 3601).2
def zrWl (f : Nat → Nat → Int) (s : Nat) : Prop := zrSw f s ∧ zSP (zrN f s) (zrX f s) (zrY f s) (f 1174 s).toNat
theorem zra_b {f : Nat → Nat → Int} {w : Int} (ws : zrWl f s) (wt : zrWl f t) : 0 ≤ zra f w s t ∧ zra f w s t ≤ 51900000 := by
  have a1 := ws.1.1
  have a2 := wt.1.1
  have hA := zrE2_A (f := f) (w := w) (s := s) (t := t) (c1 := (f 1174 s).toNat) (c2 := (f 1174 t).toNat) (by omega) (by omega) ws.2 wt.2
  have b := zTot_b hA (zg3 w (f 1175 s) (f 1175 t) (f 1174 s).toNat) 3601
  have c := zTot_c (zrE2 f w s t (f 1174 s).toNat (f 1174 t).toNat) (zg3 w (f 1175 s) (f 1175 t) (f 1174 s).toNat) 3601
  unfold zra
  generalize zTot (zrE2 f w s t (f 1174 s).toNat (f 1174 t).toNat) (zg3 w (f 1175 s) (f 1175 t) (f 1174 s).toNat) 3601 = T at *
  have c1 : T.1 ≤ 3601 := by
    rcases c with ⟨h, _⟩ | ⟨u, h, h2, _⟩
    · omega
    · omega
  clear c hA
  split at b <;> omega
theorem c300v {f g : Nat → Nat → Int} {w : Int} (hR : zLay M.2.2.2) (hs : s ≤ 60) (ht : t ≤ 60) (fr : zarfr f g) (ws : zrWl f s) (wt : zrWl f t) : ∃ g', zarfr f g' ∧ ∀ Q : zO → zM → Prop, zFR (zK L) 300 0 (zcall 300 [.inr (.inr 1153), .inl w, .inl (s : Int), .inl (t : Int)]) [] (zwI M g) Q = Q (.inl (some (.inl (zra f w s t)))) (zwI M g') := by
  have g74 := fr.1 1174 (by omega) (by omega)
  have g75 := fr.1 1175 (by omega) (by omega)
  have g76 := fr.1 1176 (by omega) (by omega)
  have g77 := fr.1 1177 (by omega) (by omega)
  have g78 := fr.1 1178 (by omega) (by omega)
  have a1 := ws.1.1
  have a2 := wt.1.1
  have vs := zr_view g76 g77 g78 s
  have vt := zr_view g76 g77 g78 t
  obtain ⟨r1, M1, ⟨g2, hr1, hM1, fr2⟩, e300⟩ := zFRx (c300 (L := L) (M := M) (f := g) (w := w) (s := s) (t := t) (c1 := (f 1174 s).toNat) (c2 := (f 1174 t).toNat) hR hs ht (by rw [g74]; omega) (by rw [g74]; omega) (by omega) (by omega) (by rw [g75]; exact ws.1.2.1) (by rw [g75]; exact wt.1.2.1) (by rw [vs.1, vs.2.1, vs.2.2]; exact ws.2) (by rw [vt.1, vt.2.1, vt.2.2]; exact wt.2))
  subst hr1 hM1
  have eV : (zTot (zrE2 g w s t (f 1174 s).toNat (f 1174 t).toNat) (zg3 w (g 1175 s) (g 1175 t) (f 1174 s).toNat) 3601).2 = zra f w s t := by
    unfold zra zrE2
    rw [vs.1, vs.2.1, vs.2.2, vt.1, vt.2.1, vt.2.2, g75]
  rw [eV] at e300
  exact ⟨g2, zarfr_t fr fr2, e300⟩
end ZRAREAOF
