/-! what the two boards give to the contracts -/
section ZRELF
variable {n : Nat} {f g f' g' : Nat → Nat → Int} {i : Nat}
theorem zqR_01 (h : zqR n f g) : ∀ i, i < 60 → f (14 + 14 * i) 0 = 0 ∨ f (14 + 14 * i) 0 = 1 := fun i hi => by
  obtain ⟨a, b, _⟩ := h.1.2 i hi
  omega
theorem zqR_r01 (h : zqR n f g) : ∀ i, i < 60 → g 1166 i = 0 ∨ g 1166 i = 1 := fun i hi => (h.1.2 i hi).1
theorem zqR_t (h : zqR n f g) (hi : i < 60) : f (14 + 14 * i) 0 = g 1166 i := (h.1.2 i hi).2.1
theorem zqR_bk (h : zqR n f g) : zBk f := fun i hi => ⟨zqR_01 h i hi, fun _ => h.2.2.2.2.2.2.2.2.1 i hi⟩
theorem zqR_kb (h : zqR n f g) (hi : i < 60) (t : g 1166 i = 1) : (1 ≤ g 1169 i ∧ g 1169 i ≤ 3000) ∧ (1 ≤ g 1170 i ∧ g 1170 i ≤ 50) ∧ g 1169 i ≤ (n : Int) * g 1170 i := by
  obtain ⟨_, _, a, b, c⟩ := h.2.2.1.1 i hi t
  refine ⟨⟨a, ?_⟩, b, c⟩
  have n6 := h.1.1
  have e : (n : Int) * g 1170 i ≤ 60 * 50 := Int.mul_le_mul (by omega) b.2 (by omega) (by omega)
  omega
theorem zqR_rbk (h : zqR n f g) : zrBk g := fun i hi => ⟨zqR_r01 h i hi, fun t => by
  obtain ⟨a, b, _⟩ := zqR_kb h hi t
  exact ⟨⟨by omega, by omega⟩, b⟩⟩
theorem zqR_ld (h : zqR n f g) : zLd f := h.2.2.2.2.2.2.2.2.2.1
theorem zqR_gr (h : zqR n f g) : zGr f := h.2.2.2.2.2.2.2.2.2.2.1
theorem zqR_ch (h : zqR n f g) : ∀ j, j < 60 → f 8 j = 0 ∨ f 8 j = 1 := h.2.2.2.2.2.2.2.2.2.2.2
theorem zqR_rld (h : zqR n f g) : zrLd g := fun i hi => ⟨(h.2.2.2.1.2.1 i hi).1, (h.2.2.2.1.2.1 i hi).2.1⟩
theorem zqR_ne (h : zqR n f g) : zrNe g := ⟨h.2.2.2.1.2.2, zqR_r01 h, fun i hi h0 => ((h.2.2.2.1.2.1 i hi).2.2 h0).1⟩
theorem zqR_gb (h : zqR n f g) (hi : i < 60) : -1 ≤ g 1180 i ∧ g 1180 i < 60 := by
  have n6 := h.1.1
  rcases (h.2.2.2.2.1 i hi).2.2 with a | ⟨a, b, _⟩ <;> omega
theorem zotr_up {w : Nat → Int} (hw : ∀ a, a < 60 → w a = -1 ∨ ((a : Int) < w a ∧ w a < 60)) : ∀ k a, a < 60 → 60 ≤ a + k → w (zotr w k a) < 0
  | 0, a, h, h2 => by omega
  | k + 1, a, h, h2 => by
    rw [zotr_s]
    split
    · next h3 => exact h3
    · next h3 =>
      rcases hw a h with e | ⟨e1, e2⟩
      · omega
      · exact zotr_up hw k _ (by omega) (by omega)
theorem zqR_wup (h : zqR n f g) : ∀ a, a < 60 → g 1180 a = -1 ∨ ((a : Int) < g 1180 a ∧ g 1180 a < 60) := fun a ha => by
  have n6 := h.1.1
  rcases (h.2.2.2.2.1 a ha).2.2 with e | ⟨e1, e2, _⟩
  · exact Or.inl e
  · exact Or.inr ⟨e1, by omega⟩
theorem zqR_rG (h : zqR n f g) : zrG g := ⟨fun a ha => zqR_gb h ha, fun i hi => zotr_up (zqR_wup h) 60 i hi (by omega)⟩
theorem zqO_sp (h : zqO g i) : zrSp g i := by
  obtain ⟨⟨a1, a2⟩, ⟨b1, b2, _⟩, c⟩ := h
  refine ⟨⟨by omega, a2⟩, ⟨b1, ?_⟩, fun p hp => ⟨by have := (c p hp).1; omega, (c p hp).1.2, fun j hj => by have := (c p hp).2.2 j hj; omega⟩⟩
  have e : (g 1174 i).toNat ≤ 4 := by omega
  have e2 : 2 ^ 2 ^ (g 1174 i).toNat ≤ 2 ^ 2 ^ 4 := Nat.pow_le_pow_right (by omega) (Nat.pow_le_pow_right (by omega) e)
  have e3 : (2 : Nat) ^ 2 ^ 4 = 65536 := by decide
  omega
theorem zrSp_sw (h : zrSp g i) : zrSw g i := by
  obtain ⟨a, b, c⟩ := h
  exact ⟨a, b, fun p hp => ⟨(c p hp).1, (c p hp).2.1, fun j hj => by have := (c p hp).2.2 j hj; omega⟩⟩
theorem zqO_sw (h : zqO g i) : zrSw g i := zrSp_sw (zqO_sp h)
/-- the frame of a shape as it may be -/
theorem zqO_fr (h : zqO g i) {p k : Nat} (hp : (p : Int) < g 1174 i) (hk : (k : Int) < zrN g i p) : (zrsd g i 0 ≤ zrX g i p k ∧ zrX g i p k ≤ zrsd g i 2) ∧ zrsd g i 1 ≤ zrY g i p k ∧ zrY g i p k ≤ zrsd g i 3 := by
  rw [zrsd_0, zrsd_1, zrsd_2, zrsd_3]
  have a1 := (zf2_mn (n := zrN g i) (X := zrX g i) (b := 100) (g 1174 i).toNat).2.1 p (by omega) k hk
  have a2 := (zf2_mn (n := zrN g i) (X := zrY g i) (b := 100) (g 1174 i).toNat).2.1 p (by omega) k hk
  have a3 := (zf2_mx (n := zrN g i) (X := zrX g i) (b := -1) (g 1174 i).toNat).2.1 p (by omega) k hk
  have a4 := (zf2_mx (n := zrN g i) (X := zrY g i) (b := -1) (g 1174 i).toNat).2.1 p (by omega) k hk
  omega
theorem zqO_fm (h : zqO g i) : zrFm g i := by
  obtain ⟨h1, h2, h3⟩ := h
  have z0 : ((0 : Nat) : Int) < g 1174 i := by omega
  obtain ⟨n0, _, c0⟩ := h3 0 z0
  have b0 := c0 0 (by omega)
  unfold zrFm
  rw [zrsd_0, zrsd_1, zrsd_2, zrsd_3]
  obtain ⟨a1, a2, a3⟩ := zf2_mn (n := zrN g i) (X := zrX g i) (b := 100) (g 1174 i).toNat
  obtain ⟨b1, b2, b3⟩ := zf2_mn (n := zrN g i) (X := zrY g i) (b := 100) (g 1174 i).toNat
  obtain ⟨c1, c2, c3⟩ := zf2_mx (n := zrN g i) (X := zrX g i) (b := -1) (g 1174 i).toNat
  obtain ⟨d1, d2, d3⟩ := zf2_mx (n := zrN g i) (X := zrY g i) (b := -1) (g 1174 i).toNat
  have a20 := a2 0 (by omega) 0 (by omega)
  have b20 := b2 0 (by omega) 0 (by omega)
  have c20 := c2 0 (by omega) 0 (by omega)
  have d20 := d2 0 (by omega) 0 (by omega)
  generalize zf2 zmn (zrN g i) (zrX g i) 100 (g 1174 i).toNat = l at *
  generalize zf2 zmn (zrN g i) (zrY g i) 100 (g 1174 i).toNat = d at *
  generalize zf2 zmx (zrN g i) (zrX g i) (-1) (g 1174 i).toNat = r at *
  generalize zf2 zmx (zrN g i) (zrY g i) (-1) (g 1174 i).toNat = u at *
  have l0 : 0 ≤ l := by
    rcases a3 with a3 | ⟨p, k, hp, hk, e⟩
    · omega
    · have := (h3 p (by omega)).2.2 k hk; omega
  have d0 : 0 ≤ d := by
    rcases b3 with b3 | ⟨p, k, hp, hk, e⟩
    · omega
    · have := (h3 p (by omega)).2.2 k hk; omega
  have r0 : r ≤ 60 := by
    rcases c3 with c3 | ⟨p, k, hp, hk, e⟩
    · omega
    · have := (h3 p (by omega)).2.2 k hk; omega
  have u0 : u ≤ 60 := by
    rcases d3 with d3 | ⟨p, k, hp, hk, e⟩
    · omega
    · have := (h3 p (by omega)).2.2 k hk; omega
  exact ⟨⟨l0, by omega, r0⟩, d0, by omega, u0⟩
/-- .. and the class's -/
theorem zqE_sw (h : zqE f g i) (hg : zqO g i) : zSw f (14 + 14 * i) := by
  obtain ⟨a, b, c⟩ := zqO_sp hg
  obtain ⟨h1, h2, h3, _⟩ := h
  refine ⟨by rw [h2]; exact a, by rw [h1]; exact b, fun p hp => ?_⟩
  rw [h2] at hp
  obtain ⟨q1, q2⟩ := h3 p hp
  obtain ⟨c1, c2, c3⟩ := c p hp
  refine ⟨by rw [q1]; exact c1, by rw [q1]; exact c2, fun k hk => ?_⟩
  rw [q1] at hk
  rw [(q2 k hk).1, (q2 k hk).2]
  exact c3 k hk
theorem zqE_fm (h : zqE f g i) (hg : zqO g i) : zFm f (14 + 14 * i) ∧ f (14 + 14 * i) 11 ≤ f (14 + 14 * i) 13 ∧ f (14 + 14 * i) 12 ≤ f (14 + 14 * i) 14 := by
  obtain ⟨⟨a1, a2, a3⟩, a4, a5, a6⟩ := zqO_fm hg
  obtain ⟨_, _, _, e1, e2, e3, e4⟩ := h
  unfold zFm
  rw [e1, e2, e3, e4]
  omega
theorem zqE_pr (h : zqE f g i) (hg : zqO g i) {p : Nat} (hp : (p : Int) < f (14 + 14 * i) 10) : 3 ≤ zN f (14 + 14 * i) p ∧ zpr (zN f (14 + 14 * i) p) (zX f (14 + 14 * i) p) (zY f (14 + 14 * i) p) 0 := by
  obtain ⟨h1, h2, h3, _⟩ := h
  rw [h2] at hp
  obtain ⟨q1, q2⟩ := h3 p hp
  obtain ⟨c1, c2, c3⟩ := hg.2.2 p hp
  rw [q1]
  exact ⟨c1.1, zpr_cg (fun k hk => (q2 k hk).1) (fun k hk => (q2 k hk).2) c2⟩
theorem zqE_pk (h : zqE f g i) (hg : zqO g i) : zPk f (14 + 14 * i) := by
  have hh := h
  obtain ⟨m1, m2, m3⟩ := zqE_fm h hg
  refine ⟨zqE_sw h hg, m1, m2, by rw [h.1]; exact hg.2.1.2.2, fun p hp => ⟨(zqE_pr h hg hp).2, fun k hk => ?_⟩⟩
  obtain ⟨h1, h2, h3, e1, e2, e3, e4⟩ := hh
  rw [h2] at hp
  obtain ⟨q1, q2⟩ := h3 p hp
  rw [q1] at hk
  rw [e1, e2, e3, e4, (q2 k hk).1, (q2 k hk).2]
  exact zqO_fr hg hp hk
theorem zqR_f (h : zqR n f g) (hi : i < 60) (t : f (14 + 14 * i) 0 = 1) : zqE f g i ∧ zqO g i := h.2.2.2.2.2.2.2.1 i hi (by rw [← zqR_t h hi]; exact t)
theorem zqR_mw (h : zqR n f g) : zMw f := ⟨zqR_ld h, zqR_01 h, fun i hi t => by
  obtain ⟨a, b⟩ := zqR_f h hi t
  exact ⟨zqE_sw a b, (zqE_fm a b).1⟩⟩
theorem zqR_mv (h : zqR n f g) : zMv f := ⟨zqR_ld h, zqR_ch h, zqR_01 h, (zqR_mw h).2.2⟩
theorem zqR_gd (h : zqR n f g) : zgd f := by
  obtain ⟨a, b, c⟩ := h.2.2.2.2.2.2.1
  unfold zgd
  rw [a]
  refine ⟨b, fun k hk => ?_⟩
  obtain ⟨c1, c2, c3, c4⟩ := c k hk
  rw [c1, c2]
  exact ⟨c3, c4⟩
theorem zqR_ly (h : zqR n f g) : zLy f := ⟨fun i hi t => by
  rw [zqR_t h hi] at t
  obtain ⟨a, _, _, b, _⟩ := h.2.1 i hi t
  omega, fun j hj => by
  obtain ⟨a, b⟩ := h.2.2.2.2.2.1.1 j hj
  omega⟩
end ZRELF
