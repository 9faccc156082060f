/-! shapes given other corners, in both programs -/
section ZGEOQ
theorem zf2_vn {n : Nat → Int} {X : Nat → Nat → Int} {b l : Int} {c : Nat} (h : ∀ p, p < c → ∀ k : Nat, (k : Int) < n p → l ≤ X p k) (ha : ∃ p k : Nat, p < c ∧ (k : Int) < n p ∧ X p k = l) (hb : l ≤ b) : zf2 zmn n X b c = l := by
  obtain ⟨a1, a2, a3⟩ := zf2_mn (n := n) (X := X) (b := b) c
  obtain ⟨p, k, hp, hk, e⟩ := ha
  have := a2 p hp k hk
  rcases a3 with a3 | ⟨p2, k2, hp2, hk2, e2⟩
  · omega
  · have := h p2 hp2 k2 hk2
    omega
theorem zf2_vx {n : Nat → Int} {X : Nat → Nat → Int} {b u : Int} {c : Nat} (h : ∀ p, p < c → ∀ k : Nat, (k : Int) < n p → X p k ≤ u) (ha : ∃ p k : Nat, p < c ∧ (k : Int) < n p ∧ X p k = u) (hb : b ≤ u) : zf2 zmx n X b c = u := by
  obtain ⟨a1, a2, a3⟩ := zf2_mx (n := n) (X := X) (b := b) c
  obtain ⟨p, k, hp, hk, e⟩ := ha
  have := a2 p hp k hk
  rcases a3 with a3 | ⟨p2, k2, hp2, hk2, e2⟩
  · omega
  · have := h p2 hp2 k2 hk2
    omega
/-- the corners alike -/
def zqC (f g : Nat → Nat → Int) (i : Nat) : Prop := f (14 + 14 * i) 9 = g 1175 i ∧ f (14 + 14 * i) 10 = g 1174 i ∧ ∀ p : Nat, (p : Int) < g 1174 i → zN f (14 + 14 * i) p = zrN g i p ∧ ∀ k : Nat, (k : Int) < zrN g i p → zX f (14 + 14 * i) p k = zrX g i p k ∧ zY f (14 + 14 * i) p k = zrY g i p k
/-- a shape with its frame -/
def zqP (g : Nat → Nat → Int) (i : Nat) (l d r u : Int) : Prop := (1 ≤ g 1174 i ∧ g 1174 i ≤ 4) ∧ (∀ p : Nat, (p : Int) < g 1174 i → (3 ≤ zrN g i p ∧ zrN g i p ≤ 8) ∧ zpr (zrN g i p) (zrX g i p) (zrY g i p) 0 ∧ ∀ k : Nat, (k : Int) < zrN g i p → (l ≤ zrX g i p k ∧ zrX g i p k ≤ r) ∧ d ≤ zrY g i p k ∧ zrY g i p k ≤ u) ∧ ((∃ p k : Nat, p < (g 1174 i).toNat ∧ (k : Int) < zrN g i p ∧ zrX g i p k = l) ∧ (∃ p k : Nat, p < (g 1174 i).toNat ∧ (k : Int) < zrN g i p ∧ zrX g i p k = r)) ∧ ((∃ p k : Nat, p < (g 1174 i).toNat ∧ (k : Int) < zrN g i p ∧ zrY g i p k = d) ∧ (∃ p k : Nat, p < (g 1174 i).toNat ∧ (k : Int) < zrN g i p ∧ zrY g i p k = u)) ∧ (0 ≤ l ∧ l ≤ 100) ∧ 0 ≤ d ∧ d ≤ 100
variable {n : Nat} {f g f' g' : Nat → Nat → Int} {i s : Nat} {l d r u l' d' r' u' : Int} {gx gy : Int → Int → Int}
theorem zqP_lr (h : zqP g i l d r u) : l ≤ r ∧ d ≤ u := by
  obtain ⟨h1, h2, ⟨⟨p, k, hp, hk, e⟩, _⟩, ⟨⟨p2, k2, hp2, hk2, e2⟩, _⟩, _⟩ := h
  have a := ((h2 p (by omega)).2.2 k hk).1
  have b := ((h2 p2 (by omega)).2.2 k2 hk2).2
  omega
theorem zqP_d (h : zqP g i l d r u) : zrsd g i 0 = l ∧ zrsd g i 1 = d ∧ zrsd g i 2 = r ∧ zrsd g i 3 = u := by
  obtain ⟨q1, q2⟩ := zqP_lr h
  obtain ⟨h1, h2, ⟨a1, a2⟩, ⟨a3, a4⟩, b1, b2⟩ := h
  rw [zrsd_0, zrsd_1, zrsd_2, zrsd_3]
  exact ⟨zf2_vn (fun p hp k hk => ((h2 p (by omega)).2.2 k hk).1.1) a1 (by omega), zf2_vn (fun p hp k hk => ((h2 p (by omega)).2.2 k hk).2.1) a3 (by omega), zf2_vx (fun p hp k hk => ((h2 p (by omega)).2.2 k hk).1.2) a2 (by omega), zf2_vx (fun p hp k hk => ((h2 p (by omega)).2.2 k hk).2.2) a4 (by omega)⟩
theorem zqO_P (h : zqO g i) : zqP g i (zrsd g i 0) (zrsd g i 1) (zrsd g i 2) (zrsd g i 3) := by
  have fm := zqO_fm h
  have hh := h
  obtain ⟨h1, h2, h3⟩ := h
  obtain ⟨m1, m2⟩ := fm
  have e0 : ((0 : Nat) : Int) < g 1174 i := by omega
  have e1 : ((0 : Nat) : Int) < zrN g i 0 := by have := (h3 0 e0).1; omega
  have c0 := (h3 0 e0).2.2 0 e1
  refine ⟨h1, fun p hp => ⟨(h3 p hp).1, (h3 p hp).2.1, fun k hk => zqO_fr hh hp hk⟩, ⟨?_, ?_⟩, ⟨?_, ?_⟩, by omega, by omega⟩
  · rw [zrsd_0] at *
    rcases (zf2_mn (n := zrN g i) (X := zrX g i) (b := 100) (g 1174 i).toNat).2.2 with e | ⟨p, k, hp, hk, e⟩
    · omega
    · exact ⟨p, k, hp, hk, e.symm⟩
  · rw [zrsd_2] at *
    rcases (zf2_mx (n := zrN g i) (X := zrX g i) (b := -1) (g 1174 i).toNat).2.2 with e | ⟨p, k, hp, hk, e⟩
    · omega
    · exact ⟨p, k, hp, hk, e.symm⟩
  · rw [zrsd_1] at *
    rcases (zf2_mn (n := zrN g i) (X := zrY g i) (b := 100) (g 1174 i).toNat).2.2 with e | ⟨p, k, hp, hk, e⟩
    · omega
    · exact ⟨p, k, hp, hk, e.symm⟩
  · rw [zrsd_3] at *
    rcases (zf2_mx (n := zrN g i) (X := zrY g i) (b := -1) (g 1174 i).toNat).2.2 with e | ⟨p, k, hp, hk, e⟩
    · omega
    · exact ⟨p, k, hp, hk, e.symm⟩
theorem zqP_O (h : zqP g i l d r u) (ht : 0 ≤ g 1175 i ∧ (g 1175 i).toNat < 2 ^ 2 ^ (g 1174 i).toNat ∧ ¬ zhs (g 1175 i) 0) (hr : r ≤ 60) (hu : u ≤ 60) : zqO g i := by
  obtain ⟨h1, h2, _, _, b1, b2⟩ := h
  refine ⟨h1, ht, fun p hp => ?_⟩
  obtain ⟨a, b, c⟩ := h2 p hp
  refine ⟨a, b, fun k hk => ?_⟩
  have := c k hk
  omega
/-- the corners mapped -/
theorem zqC_mp (h : zqC f g i) (h4 : g 1174 i ≤ 4) (h8 : ∀ p : Nat, (p : Int) < g 1174 i → zrN g i p ≤ 8) : zqC (zmp f (14 + 14 * i) (f (14 + 14 * i) 10).toNat 0 gx gy) (zrmp g i (g 1174 i).toNat 0 gx gy) i := by
  obtain ⟨h1, h2, h3⟩ := h
  unfold zqC
  rw [zmp_o _ (by omega), zmp_o _ (by omega), zrmp_o (by omega), zrmp_o (by omega)]
  refine ⟨h1, h2, fun p hp => ?_⟩
  obtain ⟨q1, q2⟩ := h3 p hp
  have e1 : zN (zmp f (14 + 14 * i) (f (14 + 14 * i) 10).toNat 0 gx gy) (14 + 14 * i) p = zN f (14 + 14 * i) p := zmp_N _ _ _ _ _ _ _
  have e2 : zrN (zrmp g i (g 1174 i).toNat 0 gx gy) i p = zrN g i p := zrmp_o (by omega)
  rw [e1, e2]
  refine ⟨q1, fun k hk => ?_⟩
  obtain ⟨x1, y1⟩ := q2 k hk
  have hk2 : (k : Int) < zN f (14 + 14 * i) p := by omega
  have p4 : p < 4 := by omega
  have n8 := h8 p hp
  rw [zrmp_x (by omega) p4 hk (by omega), zrmp_y (by omega) p4 hk (by omega)]
  unfold zX zY at *
  unfold zN at hk2
  rw [zmp_X f p4, if_pos ⟨by omega, hk2⟩, zmp_Y f p4, if_pos ⟨by omega, hk2⟩, x1, y1]
  exact ⟨rfl, rfl⟩
theorem zqP_mp (h : zqP g i l d r u) (hb : ∀ x y, l ≤ x → x ≤ r → d ≤ y → y ≤ u → (l' ≤ gx x y ∧ gx x y ≤ r') ∧ d' ≤ gy x y ∧ gy x y ≤ u') (hl : (∀ x y, x = l → gx x y = l') ∨ (∀ x y, x = r → gx x y = l') ∨ (∀ x y, y = u → gx x y = l')) (hr : (∀ x y, x = l → gx x y = r') ∨ (∀ x y, x = r → gx x y = r') ∨ (∀ x y, y = d → gx x y = r')) (hd : (∀ x y, y = d → gy x y = d') ∨ (∀ x y, y = u → gy x y = d') ∨ (∀ x y, x = l → gy x y = d')) (hu : (∀ x y, y = d → gy x y = u') ∨ (∀ x y, y = u → gy x y = u') ∨ (∀ x y, x = r → gy x y = u')) (hz : ∀ a b c e : Int, zcg ((c - a).natAbs : Int) ((e - b).natAbs : Int) → zcg ((gx c e - gx a b).natAbs : Int) ((gy c e - gy a b).natAbs : Int)) (hp : (0 ≤ l' ∧ l' ≤ 100) ∧ 0 ≤ d' ∧ d' ≤ 100) : zqP (zrmp g i (g 1174 i).toNat 0 gx gy) i l' d' r' u' := by
  obtain ⟨h1, h2, ⟨⟨pl, kl, hpl, hkl, el⟩, ⟨pr, kr, hpr, hkr, er⟩⟩, ⟨⟨pd, kd, hpd, hkd, ed⟩, ⟨pu, ku, hpu, hku, eu⟩⟩, b⟩ := h
  have eN : ∀ p, zrN (zrmp g i (g 1174 i).toNat 0 gx gy) i p = zrN g i p := fun p => zrmp_o (by omega)
  have e4 : zrmp g i (g 1174 i).toNat 0 gx gy 1174 i = g 1174 i := zrmp_o (by omega)
  have eX : ∀ p k : Nat, (p : Int) < g 1174 i → (k : Int) < zrN g i p → zrX (zrmp g i (g 1174 i).toNat 0 gx gy) i p k = gx (zrX g i p k) (zrY g i p k) := fun p k hp hk => zrmp_x (by omega) (by omega) hk (by have := (h2 p hp).1; omega)
  have eY : ∀ p k : Nat, (p : Int) < g 1174 i → (k : Int) < zrN g i p → zrY (zrmp g i (g 1174 i).toNat 0 gx gy) i p k = gy (zrX g i p k) (zrY g i p k) := fun p k hp hk => zrmp_y (by omega) (by omega) hk (by have := (h2 p hp).1; omega)
  unfold zqP
  rw [e4]
  refine ⟨h1, fun p hp => ?_, ⟨?_, ?_⟩, ⟨?_, ?_⟩, hp⟩
  · obtain ⟨a1, a2, a3⟩ := h2 p hp
    rw [eN]
    refine ⟨a1, fun j hj hm => ?_, fun k hk => ?_⟩
    · have z := a2 j hj hm
      have ha : ((zaf (zrN g i p) j : Nat) : Int) < zrN g i p := by unfold zaf; split <;> omega
      unfold zwd at *
      rw [eX p _ hp ha, eX p _ hp hm, eY p _ hp ha, eY p _ hp hm]
      exact hz _ _ _ _ z
    · rw [eX p k hp hk, eY p k hp hk]
      have c := a3 k hk
      exact hb _ _ c.1.1 c.1.2 c.2.1 c.2.2
  · rcases hl with e | e | e
    · exact ⟨pl, kl, hpl, by rw [eN]; exact hkl, by rw [eX _ _ (by omega) hkl]; exact e _ _ el⟩
    · exact ⟨pr, kr, hpr, by rw [eN]; exact hkr, by rw [eX _ _ (by omega) hkr]; exact e _ _ er⟩
    · exact ⟨pu, ku, hpu, by rw [eN]; exact hku, by rw [eX _ _ (by omega) hku]; exact e _ _ eu⟩
  · rcases hr with e | e | e
    · exact ⟨pl, kl, hpl, by rw [eN]; exact hkl, by rw [eX _ _ (by omega) hkl]; exact e _ _ el⟩
    · exact ⟨pr, kr, hpr, by rw [eN]; exact hkr, by rw [eX _ _ (by omega) hkr]; exact e _ _ er⟩
    · exact ⟨pd, kd, hpd, by rw [eN]; exact hkd, by rw [eX _ _ (by omega) hkd]; exact e _ _ ed⟩
  · rcases hd with e | e | e
    · exact ⟨pd, kd, hpd, by rw [eN]; exact hkd, by rw [eY _ _ (by omega) hkd]; exact e _ _ ed⟩
    · exact ⟨pu, ku, hpu, by rw [eN]; exact hku, by rw [eY _ _ (by omega) hku]; exact e _ _ eu⟩
    · exact ⟨pl, kl, hpl, by rw [eN]; exact hkl, by rw [eY _ _ (by omega) hkl]; exact e _ _ el⟩
  · rcases hu with e | e | e
    · exact ⟨pd, kd, hpd, by rw [eN]; exact hkd, by rw [eY _ _ (by omega) hkd]; exact e _ _ ed⟩
    · exact ⟨pu, ku, hpu, by rw [eN]; exact hku, by rw [eY _ _ (by omega) hku]; exact e _ _ eu⟩
    · exact ⟨pr, kr, hpr, by rw [eN]; exact hkr, by rw [eY _ _ (by omega) hkr]; exact e _ _ er⟩
theorem zcg_s {w h : Int} (hz : zcg w h) : zcg h w := by
  unfold zcg at *
  split at hz
  · next c =>
    rw [if_pos (by omega)]
    omega
  · next c =>
    rw [if_neg (by omega)]
    omega
theorem zqz_id : ∀ a b c e : Int, zcg ((c - a).natAbs : Int) ((e - b).natAbs : Int) → ∀ p q p2 q2 : Int, p2 = p + (c - a) ∨ p2 = p - (c - a) → q2 = q + (e - b) ∨ q2 = q - (e - b) → zcg ((p2 - p).natAbs : Int) ((q2 - q).natAbs : Int) := by
  intro a b c e h p q p2 q2 h1 h2
  have e1 : (p2 - p).natAbs = (c - a).natAbs := by omega
  have e2 : (q2 - q).natAbs = (e - b).natAbs := by omega
  rw [e1, e2]
  exact h
theorem zcg_m {n w h : Int} (hn : 1 ≤ n) (hz : zcg w h) : zcg (n * w) (n * h) := by
  have h0 : ∀ v : Int, n * v = 0 ↔ v = 0 := fun v => ⟨fun e => (Int.mul_eq_zero.mp e).resolve_left (by omega), fun e => by rw [e, Int.mul_zero]⟩
  have hi : ∀ v w : Int, n * v = n * w ↔ v = w := fun v w => ⟨fun e => Int.eq_of_mul_eq_mul_left (by omega) e, fun e => by rw [e]⟩
  unfold zcg at *
  by_cases c : w = 0 ∨ h = 0
  · rw [if_pos c] at hz
    rw [if_pos (by rw [h0, h0]; exact c)]
    intro e
    exact hz ((hi _ _).mp e)
  · rw [if_neg c] at hz
    rw [if_neg (by rw [h0, h0]; exact c)]
    rcases hz with e | e | e
    · exact Or.inl (by rw [e])
    · exact Or.inr (Or.inl (by rw [e, Int.mul_left_comm]))
    · exact Or.inr (Or.inr (by rw [e, Int.mul_left_comm]))
/-- the frame found -/
theorem zqE_fnd (hc : zqC f g i) (hP : zqP g i l d r u) : zqE (zfnd f (14 + 14 * i)) g i := by
  have dd := zqP_d hP
  obtain ⟨q1, q2⟩ := zqP_lr hP
  obtain ⟨h1, h2, ⟨⟨pl, kl, hpl, hkl, el⟩, ⟨pr, kr, hpr, hkr, er⟩⟩, ⟨⟨pd, kd, hpd, hkd, ed⟩, ⟨pu, ku, hpu, hku, eu⟩⟩, b⟩ := hP
  obtain ⟨c1, c2, c3⟩ := hc
  have oth : ∀ b j, (b ≠ 14 + 14 * i ∨ j < 11 ∨ 15 ≤ j) → zfnd f (14 + 14 * i) b j = f b j := fun b j h => zfnd_o h
  have e0 : ((0 : Nat) : Int) < g 1174 i := by omega
  have e1 : ((0 : Nat) : Int) < zrN g i 0 := by have := (h2 0 e0).1; omega
  have f0 := (c3 0 e0).2 0 e1
  have b0 := (h2 0 e0).2.2 0 e1
  have tn : (f (14 + 14 * i) 10).toNat = (g 1174 i).toNat := by rw [c2]
  refine ⟨by rw [oth _ _ (by omega)]; exact c1, by rw [oth _ _ (by omega)]; exact c2, fun p hp => ?_, ?_⟩
  · unfold zN zX zY
    rw [oth _ _ (by omega), show zfnd f (14 + 14 * i) (14 + 14 * i + 2 + 3 * p + 1) = f (14 + 14 * i + 2 + 3 * p + 1) from funext fun j => oth _ _ (by omega), show zfnd f (14 + 14 * i) (14 + 14 * i + 2 + 3 * p + 2) = f (14 + 14 * i + 2 + 3 * p + 2) from funext fun j => oth _ _ (by omega)]
    exact c3 p hp
  · rw [dd.1, dd.2.1, dd.2.2.1, dd.2.2.2]
    unfold zfnd
    rw [zfr_l, zfr_d, zfr_r, zfr_u, tn]
    have eN : ∀ p, p < (g 1174 i).toNat → zN f (14 + 14 * i) p = zrN g i p := fun p hp => (c3 p (by omega)).1
    have eX : ∀ p, p < (g 1174 i).toNat → ∀ k : Nat, (k : Int) < zN f (14 + 14 * i) p → zX f (14 + 14 * i) p k = zrX g i p k := fun p hp k hk => ((c3 p (by omega)).2 k (by rw [← eN p hp]; exact hk)).1
    have eY : ∀ p, p < (g 1174 i).toNat → ∀ k : Nat, (k : Int) < zN f (14 + 14 * i) p → zY f (14 + 14 * i) p k = zrY g i p k := fun p hp k hk => ((c3 p (by omega)).2 k (by rw [← eN p hp]; exact hk)).2
    have bb : ∀ p, p < (g 1174 i).toNat → ∀ k : Nat, (k : Int) < zN f (14 + 14 * i) p → (l ≤ zX f (14 + 14 * i) p k ∧ zX f (14 + 14 * i) p k ≤ r) ∧ d ≤ zY f (14 + 14 * i) p k ∧ zY f (14 + 14 * i) p k ≤ u := fun p hp k hk => by
      rw [eX p hp k hk, eY p hp k hk]
      exact (h2 p (by omega)).2.2 k (by rw [← eN p hp]; exact hk)
    refine ⟨zf2_vn (fun p hp k hk => (bb p hp k hk).1.1) ⟨pl, kl, hpl, by rw [eN pl hpl]; exact hkl, by rw [eX pl hpl kl (by rw [eN pl hpl]; exact hkl)]; exact el⟩ (by omega), zf2_vn (fun p hp k hk => (bb p hp k hk).2.1) ⟨pd, kd, hpd, by rw [eN pd hpd]; exact hkd, by rw [eY pd hpd kd (by rw [eN pd hpd]; exact hkd)]; exact ed⟩ (by omega), zf2_vx (fun p hp k hk => (bb p hp k hk).1.2) ⟨pr, kr, hpr, by rw [eN pr hpr]; exact hkr, by rw [eX pr hpr kr (by rw [eN pr hpr]; exact hkr)]; exact er⟩ (by omega), zf2_vx (fun p hp k hk => (bb p hp k hk).2.2) ⟨pu, ku, hpu, by rw [eN pu hpu]; exact hku, by rw [eY pu hpu ku (by rw [eN pu hpu]; exact hku)]; exact eu⟩ (by omega)⟩
theorem zqE_C (h : zqE f g i) : zqC f g i := ⟨h.1, h.2.1, h.2.2.1⟩
/-- one shape's corners changed on both boards -/
theorem zqQ_geo (h : zqR n f g) (hs : s < 60) (hf : ∀ b j, (b < 14 + 14 * s ∨ 28 + 14 * s ≤ b ∨ (b = 14 + 14 * s ∧ (j < 11 ∨ 15 ≤ j))) → f' b j = f b j) (hg : ∀ b j, ((b ≠ 1177 ∧ b ≠ 1178) ∨ ¬ (32 * s ≤ j ∧ j < 32 * s + 32)) → (b ≠ 1153 ∨ j ≠ 36) → g' b j = g b j) (hE : zqE f' g' s ∧ zqO g' s) : zqR n f' g' := by
  obtain ⟨T, A, K, Lr, G, V, D, S, J⟩ := h
  have hF : ∀ b j, (b < 14 + 14 * s ∨ 28 + 14 * s ≤ b ∨ (b = 14 + 14 * s ∧ (j < 11 ∨ 15 ≤ j))) → f' b j = f b j := hf
  have hG : ∀ b j, (((b ≠ 1177 ∧ b ≠ 1178) ∨ ¬ (32 * s ≤ j ∧ j < 32 * s + 32)) ∧ (b ≠ 1153 ∨ j ≠ 36)) → g' b j = g b j := fun b j q => hg b j q.1 q.2
  have h0 : ∀ i, i < 60 → g' 1166 i = g 1166 i := fun i hi => hG _ _ (by omega)
  have h00 : ∀ i, i < 60 → g' 1166 i = 1 → g 1166 i = 1 := fun i hi t => by rw [← h0 i hi]; exact t
  have hff : zqF f' g' := fun i hi t => by
    by_cases e : i = s
    · subst e; exact hE
    · obtain ⟨a, b⟩ := S i hi (h00 i hi t)
      have eq : zrEq g' g i := ⟨hG _ _ (by omega), hG _ _ (by omega), fun p _ => hG _ _ (by omega), fun j j1 j2 => ⟨hG _ _ (by omega), hG _ _ (by omega)⟩⟩
      exact ⟨zqE_c (fun b j b1 b2 _ => hF _ _ (by omega)) eq b a, zqO_c eq b⟩
  exact ⟨zqT_c (fun i hi => hF _ _ (by omega)) h0 T, zqA_c h00 (fun i hi _ => ⟨hF _ _ (by omega), hF _ _ (by omega), hF _ _ (by omega)⟩) (fun i hi _ => ⟨hG _ _ (by omega), hG _ _ (by omega), hG _ _ (by omega)⟩) A, zqK_c h00 (fun i hi _ => ⟨hF _ _ (by omega), hF _ _ (by omega)⟩) (fun i hi _ => ⟨hG _ _ (by omega), hG _ _ (by omega), hG _ _ (by omega)⟩) K, zqL_c h0 (fun i hi => ⟨hF _ _ (by omega), hF _ _ (by omega)⟩) (fun i hi => ⟨hG _ _ (by omega), hG _ _ (by omega)⟩) Lr, zqG_c (Nat.le_refl _) T.1 h0 (fun i hi => ⟨hF _ _ (by omega), hF _ _ (by omega)⟩) (fun i hi => hG _ _ (by omega)) G, zqV_c (fun i hi => hF _ _ (by omega)) (fun i hi => hG _ _ (by omega)) (fun i hi => ⟨hG _ _ (by omega), hG _ _ (by omega)⟩) V, zqD_c (hF _ _ (by omega)) (hG _ _ (by omega)) (fun i hi => ⟨hF _ _ (by omega), hF _ _ (by omega)⟩) (fun i hi => ⟨hG _ _ (by omega), hG _ _ (by omega)⟩) D, hff, zqJ_c (fun i hi => ⟨hF _ _ (by omega), hF _ _ (by omega), hF _ _ (by omega), hF _ _ (by omega), hF _ _ (by omega)⟩) (fun i hi => by rw [hF _ _ (by omega)]; exact J.2.2.2 i hi) J⟩
end ZGEOQ
