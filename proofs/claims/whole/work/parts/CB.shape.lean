/-! turned, mirrored, grown, in both programs -/
section ZSHAPEQ
variable {n : Nat} {f g f' g' : Nat → Nat → Int} {i s : Nat} {l d r u : Int}
theorem zqC_sw (hc : zqC f g s) (hP : zqP g s l d r u) (ht : 0 ≤ g 1175 s ∧ g 1175 s < 65536) (hr : r ≤ 1000) (hu : u ≤ 1000) : zSv f (14 + 14 * s) := by
  obtain ⟨c1, c2, c3⟩ := hc
  obtain ⟨h1, h2, _, _, b1, b2⟩ := hP
  refine ⟨by omega, by omega, fun p hp => ?_⟩
  rw [c2] at hp
  obtain ⟨q1, q2⟩ := c3 p hp
  obtain ⟨a1, a2, a3⟩ := h2 p hp
  refine ⟨by omega, by omega, fun k hk => ?_⟩
  rw [q1] at hk
  rw [(q2 k hk).1, (q2 k hk).2]
  have := a3 k hk
  omega
theorem zqE_map {gx gy : Int → Int → Int} {l' d' r' u' : Int} (hE : zqE f g s) (hP : zqP g s l d r u) (hP2 : zqP (zrmp g s (g 1174 s).toNat 0 gx gy) s l' d' r' u') : zqE (zfnd (zmp f (14 + 14 * s) (f (14 + 14 * s) 10).toNat 0 gx gy) (14 + 14 * s)) (zrmp g s (g 1174 s).toNat 0 gx gy) s :=
  zqE_fnd (zqC_mp (zqE_C hE) hP.1.2 (fun p hp => (hP.2.1 p hp).1.2)) hP2
theorem zqturn (hE : zqE f g s) (hP : zqP g s l d r u) (hb : r ≤ 1000 ∧ u ≤ 1000) : zqE (ztq f (14 + 14 * s)) (zrt1 g s) s ∧ zqP (zrt1 g s) s l d (l + u - d) (d + r - l) := by
  obtain ⟨e0, e1, e2, e3⟩ := zqP_d hP
  obtain ⟨q1, q2⟩ := zqP_lr hP
  have b5 := hP.2.2.2.2
  obtain ⟨_, _, _, f1, f2, f3, f4⟩ := hE
  have hP2 : zqP (zrt1 g s) s l d (l + u - d) (d + r - l) := by
    unfold zrt1
    refine zqP_mp hP (fun x y _ _ _ _ => ?_) (Or.inr (Or.inr (fun x y e => ?_))) (Or.inr (Or.inr (fun x y e => ?_))) (Or.inr (Or.inr (fun x y e => ?_))) (Or.inr (Or.inr (fun x y e => ?_))) (fun a b c e h => ?_) b5
    · show (l ≤ zrsd g s 0 + zrsd g s 3 - y ∧ zrsd g s 0 + zrsd g s 3 - y ≤ l + u - d) ∧ d ≤ zrsd g s 1 + x - zrsd g s 0 ∧ zrsd g s 1 + x - zrsd g s 0 ≤ d + r - l
      omega
    · show zrsd g s 0 + zrsd g s 3 - y = l
      omega
    · show zrsd g s 0 + zrsd g s 3 - y = l + u - d
      omega
    · show zrsd g s 1 + x - zrsd g s 0 = d
      omega
    · show zrsd g s 1 + x - zrsd g s 0 = d + r - l
      omega
    · show zcg ((zrsd g s 0 + zrsd g s 3 - e - (zrsd g s 0 + zrsd g s 3 - b)).natAbs : Int) ((zrsd g s 1 + c - zrsd g s 0 - (zrsd g s 1 + a - zrsd g s 0)).natAbs : Int)
      rw [show (zrsd g s 0 + zrsd g s 3 - e - (zrsd g s 0 + zrsd g s 3 - b)).natAbs = (e - b).natAbs by omega, show (zrsd g s 1 + c - zrsd g s 0 - (zrsd g s 1 + a - zrsd g s 0)).natAbs = (c - a).natAbs by omega]
      exact zcg_s h
  refine ⟨?_, hP2⟩
  have ex : (fun (_ y : Int) => f (14 + 14 * s) 11 + f (14 + 14 * s) 14 - y) = (fun _ y => zrsd g s 0 + zrsd g s 3 - y) := by rw [f1, f4]
  have ey : (fun (x _ : Int) => f (14 + 14 * s) 12 + (x - f (14 + 14 * s) 11)) = (fun x _ => zrsd g s 1 + x - zrsd g s 0) := by
    rw [f1, f2]
    funext x y
    omega
  unfold ztq
  rw [ex, ey]
  exact zqE_map ⟨‹_›, ‹_›, ‹_›, f1, f2, f3, f4⟩ hP hP2
/-- after k quarters -/
theorem zqturns (hE : zqE f g s) (hP : zqP g s l d r u) (hb : r ≤ 60 ∧ u ≤ 60) : ∀ k : Nat, k ≤ 3 → ∃ r2 u2 : Int, zqE (ztr f (14 + 14 * s) k) (zrtu g s k) s ∧ zqP (zrtu g s k) s l d r2 u2 ∧ ((k = 0 ∧ r2 = r ∧ u2 = u) ∨ (k = 1 ∧ r2 = l + u - d ∧ u2 = d + r - l) ∨ (k = 2 ∧ r2 = r ∧ u2 = u) ∨ (k = 3 ∧ r2 = l + u - d ∧ u2 = d + r - l))
  | 0, _ => ⟨r, u, hE, hP, Or.inl ⟨rfl, rfl, rfl⟩⟩
  | k + 1, hk => by
    obtain ⟨r2, u2, a1, a2, a3⟩ := zqturns hE hP hb k (by omega)
    have b5 := hP.2.2.2.2
    obtain ⟨c1, c2⟩ := zqturn a1 a2 (by omega)
    exact ⟨l + u2 - d, d + r2 - l, c1, c2, by omega⟩
theorem ztr_o {b j : Nat} (h : b < 14 + 14 * s ∨ 28 + 14 * s ≤ b ∨ (b = 14 + 14 * s ∧ (j < 11 ∨ 15 ≤ j))) : ∀ k, ztr f (14 + 14 * s) k b j = f b j
  | 0 => rfl
  | k + 1 => by
    show ztq (ztr f (14 + 14 * s) k) (14 + 14 * s) b j = _
    unfold ztq
    rw [zfnd_o (by omega), zmp_o _ (by omega)]
    exact ztr_o h k
theorem zrmp_q {b j c : Nat} {gx gy : Int → Int → Int} (h : (b ≠ 1177 ∧ b ≠ 1178) ∨ ¬ (32 * s ≤ j ∧ j < 32 * s + 32)) : zrmp g s c 0 gx gy b j = g b j := by
  rcases h with h | h
  · exact zrmp_o h
  · exact zrmp_p (fun q => h q.1)
theorem zrtu_q {b j : Nat} (h : (b ≠ 1177 ∧ b ≠ 1178) ∨ ¬ (32 * s ≤ j ∧ j < 32 * s + 32)) : ∀ k, zrtu g s k b j = g b j
  | 0 => rfl
  | k + 1 => by
    rw [zrtu_s]
    unfold zrt1
    rw [zrmp_q h]
    exact zrtu_q h k
theorem zqE_36 {v : Int} (h : zqE f g s ∧ zqO g s) : zqE f (zu2 g 1153 36 v) s ∧ zqO (zu2 g 1153 36 v) s := by
  have e : zrEq (zu2 g 1153 36 v) g s := ⟨zu2_sj (by omega), zu2_sj (by omega), fun p _ => zu2_sj (by omega), fun j _ _ => ⟨zu2_sj (by omega), zu2_sj (by omega)⟩⟩
  exact ⟨zqE_c (fun _ _ _ _ _ => rfl) e h.2 h.1, zqO_c e h.2⟩
variable {L k : Nat} {M N : zM}
theorem zqS_3 (hM : zLay M.2.2.2) (hN : zLay N.2.2.2) (hk : k < 60) (h : zqR k M.2.1 N.2.1) (hj : zqJ1 M N k 3) (h8 : M.2.1 (855 + 4 * k) 8 = N.2.1 1161 (4 * k + 1) ∧ 1 ≤ N.2.1 1161 (4 * k + 1) ∧ N.2.1 1161 (4 * k + 1) ≤ 3) : zqS L k M N := by
  obtain ⟨⟨j0, j1⟩, j2, j3⟩ := hj
  rcases zqS_sh (L := L) hM hN hk h j2 (Or.inl j3) (by omega) with no | ⟨s, hs, e2, e4, ht, hg, e⟩
  · exact no
  · have h1 := zqR_g1 (k := k) h
    have j1g : zqg1 N.2.1 k 1158 k = 3 := (zqg1_o (by omega)).trans j1
    generalize eq : (N.2.1 1161 (4 * k + 1)).toNat = q at *
    have eq2 : N.2.1 1161 (4 * k + 1) = (q : Int) := by omega
    rw [eq2] at e
    generalize eg1 : zqg1 N.2.1 k = g1 at *
    obtain ⟨hE, hO⟩ := h1.2.2.2.2.2.2.2.1 s hs (by rw [← eg1]; exact (zqg1_o (by omega)).trans ht)
    have hP := zqO_P hO
    obtain ⟨m1, m2⟩ := zqO_fm hO
    have tb := hO.2.1
    have sw := zqO_sw hO
    have tr := zqturns hE hP (by omega)
    have bb := hP.2.2.2.2
    obtain ⟨_, _, _, f1, f2, f3, f4⟩ := hE
    have fm : zFm M.2.1 (14 + 14 * s) := by unfold zFm; omega
    have ic : ztc M.2.1 (14 + 14 * s) q ↔ (q = 2 ∨ zrit g1 s) := by
      unfold ztc zrit
      rw [f1, f2, f3, f4]
    have hv : ∀ m, m < q → ztv (ztr M.2.1 (14 + 14 * s) m) (14 + 14 * s) := fun m hm => by
      obtain ⟨r2, u2, a1, a2, a3⟩ := tr m (by omega)
      have tb2 : zrtu g1 s m 1175 s = g1 1175 s := zrtu_q (by omega) m
      have sv := zqC_sw (zqE_C a1) a2 (by rw [tb2]; exact sw.2.1) (by omega) (by omega)
      obtain ⟨y0, y1, y2, y3⟩ := zqP_d a2
      obtain ⟨z1, z2, z3, z4, z5, z6, z7⟩ := a1
      refine ⟨sv, by unfold zFv; omega, fun p c hp hc => ?_⟩
      have w := (sv.2.2 p hp).2.2 c hc
      have w2 := (z3 p (by omega)).2 c (by have := (z3 p (by omega)).1; omega)
      have w3 := (a2.2.1 p (by omega)).2.2 c (by have := (z3 p (by omega)).1; omega)
      show -10000 ≤ ztr M.2.1 (14 + 14 * s) m (14 + 14 * s) 11 + ztr M.2.1 (14 + 14 * s) m (14 + 14 * s) 14 - _ ∧ ztr M.2.1 (14 + 14 * s) m (14 + 14 * s) 11 + ztr M.2.1 (14 + 14 * s) m (14 + 14 * s) 14 - _ ≤ 10000 ∧ -10000 ≤ ztr M.2.1 (14 + 14 * s) m (14 + 14 * s) 12 + (_ - ztr M.2.1 (14 + 14 * s) m (14 + 14 * s) 11) ∧ ztr M.2.1 (14 + 14 * s) m (14 + 14 * s) 12 + (_ - ztr M.2.1 (14 + 14 * s) m (14 + 14 * s) 11) ≤ 10000
      omega
    have ec := fun Q9 => c22 (L := L) (M := M) (Q := Q9) (q := q) (zShA_i hs) hM fm (by omega) (fun _ => hv)
    have er := fun Q9 => c238 (L := L) (M := zwI N g1) (s := s) (n := q) (Q := Q9) hN (by omega) sw (zqO_fm hO) (by omega)
    have e8 : M.2.1 (855 + 4 * k) 8 = (q : Int) := by omega
    by_cases c : ztc M.2.1 (14 + 14 * s) q
    · have c2 := ic.mp c
      obtain ⟨r2, u2, a1, a2, a3⟩ := tr q (by omega)
      have dd := zqP_d a2
      have bnd : r2 ≤ 60 ∧ u2 ≤ 60 := by
        rcases c2 with c2 | c2
        · omega
        · unfold zrit at c2
          omega
      have t5 : zrtu g1 s q 1175 s = g1 1175 s := zrtu_q (by omega) q
      have t4 : zrtu g1 s q 1174 s = g1 1174 s := zrtu_q (by omega) q
      have oo : zqO (zrtu g1 s q) s := zqP_O a2 (by rw [t4, t5]; exact tb) bnd.1 bnd.2
      have y13 := a1.2.2.2.2.2.1
      refine ⟨ztr M.2.1 (14 + 14 * s) q, zu2 (zrtu g1 s q) 1153 36 (zrsd (zrtu g1 s q) s 2), ztr M.2.1 (14 + 14 * s) q (14 + 14 * s) 13, 1, fun Q => c10_3 (v := ztr M.2.1 (14 + 14 * s) q (14 + 14 * s) 13) (M9 := zwI M (ztr M.2.1 (14 + 14 * s) q)) hM (zqR_01 h) hk hk hg j0 hs e2 (fun Q9 => ?_), e 1 _ (Or.inr rfl) (fun Q9 => c208_3 (x := 0) (M10 := N) (M := zwI N g1) hN hk hs j1g (fun Q8 => c237_3 (M9 := zwI N (zrtu g1 s q)) (M := zwI N g1) hN hk hs j1g (fun Q7 => ?_) (Or.inr rfl) hN (zqO_sw oo) ((zrtu_q (g := g1) (by omega) q).trans j1g)) (Or.inr rfl)), fun b j hb => ztr_o (by omega) q, fun b j hb => ?_, fun j h1 h2 h3 => ?_, Or.inr ⟨rfl, by omega, ?_, zqR_n hk (zqQ_geo h1 hs (fun b j hb => ztr_o hb q) (fun b j hb h36 => ?_) (zqE_36 ⟨a1, oo⟩))⟩⟩
      · rw [e8, ec]
        exact propext ⟨fun q => q.1 c, fun q => ⟨fun _ => q, fun q2 => absurd c q2⟩⟩
      · refine (er Q7).trans ?_
        exact propext ⟨fun q => q.1 c2, fun q => ⟨fun _ => q, fun q2 => absurd c2 q2⟩⟩
      · rw [zu2_sj (by omega), zrtu_q (by omega), ← eg1]
        exact zqg1_o (by omega)
      · rw [zu2_sj (by omega), zrtu_q (by omega), ← eg1]
        exact zu2_i h2 _ _ _ _
      · rw [zu2_eq, y13]
      · rw [zu2_sj (by omega), zrtu_q hb]
    · have c2 := fun q => c (ic.mpr q)
      refine ⟨M.2.1, zu2 g1 1153 36 (zrsd g1 s 2), -1, 0, fun Q => c10_3 (v := -1) (M9 := M) hM (zqR_01 h) hk hk hg j0 hs e2 (fun Q9 => ?_), e 0 _ (Or.inl rfl) (fun Q9 => c208_3 (x := 0) (M10 := N) (M := zwI N g1) hN hk hs j1g (fun Q8 => c237_3 (M9 := zwI N g1) (M := zwI N g1) hN hk hs j1g (fun Q7 => ?_) (Or.inl rfl) hN sw j1g) (Or.inl rfl)), fun _ _ _ => rfl, fun b j hb => ?_, fun j h1 h2 h3 => ?_, Or.inl ⟨rfl, rfl, zqR_keep (fun _ _ _ _ _ _ _ => rfl) (zqR_ch h) (fun b j b1 b2 _ => zu2_sj (by omega)) (zu2_sj (by omega)) h1⟩⟩
      · rw [e8, ec]
        exact propext ⟨fun q => q.2 c, fun q => ⟨fun q2 => absurd q2 c, fun _ => q⟩⟩
      · refine (er Q7).trans ?_
        exact propext ⟨fun q => q.2 c2, fun q => ⟨fun q2 => absurd q2 c2, fun _ => q⟩⟩
      · rw [zu2_sj (by omega), ← eg1]
        exact zqg1_o (by omega)
      · rw [zu2_sj (by omega), ← eg1]
        exact zu2_i h2 _ _ _ _
theorem zcorn_r {F G : Nat → Nat → Int} {s : Nat} : ∀ c : Nat, (∀ p, p < c → zN F (14 + 14 * s) p = zrN G s p) → zcorn (zN F (14 + 14 * s)) c = zrcs G s c
  | 0, _ => rfl
  | c + 1, h => by
    rw [zrcs_s, ← zcorn_r c (fun p hp => h p (by omega)), ← h c (by omega)]
    rfl
theorem zqS_4 (hM : zLay M.2.2.2) (hN : zLay N.2.2.2) (hk : k < 60) (h : zqR k M.2.1 N.2.1) (hj : zqJ1 M N k 4) (h9 : M.2.1 (855 + 4 * k) 9 = N.2.1 1161 (4 * k + 1) ∧ (N.2.1 1161 (4 * k + 1) = 0 ∨ N.2.1 1161 (4 * k + 1) = 1)) : zqS L k M N := by
  obtain ⟨⟨j0, j1⟩, j2, j3⟩ := hj
  rcases zqS_sh (L := L) hM hN hk h j2 (Or.inl j3) (by omega) with no | ⟨s, hs, e2, e4, ht, hg, e⟩
  · exact no
  · have h1 := zqR_g1 (k := k) h
    have j1g : zqg1 N.2.1 k 1158 k = 4 := (zqg1_o (by omega)).trans j1
    generalize eu : N.2.1 1161 (4 * k + 1) = w at *
    obtain ⟨h9, h01⟩ := h9
    generalize eg1 : zqg1 N.2.1 k = g1 at *
    obtain ⟨hE, hO⟩ := h1.2.2.2.2.2.2.2.1 s hs (by rw [← eg1]; exact (zqg1_o (by omega)).trans ht)
    have hP := zqO_P hO
    obtain ⟨m1, m2⟩ := zqO_fm hO
    have tb := hO.2.1
    have sw := zqO_sw hO
    have bb := hP.2.2.2.2
    have hE2 := hE
    obtain ⟨z1, z2, z3, f1, f2, f3, f4⟩ := hE2
    have fm : zFm M.2.1 (14 + 14 * s) := by unfold zFm; omega
    have ec := fun Q9 => c99 (L := L) (M := M) (Q := Q9) (u := w) (zShA_i hs) hM (zSv_of (zqE_sw hE hO)) (zFv_of fm) h01
    have er := fun Q9 => c241m (L := L) (M := zwI N g1) (s := s) (n := w) (Q := Q9) hN (by omega) sw h01
    have ex : (fun (x _ : Int) => if w = 0 then x else M.2.1 (14 + 14 * s) 11 + M.2.1 (14 + 14 * s) 13 - x) = (fun x _ => if w = 1 then zrsd g1 s 0 + zrsd g1 s 2 - x else x) := by
      funext x y
      rw [f1, f3]
      rcases h01 with q | q <;> subst q
      · rw [if_pos rfl, if_neg (by omega)]
      · rw [if_pos rfl, if_neg (by omega)]
    have ey : (fun (_ y : Int) => if w = 0 then M.2.1 (14 + 14 * s) 12 + M.2.1 (14 + 14 * s) 14 - y else y) = (fun _ y => if w = 1 then y else zrsd g1 s 1 + zrsd g1 s 3 - y) := by
      funext x y
      rw [f2, f4]
      rcases h01 with q | q <;> subst q
      · rw [if_pos rfl, if_neg (by omega)]
      · rw [if_pos rfl, if_neg (by omega)]
    rw [ex, ey] at ec
    generalize egx : (fun (x _ : Int) => if w = 1 then zrsd g1 s 0 + zrsd g1 s 2 - x else x) = gx at *
    generalize egy : (fun (_ y : Int) => if w = 1 then y else zrsd g1 s 1 + zrsd g1 s 3 - y) = gy at *
    have er2 : ∀ Q9 : zO → zM → Prop, zFR (zK L) 241 0 (zcall 241 [.inr (.inr 1153), .inl (s : Int), .inl 4, .inl w]) [] (zwI N g1) Q9 = Q9 (.inl (some (.inl 1))) (zwI N (zrmp g1 s (g1 1174 s).toNat 0 gx gy)) := fun Q9 => by
      rw [← egx, ← egy]
      exact er Q9
    have vx : ∀ x y, gx x y = if w = 1 then zrsd g1 s 0 + zrsd g1 s 2 - x else x := fun x y => by rw [← egx]
    have vy : ∀ x y, gy x y = if w = 1 then y else zrsd g1 s 1 + zrsd g1 s 3 - y := fun x y => by rw [← egy]
    have hP2 : zqP (zrmp g1 s (g1 1174 s).toNat 0 gx gy) s (zrsd g1 s 0) (zrsd g1 s 1) (zrsd g1 s 2) (zrsd g1 s 3) := by
      refine zqP_mp hP (fun x y x1 x2 y1 y2 => ?_) ?_ ?_ ?_ ?_ (fun a b c e h => ?_) bb
      · rw [vx, vy]
        split <;> omega
      · by_cases c : w = 1
        · exact Or.inr (Or.inl (fun x y e => by rw [vx, if_pos c]; omega))
        · exact Or.inl (fun x y e => by rw [vx, if_neg c]; omega)
      · by_cases c : w = 1
        · exact Or.inl (fun x y e => by rw [vx, if_pos c]; omega)
        · exact Or.inr (Or.inl (fun x y e => by rw [vx, if_neg c]; omega))
      · by_cases c : w = 1
        · exact Or.inl (fun x y e => by rw [vy, if_pos c]; omega)
        · exact Or.inr (Or.inl (fun x y e => by rw [vy, if_neg c]; omega))
      · by_cases c : w = 1
        · exact Or.inr (Or.inl (fun x y e => by rw [vy, if_pos c]; omega))
        · exact Or.inl (fun x y e => by rw [vy, if_neg c]; omega)
      · refine zqz_id a b c e h _ _ _ _ ?_ ?_
        · rw [vx, vx]
          split <;> omega
        · rw [vy, vy]
          split <;> omega
    have cc := zqC_mp (gx := gx) (gy := gy) (zqE_C hE) hO.1.2 (fun p hp => (hO.2.2 p hp).1.2)
    have dd := zqP_d hP2
    have t5 : zrmp g1 s (g1 1174 s).toNat 0 gx gy 1175 s = g1 1175 s := zrmp_o (by omega)
    have t4 : zrmp g1 s (g1 1174 s).toNat 0 gx gy 1174 s = g1 1174 s := zrmp_o (by omega)
    have oo : zqO (zrmp g1 s (g1 1174 s).toNat 0 gx gy) s := zqP_O hP2 (by rw [t4, t5]; exact tb) (by omega) (by omega)
    have ee : zqE (zmp M.2.1 (14 + 14 * s) (M.2.1 (14 + 14 * s) 10).toNat 0 gx gy) (zrmp g1 s (g1 1174 s).toNat 0 gx gy) s := by
      refine ⟨cc.1, cc.2.1, cc.2.2, ?_⟩
      rw [dd.1, dd.2.1, dd.2.2.1, dd.2.2.2, zmp_o _ (by omega), zmp_o _ (by omega), zmp_o _ (by omega), zmp_o _ (by omega)]
      exact ⟨f1, f2, f3, f4⟩
    have hj1 : zrmp g1 s (g1 1174 s).toNat 0 gx gy 1158 k = 4 := (zrmp_o (by omega)).trans j1g
    refine ⟨zmp M.2.1 (14 + 14 * s) (M.2.1 (14 + 14 * s) 10).toNat 0 gx gy, zu2 (zrmp g1 s (g1 1174 s).toNat 0 gx gy) 1153 36 (zrcs (zrmp g1 s (g1 1174 s).toNat 0 gx gy) s (zrmp g1 s (g1 1174 s).toNat 0 gx gy 1174 s).toNat), zcorn (zN M.2.1 (14 + 14 * s)) (M.2.1 (14 + 14 * s) 10).toNat, 1, fun Q => c10_4 (v := zcorn (zN M.2.1 (14 + 14 * s)) (M.2.1 (14 + 14 * s) 10).toNat) (M9 := zwI M (zmp M.2.1 (14 + 14 * s) (M.2.1 (14 + 14 * s) 10).toNat 0 gx gy)) hM (zqR_01 h) hk hk hg j0 hs e2 (fun Q9 => by rw [h9]; exact ec Q9), e 1 _ (Or.inr rfl) (fun Q9 => c208_4 (x := 0) (M10 := N) (M := zwI N g1) hN hk hs j1g (fun Q8 => c237_4 (M9 := zwI N (zrmp g1 s (g1 1174 s).toNat 0 gx gy)) (M := zwI N g1) hN hk hs j1g er2 (Or.inr rfl) hN (zqO_sw oo) hj1) (Or.inr rfl)), fun b j hb => zmp_o _ (by omega) _ _ _ _ _, fun b j hb => ?_, fun j h1 h2 h3 => ?_, Or.inr ⟨rfl, ?_, ?_, zqR_n hk (zqQ_geo h1 hs (fun b j hb => zmp_o _ (by omega) _ _ _ _ _) (fun b j hb h36 => ?_) (zqE_36 ⟨ee, oo⟩))⟩⟩
    · rw [zu2_sj (by omega), zrmp_q (by omega), ← eg1]
      exact zqg1_o (by omega)
    · rw [zu2_sj (by omega), zrmp_q (by omega), ← eg1]
      exact zu2_i h2 _ _ _ _
    · exact (zcorn_b (fun p hp => by
        obtain ⟨q1, _⟩ := z3 p (by omega)
        have := (hO.2.2 p (by omega)).1
        omega)).1
    · rw [zu2_eq, t4, ← z2]
      refine (zcorn_r _ (fun p hp => ?_)).symm
      rw [show zrN (zrmp g1 s (M.2.1 (14 + 14 * s) 10).toNat 0 gx gy) s p = zrN g1 s p from zrmp_o (by omega)]
      exact (z3 p (by omega)).1
    · rw [zu2_sj (by omega), zrmp_q hb]
theorem zqS_5 (hM : zLay M.2.2.2) (hN : zLay N.2.2.2) (hk : k < 60) (h : zqR k M.2.1 N.2.1) (hj : zqJ1 M N k 5) (h8 : M.2.1 (855 + 4 * k) 8 = N.2.1 1161 (4 * k + 1) ∧ 2 ≤ N.2.1 1161 (4 * k + 1) ∧ N.2.1 1161 (4 * k + 1) ≤ 4) : zqS L k M N := by
  obtain ⟨⟨j0, j1⟩, j2, j3⟩ := hj
  rcases zqS_sh (L := L) hM hN hk h j2 (Or.inl j3) (by omega) with no | ⟨s, hs, e2, e4, ht, hg, e⟩
  · exact no
  · have h1 := zqR_g1 (k := k) h
    have j1g : zqg1 N.2.1 k 1158 k = 5 := (zqg1_o (by omega)).trans j1
    generalize eu : N.2.1 1161 (4 * k + 1) = w at *
    obtain ⟨h8, hw⟩ := h8
    generalize eg1 : zqg1 N.2.1 k = g1 at *
    obtain ⟨hE, hO⟩ := h1.2.2.2.2.2.2.2.1 s hs (by rw [← eg1]; exact (zqg1_o (by omega)).trans ht)
    have hP := zqO_P hO
    obtain ⟨m1, m2⟩ := zqO_fm hO
    have tb := hO.2.1
    have sw := zqO_sw hO
    have bb := hP.2.2.2.2
    have hE2 := hE
    obtain ⟨z1, z2, z3, f1, f2, f3, f4⟩ := hE2
    have fm : zFm M.2.1 (14 + 14 * s) := by unfold zFm; omega
    have ic : zgrc M.2.1 (14 + 14 * s) w ↔ (zrsd g1 s 0 + w * (zrsd g1 s 2 - zrsd g1 s 0) ≤ 60 ∧ zrsd g1 s 1 + w * (zrsd g1 s 3 - zrsd g1 s 1) ≤ 60) := by
      unfold zgrc
      rw [f1, f2, f3, f4]
    have mono : ∀ a b : Int, a ≤ b → w * a ≤ w * b := fun a b q => Int.mul_le_mul_of_nonneg_left q (by omega)
    have mz : ∀ a : Int, 0 ≤ a → 0 ≤ w * a := fun a q => Int.mul_nonneg (by omega) q
    have on : zgrc M.2.1 (14 + 14 * s) w → zOn M.2.1 (14 + 14 * s) (fun x _ => M.2.1 (14 + 14 * s) 11 + w * (x - M.2.1 (14 + 14 * s) 11)) (fun _ y => M.2.1 (14 + 14 * s) 12 + w * (y - M.2.1 (14 + 14 * s) 12)) := fun c p j hp hj => by
      obtain ⟨c1, c2⟩ := ic.mp c
      rw [z2] at hp
      obtain ⟨q1, q2⟩ := z3 p hp
      rw [q1] at hj
      obtain ⟨x1, y1⟩ := q2 j hj
      have fr := zqO_fr hO hp hj
      show 0 ≤ M.2.1 (14 + 14 * s) 11 + w * (zX M.2.1 (14 + 14 * s) p j - M.2.1 (14 + 14 * s) 11) ∧ M.2.1 (14 + 14 * s) 11 + w * (zX M.2.1 (14 + 14 * s) p j - M.2.1 (14 + 14 * s) 11) ≤ 60 ∧ 0 ≤ M.2.1 (14 + 14 * s) 12 + w * (zY M.2.1 (14 + 14 * s) p j - M.2.1 (14 + 14 * s) 12) ∧ M.2.1 (14 + 14 * s) 12 + w * (zY M.2.1 (14 + 14 * s) p j - M.2.1 (14 + 14 * s) 12) ≤ 60
      rw [x1, y1, f1, f2]
      have a1 := mono (zrX g1 s p j - zrsd g1 s 0) (zrsd g1 s 2 - zrsd g1 s 0) (by omega)
      have a2 := mono (zrY g1 s p j - zrsd g1 s 1) (zrsd g1 s 3 - zrsd g1 s 1) (by omega)
      have a3 := mz (zrX g1 s p j - zrsd g1 s 0) (by omega)
      have a4 := mz (zrY g1 s p j - zrsd g1 s 1) (by omega)
      omega
    have ec := fun Q9 => c23 (L := L) (M := M) (Q := Q9) (n := w) (zShA_i hs) hM (zqE_sw hE hO) fm (by omega) on
    by_cases c : zgrc M.2.1 (14 + 14 * s) w
    · have c2 := ic.mp c
      have er := fun Q9 => c241g (L := L) (M := zwI N g1) (s := s) (n := w) (Q := Q9) hN (by omega) sw hw c2
      generalize egx : (fun (x _ : Int) => zrsd g1 s 0 + w * (x - zrsd g1 s 0)) = gx at *
      generalize egy : (fun (_ y : Int) => zrsd g1 s 1 + w * (y - zrsd g1 s 1)) = gy at *
      have er2 : ∀ Q9 : zO → zM → Prop, zFR (zK L) 241 0 (zcall 241 [.inr (.inr 1153), .inl (s : Int), .inl 5, .inl w]) [] (zwI N g1) Q9 = Q9 (.inl (some (.inl 1))) (zwI N (zrmp g1 s (g1 1174 s).toNat 0 gx gy)) := fun Q9 => by
        rw [← egx, ← egy]
        exact er Q9
      have vx : ∀ x y, gx x y = zrsd g1 s 0 + w * (x - zrsd g1 s 0) := fun x y => by rw [← egx]
      have vy : ∀ x y, gy x y = zrsd g1 s 1 + w * (y - zrsd g1 s 1) := fun x y => by rw [← egy]
      have ew : zgrw M.2.1 (14 + 14 * s) w = zfnd (zmp M.2.1 (14 + 14 * s) (M.2.1 (14 + 14 * s) 10).toNat 0 gx gy) (14 + 14 * s) := by
        unfold zgrw
        rw [f1, f2, egx, egy]
      have hP2 : zqP (zrmp g1 s (g1 1174 s).toNat 0 gx gy) s (zrsd g1 s 0) (zrsd g1 s 1) (zrsd g1 s 0 + w * (zrsd g1 s 2 - zrsd g1 s 0)) (zrsd g1 s 1 + w * (zrsd g1 s 3 - zrsd g1 s 1)) := by
        refine zqP_mp hP (fun x y x1 x2 y1 y2 => ?_) (Or.inl (fun x y e => ?_)) (Or.inr (Or.inl (fun x y e => ?_))) (Or.inl (fun x y e => ?_)) (Or.inr (Or.inl (fun x y e => ?_))) (fun a b c e h => ?_) bb
        · rw [vx, vy]
          have a1 := mono (x - zrsd g1 s 0) (zrsd g1 s 2 - zrsd g1 s 0) (by omega)
          have a2 := mono (y - zrsd g1 s 1) (zrsd g1 s 3 - zrsd g1 s 1) (by omega)
          have a3 := mz (x - zrsd g1 s 0) (by omega)
          have a4 := mz (y - zrsd g1 s 1) (by omega)
          omega
        · rw [vx, e, Int.sub_self, Int.mul_zero]
          omega
        · rw [vx, e]
        · rw [vy, e, Int.sub_self, Int.mul_zero]
          omega
        · rw [vy, e]
        · have m := zcg_m (n := w) (by omega) h
          rw [vx, vx, vy, vy]
          have q1 : zrsd g1 s 0 + w * (c - zrsd g1 s 0) - (zrsd g1 s 0 + w * (a - zrsd g1 s 0)) = w * (c - a) := by grind
          have q2 : zrsd g1 s 1 + w * (e - zrsd g1 s 1) - (zrsd g1 s 1 + w * (b - zrsd g1 s 1)) = w * (e - b) := by grind
          rw [q1, q2, Int.natAbs_mul, Int.natAbs_mul, Int.natCast_mul, Int.natCast_mul, Int.natAbs_of_nonneg (show 0 ≤ w by omega)]
          exact m
      have ee := zqE_map hE hP hP2
      rw [← ew] at ee
      have dd := zqP_d hP2
      have t5 : zrmp g1 s (g1 1174 s).toNat 0 gx gy 1175 s = g1 1175 s := zrmp_o (by omega)
      have t4 : zrmp g1 s (g1 1174 s).toNat 0 gx gy 1174 s = g1 1174 s := zrmp_o (by omega)
      have oo : zqO (zrmp g1 s (g1 1174 s).toNat 0 gx gy) s := zqP_O hP2 (by rw [t4, t5]; exact tb) c2.1 c2.2
      have hj1 : zrmp g1 s (g1 1174 s).toNat 0 gx gy 1158 k = 5 := (zrmp_o (by omega)).trans j1g
      have y13 := ee.2.2.2.2.2.1
      have go : ∀ b j, (b < 14 + 14 * s ∨ 28 + 14 * s ≤ b ∨ (b = 14 + 14 * s ∧ (j < 11 ∨ 15 ≤ j))) → zgrw M.2.1 (14 + 14 * s) w b j = M.2.1 b j := fun b j hb => by
        rw [ew, zfnd_o (by omega), zmp_o _ (by omega)]
      have pos := zqO_fm oo
      refine ⟨zgrw M.2.1 (14 + 14 * s) w, zu2 (zrmp g1 s (g1 1174 s).toNat 0 gx gy) 1153 36 (zrsd (zrmp g1 s (g1 1174 s).toNat 0 gx gy) s 2), zgrw M.2.1 (14 + 14 * s) w (14 + 14 * s) 13, 1, fun Q => c10_5 (v := zgrw M.2.1 (14 + 14 * s) w (14 + 14 * s) 13) (M9 := zwI M (zgrw M.2.1 (14 + 14 * s) w)) hM (zqR_01 h) hk hk hg j0 hs e2 (fun Q9 => ?_), e 1 _ (Or.inr rfl) (fun Q9 => c208_5 (x := 0) (M10 := N) (M := zwI N g1) hN hk hs j1g (fun Q8 => c237_5 (M9 := zwI N (zrmp g1 s (g1 1174 s).toNat 0 gx gy)) (M := zwI N g1) hN hk hs j1g er2 (Or.inr rfl) hN (zqO_sw oo) hj1) (Or.inr rfl)), fun b j hb => go b j (by omega), fun b j hb => ?_, fun j h1 h2 h3 => ?_, Or.inr ⟨rfl, ?_, ?_, zqR_n hk (zqQ_geo h1 hs go (fun b j hb h36 => ?_) (zqE_36 ⟨ee, oo⟩))⟩⟩
      · rw [h8, ec]
        exact propext ⟨fun q => q.1 c, fun q => ⟨fun _ => q, fun q2 => absurd c q2⟩⟩
      · rw [zu2_sj (by omega), zrmp_q (by omega), ← eg1]
        exact zqg1_o (by omega)
      · rw [zu2_sj (by omega), zrmp_q (by omega), ← eg1]
        exact zu2_i h2 _ _ _ _
      · rw [y13]
        unfold zrFm at pos
        omega
      · rw [zu2_eq, y13]
      · rw [zu2_sj (by omega), zrmp_q hb]
    · have c2 := fun q => c (ic.mpr q)
      have er := fun Q9 => c241x (L := L) (M := zwI N g1) (s := s) (n := w) (Q := Q9) hN (by omega) sw hw c2
      refine ⟨M.2.1, zu2 g1 1153 36 (zrsd g1 s 2), -1, 0, fun Q => c10_5 (v := -1) (M9 := M) hM (zqR_01 h) hk hk hg j0 hs e2 (fun Q9 => ?_), e 0 _ (Or.inl rfl) (fun Q9 => c208_5 (x := 0) (M10 := N) (M := zwI N g1) hN hk hs j1g (fun Q8 => c237_5 (M9 := zwI N g1) (M := zwI N g1) hN hk hs j1g er (Or.inl rfl) hN sw j1g) (Or.inl rfl)), fun _ _ _ => rfl, fun b j hb => ?_, fun j h1 h2 h3 => ?_, Or.inl ⟨rfl, rfl, zqR_keep (fun _ _ _ _ _ _ _ => rfl) (zqR_ch h) (fun b j b1 b2 _ => zu2_sj (by omega)) (zu2_sj (by omega)) h1⟩⟩
      · rw [h8, ec]
        exact propext ⟨fun q => q.2 c, fun q => ⟨fun q2 => absurd q2 c, fun _ => q⟩⟩
      · rw [zu2_sj (by omega), ← eg1]
        exact zqg1_o (by omega)
      · rw [zu2_sj (by omega), ← eg1]
        exact zu2_i h2 _ _ _ _
end ZSHAPEQ
