section SM_65_stamp
/-! a shape stamped -/
section ZSTAMP
variable {L : Nat} {M : zM} {s : Nat} {Q : zO → zM → Prop}
theorem zpt_cong {g g' : Nat → Int} : ∀ c, (∀ p, p < c → g p = g' p) → zpt g c = zpt g' c
  | 0, _ => rfl
  | c + 1, h => by
    have ih := zpt_cong c (fun p hp => h p (by omega))
    unfold zpt
    rw [ih, h c (by omega)]
end ZSTAMP
end SM_65_stamp
section SM_73_next
/-! shapes that are needed; the next change -/
section ZNEXT
variable {L : Nat} {M : zM} {s a b : Nat} {Q : zO → zM → Prop}
theorem zdg_o {m : Nat} {h l c : Int} {b j : Nat} (hb : b ≠ 855 + 4 * m) (hb2 : b ≠ 856 + 4 * m) : (zdgM M m h l c).2.1 b j = M.2.1 b j := by
  show zu2 (zu2 (zbg M.2.1 (855 + 4 * m) 0 h (-1)) (855 + 4 * m) 4 l) (855 + 4 * m) 5 c b j = M.2.1 b j
  rw [zu2_a hb, zu2_a hb, zbg_o hb (by omega)]
end ZNEXT
end SM_73_next
section SM_76_ref2
/-! the reference: what a shape holds; its shift -/
section ZREF2
variable {L : Nat} {M : zM} {s : Nat} {Q : zO → zM → Prop}
/-- what a shape holds, as the reference has it -/
def zrhl (f : Nat → Nat → Int) (s : Nat) (x y : Int) : Bool := zhlb (f 1175 s) (f 1174 s).toNat (zrN f s) (zrX f s) (zrY f s) x y
end ZREF2
end SM_76_ref2
section SM_97_rmade
/-! the reference: changes asked for -/
section ZRMADE
variable {L : Nat} {M : zM} {s : Nat} {Q : zO → zM → Prop}
/-- a change told -/
def zrtl (f : Nat → Nat → Int) (i : Nat) (k h a b c d : Int) : Nat → Nat → Int := zu2 (zu2 (zu2 (zu2 (zu2 (zu2 f 1158 i k) 1159 i h) 1161 (4 * i) a) 1161 (4 * i + 1) b) 1161 (4 * i + 2) c) 1161 (4 * i + 3) d
end ZRMADE
end SM_97_rmade
section SM_9C_rtells2
/-! the reference: what is told of shapes -/
section ZRTELLS2
variable {L : Nat} {M : zM} {s : Nat} {Q : zO → zM → Prop}
theorem zrg_r {f : Nat → Nat → Int} (j : Nat) : zrg f 1184 j = zrod f j := zrw_r j
/-- of -/
def zrof (f : Nat → Nat → Int) (s w : Nat) : Int := if w = 0 then f 1167 s else if w = 1 then f 1168 s else if w = 2 then f 1172 s else if w = 3 then f 1173 s else if w = 4 then (if zrot f s = s then -1 else (zrot f s : Int)) else if w = 5 then f 1174 s else if w = 6 then f 1175 s else if w = 7 then f 1169 s else if w = 8 then f 1170 s else if w = 9 then f 1171 s else zrsd f s (w - 10)
/-- the uppermost that is hit -/
def zrht (f : Nat → Nat → Int) (x y : Int) : Nat → Int
  | 0 => -1
  | k + 1 => if f 1181 (f 1167 (f 1184 k).toNat).toNat ≠ 0 ∧ zrhl f (f 1184 k).toNat x y = true then f 1184 k else zrht f x y k
theorem zrht_s (f : Nat → Nat → Int) (x y : Int) (k : Nat) : zrht f x y (k + 1) = if f 1181 (f 1167 (f 1184 k).toNat).toNat ≠ 0 ∧ zrhl f (f 1184 k).toNat x y = true then f 1184 k else zrht f x y k := rfl
end ZRTELLS2
end SM_9C_rtells2
section SM_CP_simple
/-! the changes that only note what they are asked for: class and reference -/
section ZSIMPLEQ
variable {L m : Nat} {M : zM} {cc : Nat → Int}
theorem zbg_v {f : Nat → Nat → Int} {c : Nat} {w h t : Int} : zbg f c w h t c 0 = w ∧ zbg f c w h t c 1 = h ∧ zbg f c w h t c 2 = t ∧ zbg f c w h t c 3 = -1 ∧ zbg f c w h t c 4 = 0 ∧ zbg f c w h t c 5 = 1 ∧ zbg f c w h t c 6 = 0 ∧ zbg f c w h t c 7 = 0 ∧ zbg f c w h t c 8 = 0 ∧ zbg f c w h t c 9 = 0 := by
  simp [zbg, zu2]
theorem zrtl_v {f : Nat → Nat → Int} {i : Nat} {k h a b c d : Int} : zrtl f i k h a b c d 1158 i = k ∧ zrtl f i k h a b c d 1159 i = h ∧ zrtl f i k h a b c d 1161 (4 * i) = a ∧ zrtl f i k h a b c d 1161 (4 * i + 1) = b ∧ zrtl f i k h a b c d 1161 (4 * i + 2) = c ∧ zrtl f i k h a b c d 1161 (4 * i + 3) = d := by
  unfold zrtl
  refine ⟨?_, ?_, ?_, ?_, ?_, ?_⟩
  · rw [zu2_a (by omega), zu2_a (by omega), zu2_a (by omega), zu2_a (by omega), zu2_a (by omega), zu2_eq]
  · rw [zu2_a (by omega), zu2_a (by omega), zu2_a (by omega), zu2_a (by omega), zu2_eq]
  · rw [zu2_i (by omega), zu2_i (by omega), zu2_i (by omega), zu2_eq]
  · rw [zu2_i (by omega), zu2_i (by omega), zu2_eq]
  · rw [zu2_i (by omega), zu2_eq]
  · rw [zu2_eq]
end ZSIMPLEQ
end SM_CP_simple
section SM_CS_askq
/-! asks that both answer alike -/
section ZASKQ
variable {L m n : Nat} {M : zM} {s : Nat} {Q : zO → zM → Prop} {f g : Nat → Nat → Int} {cc : Nat → Int}
-- the reference's corners: only what is asked for need be in range
-- agreement
theorem zqof (h : zqR n f g) (hs : s < 60) (t : g 1166 s = 1) {w : Int} (hw : 0 ≤ w ∧ w ≤ 13) : zrof g s w.toNat = if w = 4 then zotm f s else f (14 + 14 * s) (ztf w) := by
  obtain ⟨a1, a2, a3, _⟩ := h.2.1 s hs t
  obtain ⟨k1, k2, _⟩ := h.2.2.1.1 s hs t
  obtain ⟨l1, l2, _⟩ := h.2.2.2.1.1 s hs t
  obtain ⟨⟨e1, e2, _, e3, e4, e5, e6⟩, _⟩ := h.2.2.2.2.2.2.2.1 s hs t
  obtain ⟨o1, o2⟩ := zqR_ot h hs t
  have bs := zqR_gb h hs
  have cc : w = 0 ∨ w = 1 ∨ w = 2 ∨ w = 3 ∨ w = 4 ∨ w = 5 ∨ w = 6 ∨ w = 7 ∨ w = 8 ∨ w = 9 ∨ w = 10 ∨ w = 11 ∨ w = 12 ∨ w = 13 := by omega
  rcases cc with rfl | rfl | rfl | rfl | rfl | rfl | rfl | rfl | rfl | rfl | rfl | rfl | rfl | rfl
  · exact a1.symm
  · exact a2.symm
  · exact l1.symm
  · exact l2.symm
  · show (if zrot g s = s then (-1 : Int) else (zrot g s : Int)) = zotm f s
    by_cases c : g 1180 s = -1
    · obtain ⟨q1, q2⟩ := o1 c
      rw [if_pos q2, q1]
    · obtain ⟨q1, q2, _⟩ := o2 (by omega)
      rw [if_neg (by omega), q1]
  · exact e2.symm
  · exact e1.symm
  · exact k1.symm
  · exact k2.symm
  · exact a3.symm
  · exact e3.symm
  · exact e4.symm
  · exact e5.symm
  · exact e6.symm
end ZASKQ
end SM_CS_askq
section SM_CU_askq2
/-! pen, tape, sheet, rings, corners: alike -/
section ZASKQ2
variable {L m n : Nat} {M N : zM} {s : Nat} {Q : zO → zM → Prop} {f g : Nat → Nat → Int} {cc : Nat → Int}
-- lift
-- pen
-- out
end ZASKQ2
/-! corners, rings, order, hits: alike -/
section ZASKQ3
variable {L m n : Nat} {M N : zM} {s : Nat} {Q : zO → zM → Prop} {f g : Nat → Nat → Int} {cc : Nat → Int}
-- corners
-- a point held, seen by both
theorem zodd_cg {k9 : Int} {X Y U V : Nat → Int} {x y : Int} (hx : ∀ k : Nat, (k : Int) < k9 → U k = X k) (hy : ∀ k : Nat, (k : Int) < k9 → V k = Y k) : ∀ k : Nat, (k : Int) ≤ k9 → zodd k9 U V x y k = zodd k9 X Y x y k
  | 0, _ => rfl
  | k + 1, h => by
    have hk : (k : Int) < k9 := by omega
    have ha := zaf_lt hk
    have ih := zodd_cg (x := x) (y := y) hx hy k (by omega)
    have e1 : zqt k9 U V k y = zqt k9 X Y k y := by
      unfold zqt zle2 zwd
      rw [hx k hk, hx _ ha, hy k hk, hy _ ha]
    unfold zodd
    rw [ih, e1, hy k hk, hy _ ha]
theorem zqhl (h : zqE f g s) (ho : zqO g s) (x y : Int) : zhlb (f (14 + 14 * s) 9) (f (14 + 14 * s) 10).toNat (zN f (14 + 14 * s)) (zX f (14 + 14 * s)) (zY f (14 + 14 * s)) x y = zrhl g s x y := by
  obtain ⟨e1, e2, e3, _⟩ := h
  unfold zrhl zhlb
  rw [e1, e2]
  congr 1
  refine zpt_cong _ (fun p hp => ?_)
  obtain ⟨q1, q2⟩ := e3 p (by omega)
  have n3 := (ho.2.2 p (by omega)).1
  rw [q1]
  exact zodd_cg (fun k hk => (q2 k hk).1) (fun k hk => (q2 k hk).2) _ (by omega)
end ZASKQ3
/-! order, hits, rings: alike -/
section ZASKQ4
variable {L m n : Nat} {M N : zM} {s : Nat} {Q : zO → zM → Prop} {f g G F : Nat → Nat → Int} {cc : Nat → Int}
-- hits
theorem zrht_top {x y : Int} : ∀ k, (zrht F x y k = -1 ∧ ∀ q, q < k → ¬ (F 1181 (F 1167 (F 1184 q).toNat).toNat ≠ 0 ∧ zrhl F (F 1184 q).toNat x y = true)) ∨ ∃ q, q < k ∧ (F 1181 (F 1167 (F 1184 q).toNat).toNat ≠ 0 ∧ zrhl F (F 1184 q).toNat x y = true) ∧ zrht F x y k = F 1184 q ∧ ∀ r, q < r → r < k → ¬ (F 1181 (F 1167 (F 1184 r).toNat).toNat ≠ 0 ∧ zrhl F (F 1184 r).toNat x y = true)
  | 0 => Or.inl ⟨rfl, fun q h => absurd h (Nat.not_lt_zero q)⟩
  | k + 1 => by
    rw [zrht_s]
    by_cases c : F 1181 (F 1167 (F 1184 k).toNat).toNat ≠ 0 ∧ zrhl F (F 1184 k).toNat x y = true
    · rw [if_pos c]
      exact Or.inr ⟨k, by omega, c, rfl, fun r h1 h2 => absurd h1 (by omega)⟩
    · rw [if_neg c]
      rcases zrht_top (x := x) (y := y) k with ⟨e, no⟩ | ⟨q, q1, q2, e, q3⟩
      · refine Or.inl ⟨e, fun q hq => ?_⟩
        by_cases qe : q = k
        · rw [qe]; exact c
        · exact no q (by omega)
      · refine Or.inr ⟨q, by omega, q2, e, fun r h1 h2 => ?_⟩
        by_cases qe : r = k
        · rw [qe]; exact c
        · exact q3 r h1 (by omega)
theorem zqcd (h : zqR n f G) {x y : Int} {v : Nat} (hv : v < 60) : zshb f x y v = true ↔ zqth2 G v ∧ (zrg G 1181 (zrg G 1167 v).toNat ≠ 0 ∧ zrhl (zrg G) v x y = true) := by
  have el : zrg G 1167 v = G 1167 v := zrg_o ⟨by omega, by omega⟩
  have ev : zrg G 1181 (G 1167 v).toNat = G 1181 (G 1167 v).toNat := zrg_o ⟨by omega, by omega⟩
  have eh : zrhl (zrg G) v x y = zrhl G v x y := by
    have a4 : zrg G 1174 v = G 1174 v := zrg_o ⟨by omega, by omega⟩
    have a5 : zrg G 1175 v = G 1175 v := zrg_o ⟨by omega, by omega⟩
    have a6 : zrN (zrg G) v = zrN G v := funext fun p => zrg_o ⟨by omega, by omega⟩
    have a7 : zrX (zrg G) v = zrX G v := funext fun p => funext fun q => zrg_o ⟨by omega, by omega⟩
    have a8 : zrY (zrg G) v = zrY G v := funext fun p => funext fun q => zrg_o ⟨by omega, by omega⟩
    unfold zrhl
    rw [a4, a5, a6, a7, a8]
  rw [el, ev, eh]
  unfold zshb zsee
  rw [Bool.and_eq_true, decide_eq_true_iff]
  constructor
  · rintro ⟨⟨h1, h2⟩, h3⟩
    obtain ⟨se, so⟩ := zqR_f h hv h1
    rw [zqR_t h hv] at h1
    obtain ⟨e1, _, _, e4, _⟩ := h.2.1 v hv h1
    rw [e1] at h2
    have := (h.2.2.2.2.2.1.1 (G 1167 v).toNat (by omega)).2
    exact ⟨⟨hv, h1⟩, by omega, by rw [← zqhl se so]; exact h3⟩
  · rintro ⟨⟨_, h1⟩, h2, h3⟩
    have h1' := h1
    rw [← zqR_t h hv] at h1'
    obtain ⟨se, so⟩ := zqR_f h hv h1'
    obtain ⟨e1, _, _, e4, _⟩ := h.2.1 v hv h1
    have := h.2.2.2.2.2.1.1 (G 1167 v).toNat (by omega)
    exact ⟨⟨h1', by rw [e1]; omega⟩, by rw [zqhl se so]; exact h3⟩
theorem zqht (h : zqR n f G) {x y : Int} : zbest (zshb f x y) (fun i v => zclt f v i) 60 = zrht (zrg G) x y (zrct G) := by
  have hK := h.2.2.1
  have cd := fun v hv => zqcd h (x := x) (y := y) (v := v) hv
  have key := zbest_b (cand := zshb f x y) (better := fun i v => zclt f v i) (P := zqth2 G) (fun a b c pa pb pc h1 h2 => zclt_tr h c b a pc pb pa h2 h1) (fun a b pa pb hab => (zclt_tot h a b pa pb hab).symm) 60 (fun v hv hc => ((cd v hv).mp hc).1)
  have er : ∀ q, zrg G 1184 q = zrod G q := fun q => zrg_r q
  rcases key with ⟨e, no⟩ | ⟨k, k1, k2, e, k3⟩
  · rw [e]
    rcases zrht_top (F := zrg G) (x := x) (y := y) (zrct G) with ⟨e2, _⟩ | ⟨q, q1, q2, e2, q3⟩
    · exact e2.symm
    · obtain ⟨u, u1, u2⟩ := zqvl (g := G) q1
      rw [er, u2, Int.toNat_natCast] at q2
      have := (cd u u1.1).mpr ⟨u1, q2⟩
      rw [no u u1.1] at this
      exact absurd this (by decide)
  · obtain ⟨t1, t2⟩ := (cd k k1).mp k2
    obtain ⟨r, r1, r2⟩ := zqpl k t1
    rw [e]
    rcases zrht_top (F := zrg G) (x := x) (y := y) (zrct G) with ⟨e2, no⟩ | ⟨q, q1, q2, e2, q3⟩
    · have := no r r1
      rw [er, r2, Int.toNat_natCast] at this
      exact absurd t2 this
    · obtain ⟨u, u1, u2⟩ := zqvl (g := G) q1
      rw [er, u2, Int.toNat_natCast] at q2
      rw [e2, er, u2]
      by_cases ek : u = k
      · rw [ek]
      · have b := k3 u u1.1 ((cd u u1.1).mpr ⟨u1, q2⟩) ek
        have b2 : zclt f u k = true := b
        rw [zqlt h.2.1 hK u1 t1] at b2
        have qr := zqbf hK q1 r1 u2 r2 b2
        have := q3 r qr r1
        rw [er, r2, Int.toNat_natCast] at this
        exact absurd t2 this
end ZASKQ4
/-! rings, the tape: alike -/
section ZASKQ5
variable {L m n : Nat} {M N : zM} {s : Nat} {Q : zO → zM → Prop} {f g : Nat → Nat → Int} {cc : Nat → Int}
theorem zcnt_1 {p : Nat → Bool} : ∀ m i, i < m → p i = true → 1 ≤ zcnt p m
  | 0, i, h, _ => absurd h (Nat.not_lt_zero i)
  | m + 1, i, h, hp => by
    rw [zcnt_s]
    by_cases e : i = m
    · subst e
      rw [if_pos hp]
      omega
    · have := zcnt_1 m i (by omega) hp
      split <;> omega
theorem zrng_le {nx : Nat → Int} {s : Int} : ∀ (k n : Nat) (x : Int), zrng nx s k n x = 0 ∨ zrng nx s k n x < (n : Int) + (k : Int)
  | 0, _, _ => Or.inl rfl
  | k + 1, n, x => by
    rw [zrng_s]
    by_cases c : x = -1
    · rw [if_pos c]; exact Or.inl rfl
    · rw [if_neg c]
      by_cases d : x = s
      · rw [if_pos d]; exact Or.inr (by omega)
      · rw [if_neg d]
        rcases zrng_le (nx := nx) (s := s) k (n + 1) (nx x.toNat) with e | e
        · exact Or.inl e
        · exact Or.inr (by omega)
-- the tape
end ZASKQ5
end SM_CU_askq2
section SM_CV_changes
/-! both note a change after more than the told kind -/
section ZAGREE2Q
variable {L m : Nat} {M M0 C2 : zM}
end ZAGREE2Q
/-! new shapes asked for: box, diamond, trace, draw -/
section ZDRAWQ
variable {L m : Nat} {M M0 B C2 : zM} {Q : zO → zM → Prop} {cc : Nat → Int}
theorem zpn_cw {h l c : Int} {n : Nat} {X Y : Nat → Int} : zqCw m (zpnM M m h l c n X Y) M := by
  refine ⟨fun b j hb => ?_, fun b j hb => ?_, rfl⟩
  · show zpset (zdgM M m h l c).2.1 (856 + 4 * m) n X Y b j = _
    rw [zpset_ob (by omega), zdg_o (by omega) (by omega)]
  · show zl2 M.2.2.1 (855 + 4 * m) 10 _ b j = _
    unfold zl2
    rw [if_neg (by omega)]
theorem zpn_J {H : Nat → Nat → Int} {h l c : Int} {n : Nat} {X Y : Nat → Int} (hh : 0 ≤ h ∧ h ≤ 2) (hl : 0 ≤ l ∧ l ≤ 3) (hc : 1 ≤ c ∧ c ≤ 9) (hn : 3 ≤ n ∧ n ≤ 8) (hv : ∀ j, j < n → (0 ≤ X j ∧ X j ≤ 60) ∧ 0 ≤ Y j ∧ Y j ≤ 60) (hp : zpr (n : Int) X Y 0) (h63 : H 1163 m = (n : Int)) (hx : ∀ j, j < n → H 1164 (8 * m + j) = X j) (hy : ∀ j, j < n → H 1165 (8 * m + j) = Y j) : zqJe (zpnM M m h l c n X Y) (zwI B (zrtl H m 0 h l c 0 0)) m := by
  obtain ⟨t8, t9, u0, u1, u2, u3⟩ := zrtl_v (f := H) (i := m) (k := 0) (h := h) (a := l) (b := c) (c := 0) (d := 0)
  obtain ⟨g0, g1, g2, g3, g4, g5, _⟩ := zbg_v (f := M.2.1) (c := 855 + 4 * m) (w := 0) (h := h) (t := -1)
  have tH : ∀ b j, 1162 < b → b < 1166 → zrtl H m 0 h l c 0 0 b j = H b j := fun b j b1 b2 => by
    unfold zrtl
    rw [zu2_sj (by omega), zu2_sj (by omega), zu2_sj (by omega), zu2_sj (by omega), zu2_sj (by omega), zu2_sj (by omega)]
  have cs : ∀ j, (zpnM M m h l c n X Y).2.1 (855 + 4 * m) j = zu2 (zu2 (zbg M.2.1 (855 + 4 * m) 0 h (-1)) (855 + 4 * m) 4 l) (855 + 4 * m) 5 c (855 + 4 * m) j := fun j => zpset_ob (by omega)
  have s0 : (zpnM M m h l c n X Y).2.1 (855 + 4 * m) 0 = 0 := by rw [cs, zu2_sj (by omega), zu2_sj (by omega), g0]
  have s1 : (zpnM M m h l c n X Y).2.1 (855 + 4 * m) 1 = h := by rw [cs, zu2_sj (by omega), zu2_sj (by omega), g1]
  have s2 : (zpnM M m h l c n X Y).2.1 (855 + 4 * m) 2 = -1 := by rw [cs, zu2_sj (by omega), zu2_sj (by omega), g2]
  have s3 : (zpnM M m h l c n X Y).2.1 (855 + 4 * m) 3 = -1 := by rw [cs, zu2_sj (by omega), zu2_sj (by omega), g3]
  have s4 : (zpnM M m h l c n X Y).2.1 (855 + 4 * m) 4 = l := by rw [cs, zu2_sj (by omega), zu2_eq]
  have s5 : (zpnM M m h l c n X Y).2.1 (855 + 4 * m) 5 = c := by rw [cs, zu2_eq]
  have sn : (zpnM M m h l c n X Y).2.1 (856 + 4 * m) 0 = (n : Int) := zpset_n _ _ _ _ _
  have sx : ∀ j, j < n → (zpnM M m h l c n X Y).2.1 (857 + 4 * m) j = X j := fun j hj => by
    rw [show 857 + 4 * m = 856 + 4 * m + 1 by omega]
    exact zpset_X _ _ hj _ _
  have sy : ∀ j, j < n → (zpnM M m h l c n X Y).2.1 (858 + 4 * m) j = Y j := fun j hj => by
    rw [show 858 + 4 * m = 856 + 4 * m + 2 by omega]
    exact zpset_Y _ _ hj _ _
  have r63 : (zwI B (zrtl H m 0 h l c 0 0)).2.1 1163 m = (n : Int) := (tH 1163 m (by omega) (by omega)).trans h63
  have rx : ∀ j, j < n → (zwI B (zrtl H m 0 h l c 0 0)).2.1 1164 (8 * m + j) = X j := fun j hj => (tH 1164 _ (by omega) (by omega)).trans (hx j hj)
  have ry : ∀ j, j < n → (zwI B (zrtl H m 0 h l c 0 0)).2.1 1165 (8 * m + j) = Y j := fun j hj => (tH 1165 _ (by omega) (by omega)).trans (hy j hj)
  have w8 : (zwI B (zrtl H m 0 h l c 0 0)).2.1 1158 m = 0 := t8
  have w9 : (zwI B (zrtl H m 0 h l c 0 0)).2.1 1159 m = h := t9
  have v0 : (zwI B (zrtl H m 0 h l c 0 0)).2.1 1161 (4 * m) = l := u0
  have v1 : (zwI B (zrtl H m 0 h l c 0 0)).2.1 1161 (4 * m + 1) = c := u1
  generalize zwI B (zrtl H m 0 h l c 0 0) = T at *
  generalize zpnM M m h l c n X Y = C at *
  unfold zqJe
  refine ⟨⟨s1.trans w9.symm, by omega⟩, Or.inl ?_⟩
  unfold zqJ0 zqJw
  rw [r63]
  refine ⟨⟨s0, w8⟩, ⟨s2, s3⟩, s1.trans w9.symm, ⟨s4.trans v0.symm, by omega⟩, ⟨s5.trans v1.symm, by omega⟩, ⟨sn, by omega⟩, fun j hj => ?_, zpr_cg (fun k hk => rx k (by omega)) (fun k hk => ry k (by omega)) hp⟩
  rw [rx j (by omega), ry j (by omega)]
  exact ⟨sx j (by omega), sy j (by omega), hv j (by omega)⟩
theorem zpr_bx {x y w g : Int} (hw : 1 ≤ w) (hg : 1 ≤ g) : zpr ((4 : Nat) : Int) (zbx x w) (zby y g) 0 := by
  intro j _ h
  have e : j = 0 ∨ j = 1 ∨ j = 2 ∨ j = 3 := by omega
  have x0 : zbx x w 0 = x := if_neg (by omega)
  have x1 : zbx x w 1 = x + w := if_pos (by omega)
  have x2 : zbx x w 2 = x + w := if_pos (by omega)
  have x3 : zbx x w 3 = x := if_neg (by omega)
  have y0 : zby y g 0 = y := if_pos (by omega)
  have y1 : zby y g 1 = y := if_pos (by omega)
  have y2 : zby y g 2 = y + g := if_neg (by omega)
  have y3 : zby y g 3 = y + g := if_neg (by omega)
  have a0 : zaf ((4 : Nat) : Int) 0 = 1 := if_pos (by omega)
  have a1 : zaf ((4 : Nat) : Int) 1 = 2 := if_pos (by omega)
  have a2 : zaf ((4 : Nat) : Int) 2 = 3 := if_pos (by omega)
  have a3 : zaf ((4 : Nat) : Int) 3 = 0 := if_neg (by omega)
  unfold zwd zcg
  rcases e with rfl | rfl | rfl | rfl
  · rw [a0, x0, x1, y0, y1]; split <;> omega
  · rw [a1, x1, x2, y1, y2]; split <;> omega
  · rw [a2, x2, x3, y2, y3]; split <;> omega
  · rw [a3, x3, x0, y3, y0]; split <;> omega
theorem zpr_dx {x y r : Int} (hr : 1 ≤ r) : zpr ((4 : Nat) : Int) (zdx x r) (zdy y r) 0 := by
  intro j _ h
  have e : j = 0 ∨ j = 1 ∨ j = 2 ∨ j = 3 := by omega
  have x0 : zdx x r 0 = x - r := if_pos (by omega)
  have x1 : zdx x r 1 = x := (if_neg (by omega)).trans (if_neg (by omega))
  have x2 : zdx x r 2 = x + r := (if_neg (by omega)).trans (if_pos (by omega))
  have x3 : zdx x r 3 = x := (if_neg (by omega)).trans (if_neg (by omega))
  have y0 : zdy y r 0 = y := (if_neg (by omega)).trans (if_neg (by omega))
  have y1 : zdy y r 1 = y - r := if_pos (by omega)
  have y2 : zdy y r 2 = y := (if_neg (by omega)).trans (if_neg (by omega))
  have y3 : zdy y r 3 = y + r := (if_neg (by omega)).trans (if_pos (by omega))
  have a0 : zaf ((4 : Nat) : Int) 0 = 1 := if_pos (by omega)
  have a1 : zaf ((4 : Nat) : Int) 1 = 2 := if_pos (by omega)
  have a2 : zaf ((4 : Nat) : Int) 2 = 3 := if_pos (by omega)
  have a3 : zaf ((4 : Nat) : Int) 3 = 0 := if_neg (by omega)
  unfold zwd zcg
  rcases e with rfl | rfl | rfl | rfl
  · rw [a0, x0, x1, y0, y1]; split <;> omega
  · rw [a1, x1, x2, y1, y2]; split <;> omega
  · rw [a2, x2, x3, y2, y3]; split <;> omega
  · rw [a3, x3, x0, y3, y0]; split <;> omega
-- box, the class
end ZDRAWQ
/-! a diamond asked for -/
section ZDIAQ
variable {L m : Nat} {M M0 B C2 : zM} {Q : zO → zM → Prop} {cc : Nat → Int}
-- diamond, the class
end ZDIAQ
/-! draw: both note it, and empty the pen -/
section ZPENQ
variable {L m : Nat} {M M0 B C2 : zM} {Q : zO → zM → Prop} {cc : Nat → Int}
-- the class
end ZPENQ
/-! gather, asked for -/
section ZGASKQ
variable {L m : Nat} {M M0 B C2 : zM} {Q : zO → zM → Prop} {cc : Nat → Int}
end ZGASKQ
/-! undo -/
section ZUNDOQ
variable {L m : Nat} {M M0 B C2 : zM} {Q : zO → zM → Prop} {cc : Nat → Int}
end ZUNDOQ
end SM_CV_changes
section SM_CW_more
/-! the tape read by both -/
section ZTAPEQ
variable {L m : Nat} {M M0 B C2 : zM} {Q : zO → zM → Prop} {cc : Nat → Int}
variable {o X0 Y0 : Nat → Int} {n : Nat}
end ZTAPEQ
/-! fault, trace: alike -/
section ZTRACEQ
variable {L m : Nat} {M M0 B C2 : zM} {Q : zO → zM → Prop} {cc : Nat → Int}
-- trace, the class
end ZTRACEQ
/-! trace: alike -/
section ZTRACE2Q
variable {L m : Nat} {M M0 B C2 : zM} {Q : zO → zM → Prop} {cc : Nat → Int}
end ZTRACE2Q
/-! cells and rows of the picture -/
section ZCELLQ
variable {L m n : Nat} {M B : zM} {s : Nat} {Q : zO → zM → Prop} {f G : Nat → Nat → Int} {cc : Nat → Int}
end ZCELLQ
/-! rows of the picture -/
section ZROWQ
variable {L m n : Nat} {M B : zM} {s : Nat} {Q : zO → zM → Prop} {f G F0 : Nat → Nat → Int} {o : Nat → Int} {cc : Nat → Int}
end ZROWQ
/-! areas told by both -/
section ZAREAQ
variable {L m n : Nat} {M B : zM} {s t : Nat} {Q : zO → zM → Prop} {f g : Nat → Nat → Int} {cc : Nat → Int}
theorem zqSPc (h : zqE f g s) (ho : zqO g s) {c : Nat} (hc : g 1174 s = (c : Int)) : zSP (zN f (14 + 14 * s)) (zX f (14 + 14 * s)) (zY f (14 + 14 * s)) c := fun p hp => by
  have hp2 : (p : Int) < f (14 + 14 * s) 10 := by rw [h.2.1]; omega
  exact ⟨(zqE_sw h ho).2.2 p hp2, (zqE_pr h ho hp2).2⟩
end ZAREAQ
/-! the area of one shape -/
section ZAREA1Q
variable {L m n : Nat} {M B : zM} {s t : Nat} {Q : zO → zM → Prop} {f g : Nat → Nat → Int} {cc : Nat → Int}
end ZAREA1Q
/-! two rows in order, of the same members -/
section ZSAMEQ
end ZSAMEQ
end SM_CW_more
section SM_D7_sampleq
/-! some drawn by lots: both draw the same -/
section ZLOTSQ
variable {L m : Nat} {M N B C C' N' C2 : zM} {Q : zO → zM → Prop} {cc : Nat → Int}
theorem zpr_tg {x y n : Int} (hn : 1 ≤ n) : zpr ((3 : Nat) : Int) (ztgx x n) (ztgy y n) 0 := by
  intro j _ h
  have e : j = 0 ∨ j = 1 ∨ j = 2 := by omega
  have x0 : ztgx x n 0 = x := if_neg (by omega)
  have x1 : ztgx x n 1 = x + 2 * n := if_pos (by omega)
  have x2 : ztgx x n 2 = x := if_neg (by omega)
  have y0 : ztgy y n 0 = y := if_neg (by omega)
  have y1 : ztgy y n 1 = y := if_neg (by omega)
  have y2 : ztgy y n 2 = y + n := if_pos (by omega)
  have a0 : zaf ((3 : Nat) : Int) 0 = 1 := if_pos (by omega)
  have a1 : zaf ((3 : Nat) : Int) 1 = 2 := if_pos (by omega)
  have a2 : zaf ((3 : Nat) : Int) 2 = 0 := if_neg (by omega)
  unfold zwd zcg
  rcases e with rfl | rfl | rfl
  · rw [a0, x0, x1, y0, y1]; split <;> omega
  · rw [a1, x1, x2, y1, y2]; split <;> omega
  · rw [a2, x2, x0, y2, y0]; split <;> omega
theorem zsm_f {kd x y n : Int} (hk : 0 ≤ kd ∧ kd < 4) (hx : 0 ≤ x ∧ x < 40) (hy : 0 ≤ y ∧ y < 40) (hn : 1 ≤ n ∧ n ≤ 10) : (3 ≤ zsmN kd ∧ zsmN kd ≤ 8) ∧ (∀ j, j < zsmN kd → (0 ≤ zsmX kd x n j ∧ zsmX kd x n j ≤ 60) ∧ 0 ≤ zsmY kd y n j ∧ zsmY kd y n j ≤ 60) ∧ zpr ((zsmN kd : Nat) : Int) (zsmX kd x n) (zsmY kd y n) 0 := by
  have c4 : kd = 0 ∨ kd = 1 ∨ kd = 2 ∨ kd = 3 := by omega
  rcases c4 with rfl | rfl | rfl | rfl
  · rw [(zsm_0 x y n).1, (zsm_0 x y n).2.1, (zsm_0 x y n).2.2]
    refine ⟨by omega, fun j _ => ?_, zpr_bx (by omega) (by omega)⟩
    unfold zbx zby
    constructor <;> split <;> omega
  · rw [(zsm_1 x y n).1, (zsm_1 x y n).2.1, (zsm_1 x y n).2.2]
    refine ⟨by omega, fun j _ => ?_, zpr_bx (by omega) (by omega)⟩
    unfold zbx zby
    constructor <;> split <;> omega
  · rw [(zsm_2 x y n).1, (zsm_2 x y n).2.1, (zsm_2 x y n).2.2]
    refine ⟨by omega, fun j _ => ?_, zpr_dx (by omega)⟩
    unfold zdx zdy
    constructor <;> split <;> (try split) <;> omega
  · rw [(zsm_3 x y n).1, (zsm_3 x y n).2.1, (zsm_3 x y n).2.2]
    refine ⟨by omega, fun j _ => ?_, zpr_tg (by omega)⟩
    unfold ztgx ztgy
    constructor <;> split <;> omega
/-- the number of a new shape -/
theorem zqnv {g : Nat → Nat → Int} {v : Int} {M9 : zM} (hM : zLay C2.2.2.2) (rel : zqR m C2.2.1 g) (hm6 : m < 60) (hj : zqJ0 C2 N m) (e10 : ∀ Q : zO → zM → Prop, zFR (zK L) 10 0 (zcall 10 [.inr (.inr 3), .inr (.inr (855 + 4 * m)), .inl (m : Int)]) [] C2 Q = Q (.inl (some (.inl v))) M9) : v = (m : Int) := by
  obtain ⟨⟨j0, j1⟩, ⟨j2, j3⟩, jh, ⟨j4, j4b⟩, ⟨j5, j5b⟩, ⟨j6, j6b⟩, j7, j8⟩ := hj
  have hg : zgua C2.2.1 m := ⟨Or.inl j2, Or.inl j3⟩
  have ec := fun Q9 => c11 (L := L) (M := C2) (c := m) (num := m) (Q := Q9) hM (zqR_bk rel) hm6 hm6 (rel.2.2.2.2.2.2.2.2.1 m hm6) ⟨by omega, by omega, fun j hj => by
    obtain ⟨a, b, c, d⟩ := j7 j (by omega)
    rw [a, b]
    exact ⟨c.1, c.2, d.1, d.2⟩⟩
  have e0 := fun Q9 => c10_0 (L := L) (M := C2) (Q := Q9) (c := m) (num := m) hM (zqR_01 rel) hm6 hm6 hg j0 ec
  obtain ⟨u1, _⟩ := zFR_uq e0 e10
  exact Sum.inl.inj (Option.some.inj (Sum.inl.inj u1))
theorem zqJe_0 {k : Nat} (h : zqJe C N k) (h0 : N.2.1 1158 k = 0) : zqJ0 C N k := by
  obtain ⟨_, h⟩ := h
  have nz : ∀ w : Int, w ≠ 0 → zqJw C N k w → False := fun w hw h => hw (h.2.symm.trans h0)
  rcases h with h | h | h | h | h | h | h | h | h | h | h | h | h | h | h | h | h | h
  · exact h
  · exact (nz 1 (by omega) h.1).elim
  · exact (nz 2 (by omega) h.1.1).elim
  · exact (nz 3 (by omega) h.1.1).elim
  · exact (nz 4 (by omega) h.1.1).elim
  · exact (nz 5 (by omega) h.1.1).elim
  · exact (nz 6 (by omega) h.1.1).elim
  · exact (nz 7 (by omega) h.1.1).elim
  · exact (nz 8 (by omega) h.1.1).elim
  · exact (nz 9 (by omega) h.1).elim
  · exact (nz 10 (by omega) h.1).elim
  · exact (nz 11 (by omega) h.1).elim
  · exact (nz 12 (by omega) h.1).elim
  · exact (nz 13 (by omega) h.1).elim
  · exact (nz 14 (by omega) h.1).elim
  · exact (nz 15 (by omega) h.1).elim
  · exact (nz 16 (by omega) h.1).elim
  · exact (nz 17 (by omega) h.1).elim
end ZLOTSQ
/-! the lots, one after the other -/
section ZLOTS2Q
variable {L m : Nat} {M N B C C' N' C2 : zM} {Q : zO → zM → Prop} {cc : Nat → Int}
end ZLOTS2Q
end SM_D7_sampleq
section SM_D8_soundq
/-! whether all is sound: both tell the same -/
section ZSOUNDQ
variable {L m n : Nat} {M B : zM} {s t : Nat} {Q : zO → zM → Prop} {f g G F0 : Nat → Nat → Int} {o : Nat → Int} {cc : Nat → Int}
theorem zrng_x {nx : Nat → Int} {s : Int} : ∀ (k n K : Nat) (x : Int), 1 ≤ n → zrng nx s k n x ≠ 0 → zrne nx K x → ∃ K', K' ≤ K ∧ zrne nx K' s
  | 0, n, K, x, hn, h, _ => absurd rfl h
  | k + 1, n, K, x, hn, h, e => by
    rw [zrng_s] at h
    by_cases c1 : x = -1
    · rw [if_pos c1] at h
      exact absurd rfl h
    · rw [if_neg c1] at h
      by_cases c2 : x = s
      · rw [← c2]
        exact ⟨K, Nat.le_refl K, e⟩
      · rw [if_neg c2] at h
        cases K with
        | zero => exact False.elim e
        | succ K =>
          rcases e with e | e
          · exact absurd e c1
          · obtain ⟨K', k1, k2⟩ := zrng_x k (n + 1) K _ (by omega) h e
            exact ⟨K', by omega, k2⟩
theorem zrng_0 {nx : Nat → Int} {s : Nat} : ∀ K, zrne nx K (nx s) → zrng nx (s : Int) 60 1 (nx s) = 0 := by
  intro K
  induction K using Nat.strongRecOn with
  | ind K ih =>
    intro h
    by_cases c : zrng nx (s : Int) 60 1 (nx s) = 0
    · exact c
    · obtain ⟨K', k1, k2⟩ := zrng_x 60 1 K (nx s) (by omega) c h
      cases K' with
      | zero => exact False.elim k2
      | succ K' =>
        rcases k2 with k2 | k2
        · omega
        · rw [Int.toNat_natCast] at k2
          exact ih K' (by omega) k2
theorem zchd_e {nx : Nat → Int} (h : ∀ i : Nat, i < 60 → nx i = -1 ∨ ((i : Int) < nx i ∧ nx i < 60)) : ∀ (k : Nat) (x : Int), (x = -1 ∨ (0 ≤ x ∧ x < 60 ∧ 60 - (k : Int) ≤ x)) → zchd nx k x = -1
  | 0, x, hx => by
    show x = -1
    omega
  | k + 1, x, hx => by
    show (if x = -1 then -1 else zchd nx k (nx x.toNat)) = -1
    by_cases c : x = -1
    · rw [if_pos c]
    · rw [if_neg c]
      refine zchd_e h k _ ?_
      have := h x.toNat (by omega)
      omega
theorem zqWK (h : zqR n f g) : zWK f := by
  refine ⟨zqR_bk h, zqR_ld h, zqR_gr h, fun s hs t => ?_⟩
  obtain ⟨se, so⟩ := zqR_f h hs t
  have ts : g 1166 s = 1 := by rw [← zqR_t h hs]; exact t
  obtain ⟨k1, k2, k3, k4, _⟩ := h.2.2.1.1 s hs ts
  have c14 := so.1
  have hn := h.1.1
  refine ⟨⟨zqE_sw se so, by rw [se.2.1]; omega, by rw [se.1, se.2.1]; exact so.2.1.2.1, fun p hp => zqE_pr se so hp, by omega, by omega, by omega⟩, ?_, ?_⟩
  · obtain ⟨l1, _, _⟩ := h.2.2.2.1.1 s hs ts
    obtain ⟨b1, b2, b3⟩ := h.2.2.2.1.2.1 s hs
    by_cases c : g 1172 s = -1
    · exact Or.inl (l1.trans c)
    · refine Or.inr ?_
      have tl := (b3 (by omega)).2
      rw [l1]
      refine ⟨by rw [zqR_t h (by omega)]; exact tl, ?_⟩
      rw [zqrng (P := fun i => i < 60 ∧ g 1166 i = 1) (zqR_lv h) _ 60 1 _ (Or.inr ⟨by omega, by omega, tl⟩)]
      exact zrng_0 60 (h.2.2.2.1.2.2 s hs)
  · obtain ⟨g1, g2, g3⟩ := h.2.2.2.2.1 s hs
    rw [(g1 ts).1]
    refine zchd_e (fun i hi => ?_) 60 _ (by omega)
    obtain ⟨q1, q2, q3⟩ := h.2.2.2.2.1 i hi
    rcases zqR_r01 h i hi with e | e
    · rw [q2 e]
      omega
    · exact Or.inl (q1 e).2
end ZSOUNDQ
end SM_D8_soundq
