/-! the journals; the boards made anew -/
section ZANEWQ
/-- one entry of both journals -/
def zqJe (M N : zM) (k : Nat) : Prop := (M.2.1 (855 + 4 * k) 1 = N.2.1 1159 k ∧ 0 ≤ N.2.1 1159 k ∧ N.2.1 1159 k ≤ 2) ∧ (zqJ0 M N k ∨ zqJ1 M N k 1 ∨ (zqJ1 M N k 2 ∧ (M.2.1 (855 + 4 * k) 6 = N.2.1 1161 (4 * k + 1) ∧ -60 ≤ N.2.1 1161 (4 * k + 1) ∧ N.2.1 1161 (4 * k + 1) ≤ 60) ∧ (M.2.1 (855 + 4 * k) 7 = N.2.1 1161 (4 * k + 2) ∧ -60 ≤ N.2.1 1161 (4 * k + 2) ∧ N.2.1 1161 (4 * k + 2) ≤ 60) ∧ (M.2.1 (855 + 4 * k) 9 = N.2.1 1161 (4 * k + 3) ∧ (N.2.1 1161 (4 * k + 3) = 0 ∨ N.2.1 1161 (4 * k + 3) = 1))) ∨ (zqJ1 M N k 3 ∧ (M.2.1 (855 + 4 * k) 8 = N.2.1 1161 (4 * k + 1) ∧ 1 ≤ N.2.1 1161 (4 * k + 1) ∧ N.2.1 1161 (4 * k + 1) ≤ 3)) ∨ (zqJ1 M N k 4 ∧ (M.2.1 (855 + 4 * k) 9 = N.2.1 1161 (4 * k + 1) ∧ (N.2.1 1161 (4 * k + 1) = 0 ∨ N.2.1 1161 (4 * k + 1) = 1))) ∨ (zqJ1 M N k 5 ∧ (M.2.1 (855 + 4 * k) 8 = N.2.1 1161 (4 * k + 1) ∧ 2 ≤ N.2.1 1161 (4 * k + 1) ∧ N.2.1 1161 (4 * k + 1) ≤ 4)) ∨ (zqJ1 M N k 6 ∧ (M.2.1 (855 + 4 * k) 5 = N.2.1 1161 (4 * k + 1) ∧ 1 ≤ N.2.1 1161 (4 * k + 1) ∧ N.2.1 1161 (4 * k + 1) ≤ 9)) ∨ (zqJ1 M N k 7 ∧ (M.2.1 (855 + 4 * k) 8 = N.2.1 1161 (4 * k + 1) ∧ 0 ≤ N.2.1 1161 (4 * k + 1) ∧ N.2.1 1161 (4 * k + 1) ≤ 3)) ∨ (zqJ1 M N k 8 ∧ (M.2.1 (855 + 4 * k) 4 = N.2.1 1161 (4 * k + 1) ∧ 0 ≤ N.2.1 1161 (4 * k + 1) ∧ N.2.1 1161 (4 * k + 1) ≤ 3)) ∨ (zqJw M N k 9 ∧ (M.2.1 (855 + 4 * k) 2 = -1) ∧ (M.2.1 (855 + 4 * k) 3 = -1) ∧ (M.2.1 (855 + 4 * k) 4 = N.2.1 1161 (4 * k) ∧ 0 ≤ N.2.1 1161 (4 * k) ∧ N.2.1 1161 (4 * k) ≤ 3) ∧ (M.2.1 (855 + 4 * k) 9 = N.2.1 1161 (4 * k + 1) ∧ (N.2.1 1161 (4 * k + 1) = 0 ∨ N.2.1 1161 (4 * k + 1) = 1))) ∨ (zqJw M N k 10 ∧ zqJs M N k ∧ (M.2.1 (855 + 4 * k) 3 = N.2.1 1161 (4 * k + 1) ∧ 0 ≤ N.2.1 1161 (4 * k + 1) ∧ N.2.1 1161 (4 * k + 1) < 60) ∧ (M.2.1 (855 + 4 * k) 8 = N.2.1 1161 (4 * k + 2))) ∨ zqJ1 M N k 11 ∨ (zqJw M N k 12 ∧ (M.2.1 (855 + 4 * k) 2 = -1) ∧ (M.2.1 (855 + 4 * k) 3 = -1) ∧ (M.2.2.1 (855 + 4 * k) 10 = N.2.2.1 1162 k)) ∨ zqJ1 M N k 13 ∨ zqJ1 M N k 14 ∨ (zqJw M N k 15 ∧ (M.2.1 (855 + 4 * k) 2 = -1) ∧ (M.2.1 (855 + 4 * k) 3 = -1) ∧ (M.2.1 (855 + 4 * k) 9 = N.2.1 1161 (4 * k) ∧ (N.2.1 1161 (4 * k) = 0 ∨ N.2.1 1161 (4 * k) = 1)) ∧ (M.2.1 (855 + 4 * k) 8 = N.2.1 1161 (4 * k + 1) ∧ 0 ≤ N.2.1 1161 (4 * k + 1) ∧ N.2.1 1161 (4 * k + 1) ≤ 60)) ∨ zqJ1 M N k 16 ∨ zqJ17 M N k)
variable {L k : Nat} {M N M' N' : zM}
theorem zqS_all (hM : zLay M.2.2.2) (hN : zLay N.2.2.2) (hk : k < 60) (h : zqR k M.2.1 N.2.1) (hj : zqJe M N k) : zqS L k M N := by
  obtain ⟨_, j⟩ := hj
  rcases j with j | j | ⟨j, a, b, c⟩ | ⟨j, a⟩ | ⟨j, a⟩ | ⟨j, a⟩ | ⟨j, a⟩ | ⟨j, a⟩ | ⟨j, a⟩ | ⟨j, a, b, c, d⟩ | ⟨j, a, b, c⟩ | j | ⟨j, a, b, c⟩ | j | j | ⟨j, a, b, c, d⟩ | j | j
  · exact zqS_0 hM hN hk h j
  · exact zqS_1 hM hN hk h j
  · exact zqS_2 hM hN hk h j a b c
  · exact zqS_3 hM hN hk h j a
  · exact zqS_4 hM hN hk h j a
  · exact zqS_5 hM hN hk h j a
  · exact zqS_6 hM hN hk h j a
  · exact zqS_7 hM hN hk h j a
  · exact zqS_8 hM hN hk h j a
  · exact zqS_9 hM hN hk h j a b c d
  · exact zqS_10 hM hN hk h j a b c
  · exact zqS_11 hM hN hk h j
  · exact zqS_12 hM hN hk h j a b c
  · exact zqS_13 hM hN hk h j
  · exact zqS_14 hM hN hk h j
  · exact zqS_15 hM hN hk h j a b c d
  · exact zqS_16 hM hN hk h j
  · exact zqS_17 hM hN hk h j
theorem zqJe_c (hk : k < 60) (hM : ∀ b, 855 ≤ b → b < 1095 → M'.2.1 b = M.2.1 b) (hL : M'.2.2.1 (855 + 4 * k) = M.2.2.1 (855 + 4 * k)) (hN : ∀ b, 1158 ≤ b → b < 1166 → N'.2.1 b = N.2.1 b) (hL2 : N'.2.2.1 1162 = N.2.2.1 1162) (h : zqJe M N k) : zqJe M' N' k := by
  unfold zqJe zqJ0 zqJ1 zqJ17 zqJw zqJs at *
  rw [hM (855 + 4 * k) (by omega) (by omega), hM (856 + 4 * k) (by omega) (by omega), hM (857 + 4 * k) (by omega) (by omega), hM (858 + 4 * k) (by omega) (by omega), hL, hN 1158 (by omega) (by omega), hN 1159 (by omega) (by omega), hN 1161 (by omega) (by omega), hN 1163 (by omega) (by omega), hN 1164 (by omega) (by omega), hN 1165 (by omega) (by omega), hL2]
  exact h
theorem zqseq {α : Type} {P : Nat → α → Prop} {S : Nat → α → α → Prop} {a : α} : ∀ m : Nat, P 0 a → (∀ i, i < m → ∀ x, P i x → ∃ y, S i x y ∧ P (i + 1) y) → ∃ s : Nat → α, s 0 = a ∧ (∀ i, i ≤ m → P i (s i)) ∧ ∀ i, i < m → S i (s i) (s (i + 1))
  | 0, h0, _ => ⟨fun _ => a, rfl, fun i hi => by
    have : i = 0 := by omega
    subst this; exact h0, fun i h => absurd h (Nat.not_lt_zero i)⟩
  | m + 1, h0, hs => by
    obtain ⟨s, s0, s1, s2⟩ := zqseq m h0 (fun i hi => hs i (by omega))
    obtain ⟨y, y1, y2⟩ := hs m (by omega) (s m) (s1 m (Nat.le_refl _))
    refine ⟨fun j => if j ≤ m then s j else y, by show (if 0 ≤ m then s 0 else y) = a; rw [if_pos (by omega)]; exact s0, fun i hi => ?_, fun i hi => ?_⟩
    · show P i (if i ≤ m then s i else y)
      by_cases c : i ≤ m
      · rw [if_pos c]; exact s1 i c
      · rw [if_neg c]
        have : i = m + 1 := by omega
        subst this; exact y2
    · show S i (if i ≤ m then s i else y) (if i + 1 ≤ m then s (i + 1) else y)
      rw [if_pos (by omega)]
      by_cases c : i + 1 ≤ m
      · rw [if_pos c]; exact s2 i (by omega)
      · rw [if_neg c]
        have : i = m := by omega
        subst this; exact y1
/-- both boards cleared -/
theorem zqR_0 {f g : Nat → Nat → Int} (hv : ∀ i, i < 60 → (0 ≤ g 1167 i ∧ g 1167 i ≤ 3) ∧ 0 ≤ g 1168 i ∧ g 1168 i ≤ 9) (h : zqJ f) : zqR 0 (zcla f) (zrcl g) := by
  have c0 : ∀ i, i < 60 → zcla f (14 + 14 * i) 0 = 0 := fun i hi => by
    unfold zcla zfil zclr
    rw [zu2_sj (by omega), if_neg (by omega), if_pos ⟨rfl, by omega, by omega, by omega⟩]
  have cj : ∀ i j, i < 60 → j ≠ 0 → zcla f (14 + 14 * i) j = f (14 + 14 * i) j := fun i j hi hj => by
    unfold zcla zfil zclr
    rw [zu2_sj (by omega), if_neg (by omega), if_neg (by omega), if_neg (by omega)]
  have c6 : ∀ l, l < 4 → zcla f 6 l = 0 := fun l hl => by
    unfold zcla zfil zclr
    rw [zu2_sj (by omega), if_neg (by omega), if_neg (by omega), if_pos ⟨rfl, hl⟩]
  have c7 : ∀ i, i < 60 → zcla f 7 i = -1 := fun i hi => by
    unfold zcla zfil
    rw [zu2_sj (by omega), if_pos ⟨rfl, hi⟩]
  have c8 : ∀ i, zcla f 8 i = f 8 i := fun i => by
    unfold zcla zfil zclr
    rw [zu2_sj (by omega), if_neg (by omega), if_neg (by omega), if_neg (by omega)]
  have c11 : zcla f 11 0 = 0 := by
    unfold zcla
    rw [zu2_eq]
  have g66 : ∀ i, i < 60 → zrcl g 1166 i = 0 := fun i hi => by
    unfold zrcl zrc2 zrc1
    rw [zu2_sj (by omega), if_neg (by omega), if_pos ⟨Or.inl rfl, hi⟩]
  have gm : ∀ d i, (d = 1180 ∨ d = 1172 ∨ d = 1173) → i < 60 → zrcl g d i = -1 := fun d i hd hi => by
    unfold zrcl zrc2 zrc1
    rw [zu2_sj (by omega), if_neg (by omega), if_neg (by omega), if_pos ⟨hd, hi⟩]
  have g81 : ∀ l, l < 4 → zrcl g 1181 l = 1 := fun l hl => by
    unfold zrcl zrc2
    rw [zu2_sj (by omega), if_pos ⟨rfl, hl⟩]
  have g33 : zrcl g 1153 33 = 0 := by
    unfold zrcl
    rw [zu2_eq]
  have gv : ∀ d i, (d = 1167 ∨ d = 1168) → zrcl g d i = g d i := fun d i hd => by
    unfold zrcl zrc2 zrc1
    rw [zu2_sj (by omega), if_neg (by omega), if_neg (by omega), if_neg (by omega)]
  generalize zcla f = F at *
  generalize zrcl g = G at *
  obtain ⟨J1, J2, J3, J4⟩ := h
  refine ⟨⟨by omega, fun i hi => ?_⟩, fun i hi t => ?_, ⟨fun i hi t => ?_, fun i j hi _ _ t => ?_⟩, ⟨fun i hi t => ?_, fun i hi => ?_, fun i hi => ?_⟩, fun i hi => ?_, ⟨fun l hl => ?_, fun i hi => by rw [gv 1167 i (by omega), gv 1168 i (by omega)]; exact hv i hi⟩, ⟨by omega, by omega, fun k hk => ?_⟩, fun i hi t => ?_, ⟨fun i hi => ?_, fun i hi => ?_, ⟨fun i hi => ?_, fun i hi => ?_⟩, fun i hi => ?_⟩⟩
  · rw [g66 i hi, c0 i hi]
    exact ⟨Or.inl rfl, rfl, fun h => absurd h (by omega)⟩
  · rw [g66 i hi] at t; omega
  · rw [g66 i hi] at t; omega
  · rw [g66 i hi] at t; omega
  · rw [g66 i hi] at t; omega
  · rw [gm 1172 i (by omega) hi]; omega
  · rw [gm 1172 i (by omega) hi]; exact Or.inl rfl
  · rw [g66 i hi, gm 1180 i (by omega) hi, c7 i hi]
    exact ⟨fun h => absurd h (by omega), fun _ => rfl, Or.inl rfl⟩
  · rw [g81 l hl, c6 l hl]
    exact ⟨Or.inr rfl, rfl⟩
  · omega
  · rw [g66 i hi] at t; omega
  · unfold zKy
    rw [cj i 3 hi (by omega), cj i 4 hi (by omega)]
    exact J1 i hi
  · unfold zld
    rw [cj i 6 hi (by omega)]
    exact J2 i hi
  · rw [cj i 8 hi (by omega)]
    exact J3.1 i hi
  · rw [c7 i hi]; omega
  · rw [c8]
    exact J4 i hi
/-- what the boards keep when they are made anew -/
def zqkc (f' f : Nat → Nat → Int) : Prop := ∀ b j, (b < 3 ∨ 854 ≤ b) → f' b j = f b j
def zqkr (g' g : Nat → Nat → Int) : Prop := (∀ b j, (b < 1153 ∨ (1154 ≤ b ∧ b < 1166) ∨ 1189 ≤ b) → g' b j = g b j) ∧ ∀ j, j ≠ 33 → j ≠ 36 → j ≠ 38 → g' 1153 j = g 1153 j
/-- both journals -/
def zqJn (M N : zM) (m : Nat) : Prop := m ≤ 60 ∧ (M.2.1 2 2 = (m : Int) ∧ N.2.1 1153 8 = (m : Int)) ∧ ∀ k, k < m → zqJe M N k ∧ M.2.1 (855 + 4 * k) 11 = N.2.1 1160 k ∧ (N.2.1 1160 k = 0 ∨ N.2.1 1160 k = 1)
theorem zqanew {m : Nat} (hM : zLay M.2.2.2) (hN : zLay N.2.2.2) (hv : ∀ i, i < 60 → (0 ≤ N.2.1 1167 i ∧ N.2.1 1167 i ≤ 3) ∧ 0 ≤ N.2.1 1168 i ∧ N.2.1 1168 i ≤ 9) (hj : zqJ M.2.1) (hJ : zqJn M N m) : ∃ F G : Nat → Nat → Int, (∀ Q : zO → zM → Prop, zFR (zK L) 166 0 (zcall 166 [.inr (.inr 2)]) [] M Q = Q (.inl none) (zwI M F)) ∧ (∀ Q : zO → zM → Prop, zFR (zK L) 191 0 (zcall 191 [.inr (.inr 1153)]) [] N Q = Q (.inl none) (zwI N G)) ∧ zqR m F G ∧ zqkc F M.2.1 ∧ zqkr G N.2.1 := by
  obtain ⟨h60, ⟨hm1, hm2⟩, hJ⟩ := hJ
  obtain ⟨s, s0, s1, s2⟩ := zqseq (α := (Nat → Nat → Int) × (Nat → Nat → Int) × Int × Int) (P := fun i x => zqR i x.1 x.2.1 ∧ zqkc x.1 M.2.1 ∧ zqkr x.2.1 N.2.1) (S := fun i x y => (N.2.1 1160 i = 0 → y.1 = x.1 ∧ y.2.1 = x.2.1) ∧ (N.2.1 1160 i ≠ 0 → (∀ Q : zO → zM → Prop, zFR (zK L) 10 0 (zcall 10 [.inr (.inr 3), .inr (.inr (855 + 4 * i)), .inl (i : Int)]) [] (zwI M x.1) Q = Q (.inl (some (.inl y.2.2.1))) (zwI M y.1)) ∧ (∀ Q : zO → zM → Prop, zFR (zK L) 192 0 (zcall 192 [.inr (.inr 1153), .inl (i : Int)]) [] (zwI N x.2.1) Q = Q (.inl (some (.inl y.2.2.2))) (zwI N y.2.1)))) (a := (zcla M.2.1, zrcl N.2.1, 0, 0)) m ⟨zqR_0 hv hj, fun b j hb => by
      show zcla M.2.1 b j = _
      unfold zcla zfil zclr
      rw [zu2_sj (by omega), if_neg (by omega), if_neg (by omega), if_neg (by omega)], fun b j hb => by
      show zrcl N.2.1 b j = _
      unfold zrcl zrc2 zrc1
      rw [zu2_sj (by omega), if_neg (by omega), if_neg (by omega), if_neg (by omega)], fun j j1 j2 j3 => by
      show zrcl N.2.1 1153 j = _
      unfold zrcl zrc2 zrc1
      rw [zu2_sj (by omega), if_neg (by omega), if_neg (by omega), if_neg (by omega)]⟩ (fun i hi x hx => by
    obtain ⟨x1, x2, x3⟩ := hx
    by_cases c : N.2.1 1160 i = 0
    · exact ⟨x, ⟨fun _ => ⟨rfl, rfl⟩, fun h => absurd c h⟩, zqR_n (by omega) x1, x2, x3⟩
    · obtain ⟨f', g', v, b, e1, e2, k1, k2, k3, r⟩ := zqS_all (L := L) (M := zwI M x.1) (N := zwI N x.2.1) hM hN (show i < 60 by omega) x1 (zqJe_c (by omega) (fun b b1 b2 => funext fun j => x2 b j (by omega)) rfl (fun b b1 b2 => funext fun j => x3.1 b j (by omega)) rfl (hJ i hi).1)
      refine ⟨(f', g', v, b), ⟨fun h => absurd h c, fun _ => ⟨e1, e2⟩⟩, ?_, fun b j hb => (k1 b j hb).trans (x2 b j hb), fun b j hb => (k2 b j hb).trans (x3.1 b j hb), fun j j1 j2 j3 => (k3 j j1 j2 j3).trans (x3.2 j j1 j2 j3)⟩
      rcases r with ⟨_, _, r⟩ | ⟨_, _, _, r⟩
      · exact zqR_n (by omega) r
      · exact r)
  have st0 : (s 0).1 = zcla M.2.1 ∧ (s 0).2.1 = zrcl N.2.1 := by rw [s0]; exact ⟨rfl, rfl⟩
  have k11 : ∀ i, i < m → (s i).1 (855 + 4 * i) 11 = N.2.1 1160 i := fun i hi => by
    rw [(s1 i (by omega)).2.1 _ _ (by omega)]
    exact (hJ i hi).2.1
  have k60 : ∀ i, i < m → (s i).2.1 1160 i = N.2.1 1160 i := fun i hi => (s1 i (by omega)).2.2.1 _ _ (by omega)
  refine ⟨(s m).1, (s m).2.1, fun Q => c166 (st := fun i => (s i).1) (v := fun i => (s (i + 1)).2.2.1) hM h60 st0.1 (fun i hi => ((s1 i hi).2.1 _ _ (by omega)).trans hm1) (fun i hi h => ((s2 i hi).1 (by rw [← k11 i hi]; exact h)).1) (fun i hi h => ((s2 i hi).2 (by rw [← k11 i hi]; exact h)).1), fun Q => c191 (st := fun i => (s i).2.1) (v := fun i => (s (i + 1)).2.2.2) hN h60 st0.2 (fun i hi => ((s1 i hi).2.2.2 _ (by omega) (by omega) (by omega)).trans hm2) (fun i hi h => ((s2 i hi).1 (by rw [← k60 i hi]; exact h)).2) (fun i hi h => ((s2 i hi).2 (by rw [← k60 i hi]; exact h)).2), (s1 m (Nat.le_refl _)).1, (s1 m (Nat.le_refl _)).2.1, (s1 m (Nat.le_refl _)).2.2⟩
end ZANEWQ
