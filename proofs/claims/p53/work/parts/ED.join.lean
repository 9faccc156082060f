/-! changes that the law makes: a join -/
section ZPJOIN
variable {L m : Nat} {C C2 : zM} {s : Nat → zM}
theorem zpt_s (g : Nat → Int) (k : Nat) : zpt g (k + 1) = if g k = 0 then zpt g k else zpt g k ||| 2 ^ k := rfl
theorem zpor {a k : Nat} (h : a < 2 ^ k) : a ||| 2 ^ k = a + 2 ^ k := by
  rw [Nat.or_comm]
  have := Nat.two_pow_add_eq_or_of_lt h 1
  rw [Nat.mul_one] at this
  omega
/-- the set of the first ones and the others -/
theorem zpt_app {g : Nat → Int} {n : Nat} : ∀ k, zpt g (n + k) = zpt g n + 2 ^ n * zpt (fun p => g (n + p)) k
  | 0 => by
    show zpt g n = zpt g n + 2 ^ n * 0
    omega
  | k + 1 => by
    have ih := zpt_app (g := g) (n := n) k
    have l1 := zpt_lt g (n + k)
    have l2 := zpt_lt (fun p => g (n + p)) k
    rw [← Nat.add_assoc, zpt_s, zpt_s]
    by_cases c : g (n + k) = 0
    · rw [if_pos c, if_pos c]
      exact ih
    · rw [if_neg c, if_neg c, zpor l1, zpor l2, ih, Nat.mul_add, Nat.pow_add]
      omega
theorem zpt_cg {g g' : Nat → Int} : ∀ k, (∀ p, p < k → g' p = g p) → zpt g' k = zpt g k
  | 0, _ => rfl
  | k + 1, h => by rw [zpt_s, zpt_s, h k (by omega), zpt_cg k (fun p hp => h p (by omega))]
/-- the table of what is joined, read -/
theorem zhsb_nat (t s : Nat) : zhsb (t : Int) s = Nat.testBit t s := by
  unfold zhsb
  rw [Int.toNat_natCast, Nat.testBit_eq_decide_div_mod_eq]
theorem zjt_bit {w t1 t2 : Int} {n a : Nat} : ∀ k, a < k → zhsb (zjt w t1 t2 n k : Int) a = zlawb w (zhsb t1 (a % 2 ^ n)) (zhsb t2 (a / 2 ^ n))
  | 0, h => absurd h (Nat.not_lt_zero a)
  | k + 1, h => by
    have hl := zjt_lt w t1 t2 n k
    rw [zhsb_nat, zjt_s]
    by_cases e : a = k
    · subst e
      have hz : Nat.testBit (zjt w t1 t2 n a) a = false := Nat.testBit_lt_two_pow hl
      by_cases c : zlawb w (zhsb t1 (a % 2 ^ n)) (zhsb t2 (a / 2 ^ n)) = true
      · rw [if_pos c, Nat.testBit_or, hz, Nat.testBit_two_pow_self, c]
        rfl
      · rw [if_neg c, hz]
        cases h : zlawb w (zhsb t1 (a % 2 ^ n)) (zhsb t2 (a / 2 ^ n)) <;> simp_all
    · have ih := zjt_bit (w := w) (t1 := t1) (t2 := t2) (n := n) (a := a) k (by omega)
      rw [zhsb_nat] at ih
      by_cases c : zlawb w (zhsb t1 (k % 2 ^ n)) (zhsb t2 (k / 2 ^ n)) = true
      · rw [if_pos c, Nat.testBit_or, ih, Nat.testBit_two_pow_of_ne (fun h => e h.symm), Bool.or_false]
      · rw [if_neg c]
        exact ih
/-- a shape with the polygons of two, and a table of the law -/
def zpJn (F f : Nat → Nat → Int) (J a b : Nat) (w : Int) : Prop := F J 10 = f a 10 + f b 10 ∧ F J 9 = (zjt w (f a 9) (f b 9) (f a 10).toNat (2 ^ ((f a 10).toNat + (f b 10).toNat)) : Int) ∧ ∀ p : Nat, p < (f a 10).toNat + (f b 10).toNat → zN F J p = (if p < (f a 10).toNat then zN f a p else zN f b (p - (f a 10).toNat)) ∧ ∀ j : Nat, (j : Int) < zN F J p → zX F J p j = (if p < (f a 10).toNat then zX f a p j else zX f b (p - (f a 10).toNat) j) ∧ zY F J p j = (if p < (f a 10).toNat then zY f a p j else zY f b (p - (f a 10).toNat) j)
/-- .. it holds what the law tells -/
theorem zpJn_h {F f : Nat → Nat → Int} {J a b : Nat} {w x y : Int} (h : zpJn F f J a b w) (wa : zSw f a) (wb : zSw f b) : zhlb (F J 9) (F J 10).toNat (zN F J) (zX F J) (zY F J) x y = zlawb w (zhlb (f a 9) (f a 10).toNat (zN f a) (zX f a) (zY f a) x y) (zhlb (f b 9) (f b 10).toNat (zN f b) (zX f b) (zY f b) x y) := by
  obtain ⟨h1, h2, h3⟩ := h
  obtain ⟨⟨a0, a4⟩, _, a5⟩ := wa
  obtain ⟨⟨b0, b4⟩, _, b5⟩ := wb
  obtain ⟨c1, e1⟩ : ∃ c1 : Nat, f a 10 = (c1 : Int) := ⟨(f a 10).toNat, by omega⟩
  obtain ⟨c2, e2⟩ : ∃ c2 : Nat, f b 10 = (c2 : Int) := ⟨(f b 10).toNat, by omega⟩
  rw [e1, e2, Int.toNat_natCast, Int.toNat_natCast] at h2 h3
  rw [e1] at a5
  rw [e2] at b5
  have ec : (F J 10).toNat = c1 + c2 := by omega
  unfold zhlb
  rw [ec, e1, e2, Int.toNat_natCast, Int.toNat_natCast, h2]
  have od : ∀ (X Y U V : Nat → Int) (n n' : Int), n' = n → 0 ≤ n → (∀ j : Nat, (j : Int) < n → U j = X j ∧ V j = Y j) → zodd n' U V x y n'.toNat = zodd n X Y x y n.toNat := fun X Y U V n n' e h0 hj => by
    subst e
    exact zodd_cg (fun k hk => (hj k hk).1) (fun k hk => (hj k hk).2) _ (by omega)
  have p1 : zpt (fun p => zodd (zN F J p) (zX F J p) (zY F J p) x y (zN F J p).toNat) c1 = zpt (fun p => zodd (zN f a p) (zX f a p) (zY f a p) x y (zN f a p).toNat) c1 := zpt_cg c1 (fun p hp => by
    obtain ⟨q1, q2⟩ := h3 p (by omega)
    rw [if_pos hp] at q1
    refine od _ _ _ _ _ _ q1 (a5 p (by omega)).1 (fun j hj => ?_)
    obtain ⟨r1, r2⟩ := q2 j (by omega)
    rw [if_pos hp] at r1 r2
    exact ⟨r1, r2⟩)
  have p2 : zpt (fun p => zodd (zN F J (c1 + p)) (zX F J (c1 + p)) (zY F J (c1 + p)) x y (zN F J (c1 + p)).toNat) c2 = zpt (fun p => zodd (zN f b p) (zX f b p) (zY f b p) x y (zN f b p).toNat) c2 := zpt_cg c2 (fun p hp => by
    obtain ⟨q1, q2⟩ := h3 (c1 + p) (by omega)
    rw [if_neg (by omega), show c1 + p - c1 = p by omega] at q1
    refine od _ _ _ _ _ _ q1 (b5 p (by omega)).1 (fun j hj => ?_)
    obtain ⟨r1, r2⟩ := q2 j (by omega)
    rw [if_neg (by omega), show c1 + p - c1 = p by omega] at r1 r2
    exact ⟨r1, r2⟩)
  have l1 := zpt_lt (fun p => zodd (zN f a p) (zX f a p) (zY f a p) x y (zN f a p).toNat) c1
  rw [zjt_bit _ (zpt_lt _ _), zpt_app, p1, p2]
  generalize zpt (fun p => zodd (zN f a p) (zX f a p) (zY f a p) x y (zN f a p).toNat) c1 = u at *
  generalize zpt (fun p => zodd (zN f b p) (zX f b p) (zY f b p) x y (zN f b p).toNat) c2 = v at *
  rw [Nat.add_mul_mod_self_left, Nat.mod_eq_of_lt l1, Nat.add_mul_div_left _ _ (Nat.two_pow_pos c1), Nat.div_eq_of_lt l1, Nat.zero_add]
theorem zeS_app {N : Nat → Int} {X Y : Nat → Nat → Int} {fb n : Nat} : ∀ k, zeS N X Y fb (n + k) = zeS N X Y fb n ++ zeS (fun p => N (n + p)) (fun p => X (n + p)) (fun p => Y (n + p)) (fb + n) k
  | 0 => (List.append_nil _).symm
  | k + 1 => by
    show zeS N X Y fb (n + k) ++ zeP (N (n + k)) (X (n + k)) (Y (n + k)) (2 ^ (fb + (n + k))) (N (n + k)).toNat = zeS N X Y fb n ++ (zeS (fun p => N (n + p)) (fun p => X (n + p)) (fun p => Y (n + p)) (fb + n) k ++ zeP (N (n + k)) (X (n + k)) (Y (n + k)) (2 ^ (fb + n + k)) (N (n + k)).toNat)
    rw [zeS_app k, List.append_assoc, Nat.add_assoc]
/-- .. its area is that of the law -/
theorem zpJn_a {F f : Nat → Nat → Int} {J a b : Nat} {w : Int} (h : zpJn F f J a b w) (wJ : zcWl F J) (he : zpEm F) (wa : zcWl f a) (wb : zcWl f b) (h1 : zhsb (f a 9) 0 = false) (h2 : zhsb (f b 9) 0 = false) : zcA F 0 J 1138 = zcA f w a b := by
  obtain ⟨g1, g2, g3⟩ := h
  have we := zpEm_w he
  have e0 : (F 1138 10).toNat = 0 := by rw [he.1]; rfl
  rw [zcA_U wJ we, zcA_U wa wb, he.2, e0]
  obtain ⟨_, ⟨⟨a0, a4⟩, _, a5⟩, sa⟩ := wa
  obtain ⟨_, ⟨⟨b0, b4⟩, _, b5⟩, sb⟩ := wb
  obtain ⟨_, _, sJ⟩ := wJ
  obtain ⟨c1, e1⟩ : ∃ c1 : Nat, f a 10 = (c1 : Int) := ⟨(f a 10).toNat, by omega⟩
  obtain ⟨c2, e2⟩ : ∃ c2 : Nat, f b 10 = (c2 : Int) := ⟨(f b 10).toNat, by omega⟩
  rw [e1, e2, Int.toNat_natCast, Int.toNat_natCast] at g2 g3
  rw [e1] at a5 sa
  rw [e2] at b5 sb
  rw [Int.toNat_natCast] at sa sb
  have ec : (F J 10).toNat = c1 + c2 := by omega
  rw [ec] at sJ
  rw [ec, e1, e2, Int.toNat_natCast, Int.toNat_natCast]
  have el : zL2 (zN F J) (zX F J) (zY F J) (zN F 1138) (zX F 1138) (zY F 1138) (c1 + c2) 0 = zL2 (zN f a) (zX f a) (zY f a) (zN f b) (zX f b) (zY f b) c1 c2 := by
    unfold zL2
    show zeS (zN F J) (zX F J) (zY F J) 0 (c1 + c2) ++ [] = _
    rw [List.append_nil, zeS_app, Nat.zero_add]
    congr 1
    · refine zeS_cg c1 (fun p hp => ?_)
      obtain ⟨q1, q2⟩ := g3 p (by omega)
      rw [if_pos hp] at q1
      refine ⟨q1, (a5 p (by omega)).1, fun j hj => ?_⟩
      obtain ⟨r1, r2⟩ := q2 j (by omega)
      rw [if_pos hp] at r1 r2
      exact ⟨r1, r2⟩
    · refine zeS_cg c2 (fun p hp => ?_)
      obtain ⟨q1, q2⟩ := g3 (c1 + p) (by omega)
      rw [if_neg (by omega), show c1 + p - c1 = p by omega] at q1
      refine ⟨q1, (b5 p (by omega)).1, fun j hj => ?_⟩
      obtain ⟨r1, r2⟩ := q2 j (by omega)
      rw [if_neg (by omega), show c1 + p - c1 = p by omega] at r1 r2
      exact ⟨r1, r2⟩
  have p0 : zSP (zN F 1138) (zX F 1138) (zY F 1138) 0 := fun p h => absurd h (Nat.not_lt_zero p)
  rw [← el]
  have z0 : zgl 0 (F J 9) 0 (c1 + c2) 0 = false := by
    rw [zgl_1]
    unfold zg1
    rw [Nat.zero_mod, g2, zjt_bit _ (Nat.two_pow_pos _), Nat.zero_mod, Nat.zero_div, h1, h2]
    unfold zlawb
    split
    · rfl
    · split
      · rfl
      · split <;> rfl
  refine zU_map (N := c1 + c2) (r := fun x => x) (p := fun x => x) z0 rfl (fun x hx => ?_) (fun y => zL2_x sJ p0 _) (fun y => zL2_x sJ p0 _) (fun d hd => ⟨?_, fun _ => rfl⟩) (fun y => ?_) 3600
  · rw [zgl_1]
    unfold zg1 zgl
    rw [Nat.mod_eq_of_lt hx, g2, zjt_bit _ hx]
  · exact zL2_n sJ p0 d hd
  · unfold zL2
    rw [zPr_app, List.map_append, List.filter_append]
    have i1 : ∀ l : List (Int × Nat), l.map (fun q => (q.1, q.2)) = l := fun l => by
      rw [show (fun q : Int × Nat => (q.1, q.2)) = id from rfl, List.map_id]
    show ((((zPr (zeS (zN F J) (zX F J) (zY F J) 0 (c1 + c2)) y).map (fun q => (q.1, q.2))).filter _) ++ (((zPr (zeS (zN F 1138) (zX F 1138) (zY F 1138) (c1 + c2) 0) y).map (fun q => (q.1, q.2))).filter _)).Perm _
    rw [i1, i1, zPr_n0, zPr_n0]
/-- what is made by a join, in the class -/
theorem zpjnw {f : Nat → Nat → Int} {i j : Nat} {w : Int} (hi : i ≠ m) (hj : j ≠ m) (hw8 : f (855 + 4 * m) 8 = w) (wi : zSw f (14 + 14 * i)) (wj : zSw f (14 + 14 * j)) (h4 : f (14 + 14 * i) 10 + f (14 + 14 * j) 10 ≤ 4) : zpJn (zjnw f m m i j) f (14 + 14 * m) (14 + 14 * i) (14 + 14 * j) w := by
  have so : ∀ b k, (b ≠ 14 + 14 * m) → zsb f (14 + 14 * m) (f (855 + 4 * m) 1) (f (14 + 14 * i) 2) b k = f b k := fun b k hb => zsb_o (Or.inl hb)
  obtain ⟨⟨a0, a4⟩, _, a5⟩ := wi
  obtain ⟨⟨b0, b4⟩, _, b5⟩ := wj
  have fa : ∀ k, zsb f (14 + 14 * m) (f (855 + 4 * m) 1) (f (14 + 14 * i) 2) (14 + 14 * i) k = f (14 + 14 * i) k := fun k => so _ _ (by omega)
  have fb : ∀ k, zsb f (14 + 14 * m) (f (855 + 4 * m) 1) (f (14 + 14 * i) 2) (14 + 14 * j) k = f (14 + 14 * j) k := fun k => so _ _ (by omega)
  have za : ∀ p, p < (f (14 + 14 * i) 10).toNat + (f (14 + 14 * j) 10).toNat → zjsr (14 + 14 * i) (14 + 14 * j) (f (14 + 14 * i) 10).toNat p = (if p < (f (14 + 14 * i) 10).toNat then 14 + 14 * i + 2 + 3 * p else 14 + 14 * j + 2 + 3 * (p - (f (14 + 14 * i) 10).toNat)) := fun p _ => rfl
  obtain ⟨S, hS⟩ : ∃ S, zsb f (14 + 14 * m) (f (855 + 4 * m) 1) (f (14 + 14 * i) 2) = S := ⟨_, rfl⟩
  have jo : ∀ b k, (b ≠ 14 + 14 * m ∨ k < 1 ∨ 4 < k) → zjnw f m m i j b k = zjnf f m m i j b k := fun b k h => by
    unfold zjnw zlay
    rw [zu2_sj (by omega), zu2_sj (by omega), zu2_sj (by omega)]
  have e10 : zjnf f m m i j (14 + 14 * m) 10 = f (14 + 14 * i) 10 + f (14 + 14 * j) 10 := by
    unfold zjnf zjoi
    rw [zfnd_o (by omega), zu2_sj (by omega)]
    unfold zjmm
    rw [zu2_eq, fa, fb]
    omega
  have e9 : zjnf f m m i j (14 + 14 * m) 9 = (zjt w (f (14 + 14 * i) 9) (f (14 + 14 * j) 9) (f (14 + 14 * i) 10).toNat (2 ^ ((f (14 + 14 * i) 10).toNat + (f (14 + 14 * j) 10).toNat)) : Int) := by
    unfold zjnf zjoi
    rw [zfnd_o (by omega), zu2_eq, fa, fb, fa, fb, hw8]
  have ec : ∀ b k, 14 + 14 * m < b → zjnf f m m i j b k = zjm S (14 + 14 * m) (zjsr (14 + 14 * i) (14 + 14 * j) (f (14 + 14 * i) 10).toNat) ((f (14 + 14 * i) 10).toNat + (f (14 + 14 * j) 10).toNat) b k := fun b k hb => by
    unfold zjnf zjoi
    rw [zfnd_o (by omega), zu2_sj (by omega), fa, fb]
    unfold zjmm
    rw [zu2_sj (by omega), fa, hS]
  refine ⟨(jo _ _ (by omega)).trans e10, (jo _ _ (by omega)).trans e9, fun p hp => ?_⟩
  have nP : zN (zjnw f m m i j) (14 + 14 * m) p = (if p < (f (14 + 14 * i) 10).toNat then zN f (14 + 14 * i) p else zN f (14 + 14 * j) (p - (f (14 + 14 * i) 10).toNat)) := by
    unfold zN
    rw [jo _ _ (by omega), ec _ _ (by omega), zjm_N _ _ _ hp, za p hp]
    by_cases c : p < (f (14 + 14 * i) 10).toNat
    · have := (a5 p (by omega)).1
      unfold zN at this
      rw [if_pos c, if_pos c, ← hS, so _ _ (by omega)]
      omega
    · have := (b5 (p - (f (14 + 14 * i) 10).toNat) (by omega)).1
      unfold zN at this
      rw [if_neg c, if_neg c, ← hS, so _ _ (by omega)]
      omega
  refine ⟨nP, fun k hk => ?_⟩
  rw [nP] at hk
  by_cases c : p < (f (14 + 14 * i) 10).toNat
  · rw [if_pos c] at hk
    have hk2 : k < (S (zjsr (14 + 14 * i) (14 + 14 * j) (f (14 + 14 * i) 10).toNat p) 0).toNat := by
      rw [za p hp, if_pos c, ← hS, so _ _ (by omega)]
      unfold zN at hk
      omega
    unfold zX zY
    rw [if_pos c, if_pos c, jo _ _ (by omega), ec _ _ (by omega), zjm_X _ _ _ hp hk2, jo _ _ (by omega), ec _ _ (by omega), zjm_Y _ _ _ hp hk2, za p hp, if_pos c, ← hS, so _ _ (by omega), so _ _ (by omega)]
    exact ⟨rfl, rfl⟩
  · rw [if_neg c] at hk
    have hk2 : k < (S (zjsr (14 + 14 * i) (14 + 14 * j) (f (14 + 14 * i) 10).toNat p) 0).toNat := by
      rw [za p hp, if_neg c, ← hS, so _ _ (by omega)]
      unfold zN at hk
      omega
    unfold zX zY
    rw [if_neg c, if_neg c, jo _ _ (by omega), ec _ _ (by omega), zjm_X _ _ _ hp hk2, jo _ _ (by omega), ec _ _ (by omega), zjm_Y _ _ _ hp hk2, za p hp, if_neg c, ← hS, so _ _ (by omega), so _ _ (by omega)]
    exact ⟨rfl, rfl⟩
/-- a join -/
theorem pk_163 (hw : zpW L m C s) (hm6 : m < 60) {i j : Nat} (hi : i < 60) (ti : (s m).2.1 1166 i = 1) (hj : j < 60) (tj : (s m).2.1 1166 j = 1) {w : Int} (k3 : 0 ≤ w ∧ w ≤ 3) (h4 : (s m).2.1 1174 i + (s m).2.1 1174 j ≤ 4) : zpA L m C s 163 [.inr (.inr 2), .inl 2, .inl w, .inl (i : Int), .inl (j : Int)] (fun v C' s' => v = (m : Int) ∧ (C'.2.1 (855 + 4 * m) 11 = 1 ∧ C'.2.1 (855 + 4 * m) 1 = 2) ∧ (s' (m + 1)).2.1 1166 m = 1 ∧ (s' (m + 1)).2.1 1167 m = (s' (m + 1)).2.1 1167 i ∧ (s' (m + 1)).2.1 1166 i = 1 ∧ (s' (m + 1)).2.1 1166 j = 1 ∧ zcA C'.2.1 0 (14 + 14 * m) 1138 = zcA C'.2.1 w (14 + 14 * i) (14 + 14 * j) ∧ ∀ x y, zrhl (s' (m + 1)).2.1 m x y = zlawb w (zrhl (s' (m + 1)).2.1 i x y) (zrhl (s' (m + 1)).2.1 j x y)) := by
  have thi := zpth_i hw.2.2.1 hi ti
  have thj := zpth_i hw.2.2.1 hj tj
  obtain ⟨hp, s0, s1, s2, s3, s8⟩ := pm_163 (h := 2) (a := w) hw hm6 (by omega) thi thj k3
  have hc := hp.1.1
  have c1 := hp.1.2.1
  have h60 := hw.2.1.1
  generalize (zwI (zbgM C m 17 2 (i : Int)) (zu2 (zu2 (zbgM C m 17 2 (i : Int)).2.1 (855 + 4 * m) 3 (j : Int)) (855 + 4 * m) 8 w)) = C2 at *
  have r2 := zpc2_R hw hc
  have l2 := zpc2_L hw hc
  have t2 : C2.2.1 (14 + 14 * i) 0 = 1 := (zqR_t r2 hi).trans ti
  have t3 : C2.2.1 (14 + 14 * j) 0 = 1 := (zqR_t r2 hj).trans tj
  have im := (r2.1.2 i hi).2.2 ti
  have jm := (r2.1.2 j hj).2.2 tj
  have hg : zgua C2.2.1 m := ⟨Or.inr ⟨by omega, by omega, by rw [s2, Int.toNat_natCast]; exact t2⟩, Or.inr ⟨by omega, by omega, by rw [s3, Int.toNat_natCast]; exact t3⟩⟩
  obtain ⟨sei, soi⟩ := zqR_f r2 hi t2
  obtain ⟨sej, soj⟩ := zqR_f r2 hj t3
  have wi := zqE_sw sei soi
  have wj := zqE_sw sej soj
  have h4c : C2.2.1 (14 + 14 * i) 10 + C2.2.1 (14 + 14 * j) 10 ≤ 4 := by rw [sei.2.1, sej.2.1]; exact h4
  have e0 := fun Q => c10_17 (L := L) (M := C2) (Q := Q) (c := m) (num := m) l2 (zqR_01 r2) hm6 hm6 hg s0 (fun Q9 => (c42 (L := L) (M := C2) (Q := Q9) (c := m) (num := m) (i := i) (j := j) l2 (zqR_bk r2) hm6 hm6 (r2.2.2.2.2.2.2.2.2.1 m hm6) hi hj (by omega) (by omega) s2 s3 wi wj).trans (zyes h4c))
  obtain ⟨s', e1, w1, w2, w3, w4, _⟩ := zp_ok hp e0 (by omega)
  have ho : ∀ b k, (b < 14 + 14 * m ∨ 14 + 14 * m + 14 ≤ b) → zjnw C2.2.1 m m i j b k = C2.2.1 b k := fun b k hb => by
    unfold zjnw zlay
    rw [zu2_sj (by omega), zu2_sj (by omega), zu2_sj (by omega)]
    unfold zjnf
    rw [zjoi_o (by rw [zsb_o (by omega), zsb_o (by omega)]; have := wi.1; have := wj.1; omega) (by omega), zsb_o (by omega)]
  have h0 : zjnw C2.2.1 m m i j (14 + 14 * m) 0 = 1 := by
    unfold zjnw zlay
    rw [zu2_sj (by omega), zu2_sj (by omega), zu2_sj (by omega)]
    unfold zjnf
    rw [zjoi_o (by rw [zsb_o (by omega), zsb_o (by omega)]; have := wi.1; have := wj.1; omega) (by omega)]
    unfold zsb
    rw [zu2_sj (by omega), zu2_sj (by omega), zu2_sj (by omega), zu2_sj (by omega), zu2_sj (by omega), zu2_eq]
  have h1 : zjnw C2.2.1 m m i j (14 + 14 * m) 1 = C2.2.1 (14 + 14 * i) 1 := by
    unfold zjnw zlay
    rw [zu2_sj (by omega), zu2_sj (by omega), zu2_eq]
  have jn := zpjnw (m := m) (f := C2.2.1) (i := i) (j := j) (w := w) (by omega) (by omega) s8 wi wj h4c
  have emC : zpEm C2.2.1 := ⟨(hc.1 _ _ (by omega)).trans hw.2.2.2.2.2.1, (hc.1 _ _ (by omega)).trans hw.2.2.2.2.2.2⟩
  generalize eF : zjnw C2.2.1 m m i j = F at *
  have hoi : ∀ b k, (14 + 14 * i ≤ b ∧ b < 14 + 14 * i + 14) → F b k = C2.2.1 b k := fun b k hb => ho b k (by omega)
  have hoj : ∀ b k, (14 + 14 * j ≤ b ∧ b < 14 + 14 * j + 14) → F b k = C2.2.1 b k := fun b k hb => ho b k (by omega)
  have gm : (s' (m + 1)).2.1 1166 m = 1 := (zqR_t w3 hm6).symm.trans h0
  have gi : (s' (m + 1)).2.1 1166 i = 1 := (zqR_t w3 hi).symm.trans ((hoi _ _ (by omega)).trans t2)
  have gj : (s' (m + 1)).2.1 1166 j = 1 := (zqR_t w3 hj).symm.trans ((hoj _ _ (by omega)).trans t3)
  -- the two shapes seen in the new board
  have ei : ∀ b, (14 + 14 * i ≤ b ∧ b < 14 + 14 * i + 14) → F b = C2.2.1 b := fun b hb => funext fun k => hoi b k hb
  have ej : ∀ b, (14 + 14 * j ≤ b ∧ b < 14 + 14 * j + 14) → F b = C2.2.1 b := fun b hb => funext fun k => hoj b k hb
  have jF : zpJn F F (14 + 14 * m) (14 + 14 * i) (14 + 14 * j) w := by
    obtain ⟨q1, q2, q3⟩ := jn
    refine ⟨by rw [q1, ei _ (by omega), ej _ (by omega)], by rw [q2, ei _ (by omega), ej _ (by omega)], ?_⟩
    rw [ei (14 + 14 * i) (by omega), ej (14 + 14 * j) (by omega)]
    intro p hp
    obtain ⟨r1, r3⟩ := q3 p hp
    have i4 := wi.1
    have j4 := wj.1
    by_cases c : p < (C2.2.1 (14 + 14 * i) 10).toNat
    · rw [if_pos c] at r1
      have a1 : zN F (14 + 14 * i) p = zN C2.2.1 (14 + 14 * i) p := by unfold zN; rw [ei _ (by omega)]
      have a2 : zX F (14 + 14 * i) p = zX C2.2.1 (14 + 14 * i) p := by unfold zX; rw [ei _ (by omega)]
      have a3 : zY F (14 + 14 * i) p = zY C2.2.1 (14 + 14 * i) p := by unfold zY; rw [ei _ (by omega)]
      refine ⟨by rw [if_pos c, a1]; exact r1, fun k hk => ?_⟩
      have := r3 k hk
      rw [if_pos c, if_pos c] at this ⊢
      rw [a2, a3]
      exact this
    · rw [if_neg c] at r1
      have a1 : zN F (14 + 14 * j) (p - (C2.2.1 (14 + 14 * i) 10).toNat) = zN C2.2.1 (14 + 14 * j) (p - (C2.2.1 (14 + 14 * i) 10).toNat) := by unfold zN; rw [ej _ (by omega)]
      have a2 : zX F (14 + 14 * j) (p - (C2.2.1 (14 + 14 * i) 10).toNat) = zX C2.2.1 (14 + 14 * j) (p - (C2.2.1 (14 + 14 * i) 10).toNat) := by unfold zX; rw [ej _ (by omega)]
      have a3 : zY F (14 + 14 * j) (p - (C2.2.1 (14 + 14 * i) 10).toNat) = zY C2.2.1 (14 + 14 * j) (p - (C2.2.1 (14 + 14 * i) 10).toNat) := by unfold zY; rw [ej _ (by omega)]
      refine ⟨by rw [if_neg c, a1]; exact r1, fun k hk => ?_⟩
      have := r3 k hk
      rw [if_neg c, if_neg c] at this ⊢
      rw [a2, a3]
      exact this
  have emF : zpEm F := ⟨(ho _ _ (by omega)).trans emC.1, (ho _ _ (by omega)).trans emC.2⟩
  obtain ⟨wlm, _, _⟩ := zpWl w3 hm6 gm
  obtain ⟨wli, nli, _⟩ := zpWl w3 hi gi
  obtain ⟨wlj, nlj, _⟩ := zpWl w3 hj gj
  have ar := zpJn_a jF wlm emF wli wlj nli nlj
  have fp : ∀ b, (14 ≤ b ∧ b < 855 ∨ 1095 ≤ b) → zpf F m b = F b := fun b hb => funext fun k => zpf_o (by omega)
  have zA : ∀ (v : Int) (a b : Nat), (14 ≤ a ∧ a + 14 ≤ 855 ∨ 1095 ≤ a) → (14 ≤ b ∧ b + 14 ≤ 855 ∨ 1095 ≤ b) → (F a 10).toNat ≤ 4 → (F b 10).toNat ≤ 4 → zcA (zpf F m) v a b = zcA F v a b := fun v a b ha hb h1 h2 => by
    have sc : ∀ t fb c, (14 ≤ t ∧ t + 14 ≤ 855 ∨ 1095 ≤ t) → c ≤ 4 → zeS (zN (zpf F m) t) (zX (zpf F m) t) (zY (zpf F m) t) fb c = zeS (zN F t) (zX F t) (zY F t) fb c := fun t fb c ht hc => by
      induction c with
      | zero => rfl
      | succ c ih =>
        show zeS (zN (zpf F m) t) (zX (zpf F m) t) (zY (zpf F m) t) fb c ++ zeP (zN (zpf F m) t c) (zX (zpf F m) t c) (zY (zpf F m) t c) (2 ^ (fb + c)) (zN (zpf F m) t c).toNat = _
        have a1 : zN (zpf F m) t c = zN F t c := by unfold zN; rw [fp _ (by omega)]
        have a2 : zX (zpf F m) t c = zX F t c := by unfold zX; rw [fp _ (by omega)]
        have a3 : zY (zpf F m) t c = zY F t c := by unfold zY; rw [fp _ (by omega)]
        rw [ih (by omega), a1, a2, a3]
        rfl
    unfold zcA zE2
    rw [fp a (by omega), fp b (by omega), sc a _ _ ha h1, sc b _ _ hb h2]
  refine ⟨_, _, s', by omega, e1, w1, w2, c1, zpc2_K hw hc ⟨fun l hl => ho _ _ (by omega), fun k hk tk => ?_⟩, rfl, w4, gm, ?_, gi, gj, ?_, fun x y => ?_⟩
  · by_cases c : k = m
    · subst c; exact h0
    · rw [ho _ _ (by omega)]; exact tk
  · rw [← (w3.2.1 m hm6 gm).1, ← (w3.2.1 i hi gi).1, h1, hoi _ _ (by omega)]
  · have am := wlm.2.1.1
    have ai := wli.2.1.1
    have aj := wlj.2.1.1
    show zcA (zpf F m) 0 (14 + 14 * m) 1138 = zcA (zpf F m) w (14 + 14 * i) (14 + 14 * j)
    rw [zA _ _ _ (by omega) (by omega) (by omega) (by rw [emF.1]; decide), zA _ _ _ (by omega) (by omega) (by omega) (by omega)]
    exact ar
  · obtain ⟨em, om⟩ := zqR_f w3 hm6 h0
    obtain ⟨ei', oi'⟩ := zqR_f w3 hi ((hoi _ _ (by omega)).trans t2)
    obtain ⟨ej', oj'⟩ := zqR_f w3 hj ((hoj _ _ (by omega)).trans t3)
    rw [← zqhl em om, ← zqhl ei' oi', ← zqhl ej' oj']
    exact zpJn_h jF wli.2.1 wlj.2.1
end ZPJOIN
