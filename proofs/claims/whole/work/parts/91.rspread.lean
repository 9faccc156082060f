/-! the reference: spread out -/
section ZRSPREAD
variable {L : Nat} {M : zM} {s : Nat} {Q : zO → zM → Prop}
theorem zfo_cong {op : Int → Int → Int} {g g' : Nat → Int} {b b' : Int} (hb : b = b') : ∀ k : Nat, (∀ i, i < k → g i = g' i) → zfo op g b k = zfo op g' b' k
  | 0, _ => hb
  | k + 1, h => by
    rw [zfo_s, zfo_s, zfo_cong hb k (fun i hi => h i (by omega)), h k (by omega)]
theorem zf2_cong {op : Int → Int → Int} {n n' : Nat → Int} {X X' : Nat → Nat → Int} {b : Int} : ∀ c : Nat, (∀ p, p < c → n p = n' p) → (∀ p, p < c → ∀ k : Nat, (k : Int) < n p → X p k = X' p k) → zf2 op n X b c = zf2 op n' X' b c
  | 0, _, _ => rfl
  | c + 1, hn, hx => by
    rw [zf2_s, zf2_s, ← hn c (by omega)]
    exact zfo_cong (zf2_cong c (fun p hp => hn p (by omega)) (fun p hp => hx p (by omega))) _ (fun i hi => hx c (by omega) i (by omega))
theorem zfo_mn {g : Nat → Int} {b : Int} : ∀ k : Nat, zfo zmn g b k ≤ b ∧ (∀ i, i < k → zfo zmn g b k ≤ g i) ∧ (zfo zmn g b k = b ∨ ∃ i, i < k ∧ zfo zmn g b k = g i)
  | 0 => ⟨Int.le_refl _, fun i h => absurd h (Nat.not_lt_zero i), Or.inl rfl⟩
  | k + 1 => by
    obtain ⟨h1, h2, h3⟩ := zfo_mn (g := g) (b := b) k
    rw [zfo_s]
    generalize zfo zmn g b k = v at *
    have e : (zmn v (g k) = v ∧ v ≤ g k) ∨ (zmn v (g k) = g k ∧ g k ≤ v) := by unfold zmn; split <;> omega
    rcases e with ⟨e, e2⟩ | ⟨e, e2⟩ <;> rw [e]
    · refine ⟨h1, fun i hi => ?_, ?_⟩
      · by_cases ei : i = k
        · subst ei; exact e2
        · exact h2 i (by omega)
      · rcases h3 with h3 | ⟨i, hi, h3⟩
        · exact Or.inl h3
        · exact Or.inr ⟨i, by omega, h3⟩
    · refine ⟨by omega, fun i hi => ?_, Or.inr ⟨k, by omega, rfl⟩⟩
      by_cases ei : i = k
      · subst ei; exact Int.le_refl _
      · have := h2 i (by omega); omega
theorem zfo_mx {g : Nat → Int} {b : Int} : ∀ k : Nat, b ≤ zfo zmx g b k ∧ (∀ i, i < k → g i ≤ zfo zmx g b k) ∧ (zfo zmx g b k = b ∨ ∃ i, i < k ∧ zfo zmx g b k = g i)
  | 0 => ⟨Int.le_refl _, fun i h => absurd h (Nat.not_lt_zero i), Or.inl rfl⟩
  | k + 1 => by
    obtain ⟨h1, h2, h3⟩ := zfo_mx (g := g) (b := b) k
    rw [zfo_s]
    generalize zfo zmx g b k = v at *
    have e : (zmx v (g k) = v ∧ g k ≤ v) ∨ (zmx v (g k) = g k ∧ v ≤ g k) := by unfold zmx; split <;> omega
    rcases e with ⟨e, e2⟩ | ⟨e, e2⟩ <;> rw [e]
    · refine ⟨h1, fun i hi => ?_, ?_⟩
      · by_cases ei : i = k
        · subst ei; exact e2
        · exact h2 i (by omega)
      · rcases h3 with h3 | ⟨i, hi, h3⟩
        · exact Or.inl h3
        · exact Or.inr ⟨i, by omega, h3⟩
    · refine ⟨by omega, fun i hi => ?_, Or.inr ⟨k, by omega, rfl⟩⟩
      by_cases ei : i = k
      · subst ei; exact Int.le_refl _
      · have := h2 i (by omega); omega
/-- the least of corners -/
theorem zf2_mn {n : Nat → Int} {X : Nat → Nat → Int} {b : Int} : ∀ c : Nat, zf2 zmn n X b c ≤ b ∧ (∀ p, p < c → ∀ k : Nat, (k : Int) < n p → zf2 zmn n X b c ≤ X p k) ∧ (zf2 zmn n X b c = b ∨ ∃ p k : Nat, p < c ∧ (k : Int) < n p ∧ zf2 zmn n X b c = X p k)
  | 0 => ⟨Int.le_refl _, fun p h => absurd h (Nat.not_lt_zero p), Or.inl rfl⟩
  | c + 1 => by
    obtain ⟨h1, h2, h3⟩ := zf2_mn (n := n) (X := X) (b := b) c
    rw [zf2_s]
    obtain ⟨g1, g2, g3⟩ := zfo_mn (g := X c) (b := zf2 zmn n X b c) (n c).toNat
    generalize zfo zmn (X c) (zf2 zmn n X b c) (n c).toNat = v at *
    refine ⟨by omega, fun p hp k hk => ?_, ?_⟩
    · by_cases ep : p = c
      · subst ep; exact g2 k (by omega)
      · have := h2 p (by omega) k hk; omega
    · rcases g3 with g3 | ⟨i, hi, g3⟩
      · rcases h3 with h3 | ⟨p, k, hp, hk, h3⟩
        · exact Or.inl (by omega)
        · exact Or.inr ⟨p, k, by omega, hk, by omega⟩
      · exact Or.inr ⟨c, i, by omega, by omega, g3⟩
/-- the greatest of corners -/
theorem zf2_mx {n : Nat → Int} {X : Nat → Nat → Int} {b : Int} : ∀ c : Nat, b ≤ zf2 zmx n X b c ∧ (∀ p, p < c → ∀ k : Nat, (k : Int) < n p → X p k ≤ zf2 zmx n X b c) ∧ (zf2 zmx n X b c = b ∨ ∃ p k : Nat, p < c ∧ (k : Int) < n p ∧ zf2 zmx n X b c = X p k)
  | 0 => ⟨Int.le_refl _, fun p h => absurd h (Nat.not_lt_zero p), Or.inl rfl⟩
  | c + 1 => by
    obtain ⟨h1, h2, h3⟩ := zf2_mx (n := n) (X := X) (b := b) c
    rw [zf2_s]
    obtain ⟨g1, g2, g3⟩ := zfo_mx (g := X c) (b := zf2 zmx n X b c) (n c).toNat
    generalize zfo zmx (X c) (zf2 zmx n X b c) (n c).toNat = v at *
    refine ⟨by omega, fun p hp k hk => ?_, ?_⟩
    · by_cases ep : p = c
      · subst ep; exact g2 k (by omega)
      · have := h2 p (by omega) k hk; omega
    · rcases g3 with g3 | ⟨i, hi, g3⟩
      · rcases h3 with h3 | ⟨p, k, hp, hk, h3⟩
        · exact Or.inl (by omega)
        · exact Or.inr ⟨p, k, by omega, hk, by omega⟩
      · exact Or.inr ⟨c, i, by omega, by omega, g3⟩
theorem zf2_shn {n : Nat → Int} {X X' : Nat → Nat → Int} {b d : Int} {c : Nat} (h : zf2 zmn n X b c ≠ b) (hd : zf2 zmn n X b c + d ≤ b) (hx : ∀ p, p < c → ∀ k : Nat, (k : Int) < n p → X' p k = X p k + d) : zf2 zmn n X' b c = zf2 zmn n X b c + d := by
  obtain ⟨h1, h2, h3⟩ := zf2_mn (n := n) (X := X) (b := b) c
  obtain ⟨g1, g2, g3⟩ := zf2_mn (n := n) (X := X') (b := b) c
  rcases h3 with h3 | ⟨p, k, hp, hk, h3⟩
  · exact absurd h3 h
  · have a1 := g2 p hp k hk
    rw [hx p hp k hk] at a1
    rcases g3 with g3 | ⟨p2, k2, hp2, hk2, g3⟩
    · omega
    · have a2 := h2 p2 hp2 k2 hk2
      rw [hx p2 hp2 k2 hk2] at g3
      omega
theorem zf2_shx {n : Nat → Int} {X X' : Nat → Nat → Int} {b d : Int} {c : Nat} (h : zf2 zmx n X b c ≠ b) (hd : b ≤ zf2 zmx n X b c + d) (hx : ∀ p, p < c → ∀ k : Nat, (k : Int) < n p → X' p k = X p k + d) : zf2 zmx n X' b c = zf2 zmx n X b c + d := by
  obtain ⟨h1, h2, h3⟩ := zf2_mx (n := n) (X := X) (b := b) c
  obtain ⟨g1, g2, g3⟩ := zf2_mx (n := n) (X := X') (b := b) c
  rcases h3 with h3 | ⟨p, k, hp, hk, h3⟩
  · exact absurd h3 h
  · have a1 := g2 p hp k hk
    rw [hx p hp k hk] at a1
    rcases g3 with g3 | ⟨p2, k2, hp2, hk2, g3⟩
    · omega
    · have a2 := h2 p2 hp2 k2 hk2
      rw [hx p2 hp2 k2 hk2] at g3
      omega
theorem zrmp_x {f : Nat → Nat → Int} {s c p k : Nat} {gx gy : Int → Int → Int} (hp : p < c) (hp4 : p < 4) (hk : (k : Int) < zrN f s p) (hk8 : k < 8) : zrX (zrmp f s c 0 gx gy) s p k = gx (zrX f s p k) (zrY f s p k) := by
  unfold zrX zrmp
  have e1 : (32 * s + 8 * p + k - 32 * s) / 8 = p := by omega
  have e2 : (32 * s + 8 * p + k - 32 * s) % 8 = k := by omega
  rw [e1, e2, if_pos ⟨Or.inl rfl, by omega, Or.inl hp, hk⟩, if_pos rfl]
  rfl
theorem zrmp_y {f : Nat → Nat → Int} {s c p k : Nat} {gx gy : Int → Int → Int} (hp : p < c) (hp4 : p < 4) (hk : (k : Int) < zrN f s p) (hk8 : k < 8) : zrY (zrmp f s c 0 gx gy) s p k = gy (zrX f s p k) (zrY f s p k) := by
  unfold zrY zrmp
  have e1 : (32 * s + 8 * p + k - 32 * s) / 8 = p := by omega
  have e2 : (32 * s + 8 * p + k - 32 * s) % 8 = k := by omega
  rw [e1, e2, if_pos ⟨Or.inr rfl, by omega, Or.inl hp, hk⟩, if_neg (by omega)]
  rfl
theorem zrmp_n {f : Nat → Nat → Int} {s c s' : Nat} {gx gy : Int → Int → Int} : zrN (zrmp f s c 0 gx gy) s' = zrN f s' := funext fun p => zrmp_o (by omega)
/-- a frame that lies on the board -/
def zrFm (f : Nat → Nat → Int) (s : Nat) : Prop := (0 ≤ zrsd f s 0 ∧ zrsd f s 0 ≤ zrsd f s 2 ∧ zrsd f s 2 ≤ 60) ∧ 0 ≤ zrsd f s 1 ∧ zrsd f s 1 ≤ zrsd f s 3 ∧ zrsd f s 3 ≤ 60
theorem zrsd_0 (f : Nat → Nat → Int) (s : Nat) : zrsd f s 0 = zf2 zmn (zrN f s) (zrX f s) 100 (f 1174 s).toNat := rfl
theorem zrsd_1 (f : Nat → Nat → Int) (s : Nat) : zrsd f s 1 = zf2 zmn (zrN f s) (zrY f s) 100 (f 1174 s).toNat := rfl
theorem zrsd_2 (f : Nat → Nat → Int) (s : Nat) : zrsd f s 2 = zf2 zmx (zrN f s) (zrX f s) (-1) (f 1174 s).toNat := rfl
theorem zrsd_3 (f : Nat → Nat → Int) (s : Nat) : zrsd f s 3 = zf2 zmx (zrN f s) (zrY f s) (-1) (f 1174 s).toNat := rfl
/-- the shape shifted -/
def zrsh (f : Nat → Nat → Int) (s : Nat) (dx dy : Int) : Nat → Nat → Int := zrmp f s (f 1174 s).toNat 0 (fun x _ => x + dx) (fun _ y => y + dy)
theorem zrsh_o {f : Nat → Nat → Int} {s b j : Nat} {dx dy : Int} (h : b ≠ 1177 ∧ b ≠ 1178) : zrsh f s dx dy b j = f b j := zrmp_o h
theorem zrsh_p {f : Nat → Nat → Int} {s b j : Nat} {dx dy : Int} (h : ¬ (32 * s ≤ j ∧ j < 32 * s + 32)) : zrsh f s dx dy b j = f b j := zrmp_p (fun h2 => h h2.1)
theorem zrsh_d {f : Nat → Nat → Int} {s : Nat} {dx dy : Int} (hw : zrSw f s) (hf : zrFm f s) (hx : -100 ≤ dx ∧ dx ≤ 100) (hx0 : 0 ≤ zrsd f s 0 + dx ∧ zrsd f s 2 + dx ≤ 60) (hy0 : 0 ≤ zrsd f s 1 + dy ∧ zrsd f s 3 + dy ≤ 60) : zrsd (zrsh f s dx dy) s 0 = zrsd f s 0 + dx ∧ zrsd (zrsh f s dx dy) s 1 = zrsd f s 1 + dy ∧ zrsd (zrsh f s dx dy) s 2 = zrsd f s 2 + dx ∧ zrsd (zrsh f s dx dy) s 3 = zrsd f s 3 + dy := by
  obtain ⟨w1, w2, w3⟩ := hw
  obtain ⟨⟨f1, f2, f3⟩, f4, f5, f6⟩ := hf
  have eN : zrN (zrsh f s dx dy) s = zrN f s := zrmp_n
  have e4 : zrsh f s dx dy 1174 s = f 1174 s := zrsh_o (by omega)
  have eX : ∀ p, p < (f 1174 s).toNat → ∀ k : Nat, (k : Int) < zrN f s p → zrX (zrsh f s dx dy) s p k = zrX f s p k + dx := fun p hp k hk => zrmp_x hp (by omega) hk (by have := (w3 p (by omega)).2.1; omega)
  have eY : ∀ p, p < (f 1174 s).toNat → ∀ k : Nat, (k : Int) < zrN f s p → zrY (zrsh f s dx dy) s p k = zrY f s p k + dy := fun p hp k hk => zrmp_y hp (by omega) hk (by have := (w3 p (by omega)).2.1; omega)
  rw [zrsd_0] at f1 f2 hx0
  rw [zrsd_2] at f2 f3 hx0
  rw [zrsd_1] at f4 f5 hy0
  rw [zrsd_3] at f5 f6 hy0
  rw [zrsd_0, zrsd_1, zrsd_2, zrsd_3, zrsd_0, zrsd_1, zrsd_2, zrsd_3, e4, eN]
  exact ⟨zf2_shn (by omega) (by omega) eX, zf2_shn (by omega) (by omega) eY, zf2_shx (by omega) (by omega) eX, zf2_shx (by omega) (by omega) eY⟩
/-- the same shape in another memory -/
def zrEq (g f : Nat → Nat → Int) (s : Nat) : Prop := g 1174 s = f 1174 s ∧ g 1175 s = f 1175 s ∧ (∀ p, p < 4 → g 1176 (4 * s + p) = f 1176 (4 * s + p)) ∧ ∀ j, 32 * s ≤ j → j < 32 * s + 32 → g 1177 j = f 1177 j ∧ g 1178 j = f 1178 j
theorem zrEq_n {g f : Nat → Nat → Int} {s p : Nat} (h : zrEq g f s) (hp : p < 4) : zrN g s p = zrN f s p := h.2.2.1 p hp
theorem zrEq_x {g f : Nat → Nat → Int} {s p k : Nat} (h : zrEq g f s) (hp : p < 4) (hk : k < 8) : zrX g s p k = zrX f s p k := (h.2.2.2 _ (by omega) (by omega)).1
theorem zrEq_y {g f : Nat → Nat → Int} {s p k : Nat} (h : zrEq g f s) (hp : p < 4) (hk : k < 8) : zrY g s p k = zrY f s p k := (h.2.2.2 _ (by omega) (by omega)).2
theorem zrEq_w {g f : Nat → Nat → Int} {s : Nat} (h : zrEq g f s) (hw : zrSw f s) : zrSw g s := by
  obtain ⟨w1, w2, w3⟩ := hw
  refine ⟨by rw [h.1]; exact w1, by rw [h.2.1]; exact w2, fun p hp => ?_⟩
  rw [h.1] at hp
  obtain ⟨q1, q2, q3⟩ := w3 p hp
  refine ⟨by rw [zrEq_n h (by omega)]; exact q1, by rw [zrEq_n h (by omega)]; exact q2, fun k hk => ?_⟩
  rw [zrEq_n h (by omega)] at hk
  rw [zrEq_x h (by omega) (by omega), zrEq_y h (by omega) (by omega)]
  exact q3 k hk
theorem zrEq_d {g f : Nat → Nat → Int} {s : Nat} (h : zrEq g f s) (hw : zrSw f s) (w : Nat) : zrsd g s w = zrsd f s w := by
  obtain ⟨w1, w2, w3⟩ := hw
  unfold zrsd
  rw [h.1]
  refine zf2_cong _ (fun p hp => zrEq_n h (by omega)) (fun p hp k hk => ?_)
  rw [zrEq_n h (by omega)] at hk
  have k8 := (w3 p (by omega)).2.1
  split
  · exact zrEq_x h (by omega) (by omega)
  · exact zrEq_y h (by omega) (by omega)
theorem zrEq_t {g f e : Nat → Nat → Int} {s : Nat} (h1 : zrEq g f s) (h2 : zrEq f e s) : zrEq g e s := ⟨h1.1.trans h2.1, h1.2.1.trans h2.2.1, fun p hp => (h1.2.2.1 p hp).trans (h2.2.2.1 p hp), fun j a b => ⟨(h1.2.2.2 j a b).1.trans (h2.2.2.2 j a b).1, (h1.2.2.2 j a b).2.trans (h2.2.2.2 j a b).2⟩⟩
theorem zrEq_sh {f : Nat → Nat → Int} {s u : Nat} {dx dy : Int} (h : u ≠ s) : zrEq (zrsh f s dx dy) f u := ⟨zrsh_o (by omega), zrsh_o (by omega), fun p _ => zrsh_o (by omega), fun j _ _ => ⟨zrsh_p (by omega), zrsh_p (by omega)⟩⟩
theorem zrEq_r (f : Nat → Nat → Int) (s : Nat) : zrEq f f s := ⟨rfl, rfl, fun _ _ => rfl, fun _ _ _ => ⟨rfl, rfl⟩⟩
theorem zrEq_ua {f : Nat → Nat → Int} {a s : Nat} {o : Nat → Int} (h : 1174 > a ∨ a > 1178) : zrEq (zua f a o) f s := ⟨zua_o (by omega) _ _, zua_o (by omega) _ _, fun p _ => zua_o (by omega) _ _, fun j _ _ => ⟨zua_o (by omega) _ _, zua_o (by omega) _ _⟩⟩
theorem zrFm_c {f : Nat → Nat → Int} {s : Nat} (hf : zrFm f s) {p k : Nat} (hp : (p : Int) < f 1174 s) (hk : (k : Int) < zrN f s p) : (0 ≤ zrX f s p k ∧ zrX f s p k ≤ 60) ∧ 0 ≤ zrY f s p k ∧ zrY f s p k ≤ 60 := by
  obtain ⟨⟨f1, f2, f3⟩, f4, f5, f6⟩ := hf
  rw [zrsd_0] at f1
  rw [zrsd_2] at f3
  rw [zrsd_1] at f4
  rw [zrsd_3] at f6
  have a1 := (zf2_mn (n := zrN f s) (X := zrX f s) (b := 100) (f 1174 s).toNat).2.1 p (by omega) k hk
  have a2 := (zf2_mn (n := zrN f s) (X := zrY f s) (b := 100) (f 1174 s).toNat).2.1 p (by omega) k hk
  have a3 := (zf2_mx (n := zrN f s) (X := zrX f s) (b := -1) (f 1174 s).toNat).2.1 p (by omega) k hk
  have a4 := (zf2_mx (n := zrN f s) (X := zrY f s) (b := -1) (f 1174 s).toNat).2.1 p (by omega) k hk
  omega
theorem zrsh_w {f : Nat → Nat → Int} {s : Nat} {dx dy : Int} (hw : zrSw f s) (hf : zrFm f s) (hx : -1000 ≤ dx ∧ dx ≤ 1000) (hy : -1000 ≤ dy ∧ dy ≤ 1000) : zrSw (zrsh f s dx dy) s := by
  obtain ⟨w1, w2, w3⟩ := hw
  refine ⟨by rw [zrsh_o (by omega)]; exact w1, by rw [zrsh_o (by omega)]; exact w2, fun p hp => ?_⟩
  rw [zrsh_o (by omega)] at hp
  obtain ⟨p1, p2, p3⟩ := w3 p hp
  have en : zrN (zrsh f s dx dy) s p = zrN f s p := zrsh_o (by omega)
  refine ⟨by rw [en]; exact p1, by rw [en]; exact p2, fun k hk => ?_⟩
  rw [en] at hk
  have c := zrFm_c hf hp hk
  have ex : zrX (zrsh f s dx dy) s p k = zrX f s p k + dx := zrmp_x (by omega) (by omega) hk (by omega)
  have ey : zrY (zrsh f s dx dy) s p k = zrY f s p k + dy := zrmp_y (by omega) (by omega) hk (by omega)
  rw [ex, ey]
  omega
/-- the reference's frames, seen as the class keeps them -/
def zrfv (f : Nat → Nat → Int) : Nat → Nat → Int := fun b j => if j = 11 then zrsd f ((b - 14) / 14) 0 else if j = 13 then zrsd f ((b - 14) / 14) 2 else 0
theorem zrfv_l (f : Nat → Nat → Int) (v : Nat) : zrfv f (14 + 14 * v) 11 = zrsd f v 0 := by
  unfold zrfv
  rw [if_pos rfl, show (14 + 14 * v - 14) / 14 = v by omega]
theorem zrfv_r (f : Nat → Nat → Int) (v : Nat) : zrfv f (14 + 14 * v) 13 = zrsd f v 2 := by
  unfold zrfv
  rw [if_neg (by omega), if_pos rfl, show (14 + 14 * v - 14) / 14 = v by omega]
def zrgm (f : Nat → Nat → Int) (h : Nat → Nat → Int) (o : Nat → Int) (q r : Int) : Nat → Nat → Nat → Int
  | 0 => f
  | i + 1 => zrsh (zrgm f h o q r i) (o (i + 1)).toNat (zspd h o q r i) 0
theorem zrgm_s (f : Nat → Nat → Int) (h : Nat → Nat → Int) (o : Nat → Int) (q r : Int) (i : Nat) : zrgm f h o q r (i + 1) = zrsh (zrgm f h o q r i) (o (i + 1)).toNat (zspd h o q r i) 0 := rfl
theorem zrgm_o {f : Nat → Nat → Int} {h : Nat → Nat → Int} {o : Nat → Int} {q r : Int} {b j : Nat} (hb : b ≠ 1177 ∧ b ≠ 1178) : ∀ i, zrgm f h o q r i b j = f b j
  | 0 => rfl
  | i + 1 => by rw [zrgm_s, zrsh_o hb, zrgm_o hb i]
theorem zrgm_e {f : Nat → Nat → Int} {h : Nat → Nat → Int} {o : Nat → Int} {q r : Int} {u : Nat} : ∀ i, (∀ k, k < i → u ≠ (o (k + 1)).toNat) → zrEq (zrgm f h o q r i) f u
  | 0, _ => zrEq_r f u
  | i + 1, hk => by
    rw [zrgm_s]
    exact zrEq_t (zrEq_sh (hk i (by omega))) (zrgm_e i (fun k h2 => hk k (by omega)))
end ZRSPREAD
