/-! areas: of two together, in common, less, either; of one -/
section ZAREAS
variable {n : Int} {X Y : Nat → Int} {b : Nat} {y : Int}
def zab (Y : Nat → Int) (y : Int) (j : Nat) : Bool := decide (y + 1 ≤ 60 * Y j)
theorem zPr_1 (d : zEd) (y : Int) : zPr [d] y = if zPq d y = true then [zPvv d y] else [] := by
  unfold zPr
  by_cases h : zPq d y = true
  · simp [List.filter, h]
  · simp [List.filter, h]
theorem zxr_L (i : Nat) (acc : Nat) : zxr acc (zPr (zeL n X Y b i) y) = acc ^^^ (if zab Y y i = zab Y y (zaf n i) then 0 else b) := by
  unfold zeL
  by_cases h : Y i = Y (zaf n i)
  · rw [if_pos h]
    have e : zab Y y i = zab Y y (zaf n i) := by unfold zab; rw [h]
    rw [if_pos e, Nat.xor_zero]
    rfl
  · rw [if_neg h, zPr_1]
    by_cases e : zab Y y i = zab Y y (zaf n i)
    · rw [if_pos e, Nat.xor_zero, if_neg]
      · rfl
      · unfold zab at e
        rw [decide_eq_decide] at e
        unfold zPq
        rw [decide_eq_true_iff]
        dsimp only
        omega
    · rw [if_neg e, if_pos]
      · rfl
      · unfold zab at e
        rw [decide_eq_decide] at e
        unfold zPq
        rw [decide_eq_true_iff]
        dsimp only
        omega
theorem zxr_P {m : Nat} (hm : 0 < m) : ∀ i, i ≤ m → zxr 0 (zPr (zeP (m : Int) X Y b i) y) = if zab Y y 0 = zab Y y (if i < m then i else 0) then 0 else b
  | 0, _ => by
    rw [if_pos hm, if_pos rfl]
    rfl
  | i + 1, hi => by
    have ih := zxr_P hm i (by omega)
    show zxr 0 (zPr (zeP (m : Int) X Y b i ++ zeL (m : Int) X Y b i) y) = _
    rw [zPr_app, zxr_app, ih, zxr_L, if_pos (show i < m by omega)]
    have ea : zaf (m : Int) i = if i + 1 < m then i + 1 else 0 := by
      unfold zaf
      split <;> split <;> omega
    rw [ea]
    generalize zab Y y 0 = u
    generalize zab Y y i = v
    generalize zab Y y (if i + 1 < m then i + 1 else 0) = w
    revert u v w
    intro u v w
    cases u <;> cases v <;> cases w <;> simp
theorem zxr_S {N : Nat → Int} {X Y : Nat → Nat → Int} {fb : Nat} {y : Int} : ∀ c, zSP N X Y c → zxr 0 (zPr (zeS N X Y fb c) y) = 0
  | 0, _ => rfl
  | c + 1, h => by
    have ih := zxr_S (fb := fb) (y := y) c (fun p hp => h p (by omega))
    show zxr 0 (zPr (zeS N X Y fb c ++ zeP (N c) (X c) (Y c) (2 ^ (fb + c)) (N c).toNat) y) = 0
    rw [zPr_app, zxr_app, ih]
    obtain ⟨m, hm⟩ : ∃ m : Nat, N c = (m : Int) := ⟨(N c).toNat, by have := (h c (by omega)).1.1; omega⟩
    rw [hm, Int.toNat_natCast]
    by_cases h0 : m = 0
    · subst h0; rfl
    · rw [zxr_P (by omega) m (Nat.le_refl _), if_neg (show ¬ m < m by omega), if_pos rfl]
-- told with other bits
theorem zPr_L {p : Nat → Nat} (i : Nat) : (zPr (zeL n X Y b i) y).map (fun q => (q.1, p q.2)) = zPr (zeL n X Y (p b) i) y := by
  unfold zeL
  by_cases h : Y i = Y (zaf n i)
  · rw [if_pos h, if_pos h]
    rfl
  · rw [if_neg h, if_neg h, zPr_1, zPr_1]
    have e9 : zPq (min (Y i) (Y (zaf n i)), max (Y i) (Y (zaf n i)), zle2 n X Y i, 2 * X i - Y i * zle2 n X Y i, p b) y = zPq (min (Y i) (Y (zaf n i)), max (Y i) (Y (zaf n i)), zle2 n X Y i, 2 * X i - Y i * zle2 n X Y i, b) y := rfl
    rw [e9]
    by_cases k : zPq (min (Y i) (Y (zaf n i)), max (Y i) (Y (zaf n i)), zle2 n X Y i, 2 * X i - Y i * zle2 n X Y i, b) y = true
    · rw [if_pos k, if_pos k]
      rfl
    · rw [if_neg k, if_neg k]
      rfl
theorem zPr_P {p : Nat → Nat} : ∀ i, (zPr (zeP n X Y b i) y).map (fun q => (q.1, p q.2)) = zPr (zeP n X Y (p b) i) y
  | 0 => rfl
  | i + 1 => by
    show (zPr (zeP n X Y b i ++ zeL n X Y b i) y).map _ = zPr (zeP n X Y (p b) i ++ zeL n X Y (p b) i) y
    rw [zPr_app, zPr_app, List.map_append, zPr_P i, zPr_L]
theorem zPr_S {p : Nat → Nat} {N : Nat → Int} {X Y : Nat → Nat → Int} {fb fb' : Nat} {y : Int} : ∀ c, (∀ k, k < c → p (2 ^ (fb + k)) = 2 ^ (fb' + k)) → (zPr (zeS N X Y fb c) y).map (fun q => (q.1, p q.2)) = zPr (zeS N X Y fb' c) y
  | 0, _ => rfl
  | c + 1, h => by
    show (zPr (zeS N X Y fb c ++ zeP (N c) (X c) (Y c) (2 ^ (fb + c)) (N c).toNat) y).map _ = zPr (zeS N X Y fb' c ++ zeP (N c) (X c) (Y c) (2 ^ (fb' + c)) (N c).toNat) y
    rw [zPr_app, zPr_app, List.map_append, zPr_S c (fun k hk => h k (by omega)), zPr_P, h c (by omega)]
theorem zPr_bL {q : Int × Nat} (i : Nat) (h : q ∈ zPr (zeL n X Y b i) y) : q.2 = b := by
  unfold zeL at h
  by_cases e : Y i = Y (zaf n i)
  · rw [if_pos e] at h
    exact absurd h List.not_mem_nil
  · rw [if_neg e, zPr_1] at h
    split at h
    · rw [List.mem_singleton.mp h]
      rfl
    · exact absurd h List.not_mem_nil
theorem zPr_bP {q : Int × Nat} : ∀ i, q ∈ zPr (zeP n X Y b i) y → q.2 = b
  | 0, h => absurd h List.not_mem_nil
  | i + 1, h => by
    have h : q ∈ zPr (zeP n X Y b i ++ zeL n X Y b i) y := h
    rw [zPr_app] at h
    exact (List.mem_append.mp h).elim (zPr_bP i) (zPr_bL i)
theorem zPr_bS {N : Nat → Int} {X Y : Nat → Nat → Int} {fb : Nat} {y : Int} {q : Int × Nat} : ∀ c, q ∈ zPr (zeS N X Y fb c) y → ∃ k, k < c ∧ q.2 = 2 ^ (fb + k)
  | 0, h => absurd h List.not_mem_nil
  | c + 1, h => by
    have h : q ∈ zPr (zeS N X Y fb c ++ zeP (N c) (X c) (Y c) (2 ^ (fb + c)) (N c).toNat) y := h
    rw [zPr_app] at h
    rcases List.mem_append.mp h with h | h
    · obtain ⟨k, k1, k2⟩ := zPr_bS c h
      exact ⟨k, by omega, k2⟩
    · exact ⟨c, by omega, zPr_bP _ h⟩
theorem zPr_n0 {N : Nat → Int} {X Y : Nat → Nat → Int} {fb c : Nat} {y : Int} : (zPr (zeS N X Y fb c) y).filter (fun q => decide (q.2 ≠ 0)) = zPr (zeS N X Y fb c) y := by
  rw [List.filter_eq_self]
  intro q hq
  obtain ⟨k, -, hk⟩ := zPr_bS c hq
  rw [decide_eq_true_iff, hk]
  have := Nat.two_pow_pos (fb + k)
  omega
theorem zPr_z {p : Nat → Nat} {N : Nat → Int} {X Y : Nat → Nat → Int} {fb c : Nat} {y : Int} (h : ∀ k, k < c → p (2 ^ (fb + k)) = 0) : ((zPr (zeS N X Y fb c) y).map (fun q => (q.1, p q.2))).filter (fun q => decide (q.2 ≠ 0)) = [] := by
  rw [List.filter_eq_nil_iff]
  intro q hq
  obtain ⟨q0, q1, rfl⟩ := List.mem_map.mp hq
  obtain ⟨k, k1, k2⟩ := zPr_bS c q1
  rw [decide_eq_true_iff]
  dsimp only
  rw [k2, h k k1]
  omega
-- edges go as they may
theorem zeL_v {i : Nat} (hp : zpr n X Y 0) (hi : (i : Int) < n) : ∀ d, d ∈ zeL n X Y b i → zEv d ∧ d.2.2.2.2 = b := by
  intro d hd
  unfold zeL at hd
  by_cases hy : Y i = Y (zaf n i)
  · rw [if_pos hy] at hd
    exact absurd hd List.not_mem_nil
  · rw [if_neg hy] at hd
    have hd := List.mem_singleton.mp hd
    subst hd
    have hg := hp i (Nat.zero_le _) hi
    have h0 : zwd n Y i ≠ 0 := by unfold zwd; omega
    refine ⟨?_, rfl⟩
    unfold zEv
    dsimp only
    have key : zle2 n X Y i = 0 ∨ zle2 n X Y i = 1 ∨ zle2 n X Y i = -1 ∨ zle2 n X Y i = 2 ∨ zle2 n X Y i = -2 ∨ zle2 n X Y i = 4 ∨ zle2 n X Y i = -4 := by
      unfold zle2
      rw [if_neg h0]
      unfold zcg at hg
      generalize zwd n X i = w at *
      generalize zwd n Y i = h2 at *
      have k : ∃ z, 2 * w = z * h2 ∧ (z = 0 ∨ z = 1 ∨ z = -1 ∨ z = 2 ∨ z = -2 ∨ z = 4 ∨ z = -4) := by
        by_cases hw : w = 0
        · exact ⟨0, by omega, by omega⟩
        · rw [if_neg (by omega)] at hg
          rcases hg with h | h | h
          · by_cases hs : w = h2
            · exact ⟨2, by omega, by omega⟩
            · exact ⟨-2, by omega, by omega⟩
          · by_cases hs : w = 2 * h2
            · exact ⟨4, by omega, by omega⟩
            · exact ⟨-4, by omega, by omega⟩
          · by_cases hs : h2 = 2 * w
            · exact ⟨1, by omega, by omega⟩
            · exact ⟨-1, by omega, by omega⟩
      obtain ⟨z, k1, k2⟩ := k
      rw [k1, Int.mul_tdiv_cancel _ h0]
      exact k2
    rcases key with k | k | k | k | k | k | k <;> rw [k] <;> omega
theorem zeP_v (hp : zpr n X Y 0) : ∀ i : Nat, (i : Int) ≤ n → ∀ d, d ∈ zeP n X Y b i → zEv d ∧ d.2.2.2.2 = b
  | 0, _, d, hd => absurd hd List.not_mem_nil
  | i + 1, hi, d, hd => by
    have hd : d ∈ zeP n X Y b i ++ zeL n X Y b i := hd
    rcases List.mem_append.mp hd with h | h
    · exact zeP_v hp i (by omega) d h
    · exact zeL_v hp (by omega) d h
theorem zeS_v {N : Nat → Int} {X Y : Nat → Nat → Int} {fb : Nat} : ∀ c : Nat, zSP N X Y c → ∀ d, d ∈ zeS N X Y fb c → zEv d ∧ ∃ k, k < c ∧ d.2.2.2.2 = 2 ^ (fb + k)
  | 0, _, d, hd => absurd hd List.not_mem_nil
  | c + 1, hp, d, hd => by
    have hd : d ∈ zeS N X Y fb c ++ zeP (N c) (X c) (Y c) (2 ^ (fb + c)) (N c).toNat := hd
    rcases List.mem_append.mp hd with h | h
    · obtain ⟨a, k, k1, k2⟩ := zeS_v c (fun p h => hp p (by omega)) d h
      exact ⟨a, k, by omega, k2⟩
    · have h1 := zeP_v (b := 2 ^ (fb + c)) (hp c (by omega)).2 (N c).toNat (by have := (hp c (by omega)).1.1; omega) d h
      exact ⟨h1.1, c, by omega, h1.2⟩
theorem zpw_m {c k : Nat} (h : k < c) : 2 ^ k % 2 ^ c = 2 ^ k := Nat.mod_eq_of_lt (Nat.pow_lt_pow_right (by omega) h)
theorem zpw_m0 {c k : Nat} : 2 ^ (c + k) % 2 ^ c = 0 := by rw [Nat.pow_add]; exact Nat.mul_mod_right _ _
theorem zpw_d {c k : Nat} : 2 ^ (c + k) / 2 ^ c = 2 ^ k := by rw [Nat.pow_add]; exact Nat.mul_div_cancel_left _ (Nat.two_pow_pos c)
theorem zpw_d0 {c k : Nat} (h : k < c) : 2 ^ k / 2 ^ c = 0 := Nat.div_eq_of_lt (Nat.pow_lt_pow_right (by omega) h)
/-- two shapes' edges -/
def zL2 (N : Nat → Int) (X Y : Nat → Nat → Int) (N' : Nat → Int) (X' Y' : Nat → Nat → Int) (c1 c2 : Nat) : List zEd := zeS N X Y 0 c1 ++ zeS N' X' Y' c1 c2
variable {N N' : Nat → Int} {X Y X' Y' : Nat → Nat → Int} {c1 c2 : Nat} {t1 t2 : Int}
theorem zL2_x (p1 : zSP N X Y c1) (p2 : zSP N' X' Y' c2) (y : Int) : zxr 0 (zPr (zL2 N X Y N' X' Y' c1 c2) y) = 0 := by
  unfold zL2
  rw [zPr_app, zxr_app, zxr_S c1 p1, zxr_S c2 p2]
theorem zL2_b (p1 : zSP N X Y c1) (p2 : zSP N' X' Y' c2) : ∀ d, d ∈ zL2 N X Y N' X' Y' c1 c2 → zEv d ∧ ((∃ k, k < c1 ∧ d.2.2.2.2 = 2 ^ k) ∨ ∃ k, k < c2 ∧ d.2.2.2.2 = 2 ^ (c1 + k)) := fun d hd => by
  rcases List.mem_append.mp hd with h | h
  · obtain ⟨a, k, k1, k2⟩ := zeS_v c1 p1 d h
    exact ⟨a, Or.inl ⟨k, k1, by rw [k2, Nat.zero_add]⟩⟩
  · obtain ⟨a, k, k1, k2⟩ := zeS_v c2 p2 d h
    exact ⟨a, Or.inr ⟨k, k1, k2⟩⟩
theorem zL2_V (p1 : zSP N X Y c1) (p2 : zSP N' X' Y' c2) : zEV (zL2 N X Y N' X' Y' c1 c2) := fun e he => (zL2_b p1 p2 _ (zegd_m he)).1
theorem zL2_n (p1 : zSP N X Y c1) (p2 : zSP N' X' Y' c2) : ∀ d, d ∈ zL2 N X Y N' X' Y' c1 c2 → d.2.2.2.2 < 2 ^ (c1 + c2) := fun d hd => by
  rcases (zL2_b p1 p2 d hd).2 with ⟨k, k1, k2⟩ | ⟨k, k1, k2⟩
  · rw [k2]; exact Nat.pow_lt_pow_right (by omega) (by omega)
  · rw [k2]; exact Nat.pow_lt_pow_right (by omega) (by omega)
/-- what one of them holds -/
def zg1 (t1 : Int) (c1 : Nat) (set : Nat) : Bool := zhsb t1 (set % 2 ^ c1)
def zg2 (t2 : Int) (c1 : Nat) (set : Nat) : Bool := zhsb t2 (set / 2 ^ c1)
theorem zhsb_00 (s : Nat) : zhsb 0 s = false := by
  unfold zhsb
  refine decide_eq_false (fun h => ?_)
  rw [show (0 : Int).toNat = 0 from rfl, Nat.zero_div] at h
  exact absurd h (by decide)
theorem zg1_0 (h : zhsb t1 0 = false) : zg1 t1 c1 0 = false := by unfold zg1; rw [Nat.zero_mod]; exact h
theorem zg2_0 (h : zhsb t2 0 = false) : zg2 t2 c1 0 = false := by unfold zg2; rw [Nat.zero_div]; exact h
theorem zgl_0 (w : Int) (h1 : zhsb t1 0 = false) (h2 : zhsb t2 0 = false) : zgl w t1 t2 c1 0 = false := by
  unfold zgl
  rw [Nat.zero_mod, Nat.zero_div, h1, h2]
  unfold zlawb
  split
  · rfl
  · split
    · rfl
    · split <;> rfl
theorem zgl_1 (a : Nat) : zgl 0 t1 0 c1 a = zg1 t1 c1 a := by
  unfold zgl zg1 zlawb
  rw [if_pos rfl, zhsb_00, Bool.or_false]
/-- the first alone -/
theorem zU_1 (p1 : zSP N X Y c1) (p2 : zSP N' X' Y' c2) {N0 : Nat → Int} {X0 Y0 : Nat → Nat → Int} (h1 : zhsb t1 0 = false) (n : Nat) : zU (zL2 N X Y N' X' Y' c1 c2) (zg1 t1 c1) n = zU (zL2 N X Y N0 X0 Y0 c1 0) (zgl 0 t1 0 c1) n := by
  have p0 : zSP N0 X0 Y0 0 := fun p h => absurd h (Nat.not_lt_zero p)
  refine zU_map (N := c1 + c2) (r := fun a => a % 2 ^ c1) (p := fun a => a % 2 ^ c1) (zg1_0 h1) (Nat.zero_mod _) (fun a _ => ?_) (fun y => zL2_x p1 p2 _) (fun y => zL2_x p1 p0 _) (fun d hd => ⟨zL2_n p1 p2 d hd, fun a => Nat.xor_mod_two_pow⟩) (fun y => ?_) n
  · rw [zgl_1]
    unfold zg1
    try dsimp only
    rw [Nat.mod_mod]
  · unfold zL2
    rw [zPr_app, List.map_append, List.filter_append, zPr_S (p := fun a => a % 2 ^ c1) (fb' := 0) c1 (fun k hk => by (try dsimp only); rw [Nat.zero_add]; exact zpw_m hk), zPr_n0, zPr_z (p := fun a => a % 2 ^ c1) (fun k hk => zpw_m0), zPr_app]
    exact List.Perm.refl _
/-- the second alone -/
theorem zU_2 (p1 : zSP N X Y c1) (p2 : zSP N' X' Y' c2) {N0 : Nat → Int} {X0 Y0 : Nat → Nat → Int} (h2 : zhsb t2 0 = false) (n : Nat) : zU (zL2 N X Y N' X' Y' c1 c2) (zg2 t2 c1) n = zU (zL2 N' X' Y' N0 X0 Y0 c2 0) (zgl 0 t2 0 c2) n := by
  have p0 : zSP N0 X0 Y0 0 := fun p h => absurd h (Nat.not_lt_zero p)
  refine zU_map (N := c1 + c2) (r := fun a => a / 2 ^ c1) (p := fun a => a / 2 ^ c1) (zg2_0 h2) (Nat.zero_div _) (fun a ha => ?_) (fun y => zL2_x p1 p2 _) (fun y => zL2_x p2 p0 _) (fun d hd => ⟨zL2_n p1 p2 d hd, fun a => Nat.xor_div_two_pow⟩) (fun y => ?_) n
  · rw [zgl_1]
    unfold zg1 zg2
    try dsimp only
    rw [Nat.mod_eq_of_lt (Nat.div_lt_of_lt_mul (by rw [← Nat.pow_add]; exact ha))]
  · unfold zL2
    rw [zPr_app, List.map_append, List.filter_append, zPr_z (p := fun a => a / 2 ^ c1) (fun k hk => by (try dsimp only); rw [Nat.zero_add]; exact zpw_d0 hk), zPr_S (p := fun a => a / 2 ^ c1) (fb' := 0) c2 (fun k hk => by (try dsimp only); rw [Nat.zero_add]; exact zpw_d), zPr_n0, zPr_app, List.nil_append]
    show (zPr (zeS N' X' Y' 0 c2) y).Perm (zPr (zeS N' X' Y' 0 c2) y ++ [])
    rw [List.append_nil]
/-- the other way round -/
theorem zU_sw (p1 : zSP N X Y c1) (p2 : zSP N' X' Y' c2) (h1 : zhsb t1 0 = false) (h2 : zhsb t2 0 = false) (n : Nat) : zU (zL2 N X Y N' X' Y' c1 c2) (zgl 1 t1 t2 c1) n = zU (zL2 N' X' Y' N X Y c2 c1) (zgl 1 t2 t1 c2) n := by
  refine zU_map (N := c1 + c2) (r := fun a => a / 2 ^ c1 ^^^ (a % 2 ^ c1) <<< c2) (p := fun a => a / 2 ^ c1 ^^^ (a % 2 ^ c1) <<< c2) (zgl_0 1 h1 h2) ?_ (fun a ha => ?_) (fun y => zL2_x p1 p2 _) (fun y => zL2_x p2 p1 _) (fun d hd => ⟨zL2_n p1 p2 d hd, fun a => ?_⟩) (fun y => ?_) n
  · try dsimp only
    rw [Nat.zero_div, Nat.zero_mod, Nat.zero_shiftLeft, Nat.xor_zero]
  · have hd : a / 2 ^ c1 < 2 ^ c2 := Nat.div_lt_of_lt_mul (by rw [← Nat.pow_add]; exact ha)
    have e1 : (a / 2 ^ c1 ^^^ (a % 2 ^ c1) <<< c2) % 2 ^ c2 = a / 2 ^ c1 := by
      rw [Nat.xor_mod_two_pow, Nat.shiftLeft_eq, Nat.mul_mod_left, Nat.xor_zero]
      exact Nat.mod_eq_of_lt hd
    have e2 : (a / 2 ^ c1 ^^^ (a % 2 ^ c1) <<< c2) / 2 ^ c2 = a % 2 ^ c1 := by
      rw [Nat.xor_div_two_pow, Nat.shiftLeft_eq, Nat.mul_div_cancel _ (Nat.two_pow_pos c2), Nat.div_eq_of_lt hd, Nat.zero_xor]
    show zgl 1 t1 t2 c1 a = zgl 1 t2 t1 c2 (a / 2 ^ c1 ^^^ (a % 2 ^ c1) <<< c2)
    unfold zgl
    rw [e1, e2]
    unfold zlawb
    rw [if_neg (by decide), if_pos rfl, if_neg (by decide), if_pos rfl, Bool.and_comm]
  · try dsimp only
    rw [Nat.xor_div_two_pow, Nat.xor_mod_two_pow, Nat.shiftLeft_xor_distrib]
    generalize a / 2 ^ c1 = u
    generalize d.2.2.2.2 / 2 ^ c1 = v
    generalize (a % 2 ^ c1) <<< c2 = w
    generalize (d.2.2.2.2 % 2 ^ c1) <<< c2 = z
    rw [Nat.xor_assoc, Nat.xor_assoc, ← Nat.xor_assoc v w z, ← Nat.xor_assoc w v z, Nat.xor_comm v w]
  · unfold zL2
    rw [zPr_app, List.map_append, List.filter_append, zPr_S (p := fun a => a / 2 ^ c1 ^^^ (a % 2 ^ c1) <<< c2) (fb' := c2) c1 (fun k hk => by
      try dsimp only
      rw [Nat.zero_add, zpw_d0 hk, zpw_m hk, Nat.zero_xor, Nat.shiftLeft_eq, Nat.pow_add, Nat.mul_comm]), zPr_S (p := fun a => a / 2 ^ c1 ^^^ (a % 2 ^ c1) <<< c2) (fb' := 0) c2 (fun k hk => by
      try dsimp only
      rw [zpw_d, zpw_m0, Nat.zero_shiftLeft, Nat.xor_zero, Nat.zero_add]), zPr_n0, zPr_n0, zPr_app]
    exact List.perm_append_comm
theorem zU_f {l : List zEd} : ∀ n, zU l (fun _ => false) n = 0
  | 0 => rfl
  | n + 1 => by
    have z : ∀ (m : Nat → Int) (b : Nat → Nat) (k : List Nat) (acc : Nat) (x : Int), zF m b (fun _ => false) acc x k = 0 := fun m b k => by
      induction k with
      | nil => exact fun _ _ => rfl
      | cons a t ih => exact fun acc x => by rw [zF_s, ih, if_neg (by decide)]; rfl
    rw [zU_s, zU_f n]
    unfold zSV zFV
    split
    · rfl
    · rw [z]; rfl
theorem zlw_01 (p q : Bool) : zio (zlawb 0 p q) + zio (zlawb 1 p q) = zio p + zio q := by cases p <;> cases q <;> rfl
theorem zlw_21 (p q : Bool) : zio (zlawb 2 p q) + zio (zlawb 1 p q) = zio p + zio false := by cases p <;> cases q <;> rfl
theorem zlw_31 (p q : Bool) : zio (zlawb 3 p q) + zio (zlawb 1 p q) = zio (zlawb 0 p q) + zio false := by cases p <;> cases q <;> rfl
/-- the laws of the areas -/
theorem zU_laws (p1 : zSP N X Y c1) (p2 : zSP N' X' Y' c2) {N0 : Nat → Int} {X0 Y0 : Nat → Nat → Int} (h1 : zhsb t1 0 = false) (h2 : zhsb t2 0 = false) (n : Nat) : (zU (zL2 N X Y N' X' Y' c1 c2) (zgl 0 t1 t2 c1) n + zU (zL2 N X Y N' X' Y' c1 c2) (zgl 1 t1 t2 c1) n = zU (zL2 N X Y N0 X0 Y0 c1 0) (zgl 0 t1 0 c1) n + zU (zL2 N' X' Y' N0 X0 Y0 c2 0) (zgl 0 t2 0 c2) n) ∧ (zU (zL2 N X Y N' X' Y' c1 c2) (zgl 2 t1 t2 c1) n + zU (zL2 N X Y N' X' Y' c1 c2) (zgl 1 t1 t2 c1) n = zU (zL2 N X Y N0 X0 Y0 c1 0) (zgl 0 t1 0 c1) n) ∧ zU (zL2 N X Y N' X' Y' c1 c2) (zgl 3 t1 t2 c1) n + zU (zL2 N X Y N' X' Y' c1 c2) (zgl 1 t1 t2 c1) n = zU (zL2 N X Y N' X' Y' c1 c2) (zgl 0 t1 t2 c1) n := by
  have hx := fun y : Nat => zL2_x (y := (y : Int)) p1 p2
  have a := zU_add (zgl_0 0 h1 h2) (zgl_0 1 h1 h2) (zg1_0 (c1 := c1) h1) (zg2_0 (c1 := c1) h2) hx (fun a => zlw_01 _ _) n
  have b := zU_add (zgl_0 2 h1 h2) (zgl_0 1 h1 h2) (zg1_0 (c1 := c1) h1) (g4 := fun _ => false) rfl hx (fun a => zlw_21 _ _) n
  have c := zU_add (zgl_0 3 h1 h2) (zgl_0 1 h1 h2) (zgl_0 (c1 := c1) 0 h1 h2) (g4 := fun _ => false) rfl hx (fun a => zlw_31 _ _) n
  rw [zU_1 p1 p2 (N0 := N0) (X0 := X0) (Y0 := Y0) h1, zU_2 p1 p2 (N0 := N0) (X0 := X0) (Y0 := Y0) h2] at a
  rw [zU_1 p1 p2 (N0 := N0) (X0 := X0) (Y0 := Y0) h1, zU_f] at b
  rw [zU_f] at c
  omega
end ZAREAS
