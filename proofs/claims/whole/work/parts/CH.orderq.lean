/-! the order: sorted, and everyone in it -/
section ZORDERQ
theorem zinsf_mem {lt : Nat → Nat → Bool} {x : Nat} : ∀ (k : Nat) (o : Nat → Int), (∃ j, j < k + 1 ∧ zinsf lt x k o j = (x : Int)) ∧ ∀ j, j < k → ∃ j2, j2 < k + 1 ∧ zinsf lt x k o j2 = o j
  | 0, o => ⟨⟨0, by omega, zup_eq _ _ _⟩, fun j h => absurd h (Nat.not_lt_zero j)⟩
  | k + 1, o => by
    unfold zinsf
    by_cases c : lt x (o k).toNat = true
    · rw [if_pos c]
      obtain ⟨⟨j, h1, h2⟩, h3⟩ := zinsf_mem (lt := lt) (x := x) k (zup o (k + 1) (o k))
      refine ⟨⟨j, by omega, h2⟩, fun j hj => ?_⟩
      by_cases e : j = k
      · subst e
        refine ⟨j + 1, by omega, ?_⟩
        rw [zinsf_hi lt x j _ _ (by omega), zup_eq]
      · obtain ⟨j2, h4, h5⟩ := h3 j (by omega)
        rw [zup_ne (by omega)] at h5
        exact ⟨j2, by omega, h5⟩
    · rw [if_neg c]
      refine ⟨⟨k + 1, by omega, zup_eq _ _ _⟩, fun j hj => ⟨j, by omega, zup_ne (by omega)⟩⟩
theorem zord_mem {lt : Nat → Nat → Bool} {th : Nat → Bool} {o : Nat → Int} : ∀ (m v : Nat), v < m → th v = true → ∃ j, j < zcnt th m ∧ zord lt th o m j = (v : Int)
  | 0, v, h, _ => absurd h (Nat.not_lt_zero v)
  | m + 1, v, h, hv => by
    rw [zcnt_s]
    unfold zord
    by_cases c : th m = true
    · rw [if_pos c, if_pos c]
      obtain ⟨h1, h2⟩ := zinsf_mem (lt := lt) (x := m) (zcnt th m) (zord lt th o m)
      by_cases e : v = m
      · subst e; exact h1
      · obtain ⟨j, j1, j2⟩ := zord_mem (lt := lt) (o := o) m v (by omega) hv
        obtain ⟨j3, j4, j5⟩ := h2 j j1
        exact ⟨j3, j4, by rw [j5]; exact j2⟩
    · rw [if_neg c, if_neg c]
      by_cases e : v = m
      · subst e; exact absurd hv c
      · exact zord_mem m v (by omega) hv
/-- put in its place -/
theorem zinsf_sorted {lt : Nat → Nat → Bool} {x : Nat} {P : Nat → Prop} (tr : ∀ a b c, P a → P b → P c → lt a b = true → lt b c = true → lt a c = true) (hx : P x) : ∀ (k : Nat) (o : Nat → Int), (∀ j, j < k → P (o j).toNat ∧ (lt x (o j).toNat = true ∨ lt (o j).toNat x = true)) → (∀ i j, i < j → j < k → lt (o i).toNat (o j).toNat = true) → ∀ i j, i < j → j < k + 1 → lt (zinsf lt x k o i).toNat (zinsf lt x k o j).toNat = true
  | 0, o, _, _, i, j, h1, h2 => absurd h1 (by omega)
  | k + 1, o, hp, hs, i, j, h1, h2 => by
    unfold zinsf
    by_cases c : lt x (o k).toNat = true
    · rw [if_pos c]
      have nb : ∀ j, j < k → zup o (k + 1) (o k) j = o j := fun j hj => zup_ne (by omega)
      by_cases e : j = k + 1
      · subst e
        rw [zinsf_hi lt x k (zup o (k + 1) (o k)) (k + 1) (by omega), zup_eq]
        exact zinsf_v lt x (P := fun v => lt v.toNat (o k).toNat = true) (by rw [Int.toNat_natCast]; exact c) k _ (fun j2 hj2 => by rw [nb j2 hj2]; exact hs j2 k hj2 (by omega)) i (by omega)
      · exact zinsf_sorted tr hx k _ (fun j2 hj2 => by rw [nb j2 hj2]; exact hp j2 (by omega)) (fun i2 j2 hi2 hj2 => by rw [nb i2 (by omega), nb j2 hj2]; exact hs i2 j2 hi2 (by omega)) i j h1 (by omega)
    · rw [if_neg c]
      have kx := (hp k (by omega)).2.resolve_left c
      by_cases e : j = k + 1
      · subst e
        rw [zup_eq, zup_ne (by omega), Int.toNat_natCast]
        by_cases e2 : i = k
        · subst e2; exact kx
        · exact tr _ _ _ (hp i (by omega)).1 (hp k (by omega)).1 hx (hs i k (by omega) (by omega)) kx
      · rw [zup_ne e, zup_ne (by omega)]
        exact hs i j h1 (by omega)
theorem zord_sorted {lt : Nat → Nat → Bool} {th : Nat → Bool} {o : Nat → Int} {P : Nat → Prop} (tr : ∀ a b c, P a → P b → P c → lt a b = true → lt b c = true → lt a c = true) (tot : ∀ a b, P a → P b → a ≠ b → lt a b = true ∨ lt b a = true) : ∀ m, (∀ v, v < m → th v = true → P v) → ∀ i j, i < j → j < zcnt th m → lt (zord lt th o m i).toNat (zord lt th o m j).toNat = true
  | 0, _, i, j, _, h => absurd h (Nat.not_lt_zero j)
  | m + 1, hP, i, j, h1, h2 => by
    rw [zcnt_s] at h2
    unfold zord
    by_cases c : th m = true
    · rw [if_pos c] at h2
      rw [if_pos c]
      have pm := hP m (by omega) c
      refine zinsf_sorted tr pm (zcnt th m) _ (fun j2 hj2 => ?_) (fun i2 j2 a b => zord_sorted tr tot m (fun v hv => hP v (by omega)) i2 j2 a b) i j h1 h2
      obtain ⟨v, v1, v2, v3⟩ := zord_v lt th o m j2 hj2
      rw [v3, Int.toNat_natCast]
      exact ⟨hP v (by omega) v2, tot m v pm (hP v (by omega) v2) (by omega)⟩
    · rw [if_neg c] at h2
      rw [if_neg c]
      exact zord_sorted tr tot m (fun v hv => hP v (by omega)) i j h1 h2
/-- the best of those that are looked at -/
theorem zbest_b {cand : Nat → Bool} {better : Nat → Nat → Bool} {P : Nat → Prop} (tr : ∀ a b c, P a → P b → P c → better a b = true → better b c = true → better a c = true) (tot : ∀ a b, P a → P b → a ≠ b → better a b = true ∨ better b a = true) : ∀ m, (∀ v, v < m → cand v = true → P v) → (zbest cand better m = -1 ∧ ∀ v, v < m → cand v = false) ∨ ∃ k : Nat, k < m ∧ cand k = true ∧ zbest cand better m = (k : Int) ∧ ∀ v, v < m → cand v = true → v ≠ k → better k v = true
  | 0, _ => Or.inl ⟨rfl, fun v h => absurd h (Nat.not_lt_zero v)⟩
  | m + 1, hP => by
    have hu : zbest cand better (m + 1) = if cand m = true ∧ (zbest cand better m = -1 ∨ better m (zbest cand better m).toNat = true) then (m : Int) else zbest cand better m := rfl
    rw [hu]
    rcases zbest_b tr tot m (fun v hv => hP v (by omega)) with ⟨a, b⟩ | ⟨k, a, b, c, d⟩
    · by_cases e : cand m = true
      · rw [if_pos ⟨e, Or.inl a⟩]
        refine Or.inr ⟨m, by omega, e, rfl, fun v hv cv hne => ?_⟩
        rw [b v (by omega)] at cv
        exact absurd cv (by decide)
      · rw [if_neg (fun q => e q.1)]
        refine Or.inl ⟨a, fun v hv => ?_⟩
        by_cases e2 : v = m
        · subst e2; cases q : cand v <;> simp_all
        · exact b v (by omega)
    · rw [c, Int.toNat_natCast]
      by_cases e : cand m = true ∧ better m k = true
      · rw [if_pos ⟨e.1, Or.inr e.2⟩]
        refine Or.inr ⟨m, by omega, e.1, rfl, fun v hv cv hne => ?_⟩
        by_cases e2 : v = k
        · subst e2; exact e.2
        · exact tr m k v (hP m (by omega) e.1) (hP k (by omega) b) (hP v hv cv) e.2 (d v (by omega) cv e2)
      · rw [if_neg (fun q => e ⟨q.1, q.2.resolve_left (by omega)⟩)]
        refine Or.inr ⟨k, by omega, b, rfl, fun v hv cv hne => ?_⟩
        by_cases e2 : v = m
        · subst e2
          exact (tot k v (hP k (by omega) b) (hP v hv cv) (by omega)).resolve_right (fun q => e ⟨cv, q⟩)
        · exact d v (by omega) cv hne
variable {n : Nat} {f g : Nat → Nat → Int}
-- the order of keys
theorem zfr_tr {a b c d e h : Int} (hb : 1 ≤ b) (hd : 1 ≤ d) (hh : 1 ≤ h) (h1 : a * d ≤ c * b) (h2 : c * h < e * d) : a * h < e * b := by
  have q1 : (a * d) * h ≤ (c * b) * h := Int.mul_le_mul_of_nonneg_right h1 (by omega)
  have q2 : (c * h) * b < (e * d) * b := Int.mul_lt_mul_of_pos_right h2 (by omega)
  have q3 : (a * h) * d < (e * b) * d := by
    have e1 : (a * h) * d = (a * d) * h := by rw [Int.mul_assoc, Int.mul_comm h d, ← Int.mul_assoc]
    have e2 : (c * b) * h = (c * h) * b := by rw [Int.mul_assoc, Int.mul_comm b h, ← Int.mul_assoc]
    have e3 : (e * d) * b = (e * b) * d := by rw [Int.mul_assoc, Int.mul_comm d b, ← Int.mul_assoc]
    omega
  exact Int.lt_of_mul_lt_mul_right q3 (by omega)
theorem zfr_tr2 {a b c d e h : Int} (hb : 1 ≤ b) (hd : 1 ≤ d) (hh : 1 ≤ h) (h1 : a * d < c * b) (h2 : c * h ≤ e * d) : a * h < e * b := by
  have q1 : (a * d) * h < (c * b) * h := Int.mul_lt_mul_of_pos_right h1 (by omega)
  have q2 : (c * h) * b ≤ (e * d) * b := Int.mul_le_mul_of_nonneg_right h2 (by omega)
  have q3 : (a * h) * d < (e * b) * d := by
    have e1 : (a * h) * d = (a * d) * h := by rw [Int.mul_assoc, Int.mul_comm h d, ← Int.mul_assoc]
    have e2 : (c * b) * h = (c * h) * b := by rw [Int.mul_assoc, Int.mul_comm b h, ← Int.mul_assoc]
    have e3 : (e * d) * b = (e * b) * d := by rw [Int.mul_assoc, Int.mul_comm d b, ← Int.mul_assoc]
    omega
  exact Int.lt_of_mul_lt_mul_right q3 (by omega)
/-- is there -/
def zqth2 (g : Nat → Nat → Int) (i : Nat) : Prop := i < 60 ∧ g 1166 i = 1
theorem zrlt_iff {i j : Nat} : zrlt g i j = true ↔ (g 1167 i = g 1167 j ∧ g 1169 i * g 1170 j < g 1169 j * g 1170 i) ∨ g 1167 i < g 1167 j := by
  unfold zrlt zltb
  by_cases h : g 1167 i = g 1167 j
  · rw [if_pos h, decide_eq_true_iff]
    exact ⟨fun q => Or.inl ⟨h, q⟩, fun q => q.elim (fun q => q.2) (fun q => absurd q (by omega))⟩
  · rw [if_neg h, decide_eq_true_iff]
    exact ⟨fun q => Or.inr q, fun q => q.elim (fun q => absurd q.1 h) id⟩
theorem zrlt_tr (h : zqK n f g) (a b c : Nat) (ha : zqth2 g a) (hb : zqth2 g b) (hc : zqth2 g c) (h1 : zrlt g a b = true) (h2 : zrlt g b c = true) : zrlt g a c = true := by
  rw [zrlt_iff] at *
  obtain ⟨_, _, _, ⟨ka, _⟩, _⟩ := h.1 a ha.1 ha.2
  obtain ⟨_, _, _, ⟨kb, _⟩, _⟩ := h.1 b hb.1 hb.2
  obtain ⟨_, _, _, ⟨kc, _⟩, _⟩ := h.1 c hc.1 hc.2
  rcases h1 with ⟨e1, h1⟩ | h1 <;> rcases h2 with ⟨e2, h2⟩ | h2
  · exact Or.inl ⟨by omega, zfr_tr ka kb kc (by omega) h2⟩
  · exact Or.inr (by omega)
  · exact Or.inr (by omega)
  · exact Or.inr (by omega)
theorem zrlt_tot (h : zqK n f g) (a b : Nat) (ha : zqth2 g a) (hb : zqth2 g b) (hab : a ≠ b) : zrlt g a b = true ∨ zrlt g b a = true := by
  rw [zrlt_iff, zrlt_iff]
  by_cases e : g 1167 a = g 1167 b
  · have := h.2 a b ha.1 hb.1 hab ha.2 hb.2 e
    omega
  · omega
theorem zrlt_as {a b : Nat} (h1 : zrlt g a b = true) (h2 : zrlt g b a = true) : False := by
  rw [zrlt_iff] at *
  omega
/-- the class's order, told by the reference's -/
theorem zqlt (hA : zqA f g) (hK : zqK n f g) {a b : Nat} (ha : zqth2 g a) (hb : zqth2 g b) : zclt f a b = zrlt g a b := by
  obtain ⟨a1, _⟩ := hA a ha.1 ha.2
  obtain ⟨b1, _⟩ := hA b hb.1 hb.2
  obtain ⟨a3, a4, _⟩ := hK.1 a ha.1 ha.2
  obtain ⟨b3, b4, _⟩ := hK.1 b hb.1 hb.2
  unfold zclt zrlt
  rw [a1, a3, a4, b1, b3, b4]
end ZORDERQ
