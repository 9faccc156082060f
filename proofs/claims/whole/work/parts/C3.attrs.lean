/-! painted, shown, untied, erased -/
section ZATTRS
variable {n : Nat} {f g f' g' : Nat → Nat → Int} {s : Nat}
/-- a slot elsewhere -/
theorem zu2_sj {f : Nat → Nat → Int} {a j : Nat} {x : Int} {b i : Nat} (h : b ≠ a ∨ i ≠ j) : zu2 f a j x b i = f b i := if_neg (fun h2 => h.elim (fun h3 => h3 h2.1) (fun h3 => h3 h2.2))
theorem zqQ_paint (h : zqR n f g) (hs : s < 60) {c v : Int} (hc : 1 ≤ c ∧ c ≤ 9) : zqR n (zu2 f (14 + 14 * s) 2 c) (zu2 (zu2 g 1153 36 v) 1168 s c) := by
  obtain ⟨T, A, K, Lr, G, V, D, S, J⟩ := h
  generalize ef : zu2 f (14 + 14 * s) 2 c = f'
  generalize eg : zu2 (zu2 g 1153 36 v) 1168 s c = g'
  have hF : ∀ b i, (b ≠ 14 + 14 * s ∨ i ≠ 2) → f' b i = f b i := fun b i hb => by rw [← ef]; exact zu2_sj hb
  have hG : ∀ b i, ((b ≠ 1153 ∨ i ≠ 36) ∧ (b ≠ 1168 ∨ i ≠ s)) → g' b i = g b i := fun b i hb => by rw [← eg, zu2_sj hb.2, zu2_sj hb.1]
  have h0 : ∀ i, i < 60 → g' 1166 i = g 1166 i := fun i hi => hG _ _ (by omega)
  have h00 : ∀ i, i < 60 → g' 1166 i = 1 → g 1166 i = 1 := fun i hi t => by rw [← h0 i hi]; exact t
  refine ⟨zqT_c (fun i hi => hF _ _ (by omega)) h0 T, fun i hi t2 => ?_, zqK_c h00 (fun i hi _ => ⟨hF _ _ (by omega), hF _ _ (by omega)⟩) (fun i hi _ => ⟨hG _ _ (by omega), hG _ _ (by omega), hG _ _ (by omega)⟩) K, zqL_c h0 (fun i hi => ⟨hF _ _ (by omega), hF _ _ (by omega)⟩) (fun i hi => ⟨hG _ _ (by omega), hG _ _ (by omega)⟩) Lr, zqG_c (Nat.le_refl _) T.1 h0 (fun i hi => ⟨hF _ _ (by omega), hF _ _ (by omega)⟩) (fun i hi => hG _ _ (by omega)) G, ⟨fun l hl => by rw [hF _ _ (by omega), hG _ _ (by omega)]; exact V.1 l hl, fun i hi => ?_⟩, zqD_c (hF _ _ (by omega)) (hG _ _ (by omega)) (fun i hi => ⟨hF _ _ (by omega), hF _ _ (by omega)⟩) (fun i hi => ⟨hG _ _ (by omega), hG _ _ (by omega)⟩) D, zqF_c h00 (fun k hk _ b j h1 h2 h3 => hF _ _ (by omega)) (fun k hk _ => ⟨hG _ _ (by omega), hG _ _ (by omega), fun p _ => hG _ _ (by omega), fun j _ _ => ⟨hG _ _ (by omega), hG _ _ (by omega)⟩⟩) S, zqJ_c (fun i hi => ⟨hF _ _ (by omega), hF _ _ (by omega), hF _ _ (by omega), hF _ _ (by omega), hF _ _ (by omega)⟩) (fun i hi => by rw [hF _ _ (by omega)]; exact J.2.2.2 i hi) J⟩
  rotate_left
  · rw [hG 1167 i (by omega)]
    refine ⟨(V.2 i hi).1, ?_⟩
    by_cases e : i = s
    · subst e
      rw [← eg, zu2_eq]
      omega
    · rw [hG 1168 i (by omega)]
      exact (V.2 i hi).2
  obtain ⟨a1, a2, a3, a4, a5⟩ := A i hi (h00 i hi t2)
  rw [hF _ 1 (by omega), hF _ 5 (by omega), hG 1167 _ (by omega), hG 1171 _ (by omega)]
  by_cases e : i = s
  · subst e
    rw [← ef, ← eg, zu2_eq, zu2_eq]
    exact ⟨a1, rfl, a3, a4, hc⟩
  · rw [hF _ _ (by omega), hG _ _ (by omega)]
    exact ⟨a1, a2, a3, a4, a5⟩
theorem zqQ_show (h : zqR n f g) {l : Nat} {u v : Int} (hu : u = 0 ∨ u = 1) : zqR n (zu2 f 6 l (if u = 0 then 1 else 0)) (zu2 (zu2 g 1153 36 v) 1181 l (if u = 1 then 1 else 0)) := by
  obtain ⟨T, A, K, Lr, G, V, D, S, J⟩ := h
  have hxy : ((if u = 1 then (1 : Int) else 0) = 0 ∨ (if u = 1 then (1 : Int) else 0) = 1) ∧ (if u = 0 then (1 : Int) else 0) = 1 - (if u = 1 then (1 : Int) else 0) := by rcases hu with e | e <;> subst e <;> decide
  generalize (if u = 0 then (1 : Int) else 0) = x at *
  generalize (if u = 1 then (1 : Int) else 0) = y at *
  generalize ef : zu2 f 6 l x = f'
  generalize eg : zu2 (zu2 g 1153 36 v) 1181 l y = g'
  have hF : ∀ b i, (b ≠ 6 ∨ i ≠ l) → f' b i = f b i := fun b i hb => by rw [← ef]; exact zu2_sj hb
  have hG : ∀ b i, ((b ≠ 1153 ∨ i ≠ 36) ∧ (b ≠ 1181 ∨ i ≠ l)) → g' b i = g b i := fun b i hb => by rw [← eg, zu2_sj hb.2, zu2_sj hb.1]
  have h0 : ∀ i, i < 60 → g' 1166 i = g 1166 i := fun i hi => hG _ _ (by omega)
  have h00 : ∀ i, i < 60 → g' 1166 i = 1 → g 1166 i = 1 := fun i hi t => by rw [← h0 i hi]; exact t
  refine ⟨zqT_c (fun i hi => hF _ _ (by omega)) h0 T, zqA_c h00 (fun i hi _ => ⟨hF _ _ (by omega), hF _ _ (by omega), hF _ _ (by omega)⟩) (fun i hi _ => ⟨hG _ _ (by omega), hG _ _ (by omega), hG _ _ (by omega)⟩) A, zqK_c h00 (fun i hi _ => ⟨hF _ _ (by omega), hF _ _ (by omega)⟩) (fun i hi _ => ⟨hG _ _ (by omega), hG _ _ (by omega), hG _ _ (by omega)⟩) K, zqL_c h0 (fun i hi => ⟨hF _ _ (by omega), hF _ _ (by omega)⟩) (fun i hi => ⟨hG _ _ (by omega), hG _ _ (by omega)⟩) Lr, zqG_c (Nat.le_refl _) T.1 h0 (fun i hi => ⟨hF _ _ (by omega), hF _ _ (by omega)⟩) (fun i hi => hG _ _ (by omega)) G, ⟨fun i hi => ?_, fun i hi => by rw [hG 1167 i (by omega), hG 1168 i (by omega)]; exact V.2 i hi⟩, zqD_c (hF _ _ (by omega)) (hG _ _ (by omega)) (fun i hi => ⟨hF _ _ (by omega), hF _ _ (by omega)⟩) (fun i hi => ⟨hG _ _ (by omega), hG _ _ (by omega)⟩) D, zqF_c h00 (fun k hk _ b j h1 h2 h3 => hF _ _ (by omega)) (fun k hk _ => ⟨hG _ _ (by omega), hG _ _ (by omega), fun p _ => hG _ _ (by omega), fun j _ _ => ⟨hG _ _ (by omega), hG _ _ (by omega)⟩⟩) S, zqJ_c (fun i hi => ⟨hF _ _ (by omega), hF _ _ (by omega), hF _ _ (by omega), hF _ _ (by omega), hF _ _ (by omega)⟩) (fun i hi => by rw [hF _ _ (by omega)]; exact J.2.2.2 i hi) J⟩
  by_cases e : i = l
  · subst e
    rw [← ef, ← eg, zu2_eq, zu2_eq]
    exact hxy
  · rw [hF _ _ (by omega), hG _ _ (by omega)]
    exact V.1 i hi
/-- a chain that loses leaders still ends -/
theorem zrne_d {u v : Nat → Int} (hb : ∀ i, i < 60 → -1 ≤ u i ∧ u i < 60) (he : ∀ i, i < 60 → v i = u i ∨ v i = -1) : ∀ (k : Nat) (x : Int), (-1 ≤ x ∧ x < 60) → zrne u k x → zrne v (k + 1) x ∧ (k ≠ 0 → zrne v k x)
  | 0, _, _, h => h.elim
  | k + 1, x, hx, h => by
    have key : zrne v (k + 1) x := by
      rcases h with h | h
      · exact Or.inl h
      · by_cases h1 : x = -1
        · exact Or.inl h1
        · have hux := hb x.toNat (by omega)
          obtain ⟨q1, q2⟩ := zrne_d hb he k _ hux h
          refine Or.inr ?_
          have k0 : k ≠ 0 := fun h0 => by subst h0; exact h.elim
          rcases he x.toNat (by omega) with e | e <;> rw [e]
          · exact q2 k0
          · cases k with
            | zero => exact absurd rfl k0
            | succ k => exact Or.inl rfl
    refine ⟨?_, fun _ => key⟩
    have mono : ∀ (m : Nat) (y : Int), zrne v m y → zrne v (m + 1) y := by
      intro m
      induction m with
      | zero => exact fun y h => h.elim
      | succ m ih =>
        intro y hy
        rcases hy with hy | hy
        · exact Or.inl hy
        · exact Or.inr (ih _ hy)
    exact mono _ _ key
/-- the parts that ties, and who is there, bear upon -/
theorem zqQ_untie (h : zqR n f g) (hs : s < 60) {v : Int} : zqR n (zu2 (zu2 f (14 + 14 * s) 6 (-1)) (14 + 14 * s) 7 (-1)) (zu2 (zu2 (zu2 g 1153 36 v) 1172 s (-1)) 1173 s (-1)) := by
  obtain ⟨T, A, K, Lr, G, V, D, S, J⟩ := h
  generalize ef : zu2 (zu2 f (14 + 14 * s) 6 (-1)) (14 + 14 * s) 7 (-1) = f'
  generalize eg : zu2 (zu2 (zu2 g 1153 36 v) 1172 s (-1)) 1173 s (-1) = g'
  have hF : ∀ b i, (b ≠ 14 + 14 * s ∨ (i ≠ 6 ∧ i ≠ 7)) → f' b i = f b i := fun b i hb => by rw [← ef, zu2_sj (by omega), zu2_sj (by omega)]
  have hG : ∀ b i, ((b ≠ 1153 ∨ i ≠ 36) ∧ ((b ≠ 1172 ∧ b ≠ 1173) ∨ i ≠ s)) → g' b i = g b i := fun b i hb => by rw [← eg, zu2_sj (by omega), zu2_sj (by omega), zu2_sj (by omega)]
  have f6 : f' (14 + 14 * s) 6 = -1 := by rw [← ef, zu2_i (by omega), zu2_eq]
  have f7 : f' (14 + 14 * s) 7 = -1 := by rw [← ef, zu2_eq]
  have g2 : g' 1172 s = -1 := by rw [← eg, zu2_a (by omega), zu2_eq]
  have g3 : g' 1173 s = -1 := by rw [← eg, zu2_eq]
  have h0 : ∀ i, i < 60 → g' 1166 i = g 1166 i := fun i hi => hG _ _ (by omega)
  have h00 : ∀ i, i < 60 → g' 1166 i = 1 → g 1166 i = 1 := fun i hi t => by rw [← h0 i hi]; exact t
  have hj : zqJ f' := by
    obtain ⟨J1, J2, J3, J4⟩ := J
    refine ⟨fun i hi => ?_, fun i hi => ?_, ⟨fun i hi => ?_, fun i hi => ?_⟩, fun i hi => ?_⟩
    · unfold zKy
      rw [hF _ 3 (by omega), hF _ 4 (by omega)]
      exact J1 i hi
    · unfold zld
      by_cases e : i = s
      · subst e; rw [f6]; omega
      · rw [hF _ _ (by omega)]; exact J2 i hi
    · rw [hF _ _ (by omega)]; exact J3.1 i hi
    · rw [hF _ _ (by omega)]; exact J3.2 i hi
    · rw [hF _ _ (by omega)]; exact J4 i hi
  refine ⟨zqT_c (fun i hi => hF _ _ (by omega)) h0 T, zqA_c h00 (fun i hi _ => ⟨hF _ _ (by omega), hF _ _ (by omega), hF _ _ (by omega)⟩) (fun i hi _ => ⟨hG _ _ (by omega), hG _ _ (by omega), hG _ _ (by omega)⟩) A, zqK_c h00 (fun i hi _ => ⟨hF _ _ (by omega), hF _ _ (by omega)⟩) (fun i hi _ => ⟨hG _ _ (by omega), hG _ _ (by omega), hG _ _ (by omega)⟩) K, ⟨fun i hi t => ?_, fun i hi => ?_, fun i hi => ?_⟩, zqG_c (Nat.le_refl _) T.1 h0 (fun i hi => ⟨hF _ _ (by omega), hF _ _ (by omega)⟩) (fun i hi => hG _ _ (by omega)) G, zqV_c (fun i hi => hF _ _ (by omega)) (fun i hi => hG _ _ (by omega)) (fun i hi => ⟨hG _ _ (by omega), hG _ _ (by omega)⟩) V, zqD_c (hF _ _ (by omega)) (hG _ _ (by omega)) (fun i hi => ⟨hF _ _ (by omega), hF _ _ (by omega)⟩) (fun i hi => ⟨hG _ _ (by omega), hG _ _ (by omega)⟩) D, zqF_c h00 (fun k hk _ b j h1 h2 h3 => hF _ _ (by omega)) (fun k hk _ => ⟨hG _ _ (by omega), hG _ _ (by omega), fun p _ => hG _ _ (by omega), fun j _ _ => ⟨hG _ _ (by omega), hG _ _ (by omega)⟩⟩) S, hj⟩
  · by_cases e : i = s
    · subst e; rw [f6, f7, g2, g3]; exact ⟨rfl, rfl, fun _ => rfl⟩
    · rw [hF _ _ (by omega), hF _ _ (by omega), hG _ _ (by omega), hG _ _ (by omega)]
      exact Lr.1 i hi (h00 i hi t)
  · by_cases e : i = s
    · subst e; rw [g2]; omega
    · rw [hG 1172 i (by omega), h0 i hi]
      obtain ⟨a, b, c⟩ := Lr.2.1 i hi
      refine ⟨a, b, fun d => ?_⟩
      rw [h0 _ (by omega)]
      exact c d
  · have he : ∀ i, i < 60 → g' 1172 i = g 1172 i ∨ g' 1172 i = -1 := fun i hi => by
      by_cases e : i = s
      · subst e; exact Or.inr g2
      · exact Or.inl (hG _ _ (by omega))
    have hb : ∀ i, i < 60 → -1 ≤ g 1172 i ∧ g 1172 i < 60 := fun i hi => ⟨(Lr.2.1 i hi).1, (Lr.2.1 i hi).2.1⟩
    by_cases e : i = s
    · subst e; rw [g2]; exact Or.inl rfl
    · rw [hG 1172 i (by omega)]
      exact (zrne_d hb he 60 _ (hb i hi) (Lr.2.2 i hi)).2 (by omega)
/-- erased -/
theorem zqQ_erase (h : zqR n f g) (hs : s < 60) (ts : g 1166 s = 1) {v : Int} : zqR n (zu2 (zer f s 60) (14 + 14 * s) 0 0) (zu2 (zrera g s) 1153 36 v) := by
  obtain ⟨T, A, K, Lr, G, V, D, S, J⟩ := h
  generalize ef : zu2 (zer f s 60) (14 + 14 * s) 0 0 = f'
  generalize eg : zu2 (zrera g s) 1153 36 v = g'
  have hz : ∀ i, i < 60 → ∀ j, zer f s 60 (14 + 14 * i) j = if (j = 6 ∨ j = 7) ∧ f (14 + 14 * i) 0 = 1 ∧ f (14 + 14 * i) 6 = (s : Int) then -1 else f (14 + 14 * i) j := fun i hi j => by
    unfold zer
    by_cases c : (j = 6 ∨ j = 7) ∧ f (14 + 14 * i) 0 = 1 ∧ f (14 + 14 * i) 6 = (s : Int)
    · rw [if_pos c, if_pos ⟨c.1, by omega, by omega, by omega, c.2⟩]
    · rw [if_neg c, if_neg (fun c2 => c ⟨c2.1, c2.2.2.2.2⟩)]
  have hF : ∀ b i, ((b ≠ 14 + 14 * s ∨ i ≠ 0) ∧ (i ≠ 6 ∧ i ≠ 7 ∨ b < 14 ∨ (b - 14) % 14 ≠ 0)) → f' b i = f b i := fun b i hb => by
    rw [← ef, zu2_sj hb.1]
    unfold zer
    rw [if_neg (by omega)]
  have hG : ∀ b i, ((b ≠ 1153 ∨ i ≠ 36) ∧ (b ≠ 1166 ∨ i ≠ s) ∧ (b ≠ 1180 ∨ i ≠ s) ∧ b ≠ 1172 ∧ b ≠ 1173) → g' b i = g b i := fun b i hb => by
    rw [← eg, zu2_sj (by omega)]
    unfold zrera
    rw [zu2_sj (by omega), zu2_sj (by omega), zu2_sj (by omega)]
    unfold zrer
    rw [if_neg (by omega)]
  have gs : g' 1166 s = 0 := by
    rw [← eg, zu2_sj (by omega)]
    unfold zrera
    rw [zu2_sj (by omega), zu2_sj (by omega), zu2_eq]
  have gw : g' 1180 s = -1 := by
    rw [← eg, zu2_sj (by omega)]
    unfold zrera
    rw [zu2_eq]
  have gl : ∀ i, i < 60 → g' 1172 i = if i = s ∨ g 1172 i = (s : Int) then -1 else g 1172 i := fun i hi => by
    rw [← eg, zu2_sj (by omega)]
    unfold zrera
    rw [zu2_sj (by omega)]
    by_cases e : i = s
    · subst e
      rw [zu2_eq, if_pos (Or.inl rfl)]
    · rw [zu2_sj (by omega), zu2_sj (by omega)]
      unfold zrer
      by_cases c : g 1172 i = (s : Int)
      · rw [if_pos ⟨Or.inl rfl, hi, c⟩, if_pos (Or.inr c)]
      · rw [if_neg (fun c2 => c c2.2.2), if_neg (fun c2 => c2.elim e c)]
  have gk : ∀ i, i < 60 → i ≠ s → g' 1173 i = if g 1172 i = (s : Int) then -1 else g 1173 i := fun i hi e => by
    rw [← eg, zu2_sj (by omega)]
    unfold zrera
    rw [zu2_sj (by omega), zu2_sj (by omega), zu2_sj (by omega)]
    unfold zrer
    by_cases c : g 1172 i = (s : Int)
    · rw [if_pos ⟨Or.inr rfl, hi, c⟩, if_pos c]
    · rw [if_neg (fun c2 => c c2.2.2), if_neg c]
  have h00 : ∀ i, i < 60 → g' 1166 i = 1 → g 1166 i = 1 := fun i hi t => by
    by_cases e : i = s
    · subst e; rw [gs] at t; omega
    · rw [hG _ _ (by omega)] at t; exact t
  have hb : ∀ i, i < 60 → -1 ≤ g 1172 i ∧ g 1172 i < 60 := fun i hi => ⟨(Lr.2.1 i hi).1, (Lr.2.1 i hi).2.1⟩
  have fl : ∀ i, i < 60 → f' (14 + 14 * i) 6 = (if f (14 + 14 * i) 0 = 1 ∧ f (14 + 14 * i) 6 = (s : Int) then -1 else f (14 + 14 * i) 6) ∧ f' (14 + 14 * i) 7 = (if f (14 + 14 * i) 0 = 1 ∧ f (14 + 14 * i) 6 = (s : Int) then -1 else f (14 + 14 * i) 7) := fun i hi => by
    rw [← ef, zu2_sj (by omega), zu2_sj (by omega), hz i hi, hz i hi]
    by_cases c : f (14 + 14 * i) 0 = 1 ∧ f (14 + 14 * i) 6 = (s : Int)
    · rw [if_pos c, if_pos c, if_pos ⟨Or.inl rfl, c⟩, if_pos ⟨Or.inr rfl, c⟩]
      exact ⟨rfl, rfl⟩
    · rw [if_neg c, if_neg c, if_neg (fun c2 => c c2.2), if_neg (fun c2 => c c2.2)]
      exact ⟨rfl, rfl⟩
  have hj : zqJ f' := by
    obtain ⟨J1, J2, J3, J4⟩ := J
    refine ⟨fun i hi => ?_, fun i hi => ?_, ⟨fun i hi => ?_, fun i hi => ?_⟩, fun i hi => ?_⟩
    · unfold zKy
      rw [hF _ 3 (by omega), hF _ 4 (by omega)]
      exact J1 i hi
    · unfold zld
      rw [(fl i hi).1]
      have := J2 i hi
      unfold zld at this
      split <;> omega
    · rw [hF _ _ (by omega)]; exact J3.1 i hi
    · rw [hF _ _ (by omega)]; exact J3.2 i hi
    · rw [hF _ _ (by omega)]; exact J4 i hi
  have ht : zqT n f' g' := by
    refine ⟨T.1, fun i hi => ?_⟩
    obtain ⟨a, b, c⟩ := T.2 i hi
    by_cases e : i = s
    · subst e
      rw [gs, ← ef, zu2_eq]
      exact ⟨Or.inl rfl, rfl, fun h => absurd h (by omega)⟩
    · rw [hF _ _ (by omega), hG _ _ (by omega)]
      exact ⟨a, b, c⟩
  refine ⟨ht, zqA_c h00 (fun i hi _ => ⟨hF _ _ (by omega), hF _ _ (by omega), hF _ _ (by omega)⟩) (fun i hi _ => ⟨hG _ _ (by omega), hG _ _ (by omega), hG _ _ (by omega)⟩) A, zqK_c h00 (fun i hi _ => ⟨hF _ _ (by omega), hF _ _ (by omega)⟩) (fun i hi _ => ⟨hG _ _ (by omega), hG _ _ (by omega), hG _ _ (by omega)⟩) K, ⟨fun i hi t => ?_, fun i hi => ?_, fun i hi => ?_⟩, fun i hi => ?_, zqV_c (fun i hi => hF _ _ (by omega)) (fun i hi => hG _ _ (by omega)) (fun i hi => ⟨hG _ _ (by omega), hG _ _ (by omega)⟩) V, zqD_c (hF _ _ (by omega)) (hG _ _ (by omega)) (fun i hi => ⟨hF _ _ (by omega), hF _ _ (by omega)⟩) (fun i hi => ⟨hG _ _ (by omega), hG _ _ (by omega)⟩) D, zqF_c h00 (fun k hk _ b j h1 h2 h3 => hF _ _ (by omega)) (fun k hk _ => ⟨hG _ _ (by omega), hG _ _ (by omega), fun p _ => hG _ _ (by omega), fun j _ _ => ⟨hG _ _ (by omega), hG _ _ (by omega)⟩⟩) S, hj⟩
  · have e : i ≠ s := fun e => by subst e; rw [gs] at t; omega
    have t1 := h00 i hi t
    obtain ⟨a, b, b2⟩ := Lr.1 i hi t1
    rw [(fl i hi).1, (fl i hi).2, gl i hi, gk i hi e, a, b, (T.2 i hi).2.1]
    by_cases c : g 1172 i = (s : Int)
    · rw [if_pos ⟨t1, c⟩, if_pos (Or.inr c), if_pos ⟨t1, c⟩, if_pos c]
      exact ⟨rfl, rfl, fun _ => rfl⟩
    · rw [if_neg (fun c2 => c c2.2), if_neg (fun c2 => c2.elim e c), if_neg (fun c2 => c c2.2), if_neg c]
      exact ⟨rfl, rfl, b2⟩
  · rw [gl i hi]
    obtain ⟨a, b, c⟩ := Lr.2.1 i hi
    split
    · exact ⟨by omega, by omega, fun h => absurd h (by omega)⟩
    · next d =>
      refine ⟨a, b, fun p => ?_⟩
      rw [hG 1166 i (by omega), hG 1166 _ (by omega)]
      exact c p
  · have he : ∀ i, i < 60 → g' 1172 i = g 1172 i ∨ g' 1172 i = -1 := fun i hi => by
      rw [gl i hi]
      split
      · exact Or.inr rfl
      · exact Or.inl rfl
    rcases he i hi with e | e <;> rw [e]
    · exact (zrne_d hb he 60 _ (hb i hi) (Lr.2.2 i hi)).2 (by omega)
    · exact Or.inl rfl
  · obtain ⟨a, b, c⟩ := G i hi
    by_cases e : i = s
    · subst e
      rw [gs, gw]
      refine ⟨fun t => absurd t (by omega), fun _ => ?_, Or.inl rfl⟩
      rw [hF _ _ (by omega)]
      exact (a ts).2
    · rw [hG 1166 i (by omega), hG 1180 i (by omega), hF _ 8 (by omega), hF 7 i (by omega)]
      refine ⟨a, b, ?_⟩
      rcases c with c | ⟨c1, c2, c3⟩
      · exact Or.inl c
      · refine Or.inr ⟨c1, c2, ?_⟩
        by_cases e2 : (g 1180 i).toNat = s
        · rw [e2]; exact gs
        · rw [hG _ _ (by omega)]; exact c3
end ZATTRS
