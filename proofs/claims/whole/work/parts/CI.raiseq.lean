/-! raised, in both programs: neighbours and places -/
section ZRAISEQ
variable {n : Nat} {f g f' g' : Nat → Nat → Int} {s p : Nat}
theorem zqpl (v : Nat) (hv : zqth2 g v) : ∃ q, q < zrct g ∧ zrod g q = (v : Int) := zord_mem 60 v hv.1 (decide_eq_true hv.2)
theorem zqvl {q : Nat} (h : q < zrct g) : ∃ v : Nat, zqth2 g v ∧ zrod g q = (v : Int) := by
  obtain ⟨v, v1, v2, v3⟩ := zrod_v h
  exact ⟨v, ⟨v1, v2⟩, v3⟩
theorem zqso (hK : zqK n f g) {q r : Nat} (h1 : q < r) (h2 : r < zrct g) : zrlt g (zrod g q).toNat (zrod g r).toNat = true :=
  zord_sorted (P := zqth2 g) (zrlt_tr hK) (zrlt_tot hK) 60 (fun v hv ht => ⟨hv, of_decide_eq_true ht⟩) q r h1 h2
/-- who stands before whom -/
theorem zqbf (hK : zqK n f g) {q r v w : Nat} (hq : q < zrct g) (hr : r < zrct g) (ev : zrod g q = (v : Int)) (ew : zrod g r = (w : Int)) (h : zrlt g v w = true) : q < r := by
  by_cases c : q < r
  · exact c
  · by_cases e : q = r
    · subst e
      rw [ev] at ew
      have : v = w := by omega
      subst this
      exact (zrlt_as h h).elim
    · have := zqso hK (show r < q by omega) hq
      rw [ev, ew, Int.toNat_natCast, Int.toNat_natCast] at this
      exact (zrlt_as h this).elim
theorem zqly (hK : zqK n f g) {q r v w : Nat} (hqr : q ≤ r) (hr : r < zrct g) (ev : zrod g q = (v : Int)) (ew : zrod g r = (w : Int)) : g 1167 v ≤ g 1167 w := by
  by_cases e : q = r
  · subst e
    rw [ev] at ew
    have : v = w := by omega
    subst this
    exact Int.le_refl _
  · have := zqso hK (show q < r by omega) hr
    rw [ev, ew, Int.toNat_natCast, Int.toNat_natCast, zrlt_iff] at this
    omega
theorem zqin (h : zqR n f g) {l : Int} {i : Nat} (hi : i < 60) : zinl f l i = true ↔ (zqth2 g i ∧ g 1167 i = l) := by
  rw [zinl_iff, zqR_t h hi]
  constructor
  · rintro ⟨a, b⟩
    exact ⟨⟨hi, a⟩, by rw [← (h.2.1 i hi a).1]; exact b⟩
  · rintro ⟨⟨_, a⟩, b⟩
    exact ⟨a, by rw [(h.2.1 i hi a).1]; exact b⟩
theorem zqab (h : zqR n f g) (hs : zqth2 g s) {i : Nat} (hi : i < 60) : zcab f s i = true ↔ (zqth2 g i ∧ g 1167 i = g 1167 s ∧ zrlt g s i = true) := by
  unfold zcab
  rw [Bool.and_eq_true, zqin h hi, (h.2.1 s hs.1 hs.2).1]
  constructor
  · rintro ⟨⟨a, b⟩, c⟩
    rw [zqlt h.2.1 h.2.2.1 hs a] at c
    exact ⟨a, b, c⟩
  · rintro ⟨a, b, c⟩
    exact ⟨⟨a, b⟩, by rw [zqlt h.2.1 h.2.2.1 hs a]; exact c⟩
theorem zqbl (h : zqR n f g) (hs : zqth2 g s) {i : Nat} (hi : i < 60) : zcbl f s i = true ↔ (zqth2 g i ∧ g 1167 i = g 1167 s ∧ zrlt g i s = true) := by
  unfold zcbl
  rw [Bool.and_eq_true, zqin h hi, (h.2.1 s hs.1 hs.2).1]
  constructor
  · rintro ⟨⟨a, b⟩, c⟩
    rw [zqlt h.2.1 h.2.2.1 a hs] at c
    exact ⟨a, b, c⟩
  · rintro ⟨a, b, c⟩
    exact ⟨⟨a, b⟩, by rw [zqlt h.2.1 h.2.2.1 a hs]; exact c⟩
theorem zclt_tr (h : zqR n f g) (a b c : Nat) (ha : zqth2 g a) (hb : zqth2 g b) (hc : zqth2 g c) (h1 : zclt f a b = true) (h2 : zclt f b c = true) : zclt f a c = true := by
  rw [zqlt h.2.1 h.2.2.1 ha hb] at h1
  rw [zqlt h.2.1 h.2.2.1 hb hc] at h2
  rw [zqlt h.2.1 h.2.2.1 ha hc]
  exact zrlt_tr h.2.2.1 a b c ha hb hc h1 h2
theorem zclt_tot (h : zqR n f g) (a b : Nat) (ha : zqth2 g a) (hb : zqth2 g b) (hab : a ≠ b) : zclt f a b = true ∨ zclt f b a = true := by
  rw [zqlt h.2.1 h.2.2.1 ha hb, zqlt h.2.1 h.2.2.1 hb ha]
  exact zrlt_tot h.2.2.1 a b ha hb hab
/-- the next above -/
theorem zqup (h : zqR n f g) (hs : zqth2 g s) (hp : p < zrct g) (ep : zrod g p = (s : Int)) : zabv f s = zrbs g p 1 := by
  have hK := h.2.2.1
  have key := zbest_b (cand := zcab f s) (better := zclt f) (P := zqth2 g) (zclt_tr h) (zclt_tot h) 60 (fun v hv hc => ((zqab h hs hv).mp hc).1)
  unfold zabv zrbs
  rw [ep, Int.toNat_natCast]
  rcases key with ⟨e, no⟩ | ⟨k, k1, k2, e, k3⟩
  · rw [e, if_neg (fun c => ?_)]
    obtain ⟨c1, c2, c3⟩ := c
    obtain ⟨v, v1, v2⟩ := zqvl (g := g) (q := ((p : Int) + 1).toNat) (by omega)
    rw [v2, Int.toNat_natCast] at c3
    have lt := zqso hK (show p < ((p : Int) + 1).toNat by omega) (by omega)
    rw [ep, v2, Int.toNat_natCast, Int.toNat_natCast] at lt
    have := no v v1.1
    rw [(zqab h hs v1.1).mpr ⟨v1, c3, lt⟩] at this
    exact absurd this (by decide)
  · obtain ⟨t1, t2, t3⟩ := (zqab h hs k1).mp k2
    obtain ⟨q, q1, q2⟩ := zqpl k t1
    have pq := zqbf hK hp q1 ep q2 t3
    obtain ⟨v, v1, v2⟩ := zqvl (g := g) (q := ((p : Int) + 1).toNat) (by omega)
    have l1 := zqly hK (show p ≤ ((p : Int) + 1).toNat by omega) (by omega) ep v2
    have l2 := zqly hK (show ((p : Int) + 1).toNat ≤ q by omega) q1 v2 q2
    have lt := zqso hK (show p < ((p : Int) + 1).toNat by omega) (by omega)
    rw [ep, v2, Int.toNat_natCast, Int.toNat_natCast] at lt
    have cv : zcab f s v = true := (zqab h hs v1.1).mpr ⟨v1, by omega, lt⟩
    have vk : v = k := by
      by_cases e2 : v = k
      · exact e2
      · have b := k3 v v1.1 cv e2
        rw [zqlt h.2.1 hK t1 v1] at b
        have := zqbf hK q1 (by omega) q2 v2 b
        omega
    rw [e, if_pos ⟨by omega, by omega, by rw [v2, Int.toNat_natCast]; omega⟩, v2, vk]
/-- the next below -/
theorem zqdn (h : zqR n f g) (hs : zqth2 g s) (hp : p < zrct g) (ep : zrod g p = (s : Int)) : zblw f s = zrbs g p (-1) := by
  have hK := h.2.2.1
  have key := zbest_b (cand := zcbl f s) (better := fun i v => zclt f v i) (P := zqth2 g) (fun a b c ha hb hc h1 h2 => zclt_tr h c b a hc hb ha h2 h1) (fun a b ha hb hab => (zclt_tot h a b ha hb hab).symm) 60 (fun v hv hc => ((zqbl h hs hv).mp hc).1)
  unfold zblw zrbs
  rw [ep, Int.toNat_natCast]
  rcases key with ⟨e, no⟩ | ⟨k, k1, k2, e, k3⟩
  · rw [e, if_neg (fun c => ?_)]
    obtain ⟨c1, c2, c3⟩ := c
    obtain ⟨v, v1, v2⟩ := zqvl (g := g) (q := ((p : Int) + -1).toNat) (by omega)
    rw [v2, Int.toNat_natCast] at c3
    have lt := zqso hK (show ((p : Int) + -1).toNat < p by omega) hp
    rw [ep, v2, Int.toNat_natCast, Int.toNat_natCast] at lt
    have := no v v1.1
    rw [(zqbl h hs v1.1).mpr ⟨v1, c3, lt⟩] at this
    exact absurd this (by decide)
  · obtain ⟨t1, t2, t3⟩ := (zqbl h hs k1).mp k2
    obtain ⟨q, q1, q2⟩ := zqpl k t1
    have pq := zqbf hK q1 hp q2 ep t3
    obtain ⟨v, v1, v2⟩ := zqvl (g := g) (q := ((p : Int) + -1).toNat) (by omega)
    have l1 := zqly hK (show q ≤ ((p : Int) + -1).toNat by omega) (by omega) q2 v2
    have l2 := zqly hK (show ((p : Int) + -1).toNat ≤ p by omega) hp v2 ep
    have lt := zqso hK (show ((p : Int) + -1).toNat < p by omega) hp
    rw [ep, v2, Int.toNat_natCast, Int.toNat_natCast] at lt
    have cv : zcbl f s v = true := (zqbl h hs v1.1).mpr ⟨v1, by omega, lt⟩
    have vk : v = k := by
      by_cases e2 : v = k
      · exact e2
      · have b := k3 v v1.1 cv e2
        rw [zqlt h.2.1 hK v1 t1] at b
        have := zqbf hK (by omega) q1 v2 q2 b
        omega
    rw [e, if_pos ⟨by omega, by omega, by rw [v2, Int.toNat_natCast]; omega⟩, v2, vk]
theorem zrlq_p : ∀ q : Nat, zrlq g q ≤ q ∧ g 1167 (zrod g (zrlq g q)).toNat = g 1167 (zrod g q).toNat ∧ (zrlq g q = 0 ∨ g 1167 (zrod g (zrlq g q - 1)).toNat ≠ g 1167 (zrod g (zrlq g q)).toNat)
  | 0 => ⟨Nat.le_refl _, rfl, Or.inl rfl⟩
  | q + 1 => by
    obtain ⟨h1, h2, h3⟩ := zrlq_p q
    have e : zrlq g (q + 1) = if g 1167 (zrod g q).toNat = g 1167 (zrod g (q + 1)).toNat then zrlq g q else q + 1 := rfl
    rw [e]
    by_cases c : g 1167 (zrod g q).toNat = g 1167 (zrod g (q + 1)).toNat
    · rw [if_pos c]
      exact ⟨by omega, by rw [h2]; exact c, h3⟩
    · rw [if_neg c]
      exact ⟨Nat.le_refl _, rfl, Or.inr c⟩
/-- the lowest of a layer -/
theorem zqlo (h : zqR n f g) {q : Nat} (hq : q < zrct g) {l : Int} (hl : g 1167 (zrod g q).toNat = l) : zlow f l = zrod g (zrlq g q) := by
  have hK := h.2.2.1
  obtain ⟨z1, z2, z3⟩ := zrlq_p (g := g) q
  obtain ⟨v, v1, v2⟩ := zqvl (g := g) (q := zrlq g q) (by omega)
  rw [v2, Int.toNat_natCast] at z2
  have cv : zinl f l v = true := (zqin h v1.1).mpr ⟨v1, by omega⟩
  have key := zbest_b (cand := zinl f l) (better := zclt f) (P := zqth2 g) (zclt_tr h) (zclt_tot h) 60 (fun v hv hc => ((zqin h hv).mp hc).1)
  unfold zlow
  rcases key with ⟨e, no⟩ | ⟨k, k1, k2, e, k3⟩
  · rw [no v v1.1] at cv
    exact absurd cv (by decide)
  · obtain ⟨t1, t2⟩ := (zqin h k1).mp k2
    obtain ⟨r, r1, r2⟩ := zqpl k t1
    rw [e, v2]
    by_cases e2 : v = k
    · rw [e2]
    · have b := k3 v v1.1 cv e2
      rw [zqlt h.2.1 hK t1 v1] at b
      have rz := zqbf hK r1 (by omega) r2 v2 b
      rcases z3 with z3 | z3
      · omega
      · obtain ⟨u, u1, u2⟩ := zqvl (g := g) (q := zrlq g q - 1) (by omega)
        have l1 := zqly hK (show r ≤ zrlq g q - 1 by omega) (by omega) r2 u2
        have l2 := zqly hK (show zrlq g q - 1 ≤ zrlq g q by omega) (by omega) u2 v2
        rw [u2, v2, Int.toNat_natCast, Int.toNat_natCast] at z3
        omega
-- one key anew
theorem zfk_sp {a b c d : Int} : ∀ (k m : Nat), zfk a b c d k m = 0 ∨ (m ≤ zfk a b c d k m ∧ zfk a b c d k m < m + k ∧ (a * (zfk a b c d k m : Int) / b + 1) * d < c * (zfk a b c d k m : Int))
  | 0, _ => Or.inl rfl
  | k + 1, m => by
    rw [zfk_s]
    by_cases h : (a * (m : Int) / b + 1) * d < c * (m : Int)
    · rw [if_pos h]
      exact Or.inr ⟨Nat.le_refl _, by omega, h⟩
    · rw [if_neg h]
      rcases zfk_sp (a := a) (b := b) (c := c) (d := d) k (m + 1) with e | ⟨e1, e2, e3⟩
      · exact Or.inl e
      · exact Or.inr ⟨by omega, by omega, e3⟩
theorem zqQ_key (h : zqR n f g) (hn : n < 60) (hs : zqth2 g s) {t b : Int} (ht : 1 ≤ t) (hb : 1 ≤ b ∧ b ≤ 50) (hu : t ≤ (n : Int) * b) (hd : ∀ i, zqth2 g i → i ≠ s → g 1167 i = g 1167 s → g 1169 i * b ≠ t * g 1170 i) : zqR n (zu2 (zu2 f (14 + 14 * s) 3 t) (14 + 14 * s) 4 b) (zu2 (zu2 g 1169 s t) 1170 s b) := by
  have hs6 := hs.1
  have n50 : (n : Int) * b ≤ 60 * 50 := Int.mul_le_mul (by omega) hb.2 (by omega) (by omega)
  obtain ⟨T, A, K, Lr, G, V, D, S, J⟩ := h
  generalize ef : zu2 (zu2 f (14 + 14 * s) 3 t) (14 + 14 * s) 4 b = f'
  generalize eg : zu2 (zu2 g 1169 s t) 1170 s b = g'
  have hF : ∀ b i, (b ≠ 14 + 14 * s ∨ (i ≠ 3 ∧ i ≠ 4)) → f' b i = f b i := fun b i hb => by rw [← ef, zu2_sj (by omega), zu2_sj (by omega)]
  have hG : ∀ b i, ((b ≠ 1169 ∧ b ≠ 1170) ∨ i ≠ s) → g' b i = g b i := fun b i hb => by rw [← eg, zu2_sj (by omega), zu2_sj (by omega)]
  have s3 : f' (14 + 14 * s) 3 = t := by rw [← ef, zu2_i (by omega), zu2_eq]
  have s4 : f' (14 + 14 * s) 4 = b := by rw [← ef, zu2_eq]
  have r3 : g' 1169 s = t := by rw [← eg, zu2_a (by omega), zu2_eq]
  have r4 : g' 1170 s = b := by rw [← eg, zu2_eq]
  have h0 : ∀ i, i < 60 → g' 1166 i = g 1166 i := fun i hi => hG _ _ (by omega)
  have h00 : ∀ i, i < 60 → g' 1166 i = 1 → g 1166 i = 1 := fun i hi t => by rw [← h0 i hi]; exact t
  have hk : zqK n f' g' := by
    refine ⟨fun i hi t1 => ?_, fun i j hi hj hij t1 t2 tl => ?_⟩
    · by_cases e : i = s
      · subst e
        rw [s3, s4, r3, r4]
        exact ⟨rfl, rfl, ht, hb, hu⟩
      · rw [hF _ _ (by omega), hF _ _ (by omega), hG 1169 _ (by omega), hG 1170 _ (by omega)]
        exact K.1 i hi (h00 i hi t1)
    · rw [hG 1167 i (by omega), hG 1167 j (by omega)] at tl
      have ti := h00 i hi t1
      have tj := h00 j hj t2
      by_cases e : i = s
      · subst e
        have q := hd j ⟨hj, tj⟩ (fun e => hij e.symm) tl.symm
        rw [r3, r4, hG 1169 j (by omega), hG 1170 j (by omega)]
        exact fun q2 => q q2.symm
      · by_cases e2 : j = s
        · subst e2
          have q := hd i ⟨hi, ti⟩ e tl
          rw [r3, r4, hG 1169 i (by omega), hG 1170 i (by omega)]
          exact q
        · rw [hG 1169 i (by omega), hG 1170 i (by omega), hG 1169 j (by omega), hG 1170 j (by omega)]
          exact K.2 i j hi hj hij ti tj tl
  have hj : zqJ f' := by
    obtain ⟨J1, J2, J3, J4⟩ := J
    refine ⟨fun i hi => ?_, fun i hi => ?_, ⟨fun i hi => ?_, fun i hi => ?_⟩, fun i hi => ?_⟩
    · unfold zKy
      by_cases e : i = s
      · subst e; rw [s3, s4]; omega
      · rw [hF _ 3 (by omega), hF _ 4 (by omega)]
        exact J1 i hi
    · unfold zld
      rw [hF _ _ (by omega)]; exact J2 i hi
    · rw [hF _ _ (by omega)]; exact J3.1 i hi
    · rw [hF _ _ (by omega)]; exact J3.2 i hi
    · rw [hF _ _ (by omega)]; exact J4 i hi
  exact ⟨zqT_c (fun i hi => hF _ _ (by omega)) h0 T, zqA_c h00 (fun i hi _ => ⟨hF _ _ (by omega), hF _ _ (by omega), hF _ _ (by omega)⟩) (fun i hi _ => ⟨hG _ _ (by omega), hG _ _ (by omega), hG _ _ (by omega)⟩) A, hk, zqL_c h0 (fun i hi => ⟨hF _ _ (by omega), hF _ _ (by omega)⟩) (fun i hi => ⟨hG _ _ (by omega), hG _ _ (by omega)⟩) Lr, zqG_c (Nat.le_refl _) T.1 h0 (fun i hi => ⟨hF _ _ (by omega), hF _ _ (by omega)⟩) (fun i hi => hG _ _ (by omega)) G, zqV_c (fun i hi => hF _ _ (by omega)) (fun i hi => hG _ _ (by omega)) (fun i hi => ⟨hG _ _ (by omega), hG _ _ (by omega)⟩) V, zqD_c (hF _ _ (by omega)) (hG _ _ (by omega)) (fun i hi => ⟨hF _ _ (by omega), hF _ _ (by omega)⟩) (fun i hi => ⟨hG _ _ (by omega), hG _ _ (by omega)⟩) D, zqF_c h00 (fun k hk _ b j h1 h2 h3 => hF _ _ (by omega)) (fun k hk _ => ⟨hG _ _ (by omega), hG _ _ (by omega), fun p _ => hG _ _ (by omega), fun j _ _ => ⟨hG _ _ (by omega), hG _ _ (by omega)⟩⟩) S, hj⟩
end ZRAISEQ
