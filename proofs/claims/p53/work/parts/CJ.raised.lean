section SG_CJ_raised
/-! raised, in both programs: keys between keys, a layer numbered anew -/
section ZRAISEDQ
variable {n : Nat} {f g f' g' : Nat → Nat → Int} {s p : Nat}
theorem zcnt_bd {q : Nat → Bool} {m : Nat} : ∀ k, (∀ i, i < k → q i = true → i < m) → zcnt q k ≤ m
  | 0, _ => Nat.zero_le _
  | k + 1, h => by
    have ih := zcnt_bd k (fun i hi => h i (by omega))
    have le := zcnt_le q k
    rw [zcnt_s]
    by_cases c : q k = true
    · rw [if_pos c]
      have := h k (by omega) c
      omega
    · rw [if_neg c]; exact ih
theorem zqctn (h : zqR n f g) : zrct g ≤ n := zcnt_bd 60 (fun i hi ht => (h.1.2 i hi).2.2 (of_decide_eq_true ht))
/-- between two keys there is room for this one -/
def zqB (g : Nat → Nat → Int) (s : Nat) (lo : Int) (hi : Nat) : Prop := ∀ i, zqth2 g i → i ≠ s → g 1167 i = g 1167 s → (lo ≠ -1 ∧ (i = lo.toNat ∨ zrlt g i lo.toNat = true)) ∨ i = hi ∨ zrlt g hi i = true
/-- those that a key comes between -/
def zqLH (g : Nat → Nat → Int) (s : Nat) (lo : Int) (hi : Nat) : Prop := (lo = -1 ∨ (0 ≤ lo ∧ zqth2 g lo.toNat ∧ g 1167 lo.toNat = g 1167 s)) ∧ zqth2 g hi ∧ g 1167 hi = g 1167 s
theorem zqfk (h : zqR n f g) {lo : Int} {hi : Nat} (hl : zqLH g s lo hi) : zfkn f lo hi = zrfn g lo hi ∧ zlt3 f lo = zrl3 g lo ∧ zlt4 f lo = zrl4 g lo := by
  obtain ⟨h1, h2, h3⟩ := hl
  have e34 : zlt3 f lo = zrl3 g lo ∧ zlt4 f lo = zrl4 g lo := by
    unfold zlt3 zlt4 zrl3 zrl4
    rcases h1 with e | ⟨e1, e2, _⟩
    · rw [if_pos e, if_pos e, if_pos (by omega), if_pos (by omega)]
      exact ⟨rfl, rfl⟩
    · obtain ⟨k1, k2, _⟩ := h.2.2.1.1 _ e2.1 e2.2
      rw [if_neg (by omega), if_neg (by omega), if_neg (by omega), if_neg (by omega)]
      exact ⟨k1, k2⟩
  obtain ⟨k1, k2, _⟩ := h.2.2.1.1 hi h2.1 h2.2
  refine ⟨?_, e34⟩
  unfold zfkn zrfn
  rw [e34.1, e34.2, k1, k2]
theorem zqQ_fk (h : zqR n f g) (hn : n < 60) (hs : zqth2 g s) {lo : Int} {hi : Nat} (hl : zqLH g s lo hi) (hB : zqB g s lo hi) : zqR n (zfkw f s lo hi) (zrfw g s lo hi) := by
  obtain ⟨e1, e3, e4⟩ := zqfk h hl
  unfold zfkw zrfw
  rw [e1, e3, e4]
  by_cases c : zrfn g lo hi = 0
  · rw [if_pos c, if_pos c]; exact h
  · rw [if_neg c, if_neg c]
    obtain ⟨h1, h2, h3⟩ := hl
    obtain ⟨_, _, c1, ⟨d1, d2⟩, c2⟩ := h.2.2.1.1 hi h2.1 h2.2
    have lk : 0 ≤ zrl3 g lo ∧ 1 ≤ zrl4 g lo := by
      unfold zrl3 zrl4
      rcases h1 with e | ⟨e1, e2, _⟩
      · rw [if_pos (by omega), if_pos (by omega)]; omega
      · obtain ⟨_, _, k1, ⟨k2, _⟩, _⟩ := h.2.2.1.1 _ e2.1 e2.2
        rw [if_neg (by omega), if_neg (by omega)]; omega
    have sp := (zfk_sp (a := zrl3 g lo) (b := zrl4 g lo) (c := g 1169 hi) (d := g 1170 hi) 50 1).resolve_left c
    change 1 ≤ zrfn g lo hi ∧ zrfn g lo hi < 1 + 50 ∧ (zrl3 g lo * (zrfn g lo hi : Int) / zrl4 g lo + 1) * g 1170 hi < g 1169 hi * (zrfn g lo hi : Int) at sp
    generalize em : zrfn g lo hi = m at *
    obtain ⟨s1, s2, s3⟩ := sp
    have t0 : 0 ≤ zrl3 g lo * (m : Int) / zrl4 g lo := Int.ediv_nonneg (Int.mul_nonneg lk.1 (by omega)) (by omega)
    have low := zdvm (a := zrl3 g lo * (m : Int)) (b := zrl4 g lo) (t := zrl3 g lo * (m : Int) / zrl4 g lo + 1) lk.2 (Int.le_refl _)
    have t1 : 1 ≤ zrl3 g lo * (m : Int) / zrl4 g lo + 1 := by omega
    generalize zrl3 g lo * (m : Int) / zrl4 g lo + 1 = t at *
    have up : t ≤ (n : Int) * (m : Int) := by
      have q1 : g 1169 hi * (m : Int) ≤ (n : Int) * g 1170 hi * (m : Int) := Int.mul_le_mul_of_nonneg_right c2 (by omega)
      have q2 : t * g 1170 hi < ((n : Int) * (m : Int)) * g 1170 hi := by
        have : (n : Int) * g 1170 hi * (m : Int) = ((n : Int) * (m : Int)) * g 1170 hi := by rw [Int.mul_assoc, Int.mul_comm (g 1170 hi), ← Int.mul_assoc]
        omega
      have := Int.lt_of_mul_lt_mul_right q2 (by omega)
      omega
    refine zqQ_key h hn hs t1 ⟨by omega, by omega⟩ up (fun i hi2 his hly => ?_)
    obtain ⟨_, _, _, ⟨b1, _⟩, _⟩ := h.2.2.1.1 i hi2.1 hi2.2
    rcases hB i hi2 his hly with ⟨l0, hb⟩ | hb
    · obtain ⟨f1, f2, f3⟩ := h1.resolve_left l0
      have e3 : zrl3 g lo = g 1169 lo.toNat := by unfold zrl3; rw [if_neg (by omega)]
      have e4 : zrl4 g lo = g 1170 lo.toNat := by unfold zrl4; rw [if_neg (by omega)]
      have le : g 1169 i * zrl4 g lo ≤ zrl3 g lo * g 1170 i := by
        rw [e3, e4]
        rcases hb with e | e
        · rw [← e]; exact Int.le_refl _
        · rw [zrlt_iff] at e
          omega
      have := zfr_tr (a := g 1169 i) (b := g 1170 i) (c := zrl3 g lo) (d := zrl4 g lo) (e := t) (h := (m : Int)) b1 lk.2 (by omega) le low
      omega
    · have le : g 1169 hi * g 1170 i ≤ g 1169 i * g 1170 hi := by
        rcases hb with e | e
        · rw [e]; exact Int.le_refl _
        · rw [zrlt_iff] at e
          omega
      have := zfr_tr2 (a := t) (b := (m : Int)) (c := g 1169 hi) (d := g 1170 hi) (e := g 1169 i) (h := g 1170 i) (by omega) d1 b1 s3 le
      omega
/-- the orders are the same -/
theorem zqord (h : zqR n f g) : zcnt (zcth f) 60 = zrct g ∧ ∀ j, j < zrct g → zord (zclt f) (zcth f) (f 5) 60 j = zrod g j := by
  have c := zord_cg (lt := zclt f) (lt' := zrlt g) (th := zcth f) (th' := zrth g) (o := f 5) (o' := g 1184) 60 (fun i hi => by
    unfold zcth zrth
    rw [zqR_t h hi]) (fun i j hi hj ti tj => by
    unfold zcth at ti tj
    rw [decide_eq_true_iff, zqR_t h hi] at ti
    rw [decide_eq_true_iff, zqR_t h hj] at tj
    exact zqlt h.2.1 h.2.2.1 ⟨hi, ti⟩ ⟨hj, tj⟩)
  refine ⟨c.1, fun j hj => c.2 j ?_⟩
  rw [c.1]
  exact hj
theorem zrrm_v {G : Nat → Nat → Int} {l : Int} {o : Nat → Int} {c : Nat} (hi : ∀ i j, i < c → j < c → o i = o j → i = j) (h0 : ∀ i, i < c → 0 ≤ o i) : ∀ i, i ≤ c → ∀ q v : Nat, q < c → o q = (v : Int) → ((q < i ∧ G 1167 v = l) → zrrm G l o i 1169 v = (zrrk G l o (q + 1) : Int) ∧ zrrm G l o i 1170 v = 1) ∧ ((i ≤ q ∨ G 1167 v ≠ l) → zrrm G l o i 1169 v = G 1169 v ∧ zrrm G l o i 1170 v = G 1170 v)
  | 0, _, q, v, _, _ => ⟨fun h => absurd h.1 (Nat.not_lt_zero q), fun _ => ⟨rfl, rfl⟩⟩
  | i + 1, hic, q, v, hq, hv => by
    obtain ⟨a, b⟩ := zrrm_v hi h0 i (by omega) q v hq hv
    rw [zrrm_s]
    by_cases e : q = i
    · subst e
      rw [hv, Int.toNat_natCast]
      by_cases d : G 1167 v = l
      · rw [if_pos d]
        refine ⟨fun _ => ?_, fun h => absurd h (by omega)⟩
        rw [zu2_a (by omega), zu2_eq, zu2_eq]
        exact ⟨rfl, rfl⟩
      · rw [if_neg d]
        exact ⟨fun h => absurd h.2 d, fun _ => b (Or.inr d)⟩
    · have ne : v ≠ (o i).toNat := fun e2 => e (hi q i hq (by omega) (by
        have := h0 i (by omega)
        omega))
      have same : (if G 1167 (o i).toNat = l then zu2 (zu2 (zrrm G l o i) 1169 (o i).toNat (zrrk G l o (i + 1) : Int)) 1170 (o i).toNat 1 else zrrm G l o i) 1169 v = zrrm G l o i 1169 v ∧ (if G 1167 (o i).toNat = l then zu2 (zu2 (zrrm G l o i) 1169 (o i).toNat (zrrk G l o (i + 1) : Int)) 1170 (o i).toNat 1 else zrrm G l o i) 1170 v = zrrm G l o i 1170 v := by
        split
        · rw [zu2_sj (by omega), zu2_sj (by omega), zu2_sj (by omega), zu2_sj (by omega)]
          exact ⟨rfl, rfl⟩
        · exact ⟨rfl, rfl⟩
      rw [same.1, same.2]
      exact ⟨fun h => a ⟨by omega, h.2⟩, fun h => b (h.imp (fun h => by omega) id)⟩
theorem zqnm {F G : Nat → Nat → Int} {l : Int} {o o' : Nat → Int} {c : Nat} (ho : ∀ j, j < c → o j = o' j ∧ F (14 + 14 * (o j).toNat) 1 = G 1167 (o' j).toNat) (hk : ∀ v, zqth2 G v → F (14 + 14 * v) 3 = G 1169 v ∧ F (14 + 14 * v) 4 = G 1170 v) : ∀ i, i ≤ c → ∀ v, zqth2 G v → zrnm F l o i (14 + 14 * v) 3 = zrrm G l o' i 1169 v ∧ zrnm F l o i (14 + 14 * v) 4 = zrrm G l o' i 1170 v
  | 0, _, v, hv => hk v hv
  | i + 1, hic, v, hv => by
    obtain ⟨a, b⟩ := zqnm (l := l) ho hk i (by omega) v hv
    obtain ⟨o1, o2⟩ := ho i (by omega)
    have rk : zrnk F l o (i + 1) = zrrk G l o' (i + 1) := by
      unfold zrnk zrrk
      refine zcnt_cong _ _ _ (fun j hj => ?_)
      rw [(ho j (by omega)).2]
    rw [zrnm_s, zrrm_s, rk, o2, o1]
    by_cases d : G 1167 (o' i).toNat = l
    · rw [if_pos d, if_pos d]
      by_cases e : v = (o' i).toNat
      · subst e
        rw [zu2_i (by omega), zu2_eq, zu2_eq, zu2_a (by omega), zu2_eq, zu2_eq]
        exact ⟨rfl, rfl⟩
      · rw [zu2_sj (by omega), zu2_sj (by omega), zu2_sj (by omega), zu2_sj (by omega), zu2_sj (by omega), zu2_sj (by omega), zu2_sj (by omega), zu2_sj (by omega)]
        exact ⟨a, b⟩
    · rw [if_neg d, if_neg d]
      exact ⟨a, b⟩
theorem zrnm_o2 {F : Nat → Nat → Int} {l : Int} {o : Nat → Int} {a j : Nat} (h : a < 14 ∨ (a - 14) % 14 ≠ 0 ∨ (j ≠ 3 ∧ j ≠ 4)) : ∀ i, zrnm F l o i a j = F a j
  | 0 => rfl
  | i + 1 => by
    have ih := zrnm_o2 (F := F) (l := l) (o := o) h i
    rw [zrnm_s]
    split
    · rw [zu2_if, zu2_if, if_neg (by omega), if_neg (by omega), ih]
    · exact ih
theorem zrrk_m {G : Nat → Nat → Int} {l : Int} {o : Nat → Int} : ∀ k q : Nat, zrrk G l o q ≤ zrrk G l o (q + k)
  | 0, q => Nat.le_refl _
  | k + 1, q => by
    have ih := zrrk_m (G := G) (l := l) (o := o) k q
    have := zrrk_s G l o (q + k)
    rw [← Nat.add_assoc, this]
    split <;> omega
/-- a layer numbered anew -/
theorem zqQ_ren (h : zqR n f g) (hn : n < 60) (hs : zqth2 g s) : zqR n (zrnw f s) (zrrw g s) ∧ ∀ i j, zqth2 g i → zqth2 g j → g 1167 i = g 1167 s → g 1167 j = g 1167 s → (zrlt (zrrw g s) i j = true ↔ zrlt g i j = true) := by
  obtain ⟨cn, eo⟩ := zqord h
  have hK := h.2.2.1
  have hrt : ∀ i, i < 60 → f (14 + 14 * i) 0 = g 1166 i := fun i hi => zqR_t h hi
  have ctn := zqctn h
  have ct60 : zrct g ≤ 60 := zcnt_le _ _
  have inj : ∀ i j, i < zrct g → j < zrct g → zrod g i = zrod g j → i = j := fun i j hi hj e => zord_inj _ _ _ 60 i j hi hj e
  have nn : ∀ i, i < zrct g → 0 ≤ zrod g i := fun i hi => by
    obtain ⟨v, _, e⟩ := zqvl hi
    omega
  have el : f (14 + 14 * s) 1 = g 1167 s := (h.2.1 s hs.1 hs.2).1
  have G67 : ∀ j, zrg g 1167 j = g 1167 j := fun j => zrg_o (by omega)
  have G69 : ∀ j, zrg g 1169 j = g 1169 j := fun j => zrg_o (by omega)
  have G70 : ∀ j, zrg g 1170 j = g 1170 j := fun j => zrg_o (by omega)
  have G66 : ∀ j, zrg g 1166 j = g 1166 j := fun j => zrg_o (by omega)
  have rv := fun (q v : Nat) (hq : q < zrct g) (hv : zrod g q = (v : Int)) => zrrm_v (G := zrg g) (l := g 1167 s) inj nn (zrct g) (Nat.le_refl _) q v hq hv
  have nm := zqnm (F := zua f 5 (zord (zclt f) (zcth f) (f 5) 60)) (G := zrg g) (l := g 1167 s) (o := zord (zclt f) (zcth f) (f 5) 60) (o' := zrod g) (c := zrct g) (fun j hj => by
    obtain ⟨v, v1, v2⟩ := zqvl hj
    rw [eo j hj, v2, Int.toNat_natCast, zua_o (by omega), G67]
    exact ⟨rfl, (h.2.1 v v1.1 v1.2).1⟩) (fun v hv => by
    rw [zua_o (by omega), zua_o (by omega), G69, G70]
    obtain ⟨a, b, _⟩ := hK.1 v hv.1 ((G66 v).symm.trans hv.2)
    exact ⟨a, b⟩) (zrct g) (Nat.le_refl _)
  -- the key of each shape now
  have val : ∀ v, zqth2 g v → ∃ q, q < zrct g ∧ zrod g q = (v : Int) ∧ ((g 1167 v = g 1167 s ∧ zrrw g s 1169 v = (zrrk (zrg g) (g 1167 s) (zrod g) (q + 1) : Int) ∧ zrrw g s 1170 v = 1 ∧ 1 ≤ zrrk (zrg g) (g 1167 s) (zrod g) (q + 1) ∧ zrrk (zrg g) (g 1167 s) (zrod g) (q + 1) ≤ n) ∨ (g 1167 v ≠ g 1167 s ∧ zrrw g s 1169 v = g 1169 v ∧ zrrw g s 1170 v = g 1170 v)) := fun v hv => by
    obtain ⟨q, q1, q2⟩ := zqpl v hv
    refine ⟨q, q1, q2, ?_⟩
    obtain ⟨a, b⟩ := rv q v q1 q2
    by_cases d : g 1167 v = g 1167 s
    · obtain ⟨a1, a2⟩ := a ⟨q1, (G67 v).trans d⟩
      have le : zrrk (zrg g) (g 1167 s) (zrod g) (q + 1) ≤ q + 1 := zcnt_le _ _
      have st := zrrk_s (zrg g) (g 1167 s) (zrod g) q
      rw [q2, Int.toNat_natCast, G67, if_pos d] at st
      exact Or.inl ⟨d, a1, a2, by omega, by omega⟩
    · obtain ⟨b1, b2⟩ := b (Or.inr (fun e => d ((G67 v).symm.trans e)))
      exact Or.inr ⟨d, b1.trans (G69 v), b2.trans (G70 v)⟩
  have rkm : ∀ q r v : Nat, q < r → r < zrct g → zrod g r = (v : Int) → g 1167 v = g 1167 s → zrrk (zrg g) (g 1167 s) (zrod g) (q + 1) < zrrk (zrg g) (g 1167 s) (zrod g) (r + 1) := fun q r v hqr hr hv hl => by
    have st := zrrk_s (zrg g) (g 1167 s) (zrod g) r
    rw [hv, Int.toNat_natCast, G67, if_pos hl] at st
    have m := zrrk_m (G := zrg g) (l := g 1167 s) (o := zrod g) (r - (q + 1)) (q + 1)
    rw [show q + 1 + (r - (q + 1)) = r by omega] at m
    omega
  have Go : ∀ b j, ((b ≠ 1169 ∧ b ≠ 1170) ∧ b ≠ 1184 ∧ (b ≠ 1153 ∨ j ≠ 38)) → zrrw g s b j = g b j := fun b j hb => by
    unfold zrrw
    rw [zrrm_o _ _ _ hb.1]
    exact zrg_o hb.2
  have iff : ∀ i j, zqth2 g i → zqth2 g j → g 1167 i = g 1167 s → g 1167 j = g 1167 s → (zrlt (zrrw g s) i j = true ↔ zrlt g i j = true) := fun i j hi hj li lj => by
    obtain ⟨q, q1, q2, q3⟩ := val i hi
    obtain ⟨r, r1, r2, r3⟩ := val j hj
    obtain ⟨_, a1, a2, a3, _⟩ := q3.resolve_right (fun e => e.1 li)
    obtain ⟨_, b1, b2, b3, _⟩ := r3.resolve_right (fun e => e.1 lj)
    rw [zrlt_iff, Go 1167 _ (by omega), Go 1167 _ (by omega), a1, a2, b1, b2]
    constructor
    · intro e
      by_cases qr : q < r
      · have := zqso hK qr r1
        rw [q2, r2, Int.toNat_natCast, Int.toNat_natCast] at this
        exact this
      · by_cases qr2 : q = r
        · subst qr2; omega
        · have := rkm r q i (by omega) q1 q2 li
          omega
    · intro e
      have qr := zqbf hK q1 r1 q2 r2 e
      have := rkm q r j qr r1 r2 lj
      exact Or.inl ⟨by omega, by omega⟩
  refine ⟨?_, iff⟩
  obtain ⟨T, A, K, Lr, G, V, D, S, J⟩ := h
  have key : ∀ v, zqth2 g v → zrnw f s (14 + 14 * v) 3 = zrrw g s 1169 v ∧ zrnw f s (14 + 14 * v) 4 = zrrw g s 1170 v := fun v hv => by
    have := nm v ⟨hv.1, (G66 v).trans hv.2⟩
    unfold zrnw zrrw
    rw [cn, el]
    exact this
  have hJ3 : ∀ i, i < 60 → zKy (zrnw f s) (14 + 14 * i) := fun i hi => by
    unfold zrnw
    refine zrnm_y (by rw [cn]; exact ct60) ?_
    have := J.1 i hi
    unfold zKy at *
    rw [zua_o (by omega), zua_o (by omega)]
    exact this
  have hF : ∀ b j, (b ≠ 5 ∧ (b < 14 ∨ (b - 14) % 14 ≠ 0 ∨ (j ≠ 3 ∧ j ≠ 4))) → zrnw f s b j = f b j := fun b j hb => by
    unfold zrnw
    rw [zrnm_o2 hb.2]
    exact zua_o hb.1 _ _
  generalize zrnw f s = f' at *
  generalize zrrw g s = g' at *
  have hG : ∀ b j, ((b ≠ 1169 ∧ b ≠ 1170) ∧ b ≠ 1184 ∧ (b ≠ 1153 ∨ j ≠ 38)) → g' b j = g b j := Go
  have h0 : ∀ i, i < 60 → g' 1166 i = g 1166 i := fun i hi => hG _ _ (by omega)
  have h00 : ∀ i, i < 60 → g' 1166 i = 1 → g 1166 i = 1 := fun i hi t => by rw [← h0 i hi]; exact t
  have hk : zqK n f' g' := by
    refine ⟨fun i hi t1 => ?_, fun i j hi hj hij t1 t2 tl => ?_⟩
    · have ti : zqth2 g i := ⟨hi, h00 i hi t1⟩
      obtain ⟨e3, e4⟩ := key i ti
      rw [e3, e4]
      obtain ⟨q, q1, q2, q3⟩ := val i ti
      rcases q3 with ⟨_, a1, a2, a3, a4⟩ | ⟨_, a1, a2⟩
      · rw [a1, a2]
        exact ⟨rfl, rfl, by omega, by omega, by omega⟩
      · rw [a1, a2]
        obtain ⟨_, _, b⟩ := K.1 i hi ti.2
        exact ⟨rfl, rfl, b⟩
    · rw [hG 1167 i (by omega), hG 1167 j (by omega)] at tl
      have ti : zqth2 g i := ⟨hi, h00 i hi t1⟩
      have tj : zqth2 g j := ⟨hj, h00 j hj t2⟩
      by_cases d : g 1167 i = g 1167 s
      · rcases zrlt_tot K i j ti tj hij with e | e
        · have := (iff i j ti tj d (by omega)).mpr e
          rw [zrlt_iff, hG 1167 i (by omega), hG 1167 j (by omega)] at this
          omega
        · have := (iff j i tj ti (by omega) d).mpr e
          rw [zrlt_iff, hG 1167 i (by omega), hG 1167 j (by omega)] at this
          omega
      · obtain ⟨q, q1, q2, q3⟩ := val i ti
        obtain ⟨r, r1, r2, r3⟩ := val j tj
        obtain ⟨_, a1, a2⟩ := q3.resolve_left (fun e => d e.1)
        obtain ⟨_, b1, b2⟩ := r3.resolve_left (fun e => d (by omega))
        rw [a1, a2, b1, b2]
        exact K.2 i j hi hj hij ti.2 tj.2 tl
  have hj : zqJ f' := by
    obtain ⟨J1, J2, J3, J4⟩ := J
    refine ⟨hJ3, fun i hi => ?_, ⟨fun i hi => ?_, fun i hi => ?_⟩, fun i hi => ?_⟩
    · unfold zld
      rw [hF _ _ (by omega)]; exact J2 i hi
    · rw [hF _ _ (by omega)]; exact J3.1 i hi
    · rw [hF _ _ (by omega)]; exact J3.2 i hi
    · rw [hF _ _ (by omega)]; exact J4 i hi
  exact ⟨zqT_c (fun i hi => hF _ _ (by omega)) h0 T, zqA_c h00 (fun i hi _ => ⟨hF _ _ (by omega), hF _ _ (by omega), hF _ _ (by omega)⟩) (fun i hi _ => ⟨hG _ _ (by omega), hG _ _ (by omega), hG _ _ (by omega)⟩) A, hk, zqL_c h0 (fun i hi => ⟨hF _ _ (by omega), hF _ _ (by omega)⟩) (fun i hi => ⟨hG _ _ (by omega), hG _ _ (by omega)⟩) Lr, zqG_c (Nat.le_refl _) T.1 h0 (fun i hi => ⟨hF _ _ (by omega), hF _ _ (by omega)⟩) (fun i hi => hG _ _ (by omega)) G, zqV_c (fun i hi => hF _ _ (by omega)) (fun i hi => hG _ _ (by omega)) (fun i hi => ⟨hG _ _ (by omega), hG _ _ (by omega)⟩) V, zqD_c (hF _ _ (by omega)) (hG _ _ (by omega)) (fun i hi => ⟨hF _ _ (by omega), hF _ _ (by omega)⟩) (fun i hi => ⟨hG _ _ (by omega), hG _ _ (by omega)⟩) D, zqF_c h00 (fun k hk _ b j h1 h2 h3 => hF _ _ (by omega)) (fun k hk _ => ⟨hG _ _ (by omega), hG _ _ (by omega), fun p _ => hG _ _ (by omega), fun j _ _ => ⟨hG _ _ (by omega), hG _ _ (by omega)⟩⟩) S, hj⟩
theorem zqQ_put (h : zqR n f g) (hn : n < 60) (hs : zqth2 g s) {lo : Int} {hi : Nat} (hl : zqLH g s lo hi) (hB : zqB g s lo hi) : zqR n (zput f s lo hi) (zrpt g s lo hi) := by
  obtain ⟨e1, _⟩ := zqfk h hl
  unfold zput zrpt
  rw [e1]
  by_cases c : zrfn g lo hi = 0
  · rw [if_pos c, if_pos c]
    obtain ⟨r, iff⟩ := zqQ_ren h hn hs
    have o66 : ∀ i, zrrw g s 1166 i = g 1166 i := fun i => by
      unfold zrrw
      rw [zrrm_o _ _ _ (by omega)]
      exact zrg_o (by omega)
    have o67 : ∀ i, zrrw g s 1167 i = g 1167 i := fun i => by
      unfold zrrw
      rw [zrrm_o _ _ _ (by omega)]
      exact zrg_o (by omega)
    have th : ∀ i, zqth2 (zrrw g s) i ↔ zqth2 g i := fun i => by unfold zqth2; rw [o66]
    refine zqQ_fk r hn ((th s).mpr hs) ?_ ?_
    · unfold zqLH at *
      rw [th, th, o67, o67, o67]
      exact hl
    · intro i hi2 his hly
      rw [o67, o67] at hly
      obtain ⟨l1, l2, l3⟩ := hl
      rcases hB i ((th i).mp hi2) his hly with ⟨a, b⟩ | b
      · obtain ⟨f1, f2, f3⟩ := l1.resolve_left a
        exact Or.inl ⟨a, b.imp id (fun e => (iff i _ ((th i).mp hi2) f2 hly f3).mpr e)⟩
      · exact Or.inr (b.imp id (fun e => (iff _ i l2 ((th i).mp hi2) l3 hly).mpr e))
  · rw [if_neg c, if_neg c]
    exact zqQ_fk h hn hs hl hB
end ZRAISEDQ
end SG_CJ_raised
section SG_CK_raised2
/-! raised, in both programs: all four ways -/
section ZRAISED2Q
variable {n : Nat} {f g f' g' : Nat → Nat → Int} {s p : Nat}
/-- room between two places -/
theorem zqBp (hK : zqK n f g) {lo : Int} {hi a b : Nat} (hb : b < zrct g) (eb : zrod g b = (hi : Int)) (hh : zqth2 g hi) (hlo : lo = -1 ∨ (a < zrct g ∧ zrod g a = lo ∧ 0 ≤ lo ∧ zqth2 g lo.toNat)) (H : ∀ q v : Nat, q < zrct g → zrod g q = (v : Int) → v ≠ s → g 1167 v = g 1167 s → (lo ≠ -1 ∧ q ≤ a) ∨ b ≤ q) : zqB g s lo hi := by
  intro i hi2 his hly
  obtain ⟨q, q1, q2⟩ := zqpl i hi2
  rcases H q i q1 q2 his hly with ⟨l0, e⟩ | e
  · obtain ⟨a1, a2, a3, a4⟩ := hlo.resolve_left l0
    refine Or.inl ⟨l0, ?_⟩
    by_cases c : q = a
    · subst c
      exact Or.inl (by omega)
    · have := zqso hK (show q < a by omega) a1
      rw [q2, a2, Int.toNat_natCast] at this
      exact Or.inr this
  · refine Or.inr ?_
    by_cases c : q = b
    · subst c
      exact Or.inl (by omega)
    · have := zqso hK (show b < q by omega) q1
      rw [q2, eb, Int.toNat_natCast, Int.toNat_natCast] at this
      exact Or.inr this
theorem zqBG {lo : Int} {hi : Nat} (h : zqB g s lo hi) : zqB (zrg g) s lo hi := by
  unfold zqB zqth2 at *
  rw [zrg_lt, show zrg g 1166 = g 1166 from funext fun j => zrg_o (by omega), show zrg g 1167 = g 1167 from funext fun j => zrg_o (by omega)]
  exact h
theorem zqLG {lo : Int} {hi : Nat} (h : zqLH g s lo hi) : zqLH (zrg g) s lo hi := by
  unfold zqLH zqth2 at *
  rw [show zrg g 1166 = g 1166 from funext fun j => zrg_o (by omega), show zrg g 1167 = g 1167 from funext fun j => zrg_o (by omega)]
  exact h
theorem zqR_zrg (h : zqR n f g) : zqR n f (zrg g) := zqR_keep (fun _ _ _ _ _ _ _ => rfl) (zqR_ch h) (fun b j _ _ _ => zrg_o (by omega)) (zrg_o (by omega)) h
theorem zrbs_n {k : Int} (h : zrbs g p k < 0) : zrbs g p k = -1 := by
  have := zrbs_1 (f := g) (p := p) (by' := k)
  omega
/-- at the top of its own layer -/
theorem zqQ_top (h : zqR n f g) (hn : n < 60) (hs : zqth2 g s) : zqR (n + 1) (zlay f s (f (14 + 14 * s) 1)) (zrtp (zrg g) s) := by
  have hG := zqR_zrg h
  obtain ⟨a1, _, _, a4, _⟩ := h.2.1 s hs.1 hs.2
  have q := zqQ_layer (l := g 1167 s) (v := zrg g 1153 36) hG hs.1 hn ((zrg_o (by omega)).trans hs.2) a4
  rw [zu2_id (rfl : zrg g 1153 36 = zrg g 1153 36), zu2_id (show zrg g 1167 s = g 1167 s from zrg_o (by omega)), ← a1] at q
  exact q
theorem zfl_le {a b c d : Int} (hb : 1 ≤ b) (hd : 1 ≤ d) (h : a * d ≤ c * b) : a / b ≤ c / d := by
  by_cases e : a / b ≤ c / d
  · exact e
  · have h1 := Int.lt_ediv_add_one_mul_self c (show (0 : Int) < d by omega)
    have h2 : (c / d + 1) * b ≤ (a / b) * b := Int.mul_le_mul_of_nonneg_right (by omega) (by omega)
    have h3 := Int.ediv_mul_le a (show b ≠ 0 by omega)
    have h4 : c * b < ((c / d + 1) * d) * b := Int.mul_lt_mul_of_pos_right h1 (by omega)
    have h5 : ((c / d + 1) * b) * d ≤ a * d := Int.mul_le_mul_of_nonneg_right (by omega) (by omega)
    have h6 : ((c / d + 1) * d) * b = ((c / d + 1) * b) * d := by rw [Int.mul_assoc, Int.mul_comm d b, ← Int.mul_assoc]
    omega
theorem zqQ_raise (h : zqR n f g) (hn : n < 60) (hs : zqth2 g s) (hp : p < zrct g) (ep : zrod g p = (s : Int)) {w : Int} (hw : 0 ≤ w ∧ w ≤ 3) : zqR (n + 1) (zrai f s w) (zrri g s p w) := by
  have hK := h.2.2.1
  have hG := zqR_zrg h
  have up := zqup h hs hp ep
  have dn := zqdn h hs hp ep
  have none : zqR (n + 1) f (zrg g) := zqR_n hn hG
  have inj : ∀ q r : Nat, q < zrct g → r < zrct g → zrod g q = zrod g r → q = r := fun i j hi hj e => zord_inj _ _ _ 60 i j hi hj e
  rcases (show w = 0 ∨ w = 1 ∨ w = 2 ∨ w = 3 by omega) with e | e | e | e <;> subst e
  · -- above the next
    unfold zrai zrri
    rw [if_pos (rfl : (0 : Int) = 0)]
    by_cases c1 : zrbs g p 1 < 0
    · have u := zrbs_n c1
      have z : zraf f s 0 = -1 := by
        unfold zraf
        rw [if_neg (fun q => q.2 (up.trans u))]
      rw [if_pos c1, z, if_neg (fun q => q rfl), if_neg (fun q => q.2 (up.trans u)), if_neg (fun q => absurd q.1 (by omega)), if_neg (fun q => absurd q.1 (by omega))]
      exact none
    · obtain ⟨q, v, q1, q2, q3, q4, q5, q6, q7⟩ := zrbs_v (f := g) (p := p) (by' := 1) (by omega)
      have hv : zqth2 g v := ⟨q2, q4⟩
      have ly : g 1167 v = g 1167 s := by rw [q5, ep, Int.toNat_natCast]
      have eq1 : q = p + 1 := by omega
      have up2 := zqup h hv q1 q6
      have same : zrbs g q 1 = zrbs g p 2 := by
        unfold zrbs
        rw [q6, ep, Int.toNat_natCast, Int.toNat_natCast, ly, show (q : Int) + 1 = (p : Int) + 2 by omega]
      have z : zraf f s 0 = zrbs g p 2 := by
        unfold zraf
        rw [if_pos ⟨rfl, by omega⟩, up, q7, Int.toNat_natCast, up2, same]
      rw [if_neg c1, z]
      by_cases c2 : zrbs g p 2 < 0
      · have u2 := zrbs_n c2
        rw [if_pos c2, u2, if_neg (fun q => q rfl), if_pos ⟨Or.inl rfl, by omega⟩, q7, Int.toNat_natCast]
        have top := zqQ_top h hn hs
        have val : zrab (zrg g) s (zrg g 1167 s) 60 = g 1169 v / g 1170 v + 1 := by
          rw [show zrg g 1167 s = g 1167 s from zrg_o (by omega)]
          obtain ⟨m1, m2, m3⟩ := zrab_m (G := zrg g) (s := s) (l := g 1167 s) 60
          have o69 : ∀ i, zrg g 1169 i = g 1169 i := fun i => zrg_o (by omega)
          have o70 : ∀ i, zrg g 1170 i = g 1170 i := fun i => zrg_o (by omega)
          have o66 : ∀ i, zrg g 1166 i = g 1166 i := fun i => zrg_o (by omega)
          have o67 : ∀ i, zrg g 1167 i = g 1167 i := fun i => zrg_o (by omega)
          have vs : v ≠ s := fun e => by
            rw [e, ← ep] at q6
            have := inj _ _ q1 hp q6
            omega
          have lo := m2 v q2 vs (zrnl_iff.mpr ⟨by rw [o66]; exact q4, by rw [o67]; exact ly⟩)
          rw [o69, o70] at lo
          obtain ⟨_, _, ka, ⟨kb, _⟩, _⟩ := hK.1 v q2 q4
          have f0 : 0 ≤ g 1169 v / g 1170 v := Int.ediv_nonneg (by omega) (by omega)
          rcases m3 with m3 | ⟨i, i1, i2, i3, i4⟩
          · omega
          · obtain ⟨t1, t2⟩ := zrnl_iff.mp i3
            rw [o66] at t1
            rw [o67] at t2
            rw [o69, o70] at i4
            have hi : zqth2 g i := ⟨i1, t1⟩
            obtain ⟨_, _, _, ⟨kc, _⟩, _⟩ := hK.1 i i1 t1
            obtain ⟨r, r1, r2⟩ := zqpl i hi
            have rq : r ≤ q := by
              by_cases c : r ≤ q
              · exact c
              · obtain ⟨x, x1, x2⟩ := zqvl (g := g) (q := p + 2) (by omega)
                have l1 := zqly hK (show q ≤ p + 2 by omega) (by omega) q6 x2
                have l2 := zqly hK (show p + 2 ≤ r by omega) r1 x2 r2
                have : zrbs g p 2 = zrod g (p + 2) := by
                  unfold zrbs
                  rw [show ((p : Int) + 2).toNat = p + 2 by omega]
                  exact if_pos ⟨by omega, by omega, by rw [x2, ep, Int.toNat_natCast, Int.toNat_natCast]; omega⟩
                omega
            have le : g 1169 i * g 1170 v ≤ g 1169 v * g 1170 i := by
              by_cases c : r = q
              · subst c
                have : i = v := by omega
                subst this
                exact Int.le_refl _
              · have := zqso hK (show r < q by omega) q1
                rw [r2, q6, Int.toNat_natCast, Int.toNat_natCast, zrlt_iff] at this
                omega
            have := zfl_le kc kb le
            omega
        unfold zrtp at top
        rw [val] at top
        exact top
      · obtain ⟨r, x, r1, r2, r3, r4, r5, r6, r7⟩ := zrbs_v (f := g) (p := p) (by' := 2) (by omega)
        have ly2 : g 1167 x = g 1167 s := by rw [r5, ep, Int.toNat_natCast]
        rw [if_neg c2, if_pos (by omega), up, q7, r7, Int.toNat_natCast]
        refine zqR_n hn (zqQ_put hG hn ⟨hs.1, (zrg_o (by omega)).trans hs.2⟩ (zqLG ⟨Or.inr ⟨by omega, by rw [Int.toNat_natCast]; exact hv, by rw [Int.toNat_natCast]; exact ly⟩, ⟨r2, r4⟩, ly2⟩) (zqBG (zqBp hK (a := q) (b := r) r1 r6 ⟨r2, r4⟩ (Or.inr ⟨q1, q6, by omega, by rw [Int.toNat_natCast]; exact hv⟩) (fun t u t1 t2 t3 t4 => ?_))))
        omega
  · -- below the next
    unfold zrai zrri
    have z : zraf f s 1 = -1 := by
      unfold zraf
      rw [if_neg (fun q => absurd q.1 (by omega))]
    rw [if_neg (show ¬ (1 : Int) = 0 by omega), if_pos (rfl : (1 : Int) = 1), z, if_neg (fun q => q rfl), if_neg (fun q => absurd q.1 (by omega))]
    by_cases c1 : zrbs g p (-1) < 0
    · have u := zrbs_n c1
      rw [if_pos c1, if_neg (fun q => q.2 (dn.trans u)), if_neg (fun q => absurd q.1 (by omega))]
      exact none
    · obtain ⟨q, v, q1, q2, q3, q4, q5, q6, q7⟩ := zrbs_v (f := g) (p := p) (by' := -1) (by omega)
      have hv : zqth2 g v := ⟨q2, q4⟩
      have ly : g 1167 v = g 1167 s := by rw [q5, ep, Int.toNat_natCast]
      have dn2 := zqdn h hv q1 q6
      have same : zrbs g q (-1) = zrbs g p (-2) := by
        unfold zrbs
        rw [q6, ep, Int.toNat_natCast, Int.toNat_natCast, ly, show (q : Int) + -1 = (p : Int) + -2 by omega]
      rw [if_neg c1, if_pos ⟨rfl, by omega⟩, dn, q7, Int.toNat_natCast, dn2, same]
      by_cases c2 : zrbs g p (-2) < 0
      · have u2 := zrbs_n c2
        rw [u2]
        refine zqR_n hn (zqQ_put hG hn ⟨hs.1, (zrg_o (by omega)).trans hs.2⟩ (zqLG ⟨Or.inl rfl, hv, ly⟩) (zqBG (zqBp hK (a := 0) (b := q) q1 q6 hv (Or.inl rfl) (fun t u t1 t2 t3 t4 => ?_))))
        refine Or.inr ?_
        by_cases c : q ≤ t
        · exact c
        · obtain ⟨x, x1, x2⟩ := zqvl (g := g) (q := p - 2) (by omega)
          have l1 := zqly hK (show t ≤ p - 2 by omega) (by omega) t2 x2
          have l2 := zqly hK (show p - 2 ≤ q by omega) q1 x2 q6
          have : zrbs g p (-2) = zrod g (p - 2) := by
            unfold zrbs
            rw [show ((p : Int) + -2).toNat = p - 2 by omega]
            exact if_pos ⟨by omega, by omega, by rw [x2, ep, Int.toNat_natCast, Int.toNat_natCast]; omega⟩
          omega
      · obtain ⟨r, x, r1, r2, r3, r4, r5, r6, r7⟩ := zrbs_v (f := g) (p := p) (by' := -2) (by omega)
        have ly2 : g 1167 x = g 1167 s := by rw [r5, ep, Int.toNat_natCast]
        rw [r7]
        refine zqR_n hn (zqQ_put hG hn ⟨hs.1, (zrg_o (by omega)).trans hs.2⟩ (zqLG ⟨Or.inr ⟨by omega, by rw [Int.toNat_natCast]; exact ⟨r2, r4⟩, by rw [Int.toNat_natCast]; exact ly2⟩, hv, ly⟩) (zqBG (zqBp hK (a := r) (b := q) q1 q6 hv (Or.inr ⟨r1, r6, by omega, by rw [Int.toNat_natCast]; exact ⟨r2, r4⟩⟩) (fun t u t1 t2 t3 t4 => ?_))))
        omega
  · -- to the top
    unfold zrai zrri
    have z : zraf f s 2 = -1 := by
      unfold zraf
      rw [if_neg (fun q => absurd q.1 (by omega))]
    rw [if_neg (show ¬ (2 : Int) = 0 by omega), if_neg (show ¬ (2 : Int) = 1 by omega), if_pos (rfl : (2 : Int) = 2), z, if_neg (fun q => q rfl)]
    by_cases c1 : zrbs g p 1 < 0
    · have u := zrbs_n c1
      rw [if_pos c1, if_neg (fun q => q.2 (up.trans u)), if_neg (fun q => absurd q.1 (by omega)), if_neg (fun q => absurd q.1 (by omega))]
      exact none
    · rw [if_neg c1, if_pos ⟨Or.inr rfl, by omega⟩]
      exact zqQ_top h hn hs
  · -- to the bottom
    unfold zrai zrri
    have z : zraf f s 3 = -1 := by
      unfold zraf
      rw [if_neg (fun q => absurd q.1 (by omega))]
    rw [if_neg (show ¬ (3 : Int) = 0 by omega), if_neg (show ¬ (3 : Int) = 1 by omega), if_neg (show ¬ (3 : Int) = 2 by omega), z, if_neg (fun q => q rfl), if_neg (fun q => absurd q.1 (by omega)), if_neg (fun q => absurd q.1 (by omega))]
    by_cases c1 : zrbs g p (-1) < 0
    · have u := zrbs_n c1
      rw [if_pos c1, if_neg (fun q => q.2 (dn.trans u))]
      exact none
    · obtain ⟨q, v, q1, q2, q3, q4, q5, q6, q7⟩ := zrbs_v (f := g) (p := p) (by' := -1) (by omega)
      have ly : g 1167 v = g 1167 s := by rw [q5, ep, Int.toNat_natCast]
      have eq1 : q = p - 1 := by omega
      have el : f (14 + 14 * s) 1 = g 1167 s := (h.2.1 s hs.1 hs.2).1
      have lo := zqlo h q1 (l := g 1167 s) (by rw [q6, Int.toNat_natCast]; exact ly)
      rw [if_neg c1, if_pos ⟨rfl, by omega⟩, el, lo, ← eq1]
      obtain ⟨z1, z2, z3⟩ := zrlq_p (g := g) q
      generalize zrlq g q = zz at *
      obtain ⟨x, x1, x2⟩ := zqvl (g := g) (q := zz) (by omega)
      rw [x2, q6, Int.toNat_natCast, Int.toNat_natCast] at z2
      rw [x2, Int.toNat_natCast]
      refine zqR_n hn (zqQ_put hG hn ⟨hs.1, (zrg_o (by omega)).trans hs.2⟩ (zqLG ⟨Or.inl rfl, x1, by omega⟩) (zqBG (zqBp hK (a := 0) (b := zz) (by omega) x2 x1 (Or.inl rfl) (fun t u t1 t2 t3 t4 => ?_))))
      refine Or.inr ?_
      by_cases c : zz ≤ t
      · exact c
      · rcases z3 with z3 | z3
        · omega
        · obtain ⟨y, y1, y2⟩ := zqvl (g := g) (q := zz - 1) (by omega)
          have l1 := zqly hK (show t ≤ zz - 1 by omega) (by omega) t2 y2
          have l2 := zqly hK (show zz - 1 ≤ zz by omega) (by omega) y2 x2
          rw [x2, y2, Int.toNat_natCast, Int.toNat_natCast] at z3
          omega
theorem zrnm_f {F : Nat → Nat → Int} {l : Int} {o : Nat → Int} {c b j : Nat} (ho : ∀ i, i < c → (o i).toNat < 60) (h : b < 14 ∨ 854 ≤ b) : ∀ i, i ≤ c → zrnm F l o i b j = F b j
  | 0, _ => rfl
  | i + 1, hi => by
    have ih := zrnm_f (F := F) (l := l) (j := j) ho h i (by omega)
    have := ho i (by omega)
    rw [zrnm_s]
    split
    · rw [zu2_sj (by omega), zu2_sj (by omega), ih]
    · exact ih
theorem zrai_f {w : Int} {b j : Nat} (hs : s < 60) (h : b < 3 ∨ 854 ≤ b) : zrai f s w b j = f b j := by
  have fw : ∀ (G : Nat → Nat → Int) (lo : Int) (hi : Nat), zfkw G s lo hi b j = G b j := fun G lo hi => by
    unfold zfkw
    split
    · rfl
    · rw [zu2_sj (by omega), zu2_sj (by omega)]
  have pt : ∀ (lo : Int) (hi : Nat), zput f s lo hi b j = f b j := fun lo hi => by
    unfold zput
    split
    · rw [fw]
      unfold zrnw
      rw [zrnm_f (c := zcnt (zcth f) 60) (fun i hi => ?_) (by omega) _ (Nat.le_refl _)]
      · exact zua_o (by omega) _ _
      · obtain ⟨v, v1, v2, v3⟩ := zord_v (zclt f) (zcth f) (f 5) 60 i hi
        omega
    · rw [fw]
  unfold zrai
  split
  · exact pt _ _
  · split
    · unfold zlay
      rw [zu2_sj (by omega), zu2_sj (by omega), zu2_sj (by omega)]
    · split
      · exact pt _ _
      · split
        · exact pt _ _
        · rfl
theorem zrri_o {w : Int} {b j : Nat} (h : b ≠ 1169 ∧ b ≠ 1170 ∧ b ≠ 1184 ∧ (b ≠ 1153 ∨ j ≠ 38)) : zrri g s p w b j = g b j := by
  have o : zrg g b j = g b j := zrg_o ⟨h.2.2.1, h.2.2.2⟩
  have fw : ∀ (G : Nat → Nat → Int) (lo : Int) (hi : Nat), zrfw G s lo hi b j = G b j := fun G lo hi => by
    unfold zrfw
    split
    · rfl
    · rw [zu2_a (by omega), zu2_a (by omega)]
  have pt : ∀ (lo : Int) (hi : Nat), zrpt (zrg g) s lo hi b j = g b j := fun lo hi => by
    unfold zrpt
    split
    · rw [fw]
      unfold zrrw
      rw [zrrm_o _ _ _ (by omega)]
      rw [zrg_o ⟨h.2.2.1, h.2.2.2⟩]
      exact o
    · rw [fw]; exact o
  have tp : zrtp (zrg g) s b j = g b j := by
    unfold zrtp
    rw [zu2_a (by omega), zu2_a (by omega)]
    exact o
  unfold zrri
  repeat' split
  · exact o
  · rw [zu2_a (by omega), zu2_a (by omega)]
    exact o
  · exact pt _ _
  · exact o
  · exact pt _ _
  · exact o
  · exact tp
  · exact o
  · exact pt _ _
variable {L k : Nat} {M N : zM}
theorem zqS_7 (hM : zLay M.2.2.2) (hN : zLayN N.2.2.2) (hk : k < 60) (h : zqR k M.2.1 N.2.1) (hj : zqJ1 M N k 7) (h8 : M.2.1 (855 + 4 * k) 8 = N.2.1 1161 (4 * k + 1) ∧ 0 ≤ N.2.1 1161 (4 * k + 1) ∧ N.2.1 1161 (4 * k + 1) ≤ 3) : zqS L k M N := by
  obtain ⟨⟨j0, j1⟩, j2, j3⟩ := hj
  rcases zqS_sh (L := L) hM hN hk h j2 (Or.inl j3) (by omega) with no | ⟨s, hs, e2, e4, ht, hg, e⟩
  · exact no
  · have h1 := zqR_g1 (k := k) h
    have j1g : zqg1 N.2.1 k 1158 k = 7 := (zqg1_o (by omega)).trans j1
    have go : ∀ b j, (b < 1153 ∨ (1154 ≤ b ∧ b < 1166) ∨ 1189 ≤ b) → zqg1 N.2.1 k b j = N.2.1 b j := fun b j hb => zqg1_o (by omega)
    have go2 : ∀ j, j ≠ 33 → j ≠ 36 → j ≠ 38 → zqg1 N.2.1 k 1153 j = N.2.1 1153 j := fun j _ h2 _ => zu2_i h2 _ _ _ _
    have ts : zqg1 N.2.1 k 1166 s = 1 := (zqg1_o (by omega)).trans ht
    generalize edx : N.2.1 1161 (4 * k + 1) = w at *
    obtain ⟨h8, hw⟩ := h8
    generalize eg1 : zqg1 N.2.1 k = g1 at *
    have th : zqth2 g1 s := ⟨hs, ts⟩
    obtain ⟨p, hp, ep⟩ := zqpl s th
    have r := zqQ_raise h1 hk th hp ep hw
    have bk2 := zqR_bk r
    have ec := fun Q9 => c25 (L := L) (M := M) (w := w) (Q := Q9) hM (zqR_bk h) hs (by rw [zqR_t h hs]; exact ht) hw bk2
    have er := fun Q9 => c218 (L := L) (M := zwI N g1) (s := s) (p := p) (w := w) (Q := Q9) hN (zqR_rbk h1) hs hp ep hw
    have tr : zrri g1 s p w 1166 s = 1 := (zrri_o (by omega)).trans ts
    have er2 := fun Q9 => c225 (L := L) (M := zwI N (zrri g1 s p w)) (s := s) (Q := Q9) hN (zqR_rbk r) hs tr
    refine ⟨zrai M.2.1 s w, zu2 (zrri g1 s p w) 1153 36 (zcnt (zrbl (zrri g1 s p w) s) 60 : Int), (zcnt (zcbl (zrai M.2.1 s w) s) 60 : Int), 1, fun Q => c10_7 (v := (zcnt (zcbl (zrai M.2.1 s w) s) 60 : Int)) (M9 := zwI M (zrai M.2.1 s w)) hM (zqR_01 h) hk hk hg j0 hs e2 (fun Q9 => by rw [h8]; exact ec Q9), e 1 _ (Or.inr rfl) (fun Q9 => c208_7 (a := (zcnt (zrbl (zrri g1 s p w) s) 60 : Int)) (x := 0) (M9 := zwI N (zrri g1 s p w)) (M10 := zwI N (zrri g1 s p w)) (M := zwI N g1) hN hk hs j1g er er2), fun b j hb => ?_, fun b j hb => ?_, fun j q1 q2 q3 => ?_, Or.inr ⟨rfl, by omega, ?_, zqR_36 r⟩⟩
    · exact zrai_f hs (by omega)
    · rw [zu2_sj (by omega), zrri_o (by omega)]
      exact go b j hb
    · rw [zu2_sj (by omega), zrri_o (by omega)]
      exact go2 j q1 q2 q3
    · rw [zu2_eq]
      refine congrArg (fun u : Nat => (u : Int)) ?_
      refine zcnt_cong _ _ 60 (fun i hi => ?_)
      have tr2 : zqth2 (zrri g1 s p w) s := ⟨hs, tr⟩
      rw [Bool.eq_iff_iff, zqbl r tr2 hi]
      unfold zrbl
      rw [Bool.and_eq_true, zrnl_iff]
      exact ⟨fun q => ⟨⟨hi, q.1.1⟩, q.1.2, q.2⟩, fun q => ⟨⟨q.1.2, q.2.1⟩, q.2.2⟩⟩
end ZRAISED2Q
end SG_CK_raised2
section SG_CL_anew
/-! the journals; the boards made anew -/
section ZANEWQ
/-- one entry of both journals -/
def zqJe (M N : zM) (k : Nat) : Prop := (M.2.1 (855 + 4 * k) 1 = N.2.1 1159 k ∧ 0 ≤ N.2.1 1159 k ∧ N.2.1 1159 k ≤ 2) ∧ (zqJ0 M N k ∨ zqJ1 M N k 1 ∨ (zqJ1 M N k 2 ∧ (M.2.1 (855 + 4 * k) 6 = N.2.1 1161 (4 * k + 1) ∧ -60 ≤ N.2.1 1161 (4 * k + 1) ∧ N.2.1 1161 (4 * k + 1) ≤ 60) ∧ (M.2.1 (855 + 4 * k) 7 = N.2.1 1161 (4 * k + 2) ∧ -60 ≤ N.2.1 1161 (4 * k + 2) ∧ N.2.1 1161 (4 * k + 2) ≤ 60) ∧ (M.2.1 (855 + 4 * k) 9 = N.2.1 1161 (4 * k + 3) ∧ (N.2.1 1161 (4 * k + 3) = 0 ∨ N.2.1 1161 (4 * k + 3) = 1))) ∨ (zqJ1 M N k 3 ∧ (M.2.1 (855 + 4 * k) 8 = N.2.1 1161 (4 * k + 1) ∧ 1 ≤ N.2.1 1161 (4 * k + 1) ∧ N.2.1 1161 (4 * k + 1) ≤ 3)) ∨ (zqJ1 M N k 4 ∧ (M.2.1 (855 + 4 * k) 9 = N.2.1 1161 (4 * k + 1) ∧ (N.2.1 1161 (4 * k + 1) = 0 ∨ N.2.1 1161 (4 * k + 1) = 1))) ∨ (zqJ1 M N k 5 ∧ (M.2.1 (855 + 4 * k) 8 = N.2.1 1161 (4 * k + 1) ∧ 2 ≤ N.2.1 1161 (4 * k + 1) ∧ N.2.1 1161 (4 * k + 1) ≤ 4)) ∨ (zqJ1 M N k 6 ∧ (M.2.1 (855 + 4 * k) 5 = N.2.1 1161 (4 * k + 1) ∧ 1 ≤ N.2.1 1161 (4 * k + 1) ∧ N.2.1 1161 (4 * k + 1) ≤ 9)) ∨ (zqJ1 M N k 7 ∧ (M.2.1 (855 + 4 * k) 8 = N.2.1 1161 (4 * k + 1) ∧ 0 ≤ N.2.1 1161 (4 * k + 1) ∧ N.2.1 1161 (4 * k + 1) ≤ 3)) ∨ (zqJ1 M N k 8 ∧ (M.2.1 (855 + 4 * k) 4 = N.2.1 1161 (4 * k + 1) ∧ 0 ≤ N.2.1 1161 (4 * k + 1) ∧ N.2.1 1161 (4 * k + 1) ≤ 3)) ∨ (zqJw M N k 9 ∧ (M.2.1 (855 + 4 * k) 2 = -1) ∧ (M.2.1 (855 + 4 * k) 3 = -1) ∧ (M.2.1 (855 + 4 * k) 4 = N.2.1 1161 (4 * k) ∧ 0 ≤ N.2.1 1161 (4 * k) ∧ N.2.1 1161 (4 * k) ≤ 3) ∧ (M.2.1 (855 + 4 * k) 9 = N.2.1 1161 (4 * k + 1) ∧ (N.2.1 1161 (4 * k + 1) = 0 ∨ N.2.1 1161 (4 * k + 1) = 1))) ∨ (zqJw M N k 10 ∧ zqJs M N k ∧ (M.2.1 (855 + 4 * k) 3 = N.2.1 1161 (4 * k + 1) ∧ 0 ≤ N.2.1 1161 (4 * k + 1) ∧ N.2.1 1161 (4 * k + 1) < 60) ∧ (M.2.1 (855 + 4 * k) 8 = N.2.1 1161 (4 * k + 2))) ∨ zqJ1 M N k 11 ∨ (zqJw M N k 12 ∧ (M.2.1 (855 + 4 * k) 2 = -1) ∧ (M.2.1 (855 + 4 * k) 3 = -1) ∧ (M.2.2.1 (855 + 4 * k) 10 = N.2.2.1 1162 k)) ∨ zqJ1 M N k 13 ∨ zqJ1 M N k 14 ∨ (zqJw M N k 15 ∧ (M.2.1 (855 + 4 * k) 2 = -1) ∧ (M.2.1 (855 + 4 * k) 3 = -1) ∧ (M.2.1 (855 + 4 * k) 9 = N.2.1 1161 (4 * k) ∧ (N.2.1 1161 (4 * k) = 0 ∨ N.2.1 1161 (4 * k) = 1)) ∧ (M.2.1 (855 + 4 * k) 8 = N.2.1 1161 (4 * k + 1) ∧ 0 ≤ N.2.1 1161 (4 * k + 1) ∧ N.2.1 1161 (4 * k + 1) ≤ 60)) ∨ zqJ1 M N k 16 ∨ zqJ17 M N k)
variable {L k : Nat} {M N M' N' : zM}
theorem zqS_all (hM : zLay M.2.2.2) (hN : zLayN N.2.2.2) (hk : k < 60) (h : zqR k M.2.1 N.2.1) (hj : zqJe M N k) : zqS L k M N := by
  obtain ⟨_, j⟩ := hj
  rcases j with j | j | ⟨j, a, b, c⟩ | ⟨j, a⟩ | ⟨j, a⟩ | ⟨j, a⟩ | ⟨j, a⟩ | ⟨j, a⟩ | ⟨j, a⟩ | ⟨j, a, b, c, d⟩ | ⟨j, a, b, c⟩ | j | ⟨j, a, b, c⟩ | j | j | ⟨j, a, b, c, d⟩ | j | j
  · exact zqS_0 hM hN hk h j
  · exact zqS_1 hM hN hk h j
  · exact zqS_2 hM hN hk h j a b c
  · exact zqS_3 hM hN hk h j a
  · exact zqS_4 hM hN hk h j a
  · exact zqS_5 hM hN hk h j a
  · exact zqS_6 hM hN hk h j a
  · exact zqS_7 hM hN hk h j a
  · exact zqS_8 hM hN hk h j a
  · exact zqS_9 hM hN hk h j a b c d
  · exact zqS_10 hM hN hk h j a b c
  · exact zqS_11 hM hN hk h j
  · exact zqS_12 hM hN hk h j a b c
  · exact zqS_13 hM hN hk h j
  · exact zqS_14 hM hN hk h j
  · exact zqS_15 hM hN hk h j a b c d
  · exact zqS_16 hM hN hk h j
  · exact zqS_17 hM hN hk h j
theorem zqJe_c (hk : k < 60) (hM : ∀ b, 855 ≤ b → b < 1095 → M'.2.1 b = M.2.1 b) (hL : M'.2.2.1 (855 + 4 * k) = M.2.2.1 (855 + 4 * k)) (hN : ∀ b, 1158 ≤ b → b < 1166 → N'.2.1 b = N.2.1 b) (hL2 : N'.2.2.1 1162 = N.2.2.1 1162) (h : zqJe M N k) : zqJe M' N' k := by
  unfold zqJe zqJ0 zqJ1 zqJ17 zqJw zqJs at *
  rw [hM (855 + 4 * k) (by omega) (by omega), hM (856 + 4 * k) (by omega) (by omega), hM (857 + 4 * k) (by omega) (by omega), hM (858 + 4 * k) (by omega) (by omega), hL, hN 1158 (by omega) (by omega), hN 1159 (by omega) (by omega), hN 1161 (by omega) (by omega), hN 1163 (by omega) (by omega), hN 1164 (by omega) (by omega), hN 1165 (by omega) (by omega), hL2]
  exact h
theorem zqseq {α : Type} {P : Nat → α → Prop} {S : Nat → α → α → Prop} {a : α} : ∀ m : Nat, P 0 a → (∀ i, i < m → ∀ x, P i x → ∃ y, S i x y ∧ P (i + 1) y) → ∃ s : Nat → α, s 0 = a ∧ (∀ i, i ≤ m → P i (s i)) ∧ ∀ i, i < m → S i (s i) (s (i + 1))
  | 0, h0, _ => ⟨fun _ => a, rfl, fun i hi => by
    have : i = 0 := by omega
    subst this; exact h0, fun i h => absurd h (Nat.not_lt_zero i)⟩
  | m + 1, h0, hs => by
    obtain ⟨s, s0, s1, s2⟩ := zqseq m h0 (fun i hi => hs i (by omega))
    obtain ⟨y, y1, y2⟩ := hs m (by omega) (s m) (s1 m (Nat.le_refl _))
    refine ⟨fun j => if j ≤ m then s j else y, by show (if 0 ≤ m then s 0 else y) = a; rw [if_pos (by omega)]; exact s0, fun i hi => ?_, fun i hi => ?_⟩
    · show P i (if i ≤ m then s i else y)
      by_cases c : i ≤ m
      · rw [if_pos c]; exact s1 i c
      · rw [if_neg c]
        have : i = m + 1 := by omega
        subst this; exact y2
    · show S i (if i ≤ m then s i else y) (if i + 1 ≤ m then s (i + 1) else y)
      rw [if_pos (by omega)]
      by_cases c : i + 1 ≤ m
      · rw [if_pos c]; exact s2 i (by omega)
      · rw [if_neg c]
        have : i = m := by omega
        subst this; exact y1
/-- both boards cleared -/
theorem zqR_0 {f g : Nat → Nat → Int} (hv : ∀ i, i < 60 → (0 ≤ g 1167 i ∧ g 1167 i ≤ 3) ∧ 0 ≤ g 1168 i ∧ g 1168 i ≤ 9) (h : zqJ f) : zqR 0 (zcla f) (zrcl g) := by
  have c0 : ∀ i, i < 60 → zcla f (14 + 14 * i) 0 = 0 := fun i hi => by
    unfold zcla zfil zclr
    rw [zu2_sj (by omega), if_neg (by omega), if_pos ⟨rfl, by omega, by omega, by omega⟩]
  have cj : ∀ i j, i < 60 → j ≠ 0 → zcla f (14 + 14 * i) j = f (14 + 14 * i) j := fun i j hi hj => by
    unfold zcla zfil zclr
    rw [zu2_sj (by omega), if_neg (by omega), if_neg (by omega), if_neg (by omega)]
  have c6 : ∀ l, l < 4 → zcla f 6 l = 0 := fun l hl => by
    unfold zcla zfil zclr
    rw [zu2_sj (by omega), if_neg (by omega), if_neg (by omega), if_pos ⟨rfl, hl⟩]
  have c7 : ∀ i, i < 60 → zcla f 7 i = -1 := fun i hi => by
    unfold zcla zfil
    rw [zu2_sj (by omega), if_pos ⟨rfl, hi⟩]
  have c8 : ∀ i, zcla f 8 i = f 8 i := fun i => by
    unfold zcla zfil zclr
    rw [zu2_sj (by omega), if_neg (by omega), if_neg (by omega), if_neg (by omega)]
  have c11 : zcla f 11 0 = 0 := by
    unfold zcla
    rw [zu2_eq]
  have g66 : ∀ i, i < 60 → zrcl g 1166 i = 0 := fun i hi => by
    unfold zrcl zrc2 zrc1
    rw [zu2_sj (by omega), if_neg (by omega), if_pos ⟨Or.inl rfl, hi⟩]
  have gm : ∀ d i, (d = 1180 ∨ d = 1172 ∨ d = 1173) → i < 60 → zrcl g d i = -1 := fun d i hd hi => by
    unfold zrcl zrc2 zrc1
    rw [zu2_sj (by omega), if_neg (by omega), if_neg (by omega), if_pos ⟨hd, hi⟩]
  have g81 : ∀ l, l < 4 → zrcl g 1181 l = 1 := fun l hl => by
    unfold zrcl zrc2
    rw [zu2_sj (by omega), if_pos ⟨rfl, hl⟩]
  have g33 : zrcl g 1153 33 = 0 := by
    unfold zrcl
    rw [zu2_eq]
  have gv : ∀ d i, (d = 1167 ∨ d = 1168) → zrcl g d i = g d i := fun d i hd => by
    unfold zrcl zrc2 zrc1
    rw [zu2_sj (by omega), if_neg (by omega), if_neg (by omega), if_neg (by omega)]
  generalize zcla f = F at *
  generalize zrcl g = G at *
  obtain ⟨J1, J2, J3, J4⟩ := h
  refine ⟨⟨by omega, fun i hi => ?_⟩, fun i hi t => ?_, ⟨fun i hi t => ?_, fun i j hi _ _ t => ?_⟩, ⟨fun i hi t => ?_, fun i hi => ?_, fun i hi => ?_⟩, fun i hi => ?_, ⟨fun l hl => ?_, fun i hi => by rw [gv 1167 i (by omega), gv 1168 i (by omega)]; exact hv i hi⟩, ⟨by omega, by omega, fun k hk => ?_⟩, fun i hi t => ?_, ⟨fun i hi => ?_, fun i hi => ?_, ⟨fun i hi => ?_, fun i hi => ?_⟩, fun i hi => ?_⟩⟩
  · rw [g66 i hi, c0 i hi]
    exact ⟨Or.inl rfl, rfl, fun h => absurd h (by omega)⟩
  · rw [g66 i hi] at t; omega
  · rw [g66 i hi] at t; omega
  · rw [g66 i hi] at t; omega
  · rw [g66 i hi] at t; omega
  · rw [gm 1172 i (by omega) hi]; omega
  · rw [gm 1172 i (by omega) hi]; exact Or.inl rfl
  · rw [g66 i hi, gm 1180 i (by omega) hi, c7 i hi]
    exact ⟨fun h => absurd h (by omega), fun _ => rfl, Or.inl rfl⟩
  · rw [g81 l hl, c6 l hl]
    exact ⟨Or.inr rfl, rfl⟩
  · omega
  · rw [g66 i hi] at t; omega
  · unfold zKy
    rw [cj i 3 hi (by omega), cj i 4 hi (by omega)]
    exact J1 i hi
  · unfold zld
    rw [cj i 6 hi (by omega)]
    exact J2 i hi
  · rw [cj i 8 hi (by omega)]
    exact J3.1 i hi
  · rw [c7 i hi]; omega
  · rw [c8]
    exact J4 i hi
/-- what the boards keep when they are made anew -/
def zqkc (f' f : Nat → Nat → Int) : Prop := ∀ b j, (b < 3 ∨ 854 ≤ b) → f' b j = f b j
def zqkr (g' g : Nat → Nat → Int) : Prop := (∀ b j, (b < 1153 ∨ (1154 ≤ b ∧ b < 1166) ∨ 1189 ≤ b) → g' b j = g b j) ∧ ∀ j, j ≠ 33 → j ≠ 36 → j ≠ 38 → g' 1153 j = g 1153 j
/-- both journals -/
def zqJn (M N : zM) (m : Nat) : Prop := m ≤ 60 ∧ (M.2.1 2 2 = (m : Int) ∧ N.2.1 1153 8 = (m : Int)) ∧ ∀ k, k < m → zqJe M N k ∧ M.2.1 (855 + 4 * k) 11 = N.2.1 1160 k ∧ (N.2.1 1160 k = 0 ∨ N.2.1 1160 k = 1)
theorem zqanew {m : Nat} (hM : zLay M.2.2.2) (hN : zLayN N.2.2.2) (hv : ∀ i, i < 60 → (0 ≤ N.2.1 1167 i ∧ N.2.1 1167 i ≤ 3) ∧ 0 ≤ N.2.1 1168 i ∧ N.2.1 1168 i ≤ 9) (hj : zqJ M.2.1) (hJ : zqJn M N m) : ∃ F G : Nat → Nat → Int, (∀ Q : zO → zM → Prop, zFR (zK L) 166 0 (zcall 166 [.inr (.inr 2)]) [] M Q = Q (.inl none) (zwI M F)) ∧ (∀ Q : zO → zM → Prop, zFR (zK L) 191 0 (zcall 191 [.inr (.inr 1153)]) [] N Q = Q (.inl none) (zwI N G)) ∧ zqR m F G ∧ zqkc F M.2.1 ∧ zqkr G N.2.1 := by
  obtain ⟨h60, ⟨hm1, hm2⟩, hJ⟩ := hJ
  obtain ⟨s, s0, s1, s2⟩ := zqseq (α := (Nat → Nat → Int) × (Nat → Nat → Int) × Int × Int) (P := fun i x => zqR i x.1 x.2.1 ∧ zqkc x.1 M.2.1 ∧ zqkr x.2.1 N.2.1) (S := fun i x y => (N.2.1 1160 i = 0 → y.1 = x.1 ∧ y.2.1 = x.2.1) ∧ (N.2.1 1160 i ≠ 0 → (∀ Q : zO → zM → Prop, zFR (zK L) 10 0 (zcall 10 [.inr (.inr 3), .inr (.inr (855 + 4 * i)), .inl (i : Int)]) [] (zwI M x.1) Q = Q (.inl (some (.inl y.2.2.1))) (zwI M y.1)) ∧ (∀ Q : zO → zM → Prop, zFR (zK L) 192 0 (zcall 192 [.inr (.inr 1153), .inl (i : Int)]) [] (zwI N x.2.1) Q = Q (.inl (some (.inl y.2.2.2))) (zwI N y.2.1)))) (a := (zcla M.2.1, zrcl N.2.1, 0, 0)) m ⟨zqR_0 hv hj, fun b j hb => by
      show zcla M.2.1 b j = _
      unfold zcla zfil zclr
      rw [zu2_sj (by omega), if_neg (by omega), if_neg (by omega), if_neg (by omega)], fun b j hb => by
      show zrcl N.2.1 b j = _
      unfold zrcl zrc2 zrc1
      rw [zu2_sj (by omega), if_neg (by omega), if_neg (by omega), if_neg (by omega)], fun j j1 j2 j3 => by
      show zrcl N.2.1 1153 j = _
      unfold zrcl zrc2 zrc1
      rw [zu2_sj (by omega), if_neg (by omega), if_neg (by omega), if_neg (by omega)]⟩ (fun i hi x hx => by
    obtain ⟨x1, x2, x3⟩ := hx
    by_cases c : N.2.1 1160 i = 0
    · exact ⟨x, ⟨fun _ => ⟨rfl, rfl⟩, fun h => absurd c h⟩, zqR_n (by omega) x1, x2, x3⟩
    · obtain ⟨f', g', v, b, e1, e2, k1, k2, k3, r⟩ := zqS_all (L := L) (M := zwI M x.1) (N := zwI N x.2.1) hM hN (show i < 60 by omega) x1 (zqJe_c (by omega) (fun b b1 b2 => funext fun j => x2 b j (by omega)) rfl (fun b b1 b2 => funext fun j => x3.1 b j (by omega)) rfl (hJ i hi).1)
      refine ⟨(f', g', v, b), ⟨fun h => absurd h c, fun _ => ⟨e1, e2⟩⟩, ?_, fun b j hb => (k1 b j hb).trans (x2 b j hb), fun b j hb => (k2 b j hb).trans (x3.1 b j hb), fun j j1 j2 j3 => (k3 j j1 j2 j3).trans (x3.2 j j1 j2 j3)⟩
      rcases r with ⟨_, _, r⟩ | ⟨_, _, _, r⟩
      · exact zqR_n (by omega) r
      · exact r)
  have st0 : (s 0).1 = zcla M.2.1 ∧ (s 0).2.1 = zrcl N.2.1 := by rw [s0]; exact ⟨rfl, rfl⟩
  have k11 : ∀ i, i < m → (s i).1 (855 + 4 * i) 11 = N.2.1 1160 i := fun i hi => by
    rw [(s1 i (by omega)).2.1 _ _ (by omega)]
    exact (hJ i hi).2.1
  have k60 : ∀ i, i < m → (s i).2.1 1160 i = N.2.1 1160 i := fun i hi => (s1 i (by omega)).2.2.1 _ _ (by omega)
  refine ⟨(s m).1, (s m).2.1, fun Q => c166 (st := fun i => (s i).1) (v := fun i => (s (i + 1)).2.2.1) hM h60 st0.1 (fun i hi => ((s1 i hi).2.1 _ _ (by omega)).trans hm1) (fun i hi h => ((s2 i hi).1 (by rw [← k11 i hi]; exact h)).1) (fun i hi h => ((s2 i hi).2 (by rw [← k11 i hi]; exact h)).1), fun Q => c191 (st := fun i => (s i).2.1) (v := fun i => (s (i + 1)).2.2.2) hN h60 st0.2 (fun i hi => ((s1 i hi).2.2.2 _ (by omega) (by omega) (by omega)).trans hm2) (fun i hi h => ((s2 i hi).1 (by rw [← k60 i hi]; exact h)).2) (fun i hi h => ((s2 i hi).2 (by rw [← k60 i hi]; exact h)).2), (s1 m (Nat.le_refl _)).1, (s1 m (Nat.le_refl _)).2.1, (s1 m (Nat.le_refl _)).2.2⟩
end ZANEWQ
end SG_CL_anew
