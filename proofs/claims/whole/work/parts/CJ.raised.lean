/-! raised, in both programs: keys between keys, a layer numbered anew -/
section ZRAISEDQ
variable {n : Nat} {f g f' g' : Nat → Nat → Int} {s p : Nat}
theorem zcnt_bd {q : Nat → Bool} {m : Nat} : ∀ k, (∀ i, i < k → q i = true → i < m) → zcnt q k ≤ m
  | 0, _ => Nat.zero_le _
  | k + 1, h => by
    have ih := zcnt_bd k (fun i hi => h i (by omega))
    have le := zcnt_le q k
    rw [zcnt_s]
    by_cases c : q k = true
    · rw [if_pos c]
      have := h k (by omega) c
      omega
    · rw [if_neg c]; exact ih
theorem zqctn (h : zqR n f g) : zrct g ≤ n := zcnt_bd 60 (fun i hi ht => (h.1.2 i hi).2.2 (of_decide_eq_true ht))
/-- between two keys there is room for this one -/
def zqB (g : Nat → Nat → Int) (s : Nat) (lo : Int) (hi : Nat) : Prop := ∀ i, zqth2 g i → i ≠ s → g 1167 i = g 1167 s → (lo ≠ -1 ∧ (i = lo.toNat ∨ zrlt g i lo.toNat = true)) ∨ i = hi ∨ zrlt g hi i = true
/-- those that a key comes between -/
def zqLH (g : Nat → Nat → Int) (s : Nat) (lo : Int) (hi : Nat) : Prop := (lo = -1 ∨ (0 ≤ lo ∧ zqth2 g lo.toNat ∧ g 1167 lo.toNat = g 1167 s)) ∧ zqth2 g hi ∧ g 1167 hi = g 1167 s
theorem zqfk (h : zqR n f g) {lo : Int} {hi : Nat} (hl : zqLH g s lo hi) : zfkn f lo hi = zrfn g lo hi ∧ zlt3 f lo = zrl3 g lo ∧ zlt4 f lo = zrl4 g lo := by
  obtain ⟨h1, h2, h3⟩ := hl
  have e34 : zlt3 f lo = zrl3 g lo ∧ zlt4 f lo = zrl4 g lo := by
    unfold zlt3 zlt4 zrl3 zrl4
    rcases h1 with e | ⟨e1, e2, _⟩
    · rw [if_pos e, if_pos e, if_pos (by omega), if_pos (by omega)]
      exact ⟨rfl, rfl⟩
    · obtain ⟨k1, k2, _⟩ := h.2.2.1.1 _ e2.1 e2.2
      rw [if_neg (by omega), if_neg (by omega), if_neg (by omega), if_neg (by omega)]
      exact ⟨k1, k2⟩
  obtain ⟨k1, k2, _⟩ := h.2.2.1.1 hi h2.1 h2.2
  refine ⟨?_, e34⟩
  unfold zfkn zrfn
  rw [e34.1, e34.2, k1, k2]
theorem zqQ_fk (h : zqR n f g) (hn : n < 60) (hs : zqth2 g s) {lo : Int} {hi : Nat} (hl : zqLH g s lo hi) (hB : zqB g s lo hi) : zqR n (zfkw f s lo hi) (zrfw g s lo hi) := by
  obtain ⟨e1, e3, e4⟩ := zqfk h hl
  unfold zfkw zrfw
  rw [e1, e3, e4]
  by_cases c : zrfn g lo hi = 0
  · rw [if_pos c, if_pos c]; exact h
  · rw [if_neg c, if_neg c]
    obtain ⟨h1, h2, h3⟩ := hl
    obtain ⟨_, _, c1, ⟨d1, d2⟩, c2⟩ := h.2.2.1.1 hi h2.1 h2.2
    have lk : 0 ≤ zrl3 g lo ∧ 1 ≤ zrl4 g lo := by
      unfold zrl3 zrl4
      rcases h1 with e | ⟨e1, e2, _⟩
      · rw [if_pos (by omega), if_pos (by omega)]; omega
      · obtain ⟨_, _, k1, ⟨k2, _⟩, _⟩ := h.2.2.1.1 _ e2.1 e2.2
        rw [if_neg (by omega), if_neg (by omega)]; omega
    have sp := (zfk_sp (a := zrl3 g lo) (b := zrl4 g lo) (c := g 1169 hi) (d := g 1170 hi) 50 1).resolve_left c
    change 1 ≤ zrfn g lo hi ∧ zrfn g lo hi < 1 + 50 ∧ (zrl3 g lo * (zrfn g lo hi : Int) / zrl4 g lo + 1) * g 1170 hi < g 1169 hi * (zrfn g lo hi : Int) at sp
    generalize em : zrfn g lo hi = m at *
    obtain ⟨s1, s2, s3⟩ := sp
    have t0 : 0 ≤ zrl3 g lo * (m : Int) / zrl4 g lo := Int.ediv_nonneg (Int.mul_nonneg lk.1 (by omega)) (by omega)
    have low := zdvm (a := zrl3 g lo * (m : Int)) (b := zrl4 g lo) (t := zrl3 g lo * (m : Int) / zrl4 g lo + 1) lk.2 (Int.le_refl _)
    have t1 : 1 ≤ zrl3 g lo * (m : Int) / zrl4 g lo + 1 := by omega
    generalize zrl3 g lo * (m : Int) / zrl4 g lo + 1 = t at *
    have up : t ≤ (n : Int) * (m : Int) := by
      have q1 : g 1169 hi * (m : Int) ≤ (n : Int) * g 1170 hi * (m : Int) := Int.mul_le_mul_of_nonneg_right c2 (by omega)
      have q2 : t * g 1170 hi < ((n : Int) * (m : Int)) * g 1170 hi := by
        have : (n : Int) * g 1170 hi * (m : Int) = ((n : Int) * (m : Int)) * g 1170 hi := by rw [Int.mul_assoc, Int.mul_comm (g 1170 hi), ← Int.mul_assoc]
        omega
      have := Int.lt_of_mul_lt_mul_right q2 (by omega)
      omega
    refine zqQ_key h hn hs t1 ⟨by omega, by omega⟩ up (fun i hi2 his hly => ?_)
    obtain ⟨_, _, _, ⟨b1, _⟩, _⟩ := h.2.2.1.1 i hi2.1 hi2.2
    rcases hB i hi2 his hly with ⟨l0, hb⟩ | hb
    · obtain ⟨f1, f2, f3⟩ := h1.resolve_left l0
      have e3 : zrl3 g lo = g 1169 lo.toNat := by unfold zrl3; rw [if_neg (by omega)]
      have e4 : zrl4 g lo = g 1170 lo.toNat := by unfold zrl4; rw [if_neg (by omega)]
      have le : g 1169 i * zrl4 g lo ≤ zrl3 g lo * g 1170 i := by
        rw [e3, e4]
        rcases hb with e | e
        · rw [← e]; exact Int.le_refl _
        · rw [zrlt_iff] at e
          omega
      have := zfr_tr (a := g 1169 i) (b := g 1170 i) (c := zrl3 g lo) (d := zrl4 g lo) (e := t) (h := (m : Int)) b1 lk.2 (by omega) le low
      omega
    · have le : g 1169 hi * g 1170 i ≤ g 1169 i * g 1170 hi := by
        rcases hb with e | e
        · rw [e]; exact Int.le_refl _
        · rw [zrlt_iff] at e
          omega
      have := zfr_tr2 (a := t) (b := (m : Int)) (c := g 1169 hi) (d := g 1170 hi) (e := g 1169 i) (h := g 1170 i) (by omega) d1 b1 s3 le
      omega
/-- the orders are the same -/
theorem zqord (h : zqR n f g) : zcnt (zcth f) 60 = zrct g ∧ ∀ j, j < zrct g → zord (zclt f) (zcth f) (f 5) 60 j = zrod g j := by
  have c := zord_cg (lt := zclt f) (lt' := zrlt g) (th := zcth f) (th' := zrth g) (o := f 5) (o' := g 1184) 60 (fun i hi => by
    unfold zcth zrth
    rw [zqR_t h hi]) (fun i j hi hj ti tj => by
    unfold zcth at ti tj
    rw [decide_eq_true_iff, zqR_t h hi] at ti
    rw [decide_eq_true_iff, zqR_t h hj] at tj
    exact zqlt h.2.1 h.2.2.1 ⟨hi, ti⟩ ⟨hj, tj⟩)
  refine ⟨c.1, fun j hj => c.2 j ?_⟩
  rw [c.1]
  exact hj
theorem zrrm_v {G : Nat → Nat → Int} {l : Int} {o : Nat → Int} {c : Nat} (hi : ∀ i j, i < c → j < c → o i = o j → i = j) (h0 : ∀ i, i < c → 0 ≤ o i) : ∀ i, i ≤ c → ∀ q v : Nat, q < c → o q = (v : Int) → ((q < i ∧ G 1167 v = l) → zrrm G l o i 1169 v = (zrrk G l o (q + 1) : Int) ∧ zrrm G l o i 1170 v = 1) ∧ ((i ≤ q ∨ G 1167 v ≠ l) → zrrm G l o i 1169 v = G 1169 v ∧ zrrm G l o i 1170 v = G 1170 v)
  | 0, _, q, v, _, _ => ⟨fun h => absurd h.1 (Nat.not_lt_zero q), fun _ => ⟨rfl, rfl⟩⟩
  | i + 1, hic, q, v, hq, hv => by
    obtain ⟨a, b⟩ := zrrm_v hi h0 i (by omega) q v hq hv
    rw [zrrm_s]
    by_cases e : q = i
    · subst e
      rw [hv, Int.toNat_natCast]
      by_cases d : G 1167 v = l
      · rw [if_pos d]
        refine ⟨fun _ => ?_, fun h => absurd h (by omega)⟩
        rw [zu2_a (by omega), zu2_eq, zu2_eq]
        exact ⟨rfl, rfl⟩
      · rw [if_neg d]
        exact ⟨fun h => absurd h.2 d, fun _ => b (Or.inr d)⟩
    · have ne : v ≠ (o i).toNat := fun e2 => e (hi q i hq (by omega) (by
        have := h0 i (by omega)
        omega))
      have same : (if G 1167 (o i).toNat = l then zu2 (zu2 (zrrm G l o i) 1169 (o i).toNat (zrrk G l o (i + 1) : Int)) 1170 (o i).toNat 1 else zrrm G l o i) 1169 v = zrrm G l o i 1169 v ∧ (if G 1167 (o i).toNat = l then zu2 (zu2 (zrrm G l o i) 1169 (o i).toNat (zrrk G l o (i + 1) : Int)) 1170 (o i).toNat 1 else zrrm G l o i) 1170 v = zrrm G l o i 1170 v := by
        split
        · rw [zu2_sj (by omega), zu2_sj (by omega), zu2_sj (by omega), zu2_sj (by omega)]
          exact ⟨rfl, rfl⟩
        · exact ⟨rfl, rfl⟩
      rw [same.1, same.2]
      exact ⟨fun h => a ⟨by omega, h.2⟩, fun h => b (h.imp (fun h => by omega) id)⟩
theorem zqnm {F G : Nat → Nat → Int} {l : Int} {o o' : Nat → Int} {c : Nat} (ho : ∀ j, j < c → o j = o' j ∧ F (14 + 14 * (o j).toNat) 1 = G 1167 (o' j).toNat) (hk : ∀ v, zqth2 G v → F (14 + 14 * v) 3 = G 1169 v ∧ F (14 + 14 * v) 4 = G 1170 v) : ∀ i, i ≤ c → ∀ v, zqth2 G v → zrnm F l o i (14 + 14 * v) 3 = zrrm G l o' i 1169 v ∧ zrnm F l o i (14 + 14 * v) 4 = zrrm G l o' i 1170 v
  | 0, _, v, hv => hk v hv
  | i + 1, hic, v, hv => by
    obtain ⟨a, b⟩ := zqnm (l := l) ho hk i (by omega) v hv
    obtain ⟨o1, o2⟩ := ho i (by omega)
    have rk : zrnk F l o (i + 1) = zrrk G l o' (i + 1) := by
      unfold zrnk zrrk
      refine zcnt_cong _ _ _ (fun j hj => ?_)
      rw [(ho j (by omega)).2]
    rw [zrnm_s, zrrm_s, rk, o2, o1]
    by_cases d : G 1167 (o' i).toNat = l
    · rw [if_pos d, if_pos d]
      by_cases e : v = (o' i).toNat
      · subst e
        rw [zu2_i (by omega), zu2_eq, zu2_eq, zu2_a (by omega), zu2_eq, zu2_eq]
        exact ⟨rfl, rfl⟩
      · rw [zu2_sj (by omega), zu2_sj (by omega), zu2_sj (by omega), zu2_sj (by omega), zu2_sj (by omega), zu2_sj (by omega), zu2_sj (by omega), zu2_sj (by omega)]
        exact ⟨a, b⟩
    · rw [if_neg d, if_neg d]
      exact ⟨a, b⟩
theorem zrnm_o2 {F : Nat → Nat → Int} {l : Int} {o : Nat → Int} {a j : Nat} (h : a < 14 ∨ (a - 14) % 14 ≠ 0 ∨ (j ≠ 3 ∧ j ≠ 4)) : ∀ i, zrnm F l o i a j = F a j
  | 0 => rfl
  | i + 1 => by
    have ih := zrnm_o2 (F := F) (l := l) (o := o) h i
    rw [zrnm_s]
    split
    · rw [zu2_if, zu2_if, if_neg (by omega), if_neg (by omega), ih]
    · exact ih
theorem zrrk_m {G : Nat → Nat → Int} {l : Int} {o : Nat → Int} : ∀ k q : Nat, zrrk G l o q ≤ zrrk G l o (q + k)
  | 0, q => Nat.le_refl _
  | k + 1, q => by
    have ih := zrrk_m (G := G) (l := l) (o := o) k q
    have := zrrk_s G l o (q + k)
    rw [← Nat.add_assoc, this]
    split <;> omega
/-- a layer numbered anew -/
theorem zqQ_ren (h : zqR n f g) (hn : n < 60) (hs : zqth2 g s) : zqR n (zrnw f s) (zrrw g s) ∧ ∀ i j, zqth2 g i → zqth2 g j → g 1167 i = g 1167 s → g 1167 j = g 1167 s → (zrlt (zrrw g s) i j = true ↔ zrlt g i j = true) := by
  obtain ⟨cn, eo⟩ := zqord h
  have hK := h.2.2.1
  have hrt : ∀ i, i < 60 → f (14 + 14 * i) 0 = g 1166 i := fun i hi => zqR_t h hi
  have ctn := zqctn h
  have ct60 : zrct g ≤ 60 := zcnt_le _ _
  have inj : ∀ i j, i < zrct g → j < zrct g → zrod g i = zrod g j → i = j := fun i j hi hj e => zord_inj _ _ _ 60 i j hi hj e
  have nn : ∀ i, i < zrct g → 0 ≤ zrod g i := fun i hi => by
    obtain ⟨v, _, e⟩ := zqvl hi
    omega
  have el : f (14 + 14 * s) 1 = g 1167 s := (h.2.1 s hs.1 hs.2).1
  have G67 : ∀ j, zrg g 1167 j = g 1167 j := fun j => zrg_o (by omega)
  have G69 : ∀ j, zrg g 1169 j = g 1169 j := fun j => zrg_o (by omega)
  have G70 : ∀ j, zrg g 1170 j = g 1170 j := fun j => zrg_o (by omega)
  have G66 : ∀ j, zrg g 1166 j = g 1166 j := fun j => zrg_o (by omega)
  have rv := fun (q v : Nat) (hq : q < zrct g) (hv : zrod g q = (v : Int)) => zrrm_v (G := zrg g) (l := g 1167 s) inj nn (zrct g) (Nat.le_refl _) q v hq hv
  have nm := zqnm (F := zua f 5 (zord (zclt f) (zcth f) (f 5) 60)) (G := zrg g) (l := g 1167 s) (o := zord (zclt f) (zcth f) (f 5) 60) (o' := zrod g) (c := zrct g) (fun j hj => by
    obtain ⟨v, v1, v2⟩ := zqvl hj
    rw [eo j hj, v2, Int.toNat_natCast, zua_o (by omega), G67]
    exact ⟨rfl, (h.2.1 v v1.1 v1.2).1⟩) (fun v hv => by
    rw [zua_o (by omega), zua_o (by omega), G69, G70]
    obtain ⟨a, b, _⟩ := hK.1 v hv.1 ((G66 v).symm.trans hv.2)
    exact ⟨a, b⟩) (zrct g) (Nat.le_refl _)
  -- the key of each shape now
  have val : ∀ v, zqth2 g v → ∃ q, q < zrct g ∧ zrod g q = (v : Int) ∧ ((g 1167 v = g 1167 s ∧ zrrw g s 1169 v = (zrrk (zrg g) (g 1167 s) (zrod g) (q + 1) : Int) ∧ zrrw g s 1170 v = 1 ∧ 1 ≤ zrrk (zrg g) (g 1167 s) (zrod g) (q + 1) ∧ zrrk (zrg g) (g 1167 s) (zrod g) (q + 1) ≤ n) ∨ (g 1167 v ≠ g 1167 s ∧ zrrw g s 1169 v = g 1169 v ∧ zrrw g s 1170 v = g 1170 v)) := fun v hv => by
    obtain ⟨q, q1, q2⟩ := zqpl v hv
    refine ⟨q, q1, q2, ?_⟩
    obtain ⟨a, b⟩ := rv q v q1 q2
    by_cases d : g 1167 v = g 1167 s
    · obtain ⟨a1, a2⟩ := a ⟨q1, (G67 v).trans d⟩
      have le : zrrk (zrg g) (g 1167 s) (zrod g) (q + 1) ≤ q + 1 := zcnt_le _ _
      have st := zrrk_s (zrg g) (g 1167 s) (zrod g) q
      rw [q2, Int.toNat_natCast, G67, if_pos d] at st
      exact Or.inl ⟨d, a1, a2, by omega, by omega⟩
    · obtain ⟨b1, b2⟩ := b (Or.inr (fun e => d ((G67 v).symm.trans e)))
      exact Or.inr ⟨d, b1.trans (G69 v), b2.trans (G70 v)⟩
  have rkm : ∀ q r v : Nat, q < r → r < zrct g → zrod g r = (v : Int) → g 1167 v = g 1167 s → zrrk (zrg g) (g 1167 s) (zrod g) (q + 1) < zrrk (zrg g) (g 1167 s) (zrod g) (r + 1) := fun q r v hqr hr hv hl => by
    have st := zrrk_s (zrg g) (g 1167 s) (zrod g) r
    rw [hv, Int.toNat_natCast, G67, if_pos hl] at st
    have m := zrrk_m (G := zrg g) (l := g 1167 s) (o := zrod g) (r - (q + 1)) (q + 1)
    rw [show q + 1 + (r - (q + 1)) = r by omega] at m
    omega
  have Go : ∀ b j, ((b ≠ 1169 ∧ b ≠ 1170) ∧ b ≠ 1184 ∧ (b ≠ 1153 ∨ j ≠ 38)) → zrrw g s b j = g b j := fun b j hb => by
    unfold zrrw
    rw [zrrm_o _ _ _ hb.1]
    exact zrg_o hb.2
  have iff : ∀ i j, zqth2 g i → zqth2 g j → g 1167 i = g 1167 s → g 1167 j = g 1167 s → (zrlt (zrrw g s) i j = true ↔ zrlt g i j = true) := fun i j hi hj li lj => by
    obtain ⟨q, q1, q2, q3⟩ := val i hi
    obtain ⟨r, r1, r2, r3⟩ := val j hj
    obtain ⟨_, a1, a2, a3, _⟩ := q3.resolve_right (fun e => e.1 li)
    obtain ⟨_, b1, b2, b3, _⟩ := r3.resolve_right (fun e => e.1 lj)
    rw [zrlt_iff, Go 1167 _ (by omega), Go 1167 _ (by omega), a1, a2, b1, b2]
    constructor
    · intro e
      by_cases qr : q < r
      · have := zqso hK qr r1
        rw [q2, r2, Int.toNat_natCast, Int.toNat_natCast] at this
        exact this
      · by_cases qr2 : q = r
        · subst qr2; omega
        · have := rkm r q i (by omega) q1 q2 li
          omega
    · intro e
      have qr := zqbf hK q1 r1 q2 r2 e
      have := rkm q r j qr r1 r2 lj
      exact Or.inl ⟨by omega, by omega⟩
  refine ⟨?_, iff⟩
  obtain ⟨T, A, K, Lr, G, V, D, S, J⟩ := h
  have key : ∀ v, zqth2 g v → zrnw f s (14 + 14 * v) 3 = zrrw g s 1169 v ∧ zrnw f s (14 + 14 * v) 4 = zrrw g s 1170 v := fun v hv => by
    have := nm v ⟨hv.1, (G66 v).trans hv.2⟩
    unfold zrnw zrrw
    rw [cn, el]
    exact this
  have hJ3 : ∀ i, i < 60 → zKy (zrnw f s) (14 + 14 * i) := fun i hi => by
    unfold zrnw
    refine zrnm_y (by rw [cn]; exact ct60) ?_
    have := J.1 i hi
    unfold zKy at *
    rw [zua_o (by omega), zua_o (by omega)]
    exact this
  have hF : ∀ b j, (b ≠ 5 ∧ (b < 14 ∨ (b - 14) % 14 ≠ 0 ∨ (j ≠ 3 ∧ j ≠ 4))) → zrnw f s b j = f b j := fun b j hb => by
    unfold zrnw
    rw [zrnm_o2 hb.2]
    exact zua_o hb.1 _ _
  generalize zrnw f s = f' at *
  generalize zrrw g s = g' at *
  have hG : ∀ b j, ((b ≠ 1169 ∧ b ≠ 1170) ∧ b ≠ 1184 ∧ (b ≠ 1153 ∨ j ≠ 38)) → g' b j = g b j := Go
  have h0 : ∀ i, i < 60 → g' 1166 i = g 1166 i := fun i hi => hG _ _ (by omega)
  have h00 : ∀ i, i < 60 → g' 1166 i = 1 → g 1166 i = 1 := fun i hi t => by rw [← h0 i hi]; exact t
  have hk : zqK n f' g' := by
    refine ⟨fun i hi t1 => ?_, fun i j hi hj hij t1 t2 tl => ?_⟩
    · have ti : zqth2 g i := ⟨hi, h00 i hi t1⟩
      obtain ⟨e3, e4⟩ := key i ti
      rw [e3, e4]
      obtain ⟨q, q1, q2, q3⟩ := val i ti
      rcases q3 with ⟨_, a1, a2, a3, a4⟩ | ⟨_, a1, a2⟩
      · rw [a1, a2]
        exact ⟨rfl, rfl, by omega, by omega, by omega⟩
      · rw [a1, a2]
        obtain ⟨_, _, b⟩ := K.1 i hi ti.2
        exact ⟨rfl, rfl, b⟩
    · rw [hG 1167 i (by omega), hG 1167 j (by omega)] at tl
      have ti : zqth2 g i := ⟨hi, h00 i hi t1⟩
      have tj : zqth2 g j := ⟨hj, h00 j hj t2⟩
      by_cases d : g 1167 i = g 1167 s
      · rcases zrlt_tot K i j ti tj hij with e | e
        · have := (iff i j ti tj d (by omega)).mpr e
          rw [zrlt_iff, hG 1167 i (by omega), hG 1167 j (by omega)] at this
          omega
        · have := (iff j i tj ti (by omega) d).mpr e
          rw [zrlt_iff, hG 1167 i (by omega), hG 1167 j (by omega)] at this
          omega
      · obtain ⟨q, q1, q2, q3⟩ := val i ti
        obtain ⟨r, r1, r2, r3⟩ := val j tj
        obtain ⟨_, a1, a2⟩ := q3.resolve_left (fun e => d e.1)
        obtain ⟨_, b1, b2⟩ := r3.resolve_left (fun e => d (by omega))
        rw [a1, a2, b1, b2]
        exact K.2 i j hi hj hij ti.2 tj.2 tl
  have hj : zqJ f' := by
    obtain ⟨J1, J2, J3, J4⟩ := J
    refine ⟨hJ3, fun i hi => ?_, ⟨fun i hi => ?_, fun i hi => ?_⟩, fun i hi => ?_⟩
    · unfold zld
      rw [hF _ _ (by omega)]; exact J2 i hi
    · rw [hF _ _ (by omega)]; exact J3.1 i hi
    · rw [hF _ _ (by omega)]; exact J3.2 i hi
    · rw [hF _ _ (by omega)]; exact J4 i hi
  exact ⟨zqT_c (fun i hi => hF _ _ (by omega)) h0 T, zqA_c h00 (fun i hi _ => ⟨hF _ _ (by omega), hF _ _ (by omega), hF _ _ (by omega)⟩) (fun i hi _ => ⟨hG _ _ (by omega), hG _ _ (by omega), hG _ _ (by omega)⟩) A, hk, zqL_c h0 (fun i hi => ⟨hF _ _ (by omega), hF _ _ (by omega)⟩) (fun i hi => ⟨hG _ _ (by omega), hG _ _ (by omega)⟩) Lr, zqG_c (Nat.le_refl _) T.1 h0 (fun i hi => ⟨hF _ _ (by omega), hF _ _ (by omega)⟩) (fun i hi => hG _ _ (by omega)) G, zqV_c (fun i hi => hF _ _ (by omega)) (fun i hi => hG _ _ (by omega)) (fun i hi => ⟨hG _ _ (by omega), hG _ _ (by omega)⟩) V, zqD_c (hF _ _ (by omega)) (hG _ _ (by omega)) (fun i hi => ⟨hF _ _ (by omega), hF _ _ (by omega)⟩) (fun i hi => ⟨hG _ _ (by omega), hG _ _ (by omega)⟩) D, zqF_c h00 (fun k hk _ b j h1 h2 h3 => hF _ _ (by omega)) (fun k hk _ => ⟨hG _ _ (by omega), hG _ _ (by omega), fun p _ => hG _ _ (by omega), fun j _ _ => ⟨hG _ _ (by omega), hG _ _ (by omega)⟩⟩) S, hj⟩
theorem zqQ_put (h : zqR n f g) (hn : n < 60) (hs : zqth2 g s) {lo : Int} {hi : Nat} (hl : zqLH g s lo hi) (hB : zqB g s lo hi) : zqR n (zput f s lo hi) (zrpt g s lo hi) := by
  obtain ⟨e1, _⟩ := zqfk h hl
  unfold zput zrpt
  rw [e1]
  by_cases c : zrfn g lo hi = 0
  · rw [if_pos c, if_pos c]
    obtain ⟨r, iff⟩ := zqQ_ren h hn hs
    have o66 : ∀ i, zrrw g s 1166 i = g 1166 i := fun i => by
      unfold zrrw
      rw [zrrm_o _ _ _ (by omega)]
      exact zrg_o (by omega)
    have o67 : ∀ i, zrrw g s 1167 i = g 1167 i := fun i => by
      unfold zrrw
      rw [zrrm_o _ _ _ (by omega)]
      exact zrg_o (by omega)
    have th : ∀ i, zqth2 (zrrw g s) i ↔ zqth2 g i := fun i => by unfold zqth2; rw [o66]
    refine zqQ_fk r hn ((th s).mpr hs) ?_ ?_
    · unfold zqLH at *
      rw [th, th, o67, o67, o67]
      exact hl
    · intro i hi2 his hly
      rw [o67, o67] at hly
      obtain ⟨l1, l2, l3⟩ := hl
      rcases hB i ((th i).mp hi2) his hly with ⟨a, b⟩ | b
      · obtain ⟨f1, f2, f3⟩ := l1.resolve_left a
        exact Or.inl ⟨a, b.imp id (fun e => (iff i _ ((th i).mp hi2) f2 hly f3).mpr e)⟩
      · exact Or.inr (b.imp id (fun e => (iff _ i l2 ((th i).mp hi2) l3 hly).mpr e))
  · rw [if_neg c, if_neg c]
    exact zqQ_fk h hn hs hl hB
end ZRAISEDQ
