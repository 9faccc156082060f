/-! changes that the law makes: a move, a snap -/
section ZPMOVES
variable {L m : Nat} {C C2 : zM} {s : Nat → zM}
theorem zp_first {P : Nat → Prop} : ∀ n, (∀ i, i < n → P i) ∨ ∃ i, i < n ∧ ¬ P i ∧ ∀ j, j < i → P j
  | 0 => Or.inl (fun i h => absurd h (Nat.not_lt_zero i))
  | n + 1 => by
    rcases zp_first (P := P) n with h | ⟨i, h1, h2, h3⟩
    · by_cases c : P n
      · refine Or.inl (fun i hi => ?_)
        by_cases e : i = n
        · subst e; exact c
        · exact h i (by omega)
      · exact Or.inr ⟨n, by omega, c, h⟩
    · exact Or.inr ⟨i, by omega, h2, h3⟩
theorem zp_fj {f : Nat → Nat → Int} {v w : Nat → Int} {k j : Nat} (hj : j < 11) : ∀ K, zshal f v w K (14 + 14 * k) j = f (14 + 14 * k) j
  | 0 => rfl
  | K + 1 => by
    rw [zshal_s]
    split
    · by_cases c : k = K
      · subst c
        unfold zshf
        rw [zfr_9 (by omega), zmp_o _ (by omega)]
        exact zp_fj hj k
      · unfold zshf
        rw [zfr_9 (by omega)]
        by_cases c2 : k < K
        · rw [zmp_o _ (by omega)]
          exact zp_fj hj K
        · rw [zmp_o _ (by omega)]
          exact zp_fj hj K
    · exact zp_fj hj K
/-- frames as they go -/
theorem zp_fr {f : Nat → Nat → Int} {v w : Nat → Int} {k : Nat} (t : f (14 + 14 * k) 0 = 1) : ∀ K, k < K → zshal f v w K (14 + 14 * k) 11 = f (14 + 14 * k) 11 + v k ∧ zshal f v w K (14 + 14 * k) 12 = f (14 + 14 * k) 12 + w k ∧ zshal f v w K (14 + 14 * k) 13 = f (14 + 14 * k) 13 + v k ∧ zshal f v w K (14 + 14 * k) 14 = f (14 + 14 * k) 14 + w k
  | 0, h => absurd h (Nat.not_lt_zero k)
  | K + 1, h => by
    rw [zshal_s]
    by_cases c : k = K
    · subst c
      have o : ∀ j, zshal f v w k (14 + 14 * k) j = f (14 + 14 * k) j := zshal_o f v w k (by omega)
      by_cases d : f (14 + 14 * k) 0 = 1 ∧ (v k ≠ 0 ∨ w k ≠ 0)
      · rw [if_pos d]
        unfold zshf zfr
        rw [o, o, o, o]
        simp
      · rw [if_neg d, o, o, o, o]
        have : v k = 0 ∧ w k = 0 := by
          by_cases q1 : v k = 0
          · by_cases q2 : w k = 0
            · exact ⟨q1, q2⟩
            · exact absurd ⟨t, Or.inr q2⟩ d
          · exact absurd ⟨t, Or.inl q1⟩ d
        omega
    · have ih := zp_fr (v := v) (w := w) t K (by omega)
      split
      · have o : ∀ j, zshf (zshal f v w K) (14 + 14 * K) (v K) (w K) (14 + 14 * k) j = zshal f v w K (14 + 14 * k) j := fun j => zshf_o (by omega) _ _ _
        rw [o, o, o, o]
        exact ih
      · exact ih
/-- a move: done, or refused with nothing changed -/
theorem pk_147 (hw : zpW L m C s) (hm6 : m < 60) {i : Nat} (hi : i < 60) (t : (s m).2.1 1166 i = 1) {a b : Int} (k2 : (-60 ≤ a ∧ a ≤ 60) ∧ -60 ≤ b ∧ b ≤ 60) : (∃ C' : zM, (∀ Q : zO → zM → Prop, zFR (zK L) 147 0 (zcall 147 [.inr (.inr 2), .inl 1, .inl (i : Int), .inl a, .inl b, .inl 0]) [] C Q = Q (.inr 1) C') ∧ zpW L m C' s ∧ C'.1 = (zthrown C).1 ∧ zpK C.2.1 C'.2.1) ∨ zpA L m C s 147 [.inr (.inr 2), .inl 1, .inl (i : Int), .inl a, .inl b, .inl 0] (fun _ C' _ => C'.2.1 (855 + 4 * m) 11 = 1 ∧ C'.2.1 (855 + 4 * m) 1 = 1) := by
  have th := zpth_i hw.2.2.1 hi t
  obtain ⟨hp, s0, s1, s2, s3, s6, s7, s9⟩ := pm_147 (h := 1) (a := a) (b := b) (t := 0) hw hm6 (by omega) th k2 (Or.inl rfl)
  have hc := hp.1.1
  have c1 := hp.1.2.1
  have h60 := hw.2.1.1
  generalize (zwI (zbgM C m 2 1 (i : Int)) (zu2 (zu2 (zu2 (zbgM C m 2 1 (i : Int)).2.1 (855 + 4 * m) 6 a) (855 + 4 * m) 7 b) (855 + 4 * m) 9 0)) = C2 at *
  have r2 := zpc2_R hw hc
  have l2 := zpc2_L hw hc
  have t2 : C2.2.1 (14 + 14 * i) 0 = 1 := (zqR_t r2 hi).trans t
  have hg : zgua C2.2.1 m := ⟨Or.inr ⟨by omega, by omega, by rw [s2, Int.toNat_natCast]; exact t2⟩, Or.inl s3⟩
  have mv := zMv_chs (s := i) (fl := 0) (zqR_mw r2)
  have e16 := fun (v : Int) (M9 : zM) e20 Q => c10_2 (L := L) (M := C2) (Q := Q) (c := m) (num := m) (v := v) (M9 := M9) l2 (zqR_01 r2) hm6 hm6 hg s0 (fun Q9 => zc16 (L := L) (M := C2) (Q := Q9) (c := m) (s := i) (dx := a) (dy := b) (fl := 0) (v := v) (M9 := M9) l2 (zqR_gr r2) (zqR_mw r2) hm6 hi s2 s6 s7 s9 e20)
  rcases zp_first (P := zgo (zchs C2.2.1 i 0) a b) 60 with c | ⟨n, n1, n2, n3⟩
  · refine Or.inr ?_
    have e0 := e16 _ _ (fun Q9 => c20 (L := L) (M := zwI C2 (zchs C2.2.1 i 0)) (Q := Q9) (dx := a) (dy := b) l2 mv (by omega) (by omega) c)
    simp only [zwI_I, zwI_w] at e0
    obtain ⟨s', e1, w, w2, w3, w4, _⟩ := zp_ok hp e0 (by omega)
    refine ⟨_, _, s', by omega, e1, w, w2, c1, zpc2_K hw hc ⟨fun l hl => ?_, fun k hk tk => ?_⟩, w4⟩
    · rw [zshal_o _ _ _ 60 (by omega), zvs_o (by omega), zchs_o (by omega)]
    · rw [zp_fj (by omega), zvs_o (by omega), zchs_o (by omega)]
      exact tk
  · refine Or.inl ?_
    have e0 := e16 _ _ (fun Q9 => c20n (L := L) (M := zwI C2 (zchs C2.2.1 i 0)) (Q := Q9) (dx := a) (dy := b) l2 mv (by omega) (by omega) n1 n2 n3)
    simp only [zwI_I, zwI_w] at e0
    have ho : ∀ x y, (3 ≤ x ∧ x < 854 ∧ x ≠ 5 ∧ x ≠ 8 ∧ x ≠ 9 ∧ x ≠ 10) → zvs (zchs C2.2.1 i 0) a b (n + 1) x y = C2.2.1 x y := fun x y hx => by
      rw [zvs_o (by omega), zchs_o (by omega)]
    obtain ⟨e1, w⟩ := zp_no hw hp e0 ho
    refine ⟨_, e1, w, ?_, zpK_e (fun x y hx => ?_)⟩
    · show (C2.1.1, false, C2.1.2.2.1 + 1, C2.1.2.2.2 + 6) = _
      rw [c1]
      rfl
    · show zvs (zchs C2.2.1 i 0) a b (n + 1) x y = C.2.1 x y
      rw [ho x y (by omega)]
      exact hc.1 x y (by omega)
-- guides
theorem znr_ex {f : Nat → Nat → Int} {v p : Int} : ∀ n, znr f v p n ≠ -1 → ∃ i, i < n ∧ f 12 i = v ∧ f 13 i = znr f v p n
  | 0, h => absurd rfl h
  | n + 1, h => by
    rw [znr_s] at h ⊢
    by_cases c : f 12 n = v ∧ (znr f v p n = -1 ∨ znd f p (znr f v p n) n < 0 ∨ (znd f p (znr f v p n) n = 0 ∧ f 13 n < znr f v p n))
    · rw [if_pos c]
      exact ⟨n, by omega, c.1, rfl⟩
    · rw [if_neg c] at h ⊢
      obtain ⟨i, h1, h2, h3⟩ := znr_ex n h
      exact ⟨i, by omega, h2, h3⟩
theorem znr_at {f : Nat → Nat → Int} {v p : Int} {i : Nat} (h0 : 0 ≤ p) (h12 : f 12 i = v) (h13 : f 13 i = p) : ∀ n, i < n → znr f v p n = p
  | 0, h => absurd h (Nat.not_lt_zero i)
  | n + 1, h => by
    rw [znr_s]
    by_cases e : i = n
    · subst e
      by_cases c : f 12 i = v ∧ (znr f v p i = -1 ∨ znd f p (znr f v p i) i < 0 ∨ (znd f p (znr f v p i) i = 0 ∧ f 13 i < znr f v p i))
      · rw [if_pos c, h13]
      · rw [if_neg c]
        by_cases q : znr f v p i = p
        · exact q
        · refine absurd ⟨h12, Or.inr (Or.inl ?_)⟩ c
          unfold znd
          rw [h13]
          omega
    · rw [znr_at h0 h12 h13 n (by omega), if_neg]
      rintro ⟨_, q | q | ⟨q1, q2⟩⟩
      · omega
      · unfold znd at q; omega
      · unfold znd at q1; omega
theorem zpl_i (f : Nat → Nat → Int) (v lo hi : Int) : ∀ k, 0 ≤ (zpl f v lo hi k).1 ∧ ((zpl f v lo hi k).1 = 0 → (zpl f v lo hi k).2 = 0)
  | 0 => by show (0 : Int) ≤ 6 ∧ ((6 : Int) = 0 → (0 : Int) = 0); omega
  | k + 1 => by
    have ih := zpl_i f v lo hi k
    rw [zpl_s]
    split
    · dsimp only; omega
    · exact ih
theorem zpl_ex (f : Nat → Nat → Int) (v lo hi : Int) : ∀ k, (zpl f v lo hi k).2 ≠ 0 → ∃ q, q < k ∧ zpg f v lo hi q ≠ -1 ∧ (zpl f v lo hi k).2 = zpg f v lo hi q - zpd lo hi q / 2
  | 0, h => absurd rfl h
  | k + 1, h => by
    rw [zpl_s] at h ⊢
    by_cases c : zpg f v lo hi k ≠ -1 ∧ ((zpg f v lo hi k - zpd lo hi k / 2).natAbs : Int) < (zpl f v lo hi k).1
    · rw [if_pos c]
      exact ⟨k, by omega, c.1, rfl⟩
    · rw [if_neg c] at h ⊢
      obtain ⟨q, h1, h2, h3⟩ := zpl_ex f v lo hi k h
      exact ⟨q, by omega, h2, h3⟩
theorem zpl_at (f : Nat → Nat → Int) (v lo hi : Int) {q : Nat} (h1 : zpg f v lo hi q ≠ -1) (h2 : zpg f v lo hi q = zpd lo hi q / 2) : ∀ k, q < k → (zpl f v lo hi k).1 = 0
  | 0, h => absurd h (Nat.not_lt_zero q)
  | k + 1, h => by
    have i0 := zpl_i f v lo hi k
    rw [zpl_s]
    by_cases e : q = k
    · subst e
      by_cases c : zpg f v lo hi q ≠ -1 ∧ ((zpg f v lo hi q - zpd lo hi q / 2).natAbs : Int) < (zpl f v lo hi q).1
      · rw [if_pos c]
        dsimp only
        omega
      · rw [if_neg c]
        have : ¬ ((zpg f v lo hi q - zpd lo hi q / 2).natAbs : Int) < (zpl f v lo hi q).1 := fun h => c ⟨h1, h⟩
        omega
    · have ih := zpl_at f v lo hi h1 h2 k (by omega)
      rw [if_neg (fun c => by have := c.2; omega)]
      exact ih
/-- what has been snapped is not pulled again -/
theorem zpl_z {f : Nat → Nat → Int} (hg : zgd f) (v lo hi : Int) : (zpl f v (lo + (zpl f v lo hi 3).2) (hi + (zpl f v lo hi 3).2) 3).2 = 0 := by
  by_cases h : (zpl f v lo hi 3).2 = 0
  · rw [h, Int.add_zero, Int.add_zero]
    exact h
  · obtain ⟨q, q1, q2, q3⟩ := zpl_ex f v lo hi 3 h
    generalize (zpl f v lo hi 3).2 = d at *
    have ed : zpd (lo + d) (hi + d) q = zpd lo hi q + 2 * d := by
      unfold zpd
      rw [Int.mul_add, Int.mul_add, Int.sub_mul, Int.sub_mul]
      omega
    have ev : zpd lo hi q % 2 = 0 := by
      by_cases c : zpd lo hi q % 2 = 0
      · exact c
      · exact absurd (if_neg c) q2
    have eg : zpg f v lo hi q = znr f v (zpd lo hi q / 2) (f 11 0).toNat := if_pos ev
    rw [eg] at q2 q3
    obtain ⟨i, i1, i2, i3⟩ := znr_ex _ q2
    have ib := (hg.2 i (by have := hg.1; omega)).2
    have e2 : zpd (lo + d) (hi + d) q / 2 = f 13 i := by omega
    have e3 : zpg f v (lo + d) (hi + d) q = zpd (lo + d) (hi + d) q / 2 := by
      unfold zpg
      rw [if_pos (by omega), e2]
      exact znr_at ib.1 i2 rfl _ i1
    have k := zpl_at f v (lo + d) (hi + d) (q := q) (by rw [e3, e2]; omega) e3 3 q1
    exact (zpl_i f v (lo + d) (hi + d) 3).2 k
theorem znr_c {f f' : Nat → Nat → Int} (h2 : f' 12 = f 12) (h3 : f' 13 = f 13) (v p : Int) : ∀ n, znr f' v p n = znr f v p n
  | 0 => rfl
  | n + 1 => by
    rw [znr_s, znr_s, znr_c h2 h3 v p n]
    unfold znd
    rw [h2, h3]
theorem zpl_c {f f' : Nat → Nat → Int} (h1 : f' 11 = f 11) (h2 : f' 12 = f 12) (h3 : f' 13 = f 13) (v lo hi : Int) : ∀ k, zpl f' v lo hi k = zpl f v lo hi k
  | 0 => rfl
  | k + 1 => by
    have e : zpg f' v lo hi k = zpg f v lo hi k := by
      unfold zpg
      rw [znr_c h2 h3, h1]
    rw [zpl_s, zpl_s, zpl_c h1 h2 h3 v lo hi k, e]
theorem zpfold {op : Int → Int → Int} {b d : Int} {ch : Nat → Bool} {v v' : Nat → Int} (hop : ∀ x y, op (x + d) (y + d) = op x y + d) (h0 : ∀ y, (0 ≤ y ∧ y ≤ 60) → op b y = y) (hv : ∀ i, i < 60 → ch i = true → (0 ≤ v i ∧ v i ≤ 60) ∧ v' i = v i + d ∧ 0 ≤ v' i ∧ v' i ≤ 60) : ∀ k, k ≤ 60 → ((∀ i, i < k → ch i = false) ∧ zfch op ch v b k = b ∧ zfch op ch v' b k = b) ∨ zfch op ch v' b k = zfch op ch v b k + d
  | 0, _ => Or.inl ⟨fun i h => absurd h (Nat.not_lt_zero i), rfl, rfl⟩
  | k + 1, hk => by
    rw [zfch_s, zfch_s]
    by_cases c : ch k = true
    · obtain ⟨d1, d2, d3⟩ := hv k (by omega) c
      rw [if_pos c, if_pos c]
      rcases zpfold hop h0 hv k (by omega) with ⟨a1, a2, a3⟩ | a
      · rw [a2, a3, h0 _ d1, h0 _ d3, d2]
        exact Or.inr rfl
      · rw [a, d2, hop]
        exact Or.inr rfl
    · rw [if_neg c, if_neg c]
      rcases zpfold hop h0 hv k (by omega) with ⟨a1, a2, a3⟩ | a
      · refine Or.inl ⟨fun i hi => ?_, a2, a3⟩
        by_cases e : i = k
        · subst e; cases h : ch i <;> simp_all
        · exact a1 i (by omega)
      · exact Or.inr a
/-- the chosen, told by less -/
theorem zpchs_c {f f' : Nat → Nat → Int} {i : Nat} (h7 : f' 7 = f 7) (h0 : ∀ k, k < 60 → f' (14 + 14 * k) 0 = f (14 + 14 * k) 0 ∧ f' (14 + 14 * k) 8 = f (14 + 14 * k) 8) (hi : i < 60) {j : Nat} (hj : j < 60) : zchs f' i 0 8 j = zchs f i 0 8 j := by
  have eo : ∀ k, k < 60 → zotm f' k = zotm f k := fun k hk => by
    unfold zotm
    rw [h7, (h0 k hk).2]
  unfold zchs zchr
  rw [eo i hi, eo j hj, (h0 j hj).1, if_pos (show 8 = 8 ∧ j < 60 from ⟨rfl, hj⟩), if_pos (show 8 = 8 ∧ j < 60 from ⟨rfl, hj⟩)]
theorem zpchs_i {f : Nat → Nat → Int} {i : Nat} (hi : i < 60) (t : f (14 + 14 * i) 0 = 1) : zchs f i 0 8 i = 1 := by
  unfold zchs zchr
  rw [if_pos ⟨rfl, hi⟩]
  have key : ∀ N : Nat, (if i < N then (if f (14 + 14 * i) 0 = 1 ∧ zotm f i = zotm f i then (1 : Int) else 0) else if i = i then 1 else 0) = 1 := fun N => by
    by_cases c : i < N
    · rw [if_pos c, if_pos ⟨t, rfl⟩]
    · rw [if_neg c, if_pos rfl]
  exact key _
theorem zsnx_c {f f' : Nat → Nat → Int} (h1 : f' 11 = f 11) (h2 : f' 12 = f 12) (h3 : f' 13 = f 13) (h8 : ∀ j, j < 60 → f' 8 j = f 8 j) (hs : ∀ k, k < 60 → f' (14 + 14 * k) 11 = f (14 + 14 * k) 11 ∧ f' (14 + 14 * k) 12 = f (14 + 14 * k) 12 ∧ f' (14 + 14 * k) 13 = f (14 + 14 * k) 13 ∧ f' (14 + 14 * k) 14 = f (14 + 14 * k) 14) : zsnx f' = zsnx f ∧ zsny f' = zsny f := by
  have fc : ∀ (op : Int → Int → Int) (b : Int) (v v' : Nat → Int), (∀ k, k < 60 → v' k = v k) → ∀ n, n ≤ 60 → zfch op (zsnc f') v' b n = zfch op (zsnc f) v b n := fun op b v v' hv n => by
    induction n with
    | zero => exact fun _ => rfl
    | succ n ih =>
      intro hn
      have e : zsnc f' n = zsnc f n := by unfold zsnc; rw [h8 n (by omega)]
      rw [zfch_s, zfch_s, ih (by omega), e, hv n (by omega)]
  unfold zsnx zsny zsnp
  rw [fc min 60 _ _ (fun k hk => (hs k hk).1) 60 (by omega), fc max 0 _ _ (fun k hk => (hs k hk).2.2.1) 60 (by omega), fc min 60 _ _ (fun k hk => (hs k hk).2.1) 60 (by omega), fc max 0 _ _ (fun k hk => (hs k hk).2.2.2) 60 (by omega), zpl_c h1 h2 h3, zpl_c h1 h2 h3]
  exact ⟨rfl, rfl⟩
/-- nothing pulls it -/
def zpSn (f : Nat → Nat → Int) (i : Nat) : Prop := zsnx (zchs f i 0) = 0 ∧ zsny (zchs f i 0) = 0
theorem zpSn_c {f f' : Nat → Nat → Int} {i : Nat} (hi : i < 60) (h : ∀ b j, (3 ≤ b ∧ b < 854 ∧ b ≠ 5 ∧ b ≠ 8 ∧ b ≠ 9 ∧ b ≠ 10) → f' b j = f b j) : zsnx (zchs f' i 0) = zsnx (zchs f i 0) ∧ zsny (zchs f' i 0) = zsny (zchs f i 0) := by
  have e : ∀ b, (3 ≤ b ∧ b < 854 ∧ b ≠ 5 ∧ b ≠ 8 ∧ b ≠ 9 ∧ b ≠ 10) → zchs f' i 0 b = zchs f i 0 b := fun b hb => funext fun j => by
    rw [zchs_o (by omega), zchs_o (by omega)]
    exact h b j hb
  exact zsnx_c (e 11 (by omega)) (e 12 (by omega)) (e 13 (by omega)) (fun j hj => zpchs_c (funext fun j => h 7 j (by omega)) (fun k hk => ⟨h _ _ (by omega), h _ _ (by omega)⟩) hi hj) (fun k hk => ⟨by rw [e _ (by omega)], by rw [e _ (by omega)], by rw [e _ (by omega)], by rw [e _ (by omega)]⟩)
/-- behind a snap nothing pulls it -/
theorem zpSn_s {f : Nat → Nat → Int} {i : Nat} (hi : i < 60) (t : f (14 + 14 * i) 0 = 1) (hg : zgd f) (hm : zMw f) (hlr : ∀ k, k < 60 → f (14 + 14 * k) 0 = 1 → f (14 + 14 * k) 11 ≤ f (14 + 14 * k) 13 ∧ f (14 + 14 * k) 12 ≤ f (14 + 14 * k) 14) (hgo : ∀ k, k < 60 → zgo (zchs f i 0) (zsnx (zchs f i 0)) (zsny (zchs f i 0)) k) : zpSn (zshal (zvs (zchs f i 0) (zsnx (zchs f i 0)) (zsny (zchs f i 0)) 60) (zvx (zchs f i 0) (zsnx (zchs f i 0))) (zvy (zchs f i 0) (zsny (zchs f i 0))) 60) i := by
  obtain ⟨F1, hF1⟩ : ∃ F1, zchs f i 0 = F1 := ⟨_, rfl⟩
  have ci : F1 8 i = 1 := by rw [← hF1]; exact zpchs_i hi t
  have oF : ∀ b j, b ≠ 8 → F1 b j = f b j := fun b j hb => by rw [← hF1]; exact zchs_o hb _
  have mv := zMv_chs (s := i) (fl := 0) hm
  rw [hF1] at hgo mv ⊢
  obtain ⟨dx, hdx⟩ : ∃ dx, zsnx F1 = dx := ⟨_, rfl⟩
  obtain ⟨dy, hdy⟩ : ∃ dy, zsny F1 = dy := ⟨_, rfl⟩
  rw [hdx, hdy] at hgo ⊢
  obtain ⟨F, hF⟩ : ∃ F, zshal (zvs F1 dx dy 60) (zvx F1 dx) (zvy F1 dy) 60 = F := ⟨_, rfl⟩
  rw [hF]
  have oZ : ∀ b j, b ≠ 9 → b ≠ 10 → zvs F1 dx dy 60 b j = F1 b j := fun b j h9 h10 => zvs_o ⟨h9, h10⟩ _ _ _ _
  have Fj : ∀ k j, j < 11 → F (14 + 14 * k) j = F1 (14 + 14 * k) j := fun k j hj => by
    rw [← hF, zp_fj hj, oZ _ _ (by omega) (by omega)]
  have Fb : ∀ b j, b < 14 → b ≠ 9 → b ≠ 10 → F b j = F1 b j := fun b j h1 h2 h3 => by
    rw [← hF, zshal_o _ _ _ 60 (by omega), oZ _ _ h2 h3]
  have cs : ∀ j, j < 60 → zchs F i 0 8 j = F1 8 j := fun j hj => by
    rw [zpchs_c (f := f) (funext fun j => (Fb 7 j (by omega) (by omega) (by omega)).trans (oF _ _ (by omega))) (fun k hk => ⟨(Fj k 0 (by omega)).trans (oF _ _ (by omega)), (Fj k 8 (by omega)).trans (oF _ _ (by omega))⟩) hi hj, hF1]
  -- the chosen are there, and go as told
  have ch : ∀ k, k < 60 → zsnc F1 k = true → F1 (14 + 14 * k) 0 = 1 := fun k hk hc => by
    unfold zsnc at hc
    rw [decide_eq_true_iff, ← hF1] at hc
    rw [oF _ _ (by omega)]
    unfold zchs zchr at hc
    rw [if_pos ⟨rfl, hk⟩] at hc
    have key : ∀ N : Nat, (if k < N then (if f (14 + 14 * k) 0 = 1 ∧ zotm f k = zotm f i then (1 : Int) else 0) else if k = i then 1 else 0) ≠ 0 → f (14 + 14 * k) 0 = 1 := fun N hc => by
      by_cases c : k < N
      · rw [if_pos c] at hc
        by_cases d : f (14 + 14 * k) 0 = 1 ∧ zotm f k = zotm f i
        · exact d.1
        · rw [if_neg d] at hc
          exact absurd rfl hc
      · rw [if_neg c] at hc
        by_cases d : k = i
        · rw [d]; exact t
        · rw [if_neg d] at hc
          exact absurd rfl hc
    exact key _ hc
  have vx : ∀ k, k < 60 → zsnc F1 k = true → zvx F1 dx k = dx ∧ zvy F1 dy k = dy := fun k hk hc => by
    have tk := ch k hk hc
    unfold zsnc at hc
    rw [decide_eq_true_iff] at hc
    have e : zhb F1 k = (1, 1) := by
      unfold zhb
      rw [zfs_s, if_neg (by omega), Int.toNat_natCast, if_pos hc]
    unfold zvx zvy zby1
    rw [if_pos tk, if_pos tk, e]
    exact ⟨if_neg (by decide), if_neg (by decide)⟩
  have fr : ∀ k, k < 60 → zsnc F1 k = true → (F (14 + 14 * k) 11 = F1 (14 + 14 * k) 11 + dx ∧ F (14 + 14 * k) 12 = F1 (14 + 14 * k) 12 + dy ∧ F (14 + 14 * k) 13 = F1 (14 + 14 * k) 13 + dx ∧ F (14 + 14 * k) 14 = F1 (14 + 14 * k) 14 + dy) ∧ zFm F1 (14 + 14 * k) ∧ zcs (F1 (14 + 14 * k) 11) (F1 (14 + 14 * k) 12) (F1 (14 + 14 * k) 13) (F1 (14 + 14 * k) 14) dx dy ∧ F1 (14 + 14 * k) 11 ≤ F1 (14 + 14 * k) 13 ∧ F1 (14 + 14 * k) 12 ≤ F1 (14 + 14 * k) 14 := fun k hk hc => by
    have tk := ch k hk hc
    have q := zp_fr (f := zvs F1 dx dy 60) (v := zvx F1 dx) (w := zvy F1 dy) (k := k) (by rw [oZ _ _ (by omega) (by omega)]; exact tk) 60 hk
    rw [hF, oZ _ _ (by omega) (by omega), oZ _ _ (by omega) (by omega), oZ _ _ (by omega) (by omega), oZ _ _ (by omega) (by omega), (vx k hk hc).1, (vx k hk hc).2] at q
    have g := hgo k hk tk
    rw [(vx k hk hc).1, (vx k hk hc).2] at g
    have lr := hlr k hk (by rw [← oF _ _ (by omega)]; exact tk)
    rw [← oF _ _ (by omega), ← oF _ _ (by omega), ← oF _ _ (by omega), ← oF _ _ (by omega)] at lr
    exact ⟨q, (mv.2.2.2 k hk tk).2, g, lr⟩
  have hci : zsnc F1 i = true := by
    unfold zsnc
    rw [ci]
    decide
  have esc : ∀ k, k < 60 → zsnc (zchs F i 0) k = zsnc F1 k := fun k hk => by
    unfold zsnc
    rw [cs k hk]
  -- the frame of what is chosen goes likewise
  have hfo : ∀ (op : Int → Int → Int) (b d : Int) (j : Nat), (∀ x y, op (x + d) (y + d) = op x y + d) → (∀ y, (0 ≤ y ∧ y ≤ 60) → op b y = y) → (∀ k, k < 60 → zsnc F1 k = true → (0 ≤ F1 (14 + 14 * k) j ∧ F1 (14 + 14 * k) j ≤ 60) ∧ F (14 + 14 * k) j = F1 (14 + 14 * k) j + d ∧ 0 ≤ F (14 + 14 * k) j ∧ F (14 + 14 * k) j ≤ 60) → zsnp op (zchs F i 0) b j 60 = zsnp op F1 b j 60 + d := fun op b d j h1 h2 h3 => by
    have e : zsnp op (zchs F i 0) b j 60 = zfch op (zsnc F1) (fun k => F (14 + 14 * k) j) b 60 := by
      unfold zsnp
      have key : ∀ n, n ≤ 60 → zfch op (zsnc (zchs F i 0)) (fun k => zchs F i 0 (14 + 14 * k) j) b n = zfch op (zsnc F1) (fun k => F (14 + 14 * k) j) b n := fun n => by
        induction n with
        | zero => exact fun _ => rfl
        | succ n ih =>
          intro hn
          rw [zfch_s, zfch_s, ih (by omega), esc n (by omega)]
          try dsimp only
          rw [zchs_o (show 14 + 14 * n ≠ 8 by omega)]
      exact key 60 (by omega)
    rw [e]
    rcases zpfold (op := op) (b := b) (d := d) (ch := zsnc F1) (v := fun k => F1 (14 + 14 * k) j) (v' := fun k => F (14 + 14 * k) j) h1 h2 h3 60 (by omega) with ⟨a, _⟩ | a
    · rw [a i hi] at hci
      exact absurd hci (by decide)
    · exact a
  have gF : ∀ b, b = 11 ∨ b = 12 ∨ b = 13 → zchs F i 0 b = f b := fun b hb => funext fun j => by
    rw [zchs_o (by omega), Fb b j (by omega) (by omega) (by omega), oF b j (by omega)]
  have gF1 : ∀ b, b = 11 ∨ b = 12 ∨ b = 13 → F1 b = f b := fun b hb => funext fun j => oF b j (by omega)
  have k1 := hfo min 60 dx 11 (fun x y => by omega) (fun y hy => by omega) (fun k hk hc => by
    obtain ⟨⟨q1, q2, q3, q4⟩, ⟨p1, p2, p3, p4⟩, g, l1, l2⟩ := fr k hk hc
    unfold zcs at g
    exact ⟨p1, q1, by omega, by omega⟩)
  have k2 := hfo max 0 dx 13 (fun x y => by omega) (fun y hy => by omega) (fun k hk hc => by
    obtain ⟨⟨q1, q2, q3, q4⟩, ⟨p1, p2, p3, p4⟩, g, l1, l2⟩ := fr k hk hc
    unfold zcs at g
    exact ⟨p3, q3, by omega, by omega⟩)
  have k3 := hfo min 60 dy 12 (fun x y => by omega) (fun y hy => by omega) (fun k hk hc => by
    obtain ⟨⟨q1, q2, q3, q4⟩, ⟨p1, p2, p3, p4⟩, g, l1, l2⟩ := fr k hk hc
    unfold zcs at g
    exact ⟨p2, q2, by omega, by omega⟩)
  have k4 := hfo max 0 dy 14 (fun x y => by omega) (fun y hy => by omega) (fun k hk hc => by
    obtain ⟨⟨q1, q2, q3, q4⟩, ⟨p1, p2, p3, p4⟩, g, l1, l2⟩ := fr k hk hc
    unfold zcs at g
    exact ⟨p4, q4, by omega, by omega⟩)
  unfold zpSn zsnx zsny
  rw [k1, k2, k3, k4, zpl_c (gF 11 (by omega)) (gF 12 (by omega)) (gF 13 (by omega)), zpl_c (gF 11 (by omega)) (gF 12 (by omega)) (gF 13 (by omega)), ← hdx, ← hdy]
  unfold zsnx zsny
  rw [zpl_c (gF1 11 (by omega)) (gF1 12 (by omega)) (gF1 13 (by omega)), zpl_c (gF1 11 (by omega)) (gF1 12 (by omega)) (gF1 13 (by omega))]
  exact ⟨zpl_z hg _ _ _, zpl_z hg _ _ _⟩
/-- a snap: done, and then nothing pulls; or refused with nothing changed -/
theorem pk_162 (hw : zpW L m C s) (hm6 : m < 60) {i : Nat} (hi : i < 60) (t : (s m).2.1 1166 i = 1) : (¬ zpSn C.2.1 i ∧ ∃ C' : zM, (∀ Q : zO → zM → Prop, zFR (zK L) 162 0 (zcall 162 [.inr (.inr 2), .inl 1, .inl (i : Int)]) [] C Q = Q (.inr 1) C') ∧ zpW L m C' s ∧ C'.1 = (zthrown C).1 ∧ zpK C.2.1 C'.2.1) ∨ zpA L m C s 162 [.inr (.inr 2), .inl 1, .inl (i : Int)] (fun v C' _ => zpSn C'.2.1 i ∧ (zpSn C.2.1 i → v = 0)) := by
  have th := zpth_i hw.2.2.1 hi t
  obtain ⟨hp, s0, s1, s2, s3⟩ := pm_162 (h := 1) hw hm6 (by omega) th
  have hc := hp.1.1
  have c1 := hp.1.2.1
  have h60 := hw.2.1.1
  generalize zbgM C m 16 1 (i : Int) = C2 at *
  have r2 := zpc2_R hw hc
  have l2 := zpc2_L hw hc
  have t2 : C2.2.1 (14 + 14 * i) 0 = 1 := (zqR_t r2 hi).trans t
  have hg : zgua C2.2.1 m := ⟨Or.inr ⟨by omega, by omega, by rw [s2, Int.toNat_natCast]; exact t2⟩, Or.inl s3⟩
  have mw := zqR_mw r2
  have mv := zMv_chs (s := i) (fl := 0) mw
  have sn := zpSn_c (f := C.2.1) (f' := C2.2.1) hi (fun b j hb => hc.1 b j (by omega))
  have bx : -6 ≤ zsnx (zchs C2.2.1 i 0) ∧ zsnx (zchs C2.2.1 i 0) ≤ 6 := (zpl_b _ _ _ _ 3).2
  have by9 : -6 ≤ zsny (zchs C2.2.1 i 0) ∧ zsny (zchs C2.2.1 i 0) ≤ 6 := (zpl_b _ _ _ _ 3).2
  have e16 := fun (v : Int) (M9 : zM) e20 hv Q => c10_16 (L := L) (M := C2) (Q := Q) (c := m) (num := m) (M9 := M9) l2 (zqR_01 r2) hm6 hm6 hg s0 hi s2 (fun Q9 => zc41 (L := L) (M := C2) (Q := Q9) (s := i) (v := v) (M9 := M9) l2 (zqR_gr r2) (zqR_gd r2) mw hi t2 e20 hv)
  have e16n := fun (v : Int) (M9 : zM) e20 (hv : -1 ≤ v) (hn : ¬ v = -1) (Q : zO → zM → Prop) => (e16 v M9 e20 hv Q).trans (congrArg (fun z => Q (.inl (some (.inl z))) M9) (if_neg hn))
  have e16m := fun (M9 : zM) e20 (Q : zO → zM → Prop) => (e16 (-1) M9 e20 (by omega) Q).trans (congrArg (fun z => Q (.inl (some (.inl z))) M9) (if_pos rfl))
  rcases zp_first (P := zgo (zchs C2.2.1 i 0) (zsnx (zchs C2.2.1 i 0)) (zsny (zchs C2.2.1 i 0))) 60 with c | ⟨n, n1, n2, n3⟩
  · refine Or.inr ?_
    have e0 := e16n _ _ (fun Q9 => c20 (L := L) (M := zwI C2 (zchs C2.2.1 i 0)) (Q := Q9) (dx := zsnx (zchs C2.2.1 i 0)) (dy := zsny (zchs C2.2.1 i 0)) l2 mv (by omega) (by omega) c) (by omega) (by omega)
    simp only [zwI_I, zwI_w] at e0
    have snp := zpSn_s hi t2 (zqR_gd r2) mw (fun k hk tk => by
      obtain ⟨se, so⟩ := zqR_f r2 hk tk
      exact (zqE_fm se so).2) c
    obtain ⟨s', e1, w, w2, w3, w4, _⟩ := zp_ok hp e0 (by omega)
    refine ⟨_, _, s', by omega, e1, w, w2, c1, zpc2_K hw hc ⟨fun l hl => ?_, fun k hk tk => ?_⟩, ?_, fun hs => ?_⟩
    · rw [zshal_o _ _ _ 60 (by omega), zvs_o (by omega), zchs_o (by omega)]
    · rw [zp_fj (by omega), zvs_o (by omega), zchs_o (by omega)]
      exact tk
    · have q := zpSn_c (f := zshal (zvs (zchs C2.2.1 i 0) (zsnx (zchs C2.2.1 i 0)) (zsny (zchs C2.2.1 i 0)) 60) (zvx (zchs C2.2.1 i 0) (zsnx (zchs C2.2.1 i 0))) (zvy (zchs C2.2.1 i 0) (zsny (zchs C2.2.1 i 0))) 60) (f' := zpf (zshal (zvs (zchs C2.2.1 i 0) (zsnx (zchs C2.2.1 i 0)) (zsny (zchs C2.2.1 i 0)) 60) (zvx (zchs C2.2.1 i 0) (zsnx (zchs C2.2.1 i 0))) (zvy (zchs C2.2.1 i 0) (zsny (zchs C2.2.1 i 0))) 60) m) hi (fun b j hb => zpf_o (by omega))
      exact ⟨q.1.trans snp.1, q.2.trans snp.2⟩
    · rw [sn.1, sn.2, hs.1, hs.2]
      rfl
  · refine Or.inl ?_
    have e0 := e16m _ (fun Q9 => c20n (L := L) (M := zwI C2 (zchs C2.2.1 i 0)) (Q := Q9) (dx := zsnx (zchs C2.2.1 i 0)) (dy := zsny (zchs C2.2.1 i 0)) l2 mv (by omega) (by omega) n1 n2 n3)
    simp only [zwI_I, zwI_w] at e0
    have ho : ∀ x y, (3 ≤ x ∧ x < 854 ∧ x ≠ 5 ∧ x ≠ 8 ∧ x ≠ 9 ∧ x ≠ 10) → zvs (zchs C2.2.1 i 0) (zsnx (zchs C2.2.1 i 0)) (zsny (zchs C2.2.1 i 0)) (n + 1) x y = C2.2.1 x y := fun x y hx => by
      rw [zvs_o (by omega), zchs_o (by omega)]
    obtain ⟨e1, w⟩ := zp_no hw hp e0 ho
    refine ⟨fun hs => n2 (fun tn => ?_), _, e1, w, ?_, zpK_e (fun x y hx => ?_)⟩
    · have fm := (mv.2.2.2 n n1 tn).2
      rw [sn.1, sn.2, hs.1, hs.2]
      unfold zcs zvx zvy zby1
      unfold zFm at fm
      have z : ∀ (p : Prop) [Decidable p] (q : Prop) [Decidable q], (if p then (if q then (0 : Int) else 0) else 0) = 0 := fun p _ q _ => by
        by_cases hp : p
        · rw [if_pos hp]
          split <;> rfl
        · rw [if_neg hp]
      rw [z, z]
      omega
    · show (C2.1.1, false, C2.1.2.2.1 + 1, C2.1.2.2.2 + 6) = _
      rw [c1]
      rfl
    · show zvs (zchs C2.2.1 i 0) (zsnx (zchs C2.2.1 i 0)) (zsny (zchs C2.2.1 i 0)) (n + 1) x y = C.2.1 x y
      rw [ho x y (by omega)]
      exact hc.1 x y (by omega)
end ZPMOVES
