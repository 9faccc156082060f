/-! spread, in both programs -/
section ZSPREADQ
variable {n : Nat} {f g f' g' : Nat → Nat → Int} {i s : Nat}
theorem zinsf_cg {lt lt' : Nat → Nat → Bool} {x : Nat} : ∀ (k : Nat) (o o' : Nat → Int), (∀ j, j < k → o j = o' j ∧ lt x (o j).toNat = lt' x (o' j).toNat) → ∀ j, j < k + 1 → zinsf lt x k o j = zinsf lt' x k o' j
  | 0, o, o', _, j, hj => by
    have e : j = 0 := by omega
    subst e
    show zup o 0 (x : Int) 0 = zup o' 0 (x : Int) 0
    rw [zup_eq, zup_eq]
  | k + 1, o, o', h, j, hj => by
    obtain ⟨h1, h2⟩ := h k (by omega)
    unfold zinsf
    rw [← h2]
    by_cases c : lt x (o k).toNat = true
    · rw [if_pos c, if_pos c]
      by_cases hjk : j < k + 1
      · refine zinsf_cg k _ _ (fun j2 hj2 => ?_) j hjk
        rw [zup_ne (by omega), zup_ne (by omega)]
        exact h j2 (by omega)
      · have e : j = k + 1 := by omega
        subst e
        rw [zinsf_hi lt x k _ _ (by omega), zinsf_hi lt' x k _ _ (by omega), zup_eq, zup_eq]
        exact h1
    · rw [if_neg c, if_neg c]
      by_cases hjk : j = k + 1
      · subst hjk; rw [zup_eq, zup_eq]
      · rw [zup_ne hjk, zup_ne hjk]; exact (h j (by omega)).1
/-- two orders told alike of those that are there -/
theorem zord_cg {lt lt' : Nat → Nat → Bool} {th th' : Nat → Bool} {o o' : Nat → Int} : ∀ m, (∀ i, i < m → th i = th' i) → (∀ i j, i < m → j < m → th i = true → th j = true → lt i j = lt' i j) → zcnt th m = zcnt th' m ∧ ∀ j, j < zcnt th m → zord lt th o m j = zord lt' th' o' m j
  | 0, _, _ => ⟨rfl, fun j h => absurd h (Nat.not_lt_zero j)⟩
  | m + 1, ht, hl => by
    obtain ⟨a, b⟩ := zord_cg (o := o) (o' := o') m (fun i hi => ht i (by omega)) (fun i j hi hj => hl i j (by omega) (by omega))
    rw [zcnt_s, zcnt_s, ← ht m (by omega)]
    unfold zord
    rw [← ht m (by omega)]
    by_cases c : th m = true
    · rw [if_pos c, if_pos c, if_pos c, if_pos c]
      refine ⟨by omega, fun j hj => ?_⟩
      rw [← a]
      refine zinsf_cg _ _ _ (fun j2 hj2 => ?_) j hj
      have e := b j2 hj2
      refine ⟨e, ?_⟩
      obtain ⟨v, v1, v2, v3⟩ := zord_v lt th o m j2 hj2
      rw [← e, v3, Int.toNat_natCast]
      exact hl m v (by omega) (by omega) c v2
    · rw [if_neg c, if_neg c, if_neg c, if_neg c]
      exact ⟨a, b⟩
/-- ways told alike -/
theorem zqsp {F H : Nat → Nat → Int} {o o' : Nat → Int} {m : Nat} (h : ∀ j, j < m → o j = o' j ∧ F (14 + 14 * (o j).toNat) 11 = H (14 + 14 * (o' j).toNat) 11 ∧ F (14 + 14 * (o j).toNat) 13 = H (14 + 14 * (o' j).toNat) 13) : ∀ i, i < m → zspw F o i = zspw H o' i
  | 0, _ => rfl
  | i + 1, hi => by
    obtain ⟨h1, h2, h3⟩ := h (i + 1) hi
    rw [zspw_s, zspw_s, zqsp h i (by omega), h2, h3]
theorem zqspd {F H : Nat → Nat → Int} {o o' : Nat → Int} {m : Nat} {q r : Int} (h : ∀ j, j < m → o j = o' j ∧ F (14 + 14 * (o j).toNat) 11 = H (14 + 14 * (o' j).toNat) 11 ∧ F (14 + 14 * (o j).toNat) 13 = H (14 + 14 * (o' j).toNat) 13) {i : Nat} (hi : i + 1 < m) : zspd F o q r i = zspd H o' q r i := by
  unfold zspd zspe
  rw [zqsp h i (by omega), (h 0 (by omega)).2.2, (h (i + 1) hi).2.1]
theorem zqsfr {F H : Nat → Nat → Int} {o o' : Nat → Int} {m : Nat} (h : ∀ j, j < m → o j = o' j ∧ F (14 + 14 * (o j).toNat) 11 = H (14 + 14 * (o' j).toNat) 11 ∧ F (14 + 14 * (o j).toNat) 13 = H (14 + 14 * (o' j).toNat) 13) (hm : 3 ≤ m) : zsfr F o m = zsfr H o' m := by
  unfold zsfr
  rw [zqsp h (m - 2) (by omega), (h 0 (by omega)).2.2, (h (m - 1) (by omega)).2.1]
theorem zrsh_z (g : Nat → Nat → Int) (s : Nat) : zrsh g s 0 0 = g := by
  funext b j
  unfold zrsh zrmp
  split
  · next c =>
    split
    · next e => rw [e]; exact Int.add_zero _
    · next e =>
      have : b = 1178 := by omega
      rw [this]; exact Int.add_zero _
  · rfl
/-- the shapes of a row put at their places -/
theorem zqQ_spread {F : Nat → Nat → Int} {o : Nat → Int} {q r : Int} {m : Nat} (h : zqR n F g) (hv : ∀ j, j < m → ∃ v : Nat, v < 60 ∧ g 1166 v = 1 ∧ o j = (v : Int)) (hi : ∀ i j, i < m → j < m → o i = o j → i = j) (hr : 0 ≤ r) (hq : 0 ≤ q) (B : ∀ i : Nat, i + 1 < m → 0 ≤ zspe (zrfv g) o q r i ∧ zspe (zrfv g) o q r i ≤ 60) {G : Nat → Nat → Int} (hG : zqR n F G) (he : ∀ u, zrEq G g u) (h0 : ∀ i, i < 60 → G 1166 i = g 1166 i) : ∀ i, i + 1 < m → zqR n (zspm F o q r i) (zrgm G (zrfv g) o q r i)
  | 0, _ => hG
  | i + 1, hm => by
    have ih := zqQ_spread h hv hi hr hq B hG he h0 i (by omega)
    obtain ⟨v, v1, v2, v3⟩ := hv (i + 1) (by omega)
    have pw : ∀ j, j < m → o j = o j ∧ F (14 + 14 * (o j).toNat) 11 = zrfv g (14 + 14 * (o j).toNat) 11 ∧ F (14 + 14 * (o j).toNat) 13 = zrfv g (14 + 14 * (o j).toNat) 13 := fun j hj => by
      obtain ⟨u, u1, u2, u3⟩ := hv j hj
      obtain ⟨hE, _⟩ := h.2.2.2.2.2.2.2.1 u u1 u2
      obtain ⟨_, _, _, f1, f2, f3, f4⟩ := hE
      rw [u3, Int.toNat_natCast, zrfv_l, zrfv_r]
      exact ⟨rfl, f1, f3⟩
    have ed := zqspd (q := q) (r := r) pw (i := i) (by omega)
    have s1 := zspe_s (zrfv g) o q r i
    have b1 := B i (by omega)
    have b2 := B (i + 1) (by omega)
    have sd : zspd (zrfv g) o q r i = zspe (zrfv g) o q r i + q + (if (i : Int) + 1 ≤ r then 1 else 0) - zrsd g v 0 := by
      unfold zspd
      rw [v3, Int.toNat_natCast, zrfv_l]
    rw [v3, Int.toNat_natCast, zrfv_r] at s1
    have dst : ∀ k, k < i → v ≠ (o (k + 1)).toNat := by
      intro k hk e
      obtain ⟨u, a2, _, d2⟩ := hv (k + 1) (by omega)
      have := hi (k + 1) (i + 1) (by omega) (by omega) (by rw [v3, d2]; rw [d2, Int.toNat_natCast] at e; omega)
      omega
    have eq : zrEq (zrgm G (zrfv g) o q r i) g v := zrEq_t (zrgm_e i dst) (he v)
    obtain ⟨hE, hO⟩ := h.2.2.2.2.2.2.2.1 v v1 v2
    have D := zrEq_d eq (zqO_sw hO)
    have fm := zqO_fm hO
    unfold zrFm at fm
    have if1 : 0 ≤ (if (i : Int) + 1 ≤ r then (1 : Int) else 0) := by split <;> omega
    generalize (if (i : Int) + 1 ≤ r then (1 : Int) else 0) = w at *
    have t : zrgm G (zrfv g) o q r i 1166 v = 1 := (zrgm_o (by omega) i).trans ((h0 v v1).trans v2)
    rw [zspm_s, zrgm_s, ed, v3, Int.toNat_natCast]
    generalize zspd (zrfv g) o q r i = d at *
    by_cases c : d = 0
    · rw [if_pos c, c, zrsh_z]
      exact ih
    · rw [if_neg c]
      exact zqQ_shift (dx := d) (dy := 0) ih v1 t (by rw [D, D]; omega) (by rw [D, D]; omega)
variable {L k : Nat} {M N : zM}
theorem zqS_14 (hM : zLay M.2.2.2) (hN : zLay N.2.2.2) (hk : k < 60) (h : zqR k M.2.1 N.2.1) (hj : zqJ1 M N k 14) : zqS L k M N := by
  obtain ⟨⟨j0, j1⟩, j2, j3⟩ := hj
  rcases zqS_sh (L := L) hM hN hk h j2 (Or.inl j3) (by omega) with no | ⟨s, hs, e2, e4, ht, hg, e⟩
  · exact no
  · have h1 := zqR_g1 (k := k) h
    have j1g : zqg1 N.2.1 k 1158 k = 14 := (zqg1_o (by omega)).trans j1
    have go : ∀ b j, (b < 1153 ∨ (1154 ≤ b ∧ b < 1166) ∨ 1189 ≤ b) → zqg1 N.2.1 k b j = N.2.1 b j := fun b j hb => zqg1_o (by omega)
    have go2 : ∀ j, j ≠ 33 → j ≠ 36 → j ≠ 38 → zqg1 N.2.1 k 1153 j = N.2.1 1153 j := fun j _ h2 _ => zu2_i h2 _ _ _ _
    have ts : zqg1 N.2.1 k 1166 s = 1 := (zqg1_o (by omega)).trans ht
    generalize eg1 : zqg1 N.2.1 k = g1 at *
    have hcc := zqR_chs (s := s) (fl := 0) h1
    generalize ex : zsts (zrtg g1 s) 60 = x at *
    have x1 : ∀ Q9 : zO → zM → Prop, zFR (zK L) 212 0 (zcall 212 [.inr (.inr 1153), .inl (s : Int)]) [] (zwI N g1) Q9 = Q9 (.inl (some (.inr (.inl x)))) (zwI N g1) := fun Q9 => by
      rw [← ex]
      exact c212 (M := zwI N g1) hN hs (zqR_rG h1) (zqR_r01 h1)
    have x2 : ∀ j, j < 60 → (zchs M.2.1 s 0 8 j ≠ 0 ↔ zbt x j = true) := fun j hj => by
      rw [← ex]
      exact zqch1 h1 hs ts hj
    have x3 : ∀ j, j < 60 → zbt x j = true → g1 1166 j = 1 := fun j hj hb => by
      rw [← ex, zbt_sts _ 60 (by omega), Bool.and_eq_true] at hb
      have := hb.2
      unfold zrtg at this
      rw [decide_eq_true_iff] at this
      exact this.1
    generalize eF : zchs M.2.1 s 0 = F0 at *
    have sc : ∀ i, i < 60 → zsnc F0 i = zbt x i := fun i hi => by
      unfold zsnc
      rw [Bool.eq_iff_iff, decide_eq_true_iff]
      exact x2 i hi
    have fr : ∀ i, i < 60 → g1 1166 i = 1 → F0 (14 + 14 * i) 11 = zrsd g1 i 0 ∧ F0 (14 + 14 * i) 13 = zrsd g1 i 2 := fun i hi t => by
      obtain ⟨hE, hO⟩ := hcc.2.2.2.2.2.2.2.1 i hi t
      exact ⟨hE.2.2.2.1, hE.2.2.2.2.2.1⟩
    obtain ⟨cn, oo⟩ := zord_cg (lt := zlfl F0) (lt' := zrwl g1) (th := zsnc F0) (th' := zbt x) (o := F0 5) (o' := g1 1188) 60 sc (fun i j hi hj ti tj => by
      have a := fr i hi (x3 i hi (by rw [← sc i hi]; exact ti))
      have b := fr j hj (x3 j hj (by rw [← sc j hj]; exact tj))
      unfold zlfl zrwl
      rw [a.1, b.1])
    have hov : ∀ j, j < zcnt (zsnc F0) 60 → ∃ v : Nat, v < 60 ∧ g1 1166 v = 1 ∧ zspo F0 j = (v : Int) := fun j hj => by
      obtain ⟨v, v1, v2, v3⟩ := zord_v (zlfl F0) (zsnc F0) (F0 5) 60 j hj
      exact ⟨v, v1, x3 v v1 (by rw [← sc v v1]; exact v2), v3⟩
    have hinj : ∀ i j, i < zcnt (zsnc F0) 60 → j < zcnt (zsnc F0) 60 → zspo F0 i = zspo F0 j → i = j := fun i j hi hj q => zord_inj _ _ _ 60 i j hi hj q
    have eo : ∀ j, j < zcnt (zsnc F0) 60 → zspo F0 j = zrwo g1 x j := oo
    have en : zrsn x = zcnt (zsnc F0) 60 := cn.symm
    have ec := fun Q9 => c38 (L := L) (M := M) (Q := Q9) (g := F0) (n := zcnt (zsnc F0) 60) (s := s) hM (zqR_gr h) (zqR_01 h) hs eF.symm rfl (fun j hj hb => by
      have t := x3 j hj (by rw [← sc j hj]; exact hb)
      obtain ⟨hE, hO⟩ := hcc.2.2.2.2.2.2.2.1 j hj t
      obtain ⟨m1, m2, m3⟩ := zqE_fm hE hO
      exact ⟨zqE_sw hE hO, m1, m2⟩)
    have er := fun Q8 => c231 (L := L) (M := zwI N g1) (x := x) (Q := Q8) hN (fun i hi hb => by
      obtain ⟨hE, hO⟩ := h1.2.2.2.2.2.2.2.1 i hi (x3 i hi hb)
      exact ⟨zqO_sw hO, zqO_fm hO⟩)
    simp only [zwI_I, zwI_w] at er
    have pw : ∀ j, j < zcnt (zsnc F0) 60 → zspo F0 j = zrwo g1 x j ∧ F0 (14 + 14 * (zspo F0 j).toNat) 11 = zrfv g1 (14 + 14 * (zrwo g1 x j).toNat) 11 ∧ F0 (14 + 14 * (zspo F0 j).toNat) 13 = zrfv g1 (14 + 14 * (zrwo g1 x j).toNat) 13 := fun j hj => by
      obtain ⟨v, v1, v2, v3⟩ := hov j hj
      rw [← eo j hj, v3, Int.toNat_natCast, zrfv_l, zrfv_r]
      exact ⟨rfl, fr v v1 v2⟩
    have keepF : zqR k (zua F0 5 (zspo F0)) g1 := zqR_keep (fun b j h5 _ _ _ _ => zua_o h5 _ _) (fun j hj => by rw [zua_o (by omega)]; exact zqR_ch hcc j hj) (fun _ _ _ _ _ => rfl) rfl hcc
    have keepG : ∀ F, zqR k F g1 → zqR k F (zrso g1 x) := fun F hF => zqR_keep (fun _ _ _ _ _ _ _ => rfl) (zqR_ch hF) (fun b j b1 b2 _ => zua_o (by omega) _ _) (zua_o (by omega) _ _) hF
    have F0o : ∀ b j, (b < 3 ∨ 854 ≤ b) → F0 b j = M.2.1 b j := fun b j hb => by rw [← eF]; exact zchs_o (by omega) _
    by_cases c : 3 ≤ zcnt (zsnc F0) 60 ∧ 0 ≤ zsfr F0 (zspo F0) (zcnt (zsnc F0) 60)
    · have es := zqsfr pw c.1
      have eF2 : zrsF g1 x = zsfr F0 (zspo F0) (zcnt (zsnc F0) 60) := by
        unfold zrsF
        rw [en, es]
      have c2 : 3 ≤ zrsn x ∧ 0 ≤ zrsF g1 x := by rw [en, eF2]; exact c
      have eq1 : zrsq g1 x = zsfr F0 (zspo F0) (zcnt (zsnc F0) 60) / (((zcnt (zsnc F0) 60 : Nat) : Int) - 1) := by
        unfold zrsq
        rw [en, eF2]
      have er1 : zrsr g1 x = zsfr F0 (zspo F0) (zcnt (zsnc F0) 60) % (((zcnt (zsnc F0) 60 : Nat) : Int) - 1) := by
        unfold zrsr
        rw [en, eF2]
      rw [← eq1, ← er1] at ec
      have hq0 : 0 ≤ zrsq g1 x := by
        rw [eq1]
        exact Int.ediv_nonneg c.2 (by omega)
      have hr0 : 0 ≤ zrsr g1 x := by
        rw [er1]
        exact Int.emod_nonneg _ (by omega)
      have ok : zsok (zrfv g1) (zspo F0) (zcnt (zsnc F0) 60) := zrfv_ok (fun j hj => by
        obtain ⟨v, v1, v2, v3⟩ := hov j hj
        exact ⟨v, v1, zqO_fm (hcc.2.2.2.2.2.2.2.1 v v1 v2).2, v3⟩) hinj
      have es2 : zsfr F0 (zspo F0) (zcnt (zsnc F0) 60) = zsfr (zrfv g1) (zspo F0) (zcnt (zsnc F0) 60) := zqsfr (fun j hj => by
        obtain ⟨p1, p2, p3⟩ := pw j hj
        rw [← p1] at p2 p3
        exact ⟨rfl, p2, p3⟩) c.1
      have B : ∀ i : Nat, i + 1 < zcnt (zsnc F0) 60 → 0 ≤ zspe (zrfv g1) (zspo F0) (zrsq g1 x) (zrsr g1 x) i ∧ zspe (zrfv g1) (zspo F0) (zrsq g1 x) (zrsr g1 x) i ≤ 60 := fun i hi => by
        have := zspe_b ok c.1 hi (by rw [← es2]; exact c.2)
        rw [← es2, ← eq1, ← er1] at this
        exact this
      generalize eqq : zrsq g1 x = q at *
      generalize err : zrsr g1 x = r at *
      generalize emm : zcnt (zsnc F0) 60 = m at *
      generalize eoo : zspo F0 = o at *
      have zsame : ∀ i, i < 60 → zrso g1 x 1166 i = g1 1166 i := fun i _ => zua_o (by omega) _ _
      have main := zqQ_spread (n := k) (F := zua F0 5 o) (g := g1) (o := o) (q := q) (r := r) (m := m) keepF hov hinj hr0 hq0 B (G := zrso g1 x) (keepG _ keepF) (fun u => zrEq_ua (by omega)) zsame (m - 2) (by omega)
      have same : ∀ i, i + 1 < m → zspd F0 o q r i = zspd (zrfv g1) (zrwo g1 x) q r i := fun i hi => zqspd pw hi
      have gm : ∀ i, i + 1 < m → zrgm (zrso g1 x) (zrfv g1) (zrwo g1 x) q r i = zrgm (zrso g1 x) (zrfv g1) o q r i := by
        intro i
        induction i with
        | zero => exact fun _ => rfl
        | succ i ih =>
          intro hi
          have p : ∀ j, j < m → o j = zrwo g1 x j ∧ zrfv g1 (14 + 14 * (o j).toNat) 11 = zrfv g1 (14 + 14 * (zrwo g1 x j).toNat) 11 ∧ zrfv g1 (14 + 14 * (o j).toNat) 13 = zrfv g1 (14 + 14 * (zrwo g1 x j).toNat) 13 := fun j hj => by
            rw [eo j hj]
            exact ⟨rfl, rfl, rfl⟩
          rw [zrgm_s, zrgm_s, ih (by omega), ← eo (i + 1) (by omega), zqspd p (i := i) (by omega)]
      have cnts : zspn F0 o q r (m - 2) = zspn (zrfv g1) (zrwo g1 x) q r (m - 2) := by
        unfold zspn
        refine zcnt_cong _ _ _ (fun i hi => ?_)
        rw [same i (by omega)]
      refine ⟨zspm (zua F0 5 o) o q r (m - 2), zu2 (zrgm (zrso g1 x) (zrfv g1) o q r (m - 2)) 1153 36 (zspn (zrfv g1) (zrwo g1 x) q r (m - 2) : Int), (zspn F0 o q r (m - 2) : Int), 1, fun Q => c10_14 (v := (zspn F0 o q r (m - 2) : Int)) (M9 := zwI M (zspm (zua F0 5 o) o q r (m - 2))) hM (zqR_01 h) hk hk hg j0 hs e2 (fun Q9 => ?_), e 1 _ (Or.inr rfl) (fun Q9 => c208_14p (a := (zspn (zrfv g1) (zrwo g1 x) q r (m - 2) : Int)) (M9 := zwI N (zrgm (zrso g1 x) (zrfv g1) o q r (m - 2))) (M10 := N) (M := zwI N g1) hN hk hs j1g (by omega) x1 (fun Q8 => ?_)), fun b j hb => ?_, fun b j hb => ?_, fun j j1 j2 j3 => ?_, Or.inr ⟨rfl, by omega, ?_, zqR_n hk (zqR_36 main)⟩⟩
      · rw [ec]
        exact propext ⟨fun q => q.1 c, fun q => ⟨fun _ => q, fun q2 => absurd c q2⟩⟩
      · refine (er Q8).trans ?_
        rw [← gm (m - 2) (by omega)]
        rw [en] at c2 ⊢
        exact propext ⟨fun q => q.1 c2, fun q => ⟨fun _ => q, fun q2 => absurd c2 q2⟩⟩
      · rw [zspm_o]
        · rw [zua_o (by omega)]
          exact F0o b j hb
        · intro k2 hk2
          obtain ⟨v, v1, v2, v3⟩ := hov (k2 + 1) (by omega)
          omega
      · rw [zu2_sj (by omega), zrgm_o (by omega)]
        unfold zrso
        rw [zua_o (by omega)]
        exact go b j hb
      · rw [zu2_sj (by omega), zrgm_o (by omega)]
        unfold zrso
        rw [zua_o (by omega)]
        exact go2 j j1 j2 j3
      · rw [zu2_eq, cnts]
    · have c2 : ¬ (3 ≤ zrsn x ∧ 0 ≤ zrsF g1 x) := fun q => c (by
        rw [en] at q
        refine ⟨q.1, ?_⟩
        have := q.2
        unfold zrsF at this
        rw [en, ← zqsfr pw q.1] at this
        exact this)
      refine ⟨zua F0 5 (zspo F0), zu2 (zrso g1 x) 1153 36 (-1), -1, 0, fun Q => c10_14 (v := -1) (M9 := zwI M (zua F0 5 (zspo F0))) hM (zqR_01 h) hk hk hg j0 hs e2 (fun Q9 => ?_), e 0 _ (Or.inl rfl) (fun Q9 => c208_14n (a := -1) (M9 := zwI N (zrso g1 x)) (M10 := N) (M := zwI N g1) hN hk hs j1g (by omega) x1 (fun Q8 => ?_)), fun b j hb => ?_, fun b j hb => ?_, fun j j1 j2 j3 => ?_, Or.inl ⟨rfl, rfl, zqR_36 (keepG _ keepF)⟩⟩
      · rw [ec]
        exact propext ⟨fun q => q.2 c, fun q => ⟨fun q2 => absurd q2 c, fun _ => q⟩⟩
      · refine (er Q8).trans ?_
        exact propext ⟨fun q => q.2 c2, fun q => ⟨fun q2 => absurd q2 c2, fun _ => q⟩⟩
      · rw [zua_o (by omega)]
        exact F0o b j hb
      · rw [zu2_sj (by omega)]
        unfold zrso
        rw [zua_o (by omega)]
        exact go b j hb
      · rw [zu2_sj (by omega)]
        unfold zrso
        rw [zua_o (by omega)]
        exact go2 j j1 j2 j3
end ZSPREADQ
