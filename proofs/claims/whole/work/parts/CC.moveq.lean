/-! moved, in both programs -/
section ZMOVEQ
variable {n : Nat} {f g f' g' : Nat → Nat → Int} {i s : Nat}
theorem zbt_one {s : Nat} (hs : s < 64) (j : Nat) : zbt (Int64.ofInt 1 <<< ((Int32.ofInt (s : Int)).toInt64 &&& 63)) j = decide (j = s) := by
  have h := zbt_or (x := Int64.ofInt 0) hs j
  rw [zbt_z, Bool.false_or] at h
  rw [← h]
  congr 1
  apply Int64.toBitVec_inj.mp
  show _ = 0#64 ||| _
  exact (BitVec.zero_or).symm
/-- what is chosen, in both programs -/
theorem zqch0 (h : zqR n f g) (hs : s < 60) (ts : g 1166 s = 1) {fl : Int} (hf : fl ≠ 0) {j : Nat} (hj : j < 60) : (zchs f s fl 8 j ≠ 0 ↔ zbt (Int64.ofInt 1 <<< ((Int32.ofInt (s : Int)).toInt64 &&& 63)) j = true) := by
  rw [zbt_one (by omega), decide_eq_true_iff]
  unfold zchs
  rw [if_pos (Or.inl hf)]
  unfold zchr
  rw [if_pos ⟨rfl, hj⟩, if_neg (by omega)]
  by_cases e : j = s
  · rw [if_pos e]; exact ⟨fun _ => e, fun _ => by omega⟩
  · rw [if_neg e]; exact ⟨fun h => absurd rfl h, fun h => absurd h e⟩
theorem zqch1 (h : zqR n f g) (hs : s < 60) (ts : g 1166 s = 1) {j : Nat} (hj : j < 60) : (zchs f s 0 8 j ≠ 0 ↔ zbt (zsts (zrtg g s) 60) j = true) := by
  have e : zchs f s 0 8 j = zcho f s j := by
    unfold zchs zcho zchr
    rw [if_pos ⟨rfl, hj⟩]
    by_cases c : zotm f s = -1
    · have eK : (if (0 : Int) ≠ 0 ∨ zotm f s = -1 then (0 : Nat) else 60) = 0 := if_pos (Or.inr c)
      rw [eK, if_pos c, if_neg (by omega)]
    · have eK : (if (0 : Int) ≠ 0 ∨ zotm f s = -1 then (0 : Nat) else 60) = 60 := if_neg (fun q => q.elim (fun q => q rfl) c)
      rw [eK, if_neg c, if_pos hj]
  rw [e, zqcho h hs ts hj, zbt_sts _ 60 (by omega), decide_eq_true hj, Bool.true_and]
  by_cases c : zrtg g s j = true
  · rw [if_pos c]; exact ⟨fun _ => c, fun _ => by omega⟩
  · rw [if_neg c]; exact ⟨fun h => absurd rfl h, fun h => absurd h c⟩
theorem zif1 {a k q Z : Int} : (if (if a ≠ 0 ∧ k ≠ q then (1 : Int) else 0) = 0 then 0 else Z) = if a = 0 then 0 else if k = q then 0 else Z := by
  by_cases h1 : a = 0 <;> by_cases h2 : k = q <;> simp [h1, h2]
/-- up the leaders -/
theorem zqfs {P : Nat → Prop} {u v kd kr ch : Nat → Int} {cb : Nat → Bool} {dx : Int} (hP : ∀ i, P i → (u i = v i ∧ kd i = kr i ∧ (ch i ≠ 0 ↔ cb i = true)) ∧ (v i = -1 ∨ (0 ≤ v i ∧ P (v i).toNat))) : ∀ (K : Nat) (x a b : Int), (x = -1 ∨ (0 ≤ x ∧ P x.toNat)) → zby1 (zfs u kd ch K x a b).1 dx = (if a = 0 then 0 else zbv v kr cb 2 dx K x) ∧ zby1 (zfs u kd ch K x a b).2 dx = (if b = 0 then 0 else zbv v kr cb 1 dx K x)
  | 0, x, a, b, _ => by
    show (if (0 : Int) = 0 then 0 else dx) = (if a = 0 then 0 else 0) ∧ (if (0 : Int) = 0 then 0 else dx) = (if b = 0 then 0 else 0)
    rw [if_pos rfl]
    constructor <;> split <;> rfl
  | K + 1, x, a, b, hx => by
    rw [zfs_s, zbv_s, zbv_s]
    by_cases h1 : x = -1
    · rw [if_pos h1, if_pos h1, if_pos h1]
      show (if (0 : Int) = 0 then 0 else dx) = (if a = 0 then 0 else 0) ∧ (if (0 : Int) = 0 then 0 else dx) = (if b = 0 then 0 else 0)
      rw [if_pos rfl]
      constructor <;> split <;> rfl
    · rw [if_neg h1, if_neg h1, if_neg h1]
      obtain ⟨⟨p1, p2, p3⟩, p4⟩ := hP x.toNat (hx.resolve_left h1).2
      by_cases h2 : cb x.toNat = true
      · rw [if_pos (p3.mpr h2), if_pos h2, if_pos h2]
        exact ⟨rfl, rfl⟩
      · rw [if_neg (fun q => h2 (p3.mp q)), if_neg h2, if_neg h2, p1, p2]
        obtain ⟨i1, i2⟩ := zqfs (dx := dx) hP K (v x.toNat) (if a ≠ 0 ∧ kr x.toNat ≠ 2 then 1 else 0) (if b ≠ 0 ∧ kr x.toNat ≠ 1 then 1 else 0) p4
        rw [i1, i2]
        exact ⟨zif1, zif1⟩
/-- one shape shifted on both boards -/
theorem zqQ_shift (h : zqR n f g) (hs : s < 60) (ts : g 1166 s = 1) {dx dy : Int} (hx : 0 ≤ zrsd g s 0 + dx ∧ zrsd g s 2 + dx ≤ 60) (hy : 0 ≤ zrsd g s 1 + dy ∧ zrsd g s 3 + dy ≤ 60) : zqR n (zshf f (14 + 14 * s) dx dy) (zrmp g s (g 1174 s).toNat 0 (fun x _ => x + dx) (fun _ y => y + dy)) := by
  obtain ⟨hE, hO⟩ := h.2.2.2.2.2.2.2.1 s hs ts
  have hP := zqO_P hO
  obtain ⟨m1, m2⟩ := zqO_fm hO
  have hP2 : zqP (zrmp g s (g 1174 s).toNat 0 (fun x _ => x + dx) (fun _ y => y + dy)) s (zrsd g s 0 + dx) (zrsd g s 1 + dy) (zrsd g s 2 + dx) (zrsd g s 3 + dy) := by
    refine zqP_mp hP (fun x y _ _ _ _ => ?_) (Or.inl (fun x y e => ?_)) (Or.inr (Or.inl (fun x y e => ?_))) (Or.inl (fun x y e => ?_)) (Or.inr (Or.inl (fun x y e => ?_))) (fun a b c e h => zqz_id a b c e h _ _ _ _ (Or.inl ?_) (Or.inl ?_)) (by omega)
    · show (zrsd g s 0 + dx ≤ x + dx ∧ x + dx ≤ zrsd g s 2 + dx) ∧ zrsd g s 1 + dy ≤ y + dy ∧ y + dy ≤ zrsd g s 3 + dy
      omega
    · show x + dx = _
      omega
    · show x + dx = _
      omega
    · show y + dy = _
      omega
    · show y + dy = _
      omega
    · show c + dx = a + dx + (c - a)
      omega
    · show e + dy = b + dy + (e - b)
      omega
  have cc := zqC_mp (gx := fun x _ => x + dx) (gy := fun _ y => y + dy) (zqE_C hE) hO.1.2 (fun p hp => (hO.2.2 p hp).1.2)
  have dd := zqP_d hP2
  have t5 : zrmp g s (g 1174 s).toNat 0 (fun x _ => x + dx) (fun _ y => y + dy) 1175 s = g 1175 s := zrmp_o (by omega)
  have t4 : zrmp g s (g 1174 s).toNat 0 (fun x _ => x + dx) (fun _ y => y + dy) 1174 s = g 1174 s := zrmp_o (by omega)
  have oo : zqO (zrmp g s (g 1174 s).toNat 0 (fun x _ => x + dx) (fun _ y => y + dy)) s := zqP_O hP2 (by rw [t4, t5]; exact hO.2.1) (by omega) (by omega)
  obtain ⟨_, _, _, f1, f2, f3, f4⟩ := hE
  have ee : zqE (zshf f (14 + 14 * s) dx dy) (zrmp g s (g 1174 s).toNat 0 (fun x _ => x + dx) (fun _ y => y + dy)) s := by
    obtain ⟨c1, c2, c3⟩ := cc
    unfold zshf
    refine ⟨by rw [zfr_9 (by omega)]; exact c1, by rw [zfr_9 (by omega)]; exact c2, fun p hp => ?_, ?_⟩
    · unfold zN zX zY
      rw [zfr_9 (by omega)]
      refine ⟨(c3 p hp).1, fun k hk => ?_⟩
      rw [zfr_9 (by omega), zfr_9 (by omega)]
      exact (c3 p hp).2 k hk
    · rw [zfr_l, zfr_d, zfr_r, zfr_u, dd.1, dd.2.1, dd.2.2.1, dd.2.2.2, f1, f2, f3, f4]
      exact ⟨rfl, rfl, rfl, rfl⟩
  refine zqQ_geo h hs (fun b j hb => ?_) (fun b j hb _ => zrmp_q hb) ⟨ee, oo⟩
  unfold zshf
  rw [zfr_9 (by omega), zmp_o _ (by omega)]
/-- what goes how far, in both programs -/
theorem zqvals (h : zqR n f g) (hn : n ≤ 59) {cb : Nat → Bool} (hc : ∀ j, j < 60 → (f 8 j ≠ 0 ↔ cb j = true)) {dx dy : Int} (hi : i < 60) (ti : g 1166 i = 1) : zvx f dx i = zrlm g cb dx dy 1186 i ∧ zvy f dy i = zrlm g cb dx dy 1187 i ∧ (zrlm g cb dx dy 1185 i = 0 ∨ zrlm g cb dx dy 1185 i = 1) ∧ (zrlm g cb dx dy 1185 i ≠ 1 → zrlm g cb dx dy 1186 i = 0 ∧ zrlm g cb dx dy 1187 i = 0) := by
  have lv := zqR_lv h
  have lk : ∀ i, (i < 60 ∧ g 1166 i = 1) → zkd f i = g 1173 i := fun i hi => (h.2.2.2.1.1 i hi.1 hi.2).2.1
  have inn := (h.1.2 i hi).2.2 ti
  obtain ⟨K0, hK0⟩ := zqR_le h i inn
  have ends : zrne (g 1172) 60 (i : Int) := zrne_u (n + 1) 60 _ (by omega) (zqpig (zqR_lb h) K0 i inn hK0)
  have q := fun (dd : Int) => zqfs (P := fun i => i < 60 ∧ g 1166 i = 1) (u := zld f) (v := g 1172) (kd := zkd f) (kr := g 1173) (ch := f 8) (cb := cb) (dx := dd) (fun i hi => ⟨⟨(lv i hi).1, lk i hi, hc i hi.1⟩, (lv i hi).2⟩) 60 (i : Int) 1 1 (Or.inr ⟨by omega, by rw [Int.toNat_natCast]; exact ⟨hi, ti⟩⟩)
  have b2 := fun (dd : Int) => zbv_e (nx := g 1172) (kd := g 1173) (ch := cb) (q := 2) (d := dd) 60 61 (i : Int) ends (by omega)
  have b1 := fun (dd : Int) => zbv_e (nx := g 1172) (kd := g 1173) (ch := cb) (q := 1) (d := dd) 60 61 (i : Int) ends (by omega)
  have m := zmo_e (nx := g 1172) (ch := cb) 60 61 (i : Int) ends (by omega)
  have e1 : zrlm g cb dx dy 1186 i = zbv (g 1172) (g 1173) cb 2 dx 61 (i : Int) := by
    unfold zrlm
    rw [zmv_2]
    exact if_pos hi
  have e2 : zrlm g cb dx dy 1187 i = zbv (g 1172) (g 1173) cb 1 dy 61 (i : Int) := by
    unfold zrlm
    rw [zmv_3]
    exact if_pos hi
  have e0 : zrlm g cb dx dy 1185 i = if zmo (g 1172) cb 61 (i : Int) = true then 1 else 0 := by
    unfold zrlm
    rw [zmv_1]
    exact if_pos hi
  have t := zqR_t h hi
  rw [e1, e2, e0]
  refine ⟨?_, ?_, ?_, fun hz => ?_⟩
  · unfold zvx zhb
    rw [if_pos (by omega), (q dx).1, if_neg (by omega), b2]
  · unfold zvy zhb
    rw [if_pos (by omega), (q dy).2, if_neg (by omega), b1]
  · split
    · exact Or.inr rfl
    · exact Or.inl rfl
  · have : zmo (g 1172) cb 61 (i : Int) = false := by
      cases c : zmo (g 1172) cb 61 (i : Int)
      · rfl
      · rw [c] at hz; exact absurd rfl hz
    exact ⟨zbv_0 61 _ this, zbv_0 61 _ this⟩
theorem zqnot (h : zqR n f g) {cb : Nat → Bool} {dx dy : Int} (hi : i < 60) (ti : g 1166 i ≠ 1) (hb : cb i = true → g 1166 i = 1) : zrlm g cb dx dy 1185 i = 0 := by
  have l := h.2.2.2.1.2.1 i hi
  have l1 : g 1172 i = -1 := by
    by_cases c : 0 ≤ g 1172 i
    · exact absurd (l.2.2 c).1 ti
    · omega
  have e0 : zrlm g cb dx dy 1185 i = if zmo (g 1172) cb 61 (i : Int) = true then 1 else 0 := by
    unfold zrlm
    rw [zmv_1]
    exact if_pos hi
  have z : zmo (g 1172) cb 61 (i : Int) = false := by
    rw [zmo_s, if_neg (by omega), Int.toNat_natCast, if_neg (fun c => ti (hb c)), l1, zmo_s, if_pos rfl]
  rw [e0, z]
  rfl
theorem zrlm_d {cb : Nat → Bool} {dx dy : Int} (i w : Nat) : zrsd (zrlm g cb dx dy) i w = zrsd g i w := zrsd_cg (funext fun j => zrlm_o (by omega)) (funext fun j => zrlm_o (by omega)) (funext fun j => zrlm_o (by omega)) (funext fun j => zrlm_o (by omega)) i w
/-- whether all can go -/
theorem zqcan (h : zqR n f g) (hn : n ≤ 59) {cb : Nat → Bool} (hc : ∀ j, j < 60 → (f 8 j ≠ 0 ↔ cb j = true)) (hb : ∀ j, j < 60 → cb j = true → g 1166 j = 1) {dx dy : Int} : (∀ i, i < 60 → zgo f dx dy i) ↔ zcam (zrlm g cb dx dy) 60 := by
  have fr : ∀ i, i < 60 → g 1166 i = 1 → (f (14 + 14 * i) 11 = zrsd g i 0 ∧ f (14 + 14 * i) 12 = zrsd g i 1 ∧ f (14 + 14 * i) 13 = zrsd g i 2 ∧ f (14 + 14 * i) 14 = zrsd g i 3) ∧ zrFm g i := fun i hi ti => by
    obtain ⟨hE, hO⟩ := h.2.2.2.2.2.2.2.1 i hi ti
    exact ⟨hE.2.2.2, zqO_fm hO⟩
  constructor
  · intro a i hi hz
    have r := zqR_r01 h i hi
    by_cases ti : g 1166 i = 1
    · obtain ⟨v1, v2, v3, v4⟩ := zqvals (dx := dx) (dy := dy) h hn hc hi ti
      obtain ⟨⟨f1, f2, f3, f4⟩, fm⟩ := fr i hi ti
      have z := a i hi (by rw [zqR_t h hi]; exact ti)
      unfold zcs at z
      unfold zcmv
      rw [zrlm_d, zrlm_d, zrlm_d, zrlm_d]
      rw [f1, f2, f3, f4, v1, v2] at z
      omega
    · exact absurd (zqnot h hi ti (hb i hi)) hz
  · intro a i hi ti
    rw [zqR_t h hi] at ti
    obtain ⟨v1, v2, v3, v4⟩ := zqvals (dx := dx) (dy := dy) h hn hc hi ti
    obtain ⟨⟨f1, f2, f3, f4⟩, fm⟩ := fr i hi ti
    unfold zcs
    rw [f1, f2, f3, f4, v1, v2]
    by_cases c : zrlm g cb dx dy 1185 i = 1
    · have z := a i hi (by omega)
      unfold zcmv at z
      rw [zrlm_d, zrlm_d, zrlm_d, zrlm_d] at z
      omega
    · obtain ⟨w1, w2⟩ := v4 c
      unfold zrFm at fm
      omega
/-- all shifted -/
theorem zqQ_moved (h : zqR n f g) (hn : n ≤ 59) {cb : Nat → Bool} (hc : ∀ j, j < 60 → (f 8 j ≠ 0 ↔ cb j = true)) (hb : ∀ j, j < 60 → cb j = true → g 1166 j = 1) {dx dy : Int} (ha : zcam (zrlm g cb dx dy) 60) : zqR n (zshal (zvs f dx dy 60) (zvx f dx) (zvy f dy) 60) (zrmv g cb dx dy) ∧ zshn (zvs f dx dy 60) (zvx f dx) (zvy f dy) 60 = zcnt (zrmc (zrlm g cb dx dy)) 60 := by
  have h0 : zqR n (zvs f dx dy 60) (zrlm g cb dx dy) := zqR_keep (fun b j _ _ h9 h10 _ => zvs_o ⟨h9, h10⟩ _ _ _ _) (fun j hj => by rw [zvs_o (by omega)]; exact zqR_ch h j hj) (fun b j b1 b2 _ => zrlm_o (by omega)) (zrlm_o (by omega)) h
  have cond : ∀ i, i < 60 → ((zvs f dx dy 60 (14 + 14 * i) 0 = 1 ∧ (zvx f dx i ≠ 0 ∨ zvy f dy i ≠ 0)) ↔ zrmc (zrlm g cb dx dy) i = true) := fun i hi => by
    rw [zvs_o (by omega), zqR_t h hi]
    unfold zrmc
    rw [decide_eq_true_iff]
    by_cases ti : g 1166 i = 1
    · obtain ⟨v1, v2, v3, v4⟩ := zqvals (dx := dx) (dy := dy) h hn hc hi ti
      rw [v1, v2]
      by_cases c : zrlm g cb dx dy 1185 i = 1
      · exact ⟨fun q => ⟨c, q.2⟩, fun q => ⟨ti, q.2⟩⟩
      · obtain ⟨w1, w2⟩ := v4 c
        exact ⟨fun q => absurd q.2 (by omega), fun q => absurd q.1 c⟩
    · have z := zqnot (dx := dx) (dy := dy) h hi ti (hb i hi)
      exact ⟨fun q => absurd q.1 ti, fun q => absurd q.1 (by omega)⟩
  have main : ∀ k, k ≤ 60 → zqR n (zshal (zvs f dx dy 60) (zvx f dx) (zvy f dy) k) (zrmf (zrlm g cb dx dy) k) ∧ zshn (zvs f dx dy 60) (zvx f dx) (zvy f dy) k = zcnt (zrmc (zrlm g cb dx dy)) k := by
    intro k
    induction k with
    | zero => exact fun _ => ⟨h0, rfl⟩
    | succ k ih =>
      intro hk
      obtain ⟨i1, i2⟩ := ih (by omega)
      rw [zshal_s, zshn_s, zrmf_s, zcnt_s]
      have cd := cond k (by omega)
      by_cases c : zrmc (zrlm g cb dx dy) k = true
      · have c2 := cd.mpr c
        rw [if_pos c2, if_pos c2, if_pos c, if_pos c, i2]
        have tk : g 1166 k = 1 := by
          have := c2.1
          rw [zvs_o (by omega), zqR_t h (by omega)] at this
          exact this
        obtain ⟨v1, v2, v3, v4⟩ := zqvals (dx := dx) (dy := dy) h hn hc (show k < 60 by omega) tk
        have eq : zrEq (zrmf (zrlm g cb dx dy) k) (zrlm g cb dx dy) k := ⟨zrmf_o (by omega) k, zrmf_o (by omega) k, fun p _ => zrmf_o (by omega) k, fun j j1 j2 => ⟨zrmf_p k j1, zrmf_p k j1⟩⟩
        obtain ⟨hE, hO⟩ := h0.2.2.2.2.2.2.2.1 k (by omega) ((zrlm_o (by omega)).trans tk)
        have ed := zrEq_d eq (zqO_sw hO)
        have cm := ha k (by omega) (by
          unfold zrmc at c
          rw [decide_eq_true_iff] at c
          omega)
        unfold zcmv at cm
        have e4 : zrmf (zrlm g cb dx dy) k 1174 k = zrlm g cb dx dy 1174 k := zrmf_o (by omega) k
        rw [v1, v2]
        refine ⟨?_, rfl⟩
        have := zqQ_shift (dx := zrlm g cb dx dy 1186 k) (dy := zrlm g cb dx dy 1187 k) i1 (show k < 60 by omega) ((zrmf_o (by omega) k).trans ((zrlm_o (by omega)).trans tk)) (by rw [ed, ed]; exact cm.1) (by rw [ed, ed]; exact cm.2)
        rw [e4] at this
        exact this
      · have c2 := fun q => c (cd.mp q)
        rw [if_neg c2, if_neg c2, if_neg c, if_neg c]
        exact ⟨i1, i2⟩
  exact main 60 (by omega)
theorem zqfirst {P : Nat → Prop} : ∀ m, ¬ (∀ i, i < m → P i) → ∃ i, i < m ∧ ¬ P i ∧ ∀ j, j < i → P j
  | 0, h => absurd (fun i hi => absurd hi (Nat.not_lt_zero i)) h
  | m + 1, h => by
    by_cases c : ∀ i, i < m → P i
    · exact ⟨m, by omega, fun q => h (fun i hi => by
        by_cases e : i = m
        · rw [e]; exact q
        · exact c i (by omega)), c⟩
    · obtain ⟨i, h1, h2, h3⟩ := zqfirst m c
      exact ⟨i, by omega, h2, h3⟩
variable {L k : Nat} {M N : zM}
/-- what both do with a chosen set -/
theorem zqmove (hM : zLay M.2.2.2) (hN : zLay N.2.2.2) (hk : k < 60) (h : zqR k M.2.1 N.2.1) (hm : zMv M.2.1) {x : Int64} (hc : ∀ j, j < 60 → (M.2.1 8 j ≠ 0 ↔ zbt x j = true)) (hb : ∀ j, j < 60 → zbt x j = true → N.2.1 1166 j = 1) {dx dy : Int} (hx : -1000 ≤ dx ∧ dx ≤ 1000) (hy : -1000 ≤ dy ∧ dy ≤ 1000) : ∃ (F : Nat → Nat → Int) (v : Int), (∀ Q : zO → zM → Prop, zFR (zK L) 20 0 (zcall 20 [.inr (.inr 3), .inl dx, .inl dy]) [] M Q = Q (.inl (some (.inl v))) (zwI M F)) ∧ (∀ b j, (b < 3 ∨ 854 ≤ b) → F b j = M.2.1 b j) ∧ ((zcam (zrlm N.2.1 (zbt x) dx dy) 60 ∧ 0 ≤ v ∧ v = (zcnt (zrmc (zrlm N.2.1 (zbt x) dx dy)) 60 : Int) ∧ zqR k F (zrmv N.2.1 (zbt x) dx dy)) ∨ (¬ zcam (zrlm N.2.1 (zbt x) dx dy) 60 ∧ v = -1 ∧ zqR k F (zrlm N.2.1 (zbt x) dx dy))) := by
  have can := zqcan (dx := dx) (dy := dy) h (by omega) hc hb
  by_cases c : ∀ i, i < 60 → zgo M.2.1 dx dy i
  · obtain ⟨m1, m2⟩ := zqQ_moved (dx := dx) (dy := dy) h (by omega) hc hb (can.mp c)
    refine ⟨_, _, fun Q => c20 hM hm hx hy c, fun b j hb => ?_, Or.inl ⟨can.mp c, by omega, by rw [m2], m1⟩⟩
    rw [zshal_o _ _ _ 60 (by omega), zvs_o (by omega)]
  · obtain ⟨i, hi, h2, h3⟩ := zqfirst 60 c
    refine ⟨_, _, fun Q => c20n hM hm hx hy hi h2 h3, fun b j hb => zvs_o (by omega) _ _ _ _, Or.inr ⟨fun q => c (can.mpr q), rfl, ?_⟩⟩
    exact zqR_keep (fun b j _ _ h9 h10 _ => zvs_o ⟨h9, h10⟩ _ _ _ _) (fun j hj => by rw [zvs_o (by omega)]; exact zqR_ch h j hj) (fun b j b1 b2 _ => zrlm_o (by omega)) (zrlm_o (by omega)) h
end ZMOVEQ
