/-! gathered, in both programs -/
section ZGATHQ
/-- up the groups after a root was put under another -/
theorem zotr_ch {w v : Nat → Int} {r num : Nat} (hw : ∀ a, a < 60 → w a = -1 ∨ ((a : Int) < w a ∧ w a < 60)) (hr : w r = -1) (hn : w num = -1) (hrn : r < num) (hn6 : num < 60) (hv : ∀ a, a < 60 → v a = if a = r then (num : Int) else w a) {i : Nat} (hi : i < 60) : zotr v 60 i = if zotr w 60 i = r then num else zotr w 60 i := by
  have hv2 : ∀ a, a < 60 → v a = -1 ∨ ((a : Int) < v a ∧ v a < 60) := fun a ha => by
    rw [hv a ha]
    by_cases e : a = r
    · rw [if_pos e]; omega
    · rw [if_neg e]; exact hw a ha
  have vn : v num = -1 := by rw [hv num hn6, if_neg (by omega), hn]
  have main : ∀ k a, a < 60 → 60 ≤ a + k → zotr v (k + 1) a = if zotr w k a = r then num else zotr w k a := by
    intro k
    induction k with
    | zero => exact fun a h h2 => absurd h (by omega)
    | succ k ih =>
      intro a ha hk
      rw [zotr_s v (k + 1), zotr_s w k, hv a ha]
      by_cases e : a = r
      · subst e
        rw [if_pos rfl, if_neg (show ¬ (num : Int) < 0 by omega), if_pos (show w a < 0 by omega), if_pos rfl, Int.toNat_natCast, zotr_s, if_pos (by omega)]
      · rw [if_neg e]
        by_cases c : w a < 0
        · rw [if_pos c, if_pos c, if_neg e]
        · rw [if_neg c, if_neg c]
          rcases hw a ha with e1 | ⟨e1, e2⟩
          · omega
          · exact ih _ (by omega) (by omega)
  rw [← main 60 i hi (by omega)]
  exact (zotr_st hv2 60 i hi (by omega)).symm
variable {n : Nat} {f g f' g' : Nat → Nat → Int} {s t : Nat}
/-- a shape without a group put into group n -/
theorem zqQ_g1 (h : zqR (n + 1) f g) (hn : n < 60) (hg0 : g 1166 n = 0) {i : Nat} (hi : i < n) (ti : g 1166 i = 1) : zqR (n + 1) (zu2 f (14 + 14 * i) 8 (n : Int)) (zu2 g 1180 i (n : Int)) := by
  obtain ⟨T, A, K, Lr, G, V, D, S, J⟩ := h
  generalize ef : zu2 f (14 + 14 * i) 8 (n : Int) = f'
  generalize eg : zu2 g 1180 i (n : Int) = g'
  have hF : ∀ b j, (b ≠ 14 + 14 * i ∨ j ≠ 8) → f' b j = f b j := fun b j hb => by rw [← ef]; exact zu2_sj hb
  have hG : ∀ b j, (b ≠ 1180 ∨ j ≠ i) → g' b j = g b j := fun b j hb => by rw [← eg]; exact zu2_sj hb
  have f8 : f' (14 + 14 * i) 8 = (n : Int) := by rw [← ef, zu2_eq]
  have g8 : g' 1180 i = (n : Int) := by rw [← eg, zu2_eq]
  have h0 : ∀ i, i < 60 → g' 1166 i = g 1166 i := fun i hi => hG _ _ (by omega)
  have h00 : ∀ i, i < 60 → g' 1166 i = 1 → g 1166 i = 1 := fun i hi t => by rw [← h0 i hi]; exact t
  have hj : zqJ f' := by
    obtain ⟨J1, J2, J3, J4⟩ := J
    refine ⟨fun k hk => ?_, fun k hk => ?_, ⟨fun k hk => ?_, fun k hk => ?_⟩, fun k hk => ?_⟩
    · unfold zKy
      rw [hF _ 3 (by omega), hF _ 4 (by omega)]
      exact J1 k hk
    · unfold zld
      rw [hF _ _ (by omega)]; exact J2 k hk
    · by_cases e : k = i
      · subst e; rw [f8]; omega
      · rw [hF _ _ (by omega)]; exact J3.1 k hk
    · rw [hF _ _ (by omega)]; exact J3.2 k hk
    · rw [hF _ _ (by omega)]; exact J4 k hk
  have hgr : zqG (n + 1) f' g' := fun j hj => by
    obtain ⟨a, b, c⟩ := G j hj
    rw [h0 j hj, hF 7 j (by omega)]
    by_cases e : j = i
    · subst e
      rw [f8, g8]
      refine ⟨fun t => ⟨rfl, (a t).2⟩, fun t => absurd t (by omega), Or.inr ⟨by omega, by omega, ?_⟩⟩
      rw [Int.toNat_natCast, h0 n hn]
      exact hg0
    · rw [hF _ _ (by omega), hG 1180 j (by omega)]
      refine ⟨a, b, ?_⟩
      rcases c with c | ⟨c1, c2, c3⟩
      · exact Or.inl c
      · exact Or.inr ⟨c1, c2, by rw [h0 _ (by omega)]; exact c3⟩
  exact ⟨zqT_c (fun i hi => hF _ _ (by omega)) h0 T, zqA_c h00 (fun i hi _ => ⟨hF _ _ (by omega), hF _ _ (by omega), hF _ _ (by omega)⟩) (fun i hi _ => ⟨hG _ _ (by omega), hG _ _ (by omega), hG _ _ (by omega)⟩) A, zqK_c h00 (fun i hi _ => ⟨hF _ _ (by omega), hF _ _ (by omega)⟩) (fun i hi _ => ⟨hG _ _ (by omega), hG _ _ (by omega), hG _ _ (by omega)⟩) K, zqL_c h0 (fun i hi => ⟨hF _ _ (by omega), hF _ _ (by omega)⟩) (fun i hi => ⟨hG _ _ (by omega), hG _ _ (by omega)⟩) Lr, hgr, zqV_c (fun i hi => hF _ _ (by omega)) (fun i hi => hG _ _ (by omega)) (fun i hi => ⟨hG _ _ (by omega), hG _ _ (by omega)⟩) V, zqD_c (hF _ _ (by omega)) (hG _ _ (by omega)) (fun i hi => ⟨hF _ _ (by omega), hF _ _ (by omega)⟩) (fun i hi => ⟨hG _ _ (by omega), hG _ _ (by omega)⟩) D, zqF_c h00 (fun k hk _ b j h1 h2 h3 => hF _ _ (by omega)) (fun k hk _ => ⟨hG _ _ (by omega), hG _ _ (by omega), fun p _ => hG _ _ (by omega), fun j _ _ => ⟨hG _ _ (by omega), hG _ _ (by omega)⟩⟩) S, hj⟩
/-- a group put into group n -/
theorem zqQ_g2 (h : zqR (n + 1) f g) (hn : n < 60) (hg0 : g 1166 n = 0) {i : Nat} (hi : i < n) (ti : g 1166 i = 0) : zqR (n + 1) (zu2 f 7 i (n : Int)) (zu2 g 1180 i (n : Int)) := by
  obtain ⟨T, A, K, Lr, G, V, D, S, J⟩ := h
  generalize ef : zu2 f 7 i (n : Int) = f'
  generalize eg : zu2 g 1180 i (n : Int) = g'
  have hF : ∀ b j, (b ≠ 7 ∨ j ≠ i) → f' b j = f b j := fun b j hb => by rw [← ef]; exact zu2_sj hb
  have hG : ∀ b j, (b ≠ 1180 ∨ j ≠ i) → g' b j = g b j := fun b j hb => by rw [← eg]; exact zu2_sj hb
  have f8 : f' 7 i = (n : Int) := by rw [← ef, zu2_eq]
  have g8 : g' 1180 i = (n : Int) := by rw [← eg, zu2_eq]
  have h0 : ∀ i, i < 60 → g' 1166 i = g 1166 i := fun i hi => hG _ _ (by omega)
  have h00 : ∀ i, i < 60 → g' 1166 i = 1 → g 1166 i = 1 := fun i hi t => by rw [← h0 i hi]; exact t
  have hj : zqJ f' := by
    obtain ⟨J1, J2, J3, J4⟩ := J
    refine ⟨fun k hk => ?_, fun k hk => ?_, ⟨fun k hk => ?_, fun k hk => ?_⟩, fun k hk => ?_⟩
    · unfold zKy
      rw [hF _ 3 (by omega), hF _ 4 (by omega)]
      exact J1 k hk
    · unfold zld
      rw [hF _ _ (by omega)]; exact J2 k hk
    · rw [hF _ _ (by omega)]; exact J3.1 k hk
    · by_cases e : k = i
      · subst e; rw [f8]; omega
      · rw [hF _ _ (by omega)]; exact J3.2 k hk
    · rw [hF _ _ (by omega)]; exact J4 k hk
  have hgr : zqG (n + 1) f' g' := fun j hj => by
    obtain ⟨a, b, c⟩ := G j hj
    rw [h0 j hj, hF (14 + 14 * j) 8 (by omega)]
    by_cases e : j = i
    · subst e
      rw [f8, g8]
      refine ⟨fun t => absurd t (by omega), fun t => rfl, Or.inr ⟨by omega, by omega, ?_⟩⟩
      rw [Int.toNat_natCast, h0 n hn]
      exact hg0
    · rw [hF _ _ (by omega), hG 1180 j (by omega)]
      refine ⟨a, b, ?_⟩
      rcases c with c | ⟨c1, c2, c3⟩
      · exact Or.inl c
      · exact Or.inr ⟨c1, c2, by rw [h0 _ (by omega)]; exact c3⟩
  exact ⟨zqT_c (fun i hi => hF _ _ (by omega)) h0 T, zqA_c h00 (fun i hi _ => ⟨hF _ _ (by omega), hF _ _ (by omega), hF _ _ (by omega)⟩) (fun i hi _ => ⟨hG _ _ (by omega), hG _ _ (by omega), hG _ _ (by omega)⟩) A, zqK_c h00 (fun i hi _ => ⟨hF _ _ (by omega), hF _ _ (by omega)⟩) (fun i hi _ => ⟨hG _ _ (by omega), hG _ _ (by omega), hG _ _ (by omega)⟩) K, zqL_c h0 (fun i hi => ⟨hF _ _ (by omega), hF _ _ (by omega)⟩) (fun i hi => ⟨hG _ _ (by omega), hG _ _ (by omega)⟩) Lr, hgr, zqV_c (fun i hi => hF _ _ (by omega)) (fun i hi => hG _ _ (by omega)) (fun i hi => ⟨hG _ _ (by omega), hG _ _ (by omega)⟩) V, zqD_c (hF _ _ (by omega)) (hG _ _ (by omega)) (fun i hi => ⟨hF _ _ (by omega), hF _ _ (by omega)⟩) (fun i hi => ⟨hG _ _ (by omega), hG _ _ (by omega)⟩) D, zqF_c h00 (fun k hk _ b j h1 h2 h3 => hF _ _ (by omega)) (fun k hk _ => ⟨hG _ _ (by omega), hG _ _ (by omega), fun p _ => hG _ _ (by omega), fun j _ _ => ⟨hG _ _ (by omega), hG _ _ (by omega)⟩⟩) S, hj⟩
/-- the reference's groups after the first k of the set -/
def zqgk (g : Nat → Nat → Int) (x : Int64) (num : Nat) : Nat → Nat → Nat → Int
  | 0 => g
  | k + 1 => if zbt x k = true ∧ zrot (zqgk g x num k) k ≠ num then zu2 (zqgk g x num k) 1180 (zrot (zqgk g x num k) k) (num : Int) else zqgk g x num k
theorem zqgk_s (g : Nat → Nat → Int) (x : Int64) (num k : Nat) : zqgk g x num (k + 1) = if zbt x k = true ∧ zrot (zqgk g x num k) k ≠ num then zu2 (zqgk g x num k) 1180 (zrot (zqgk g x num k) k) (num : Int) else zqgk g x num k := rfl
theorem zqgk_o {x : Int64} {num b j : Nat} (h : b ≠ 1180) : ∀ k, zqgk g x num k b j = g b j
  | 0 => rfl
  | k + 1 => by
    rw [zqgk_s]
    split
    · rw [zu2_a h]; exact zqgk_o h k
    · exact zqgk_o h k
/-- the two together, member by member -/
theorem zqgat {x : Int64} (h : zqR (n + 1) f g) (hn : n < 60) (hg0 : g 1166 n = 0) (hnn : g 1180 n = -1) (hx : ∀ i, i < 60 → zbt x i = true → g 1166 i = 1) (hlt : ∀ i, i < 60 → (g 1166 i = 1 → i < n) ∧ g 1180 i < (n : Int)) : ∀ k, k ≤ 60 → zqR (n + 1) (zgat f x (n : Int) k) (zqgk g x n k) ∧ (∀ i, i < 60 → (g 1166 i = 1 ∨ i = n) → zrot (zqgk g x n k) i = if zgq g x k (zrot g i) = true then n else zrot g i) ∧ (∀ j, zqgk g x n k 1180 j = if zgq g x k j = true then (n : Int) else g 1180 j) ∧ zgq g x k n = false
  | 0, _ => ⟨h, fun i _ _ => rfl, fun j => rfl, rfl⟩
  | k + 1, hk => by
    obtain ⟨a1, a2, a3, a4⟩ := zqgat h hn hg0 hnn hx hlt k (by omega)
    have rootn : ∀ i, i < 60 → g 1166 i = 1 → zrot g i < n := fun i hi t => by
      obtain ⟨i1, i2⟩ := zqR_ot h hi t
      by_cases c : g 1180 i = -1
      · rw [(i1 c).2]; exact (hlt i hi).1 t
      · have b := zqR_gb h hi
        obtain ⟨q1, q2, q3, q4⟩ := i2 (by omega)
        have lt2 : ∀ m a, a < 60 → a < n → zotr (g 1180) m a < n := by
          intro m
          induction m with
          | zero => exact fun a _ h => h
          | succ m ih =>
            intro a ha han
            rw [zotr_s]
            split
            · exact han
            · have := (hlt a ha).2
              exact ih _ (by omega) (by omega)
        exact lt2 60 i hi ((hlt i hi).1 t)
    rw [zgat_s, zqgk_s]
    by_cases hb : zbt x k = true
    · have tk := hx k (by omega) hb
      have rk := rootn k (by omega) tk
      have ek : ∀ b j, b ≠ 1180 → zqgk g x n k b j = g b j := fun b j hb => zqgk_o hb k
      have tk2 : zqgk g x n k 1166 k = 1 := (ek _ _ (by omega)).trans tk
      obtain ⟨o1, o2⟩ := zqR_ot a1 (show k < 60 by omega) tk2
      have kk := a2 k (by omega) (Or.inl tk)
      have zs : ∀ j, zgq g x (k + 1) j = (zgq g x k j || decide (zrot g k = j)) := fun j => by rw [zgq_s, hb, Bool.true_and]
      have n4 : zgq g x (k + 1) n = false := by rw [zs, a4, decide_eq_false (by omega)]; rfl
      rw [if_pos hb]
      by_cases hq : zgq g x k (zrot g k) = true
      · rw [if_pos hq] at kk
        have zm : zotm (zgat f x (n : Int) k) k = (n : Int) := by
          by_cases c : zqgk g x n k 1180 k = -1
          · have := (o1 c).2
            have := (hlt k (by omega)).1 tk
            omega
          · have b := zqR_gb a1 (show k < 60 by omega)
            rw [(o2 (by omega)).1, kk]
        rw [if_neg (show ¬ zotm (zgat f x (n : Int) k) k = -1 by omega), if_pos zm, if_neg (fun c : zbt x k = true ∧ zrot (zqgk g x n k) k ≠ n => c.2 kk)]
        have same : ∀ j, zgq g x (k + 1) j = zgq g x k j := fun j => by
          rw [zs]
          by_cases e : zrot g k = j
          · rw [← e, hq]; rfl
          · rw [decide_eq_false e, Bool.or_false]
        exact ⟨a1, fun i hi t => by rw [same]; exact a2 i hi t, fun j => by rw [same]; exact a3 j, n4⟩
      · rw [if_neg hq] at kk
        have hkn : zrot (zqgk g x n k) k ≠ n := by omega
        rw [if_pos (show zbt x k = true ∧ zrot (zqgk g x n k) k ≠ n from ⟨hb, hkn⟩), kk]
        have root : zqgk g x n k 1180 (zrot g k) = -1 := by
          have := zqR_rG a1
          have r1 := this.2 k (by omega)
          have r2 := zqR_gb a1 (show zrot g k < 60 by omega)
          have r3 : zotr (zqgk g x n k 1180) 60 k = zrot g k := kk
          rw [r3] at r1
          omega
        have nroot : zqgk g x n k 1180 n = -1 := by rw [a3, a4]; exact (if_neg (by decide)).trans hnn
        have hwup := zqR_wup a1
        have upd : ∀ i, i < 60 → (g 1166 i = 1 ∨ i = n) → zrot (zu2 (zqgk g x n k) 1180 (zrot g k) (n : Int)) i = if zgq g x (k + 1) (zrot g i) = true then n else zrot g i := fun i hi ti => by
          have e := zotr_ch (w := zqgk g x n k 1180) (v := zu2 (zqgk g x n k) 1180 (zrot g k) (n : Int) 1180) hwup root nroot rk hn (fun a _ => by
            by_cases e : a = zrot g k
            · rw [e, zu2_eq, if_pos rfl]
            · rw [zu2_i e, if_neg e]) hi
          have e2 : zrot (zu2 (zqgk g x n k) 1180 (zrot g k) (n : Int)) i = if zrot (zqgk g x n k) i = zrot g k then n else zrot (zqgk g x n k) i := e
          rw [e2, a2 i hi ti, zs]
          by_cases c : zgq g x k (zrot g i) = true
          · rw [if_pos c, c, Bool.true_or, if_pos rfl, if_neg (by omega)]
          · have c2 : zgq g x k (zrot g i) = false := by cases hc : zgq g x k (zrot g i) <;> simp_all
            rw [c2, Bool.false_or, if_neg (show ¬ (false = true) by decide)]
            by_cases c3 : zrot g i = zrot g k
            · rw [if_pos c3, if_pos (decide_eq_true c3.symm)]
            · rw [if_neg c3, if_neg (fun h => c3 (of_decide_eq_true h).symm)]
        have tab : ∀ j, zu2 (zqgk g x n k) 1180 (zrot g k) (n : Int) 1180 j = if zgq g x (k + 1) j = true then (n : Int) else g 1180 j := fun j => by
          rw [zs]
          by_cases e : j = zrot g k
          · rw [e, zu2_eq, decide_eq_true rfl, Bool.or_true, if_pos rfl]
          · rw [zu2_i e, a3, decide_eq_false (fun h => e h.symm), Bool.or_false]
        refine ⟨?_, upd, tab, n4⟩
        have hg0' : zqgk g x n k 1166 n = 0 := (ek _ _ (by omega)).trans hg0
        by_cases c : zqgk g x n k 1180 k = -1
        · obtain ⟨p1, p2⟩ := o1 c
          rw [if_pos p1]
          have : zrot g k = k := by omega
          rw [this]
          exact zqQ_g1 a1 hn hg0' (by omega) tk2
        · have b := zqR_gb a1 (show k < 60 by omega)
          obtain ⟨p1, p2, p3, p4⟩ := o2 (by omega)
          rw [if_neg (show ¬ zotm (zgat f x (n : Int) k) k = -1 by omega), if_neg (show ¬ zotm (zgat f x (n : Int) k) k = (n : Int) by omega), p1, Int.toNat_natCast, kk]
          rw [kk] at p4
          exact zqQ_g2 a1 hn hg0' rk p4
    · rw [if_neg hb, if_neg (fun c => hb c.1)]
      have same : ∀ j, zgq g x (k + 1) j = zgq g x k j := fun j => by
        have : zbt x k = false := by cases hc : zbt x k <;> simp_all
        rw [zgq_s, this, Bool.false_and, Bool.or_false]
      exact ⟨a1, fun i hi t => by rw [same]; exact a2 i hi t, fun j => by rw [same]; exact a3 j, by rw [same]; exact a4⟩
/-- the members counted -/
theorem zqcnt {x : Int64} (h : zqR n f g) (hx : ∀ i, i < 60 → zbt x i = true → g 1166 i = 1) : ∀ k, k ≤ 60 → zcmn f x k = zgc g x k ∧ (∀ G, G < 60 → g 1166 G = 0 → (zcmc f x k G = 1 ↔ zgq g x k G = true)) ∧ ∀ i, k ≤ i → i < 60 → g 1166 i = 1 → g 1180 i = -1 → zgq g x k i = false
  | 0, _ => ⟨rfl, fun G hG _ => ⟨fun e => by rw [show zcmc f x 0 G = 0 from if_pos hG] at e; exact absurd e (by decide), fun e => absurd (show false = true from e) (by decide)⟩, fun _ _ _ _ _ => rfl⟩
  | k + 1, hk => by
    obtain ⟨a1, a2, a3⟩ := zqcnt h hx k (by omega)
    rw [zcmn_s, zgc_s, zcmc_s]
    by_cases hb : zbt x k = true
    · have tk := hx k (by omega) hb
      obtain ⟨o1, o2⟩ := zqR_ot h (show k < 60 by omega) tk
      have zs : ∀ j, zgq g x (k + 1) j = (zgq g x k j || decide (zrot g k = j)) := fun j => by rw [zgq_s, hb, Bool.true_and]
      by_cases c : g 1180 k = -1
      · obtain ⟨p1, p2⟩ := o1 c
        have q3 := a3 k (by omega) (by omega) tk c
        rw [if_pos ⟨hb, Or.inl p1⟩, p2, if_pos ⟨hb, q3⟩, if_neg (fun d => d.2 p1), a1]
        refine ⟨rfl, fun G hG g0 => ?_, fun i hi hi6 ti ci => ?_⟩
        · have : G ≠ k := fun e => by subst e; omega
          rw [zs, p2, decide_eq_false (fun e => this e.symm), Bool.or_false]
          exact a2 G hG g0
        · rw [zs, p2, decide_eq_false (by omega), Bool.or_false]
          exact a3 i (by omega) hi6 ti ci
      · have b := zqR_gb h (show k < 60 by omega)
        obtain ⟨p1, p2, p3, p4⟩ := o2 (by omega)
        have iff := a2 _ p3 p4
        have b01 := zcmc_b f x k (zrot g k) p3
        rw [p1, Int.toNat_natCast]
        refine ⟨?_, fun G hG g0 => ?_, fun i hi hi6 ti ci => ?_⟩
        · by_cases d : zgq g x k (zrot g k) = true
          · have d1 := iff.mpr d
            rw [if_neg (fun d2 => d2.2.elim (fun e => by omega) (fun e => by omega)), if_neg (fun d2 => by rw [d] at d2; exact absurd d2.2 (by decide))]
            exact a1
          · have d1 : zcmc f x k (zrot g k) = 0 := b01.resolve_right (fun e => d (iff.mp e))
            have d2 : zgq g x k (zrot g k) = false := by cases hc : zgq g x k (zrot g k) <;> simp_all
            rw [if_pos ⟨hb, Or.inr d1⟩, if_pos ⟨hb, d2⟩, a1]
        · rw [if_pos ⟨hb, by omega⟩, zup_if, zs]
          by_cases e : G = zrot g k
          · rw [if_pos e, e, decide_eq_true rfl, Bool.or_true]
            exact ⟨fun _ => rfl, fun _ => rfl⟩
          · rw [if_neg e, decide_eq_false (fun e2 => e e2.symm), Bool.or_false]
            exact a2 G hG g0
        · have : zrot g k ≠ i := fun e => by subst e; omega
          rw [zs, decide_eq_false this, Bool.or_false]
          exact a3 i (by omega) hi6 ti ci
    · have zs : ∀ j, zgq g x (k + 1) j = zgq g x k j := fun j => by
        have : zbt x k = false := by cases hc : zbt x k <;> simp_all
        rw [zgq_s, this, Bool.false_and, Bool.or_false]
      rw [if_neg (fun d => hb d.1), if_neg (fun d => hb d.1), if_neg (fun d => hb d.1)]
      exact ⟨a1, fun G hG g0 => by rw [zs]; exact a2 G hG g0, fun i hi hi6 ti ci => by rw [zs]; exact a3 i (by omega) hi6 ti ci⟩
variable {L k : Nat} {M N : zM}
theorem zqS_12 (hM : zLay M.2.2.2) (hN : zLay N.2.2.2) (hk : k < 60) (h : zqR k M.2.1 N.2.1) (hw : zqJw M N k 12) (h2 : M.2.1 (855 + 4 * k) 2 = -1) (h3 : M.2.1 (855 + 4 * k) 3 = -1) (hl : M.2.2.1 (855 + 4 * k) 10 = N.2.2.1 1162 k) : zqS L k M N := by
  obtain ⟨j0, j1⟩ := hw
  have h1 := zqR_g1 (k := k) h
  have hg : zgua M.2.1 k := ⟨Or.inl h2, Or.inl h3⟩
  generalize ex : N.2.2.1 1162 k = x at *
  by_cases hz : zat (zqg1 N.2.1 k) x 64
  · have hx : ∀ i, i < 60 → zbt x i = true → zqg1 N.2.1 k 1166 i = 1 := fun i hi hb => by
      have := (hz i (by omega) hb).2.2
      rw [Int.toNat_natCast] at this
      exact this
    have hina : zina M.2.1 x := (zqina h1).mpr hz
    obtain ⟨c1, c2, c3⟩ := zqcnt h1 hx 60 (by omega)
    have hgg : zqG k M.2.1 N.2.1 := h.2.2.2.2.1
    have n0 : N.2.1 1166 k = 0 := by
      rcases (h.1.2 k hk).1 with e | e
      · exact e
      · have := (h.1.2 k hk).2.2 e; omega
    have e201 := fun Q8 => c201 (L := L) (M := zwI N (zqg1 N.2.1 k)) (x := x) (num := k) (Q := Q8) hN (zqR_rG h1) hk
    by_cases hc : zgc (zqg1 N.2.1 k) x 60 < 2
    · refine ⟨zua M.2.1 8 (zcmc M.2.1 x 60), zqg1 N.2.1 k, -1, 0, fun Q => c10_12 (v := -1) (M9 := zwI M (zua M.2.1 8 (zcmc M.2.1 x 60))) hM (zqR_01 h) hk hk hg j0 (fun Q9 => ?_), fun Q => c192_12y (v := 0) (M9 := zwI N (zqg1 N.2.1 k)) hN hk j1 (zqR_r01 h) (by rw [ex]; exact hz) (fun Q9 => ?_) (Or.inl rfl), fun c j hc => zua_o (by omega) _ _, fun c j hc => zqg1_o (by omega), fun j _ h2 _ => zu2_i h2 _ _ _ _, Or.inl ⟨rfl, rfl, zqR_keep (fun b j _ h2 _ _ _ => zua_o h2 _ _) (fun j hj => by rw [zua_a]; exact zcmc_b _ _ _ _ hj) (fun _ _ _ _ _ => rfl) rfl h1⟩⟩
      · rw [hl]
        exact c35b hM (zqR_gr h) (zqR_01 h) hina (by omega)
      · rw [ex]
        refine (e201 Q9).trans ?_
        exact propext ⟨fun q => q.1 hc, fun q => ⟨fun _ => q, fun q2 => absurd hc q2⟩⟩
    · have h8 : zqR (k + 1) (zua M.2.1 8 (zcmc M.2.1 x 60)) (zqg1 N.2.1 k) := zqR_n hk (zqR_keep (fun b j _ h2 _ _ _ => zua_o h2 _ _) (fun j hj => by rw [zua_a]; exact zcmc_b _ _ _ _ hj) (fun _ _ _ _ _ => rfl) rfl h1)
      have nn : N.2.1 1180 k = -1 := by
        rcases (hgg k hk).2.2 with e | ⟨e1, e2, _⟩
        · exact e
        · omega
      obtain ⟨g1', _, g3, _⟩ := zqgat (n := k) (x := x) h8 hk ((zqg1_o (by omega)).trans n0) ((zqg1_o (by omega)).trans nn) hx (fun i hi => ⟨fun t => (h.1.2 i hi).2.2 ((zqg1_o (by omega)).symm.trans t), by
        rw [zqg1_o (by omega)]
        rcases (hgg i hi).2.2 with e | ⟨e1, e2, _⟩
        · omega
        · exact e2⟩) 60 (by omega)
      refine ⟨zgat (zua M.2.1 8 (zcmc M.2.1 x 60)) x (k : Int) 60, zrga (zqg1 N.2.1 k) x k, (k : Int), 1, fun Q => c10_12 (v := (k : Int)) (M9 := zwI M (zgat (zua M.2.1 8 (zcmc M.2.1 x 60)) x (k : Int) 60)) hM (zqR_01 h) hk hk hg j0 (fun Q9 => ?_), fun Q => c192_12y (v := 1) (M9 := zwI N (zrga (zqg1 N.2.1 k) x k)) hN hk j1 (zqR_r01 h) (by rw [ex]; exact hz) (fun Q9 => ?_) (Or.inr rfl), fun c j hc => ?_, fun c j hc => ?_, fun j h1 h2 h3 => ?_, Or.inr ⟨rfl, by omega, ?_, ?_⟩⟩
      · rw [hl]
        exact c35 hM (zqR_gr h) (zqR_01 h) hina (by omega) (by omega)
      · rw [ex]
        refine (e201 Q9).trans ?_
        exact propext ⟨fun q => q.2 hc, fun q => ⟨fun q2 => absurd q2 hc, fun _ => q⟩⟩
      · have : ∀ m, m ≤ 60 → zgat (zua M.2.1 8 (zcmc M.2.1 x 60)) x (k : Int) m c j = zua M.2.1 8 (zcmc M.2.1 x 60) c j := by
          intro m
          induction m with
          | zero => exact fun _ => rfl
          | succ m ih =>
            intro hm
            rw [zgat_s]
            split
            · split
              · rw [zu2_sj (by omega)]; exact ih (by omega)
              · split
                · exact ih (by omega)
                · rw [zu2_sj (by omega)]; exact ih (by omega)
            · exact ih (by omega)
        rw [this 60 (by omega)]
        exact zua_o (by omega) _ _
      · unfold zrga zgw
        rw [zua_o (by omega), zu2_sj (by omega)]
        exact zqg1_o (by omega)
      · unfold zrga zgw
        rw [zua_o (by omega), zu2_sj (by omega)]
        exact zu2_i h2 _ _ _ _
      · unfold zrga zgw
        rw [zua_o (by omega), zu2_sj (by omega)]
        exact zu2_eq _ _ _ _
      · refine zqR_keep (fun _ _ _ _ _ _ _ => rfl) (zqR_ch g1') (fun b j b1 b2 b3 => ?_) ?_ g1'
        · by_cases e : b = 1180
          · subst e
            unfold zrga zgw
            rw [zua_a, g3]
            have eq : ∀ m i, zgq (zu2 (zqg1 N.2.1 k) 1179 k 1) x m i = zgq (zqg1 N.2.1 k) x m i := fun m i => zgq_c (fun j => zu2_sj (by omega)) x m i
            rw [eq]
            by_cases hj : j < 60
            · by_cases q : zgq (zqg1 N.2.1 k) x 60 j = true
              · rw [if_pos ⟨hj, q⟩, if_pos q]
              · rw [if_neg (fun q2 => q q2.2), if_neg q, zu2_sj (by omega)]
            · rw [if_neg (fun q2 => hj q2.1), zu2_sj (by omega)]
              have : zgq (zqg1 N.2.1 k) x 60 j = false := by
                have all : ∀ m, m ≤ 60 → zgq (zqg1 N.2.1 k) x m j = false := by
                  intro m
                  induction m with
                  | zero => exact fun _ => rfl
                  | succ m ih =>
                    intro hm
                    have rb := zrot_b (zqR_rG h1) (show m < 60 by omega)
                    rw [zgq_s, ih (by omega), decide_eq_false (by omega), Bool.and_false]
                    rfl
                exact all 60 (by omega)
              rw [this]
              exact (if_neg (by decide)).symm
          · unfold zrga zgw
            rw [zua_o e, zu2_sj (by omega), zqgk_o e]
        · unfold zrga zgw
          rw [zua_o (by omega), zu2_sj (by omega), zqgk_o (by omega)]
  · refine ⟨M.2.1, zqg1 N.2.1 k, -1, 0, fun Q => c10_12 (v := -1) (M9 := M) hM (zqR_01 h) hk hk hg j0 (fun Q9 => ?_), fun Q => c192_12n (v := 0) (M9 := N) hN hk j1 (zqR_r01 h) (by rw [ex]; exact hz), fun _ _ _ => rfl, fun c j hc => zqg1_o (by omega), fun j _ h2 _ => zu2_i h2 _ _ _ _, Or.inl ⟨rfl, rfl, h1⟩⟩
    rw [hl]
    exact c35a hM (zqR_01 h) (fun h9 => hz ((zqina h1).mp h9))
end ZGATHQ
