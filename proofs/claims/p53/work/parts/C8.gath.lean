section SG_C8_gath
/-! gathered, in both programs -/
section ZGATHQ
/-- up the groups after a root was put under another -/
theorem zotr_ch {w v : Nat → Int} {r num : Nat} (hw : ∀ a, a < 60 → w a = -1 ∨ ((a : Int) < w a ∧ w a < 60)) (hr : w r = -1) (hn : w num = -1) (hrn : r < num) (hn6 : num < 60) (hv : ∀ a, a < 60 → v a = if a = r then (num : Int) else w a) {i : Nat} (hi : i < 60) : zotr v 60 i = if zotr w 60 i = r then num else zotr w 60 i := by
  have hv2 : ∀ a, a < 60 → v a = -1 ∨ ((a : Int) < v a ∧ v a < 60) := fun a ha => by
    rw [hv a ha]
    by_cases e : a = r
    · rw [if_pos e]; omega
    · rw [if_neg e]; exact hw a ha
  have vn : v num = -1 := by rw [hv num hn6, if_neg (by omega), hn]
  have main : ∀ k a, a < 60 → 60 ≤ a + k → zotr v (k + 1) a = if zotr w k a = r then num else zotr w k a := by
    intro k
    induction k with
    | zero => exact fun a h h2 => absurd h (by omega)
    | succ k ih =>
      intro a ha hk
      rw [zotr_s v (k + 1), zotr_s w k, hv a ha]
      by_cases e : a = r
      · subst e
        rw [if_pos rfl, if_neg (show ¬ (num : Int) < 0 by omega), if_pos (show w a < 0 by omega), if_pos rfl, Int.toNat_natCast, zotr_s, if_pos (by omega)]
      · rw [if_neg e]
        by_cases c : w a < 0
        · rw [if_pos c, if_pos c, if_neg e]
        · rw [if_neg c, if_neg c]
          rcases hw a ha with e1 | ⟨e1, e2⟩
          · omega
          · exact ih _ (by omega) (by omega)
  rw [← main 60 i hi (by omega)]
  exact (zotr_st hv2 60 i hi (by omega)).symm
variable {n : Nat} {f g f' g' : Nat → Nat → Int} {s t : Nat}
/-- a shape without a group put into group n -/
theorem zqQ_g1 (h : zqR (n + 1) f g) (hn : n < 60) (hg0 : g 1166 n = 0) {i : Nat} (hi : i < n) (ti : g 1166 i = 1) : zqR (n + 1) (zu2 f (14 + 14 * i) 8 (n : Int)) (zu2 g 1180 i (n : Int)) := by
  obtain ⟨T, A, K, Lr, G, V, D, S, J⟩ := h
  generalize ef : zu2 f (14 + 14 * i) 8 (n : Int) = f'
  generalize eg : zu2 g 1180 i (n : Int) = g'
  have hF : ∀ b j, (b ≠ 14 + 14 * i ∨ j ≠ 8) → f' b j = f b j := fun b j hb => by rw [← ef]; exact zu2_sj hb
  have hG : ∀ b j, (b ≠ 1180 ∨ j ≠ i) → g' b j = g b j := fun b j hb => by rw [← eg]; exact zu2_sj hb
  have f8 : f' (14 + 14 * i) 8 = (n : Int) := by rw [← ef, zu2_eq]
  have g8 : g' 1180 i = (n : Int) := by rw [← eg, zu2_eq]
  have h0 : ∀ i, i < 60 → g' 1166 i = g 1166 i := fun i hi => hG _ _ (by omega)
  have h00 : ∀ i, i < 60 → g' 1166 i = 1 → g 1166 i = 1 := fun i hi t => by rw [← h0 i hi]; exact t
  have hj : zqJ f' := by
    obtain ⟨J1, J2, J3, J4⟩ := J
    refine ⟨fun k hk => ?_, fun k hk => ?_, ⟨fun k hk => ?_, fun k hk => ?_⟩, fun k hk => ?_⟩
    · unfold zKy
      rw [hF _ 3 (by omega), hF _ 4 (by omega)]
      exact J1 k hk
    · unfold zld
      rw [hF _ _ (by omega)]; exact J2 k hk
    · by_cases e : k = i
      · subst e; rw [f8]; omega
      · rw [hF _ _ (by omega)]; exact J3.1 k hk
    · rw [hF _ _ (by omega)]; exact J3.2 k hk
    · rw [hF _ _ (by omega)]; exact J4 k hk
  have hgr : zqG (n + 1) f' g' := fun j hj => by
    obtain ⟨a, b, c⟩ := G j hj
    rw [h0 j hj, hF 7 j (by omega)]
    by_cases e : j = i
    · subst e
      rw [f8, g8]
      refine ⟨fun t => ⟨rfl, (a t).2⟩, fun t => absurd t (by omega), Or.inr ⟨by omega, by omega, ?_⟩⟩
      rw [Int.toNat_natCast, h0 n hn]
      exact hg0
    · rw [hF _ _ (by omega), hG 1180 j (by omega)]
      refine ⟨a, b, ?_⟩
      rcases c with c | ⟨c1, c2, c3⟩
      · exact Or.inl c
      · exact Or.inr ⟨c1, c2, by rw [h0 _ (by omega)]; exact c3⟩
  exact ⟨zqT_c (fun i hi => hF _ _ (by omega)) h0 T, zqA_c h00 (fun i hi _ => ⟨hF _ _ (by omega), hF _ _ (by omega), hF _ _ (by omega)⟩) (fun i hi _ => ⟨hG _ _ (by omega), hG _ _ (by omega), hG _ _ (by omega)⟩) A, zqK_c h00 (fun i hi _ => ⟨hF _ _ (by omega), hF _ _ (by omega)⟩) (fun i hi _ => ⟨hG _ _ (by omega), hG _ _ (by omega), hG _ _ (by omega)⟩) K, zqL_c h0 (fun i hi => ⟨hF _ _ (by omega), hF _ _ (by omega)⟩) (fun i hi => ⟨hG _ _ (by omega), hG _ _ (by omega)⟩) Lr, hgr, zqV_c (fun i hi => hF _ _ (by omega)) (fun i hi => hG _ _ (by omega)) (fun i hi => ⟨hG _ _ (by omega), hG _ _ (by omega)⟩) V, zqD_c (hF _ _ (by omega)) (hG _ _ (by omega)) (fun i hi => ⟨hF _ _ (by omega), hF _ _ (by omega)⟩) (fun i hi => ⟨hG _ _ (by omega), hG _ _ (by omega)⟩) D, zqF_c h00 (fun k hk _ b j h1 h2 h3 => hF _ _ (by omega)) (fun k hk _ => ⟨hG _ _ (by omega), hG _ _ (by omega), fun p _ => hG _ _ (by omega), fun j _ _ => ⟨hG _ _ (by omega), hG _ _ (by omega)⟩⟩) S, hj⟩
/-- a group put into group n -/
theorem zqQ_g2 (h : zqR (n + 1) f g) (hn : n < 60) (hg0 : g 1166 n = 0) {i : Nat} (hi : i < n) (ti : g 1166 i = 0) : zqR (n + 1) (zu2 f 7 i (n : Int)) (zu2 g 1180 i (n : Int)) := by
  obtain ⟨T, A, K, Lr, G, V, D, S, J⟩ := h
  generalize ef : zu2 f 7 i (n : Int) = f'
  generalize eg : zu2 g 1180 i (n : Int) = g'
  have hF : ∀ b j, (b ≠ 7 ∨ j ≠ i) → f' b j = f b j := fun b j hb => by rw [← ef]; exact zu2_sj hb
  have hG : ∀ b j, (b ≠ 1180 ∨ j ≠ i) → g' b j = g b j := fun b j hb => by rw [← eg]; exact zu2_sj hb
  have f8 : f' 7 i = (n : Int) := by rw [← ef, zu2_eq]
  have g8 : g' 1180 i = (n : Int) := by rw [← eg, zu2_eq]
  have h0 : ∀ i, i < 60 → g' 1166 i = g 1166 i := fun i hi => hG _ _ (by omega)
  have h00 : ∀ i, i < 60 → g' 1166 i = 1 → g 1166 i = 1 := fun i hi t => by rw [← h0 i hi]; exact t
  have hj : zqJ f' := by
    obtain ⟨J1, J2, J3, J4⟩ := J
    refine ⟨fun k hk => ?_, fun k hk => ?_, ⟨fun k hk => ?_, fun k hk => ?_⟩, fun k hk => ?_⟩
    · unfold zKy
      rw [hF _ 3 (by omega), hF _ 4 (by omega)]
      exact J1 k hk
    · unfold zld
      rw [hF _ _ (by omega)]; exact J2 k hk
    · rw [hF _ _ (by omega)]; exact J3.1 k hk
    · by_cases e : k = i
      · subst e; rw [f8]; omega
      · rw [hF _ _ (by omega)]; exact J3.2 k hk
    · rw [hF _ _ (by omega)]; exact J4 k hk
  have hgr : zqG (n + 1) f' g' := fun j hj => by
    obtain ⟨a, b, c⟩ := G j hj
    rw [h0 j hj, hF (14 + 14 * j) 8 (by omega)]
    by_cases e : j = i
    · subst e
      rw [f8, g8]
      refine ⟨fun t => absurd t (by omega), fun t => rfl, Or.inr ⟨by omega, by omega, ?_⟩⟩
      rw [Int.toNat_natCast, h0 n hn]
      exact hg0
    · rw [hF _ _ (by omega), hG 1180 j (by omega)]
      refine ⟨a, b, ?_⟩
      rcases c with c | ⟨c1, c2, c3⟩
      · exact Or.inl c
      · exact Or.inr ⟨c1, c2, by rw [h0 _ (by omega)]; exact c3⟩
  exact ⟨zqT_c (fun i hi => hF _ _ (by omega)) h0 T, zqA_c h00 (fun i hi _ => ⟨hF _ _ (by omega), hF _ _ (by omega), hF _ _ (by omega)⟩) (fun i hi _ => ⟨hG _ _ (by omega), hG _ _ (by omega), hG _ _ (by omega)⟩) A, zqK_c h00 (fun i hi _ => ⟨hF _ _ (by omega), hF _ _ (by omega)⟩) (fun i hi _ => ⟨hG _ _ (by omega), hG _ _ (by omega), hG _ _ (by omega)⟩) K, zqL_c h0 (fun i hi => ⟨hF _ _ (by omega), hF _ _ (by omega)⟩) (fun i hi => ⟨hG _ _ (by omega), hG _ _ (by omega)⟩) Lr, hgr, zqV_c (fun i hi => hF _ _ (by omega)) (fun i hi => hG _ _ (by omega)) (fun i hi => ⟨hG _ _ (by omega), hG _ _ (by omega)⟩) V, zqD_c (hF _ _ (by omega)) (hG _ _ (by omega)) (fun i hi => ⟨hF _ _ (by omega), hF _ _ (by omega)⟩) (fun i hi => ⟨hG _ _ (by omega), hG _ _ (by omega)⟩) D, zqF_c h00 (fun k hk _ b j h1 h2 h3 => hF _ _ (by omega)) (fun k hk _ => ⟨hG _ _ (by omega), hG _ _ (by omega), fun p _ => hG _ _ (by omega), fun j _ _ => ⟨hG _ _ (by omega), hG _ _ (by omega)⟩⟩) S, hj⟩
/-- the reference's groups after the first k of the set -/
def zqgk (g : Nat → Nat → Int) (x : Int64) (num : Nat) : Nat → Nat → Nat → Int
  | 0 => g
  | k + 1 => if zbt x k = true ∧ zrot (zqgk g x num k) k ≠ num then zu2 (zqgk g x num k) 1180 (zrot (zqgk g x num k) k) (num : Int) else zqgk g x num k
theorem zqgk_s (g : Nat → Nat → Int) (x : Int64) (num k : Nat) : zqgk g x num (k + 1) = if zbt x k = true ∧ zrot (zqgk g x num k) k ≠ num then zu2 (zqgk g x num k) 1180 (zrot (zqgk g x num k) k) (num : Int) else zqgk g x num k := rfl
theorem zqgk_o {x : Int64} {num b j : Nat} (h : b ≠ 1180) : ∀ k, zqgk g x num k b j = g b j
  | 0 => rfl
  | k + 1 => by
    rw [zqgk_s]
    split
    · rw [zu2_a h]; exact zqgk_o h k
    · exact zqgk_o h k
/-- the two together, member by member -/
theorem zqgat {x : Int64} (h : zqR (n + 1) f g) (hn : n < 60) (hg0 : g 1166 n = 0) (hnn : g 1180 n = -1) (hx : ∀ i, i < 60 → zbt x i = true → g 1166 i = 1) (hlt : ∀ i, i < 60 → (g 1166 i = 1 → i < n) ∧ g 1180 i < (n : Int)) : ∀ k, k ≤ 60 → zqR (n + 1) (zgat f x (n : Int) k) (zqgk g x n k) ∧ (∀ i, i < 60 → (g 1166 i = 1 ∨ i = n) → zrot (zqgk g x n k) i = if zgq g x k (zrot g i) = true then n else zrot g i) ∧ (∀ j, zqgk g x n k 1180 j = if zgq g x k j = true then (n : Int) else g 1180 j) ∧ zgq g x k n = false
  | 0, _ => ⟨h, fun i _ _ => rfl, fun j => rfl, rfl⟩
  | k + 1, hk => by
    obtain ⟨a1, a2, a3, a4⟩ := zqgat h hn hg0 hnn hx hlt k (by omega)
    have rootn : ∀ i, i < 60 → g 1166 i = 1 → zrot g i < n := fun i hi t => by
      obtain ⟨i1, i2⟩ := zqR_ot h hi t
      by_cases c : g 1180 i = -1
      · rw [(i1 c).2]; exact (hlt i hi).1 t
      · have b := zqR_gb h hi
        obtain ⟨q1, q2, q3, q4⟩ := i2 (by omega)
        have lt2 : ∀ m a, a < 60 → a < n → zotr (g 1180) m a < n := by
          intro m
          induction m with
          | zero => exact fun a _ h => h
          | succ m ih =>
            intro a ha han
            rw [zotr_s]
            split
            · exact han
            · have := (hlt a ha).2
              exact ih _ (by omega) (by omega)
        exact lt2 60 i hi ((hlt i hi).1 t)
    rw [zgat_s, zqgk_s]
    by_cases hb : zbt x k = true
    · have tk := hx k (by omega) hb
      have rk := rootn k (by omega) tk
      have ek : ∀ b j, b ≠ 1180 → zqgk g x n k b j = g b j := fun b j hb => zqgk_o hb k
      have tk2 : zqgk g x n k 1166 k = 1 := (ek _ _ (by omega)).trans tk
      obtain ⟨o1, o2⟩ := zqR_ot a1 (show k < 60 by omega) tk2
      have kk := a2 k (by omega) (Or.inl tk)
      have zs : ∀ j, zgq g x (k + 1) j = (zgq g x k j || decide (zrot g k = j)) := fun j => by rw [zgq_s, hb, Bool.true_and]
      have n4 : zgq g x (k + 1) n = false := by rw [zs, a4, decide_eq_false (by omega)]; rfl
      rw [if_pos hb]
      by_cases hq : zgq g x k (zrot g k) = true
      · rw [if_pos hq] at kk
        have zm : zotm (zgat f x (n : Int) k) k = (n : Int) := by
          by_cases c : zqgk g x n k 1180 k = -1
          · have := (o1 c).2
            have := (hlt k (by omega)).1 tk
            omega
          · have b := zqR_gb a1 (show k < 60 by omega)
            rw [(o2 (by omega)).1, kk]
        rw [if_neg (show ¬ zotm (zgat f x (n : Int) k) k = -1 by omega), if_pos zm, if_neg (fun c : zbt x k = true ∧ zrot (zqgk g x n k) k ≠ n => c.2 kk)]
        have same : ∀ j, zgq g x (k + 1) j = zgq g x k j := fun j => by
          rw [zs]
          by_cases e : zrot g k = j
          · rw [← e, hq]; rfl
          · rw [decide_eq_false e, Bool.or_false]
        exact ⟨a1, fun i hi t => by rw [same]; exact a2 i hi t, fun j => by rw [same]; exact a3 j, n4⟩
      · rw [if_neg hq] at kk
        have hkn : zrot (zqgk g x n k) k ≠ n := by omega
        rw [if_pos (show zbt x k = true ∧ zrot (zqgk g x n k) k ≠ n from ⟨hb, hkn⟩), kk]
        have root : zqgk g x n k 1180 (zrot g k) = -1 := by
          have := zqR_rG a1
          have r1 := this.2 k (by omega)
          have r2 := zqR_gb a1 (show zrot g k < 60 by omega)
          have r3 : zotr (zqgk g x n k 1180) 60 k = zrot g k := kk
          rw [r3] at r1
          omega
        have nroot : zqgk g x n k 1180 n = -1 := by rw [a3, a4]; exact (if_neg (by decide)).trans hnn
        have hwup := zqR_wup a1
        have upd : ∀ i, i < 60 → (g 1166 i = 1 ∨ i = n) → zrot (zu2 (zqgk g x n k) 1180 (zrot g k) (n : Int)) i = if zgq g x (k + 1) (zrot g i) = true then n else zrot g i := fun i hi ti => by
          have e := zotr_ch (w := zqgk g x n k 1180) (v := zu2 (zqgk g x n k) 1180 (zrot g k) (n : Int) 1180) hwup root nroot rk hn (fun a _ => by
            by_cases e : a = zrot g k
            · rw [e, zu2_eq, if_pos rfl]
            · rw [zu2_i e, if_neg e]) hi
          have e2 : zrot (zu2 (zqgk g x n k) 1180 (zrot g k) (n : Int)) i = if zrot (zqgk g x n k) i = zrot g k then n else zrot (zqgk g x n k) i := e
          rw [e2, a2 i hi ti, zs]
          by_cases c : zgq g x k (zrot g i) = true
          · rw [if_pos c, c, Bool.true_or, if_pos rfl, if_neg (by omega)]
          · have c2 : zgq g x k (zrot g i) = false := by cases hc : zgq g x k (zrot g i) <;> simp_all
            rw [c2, Bool.false_or, if_neg (show ¬ (false = true) by decide)]
            by_cases c3 : zrot g i = zrot g k
            · rw [if_pos c3, if_pos (decide_eq_true c3.symm)]
            · rw [if_neg c3, if_neg (fun h => c3 (of_decide_eq_true h).symm)]
        have tab : ∀ j, zu2 (zqgk g x n k) 1180 (zrot g k) (n : Int) 1180 j = if zgq g x (k + 1) j = true then (n : Int) else g 1180 j := fun j => by
          rw [zs]
          by_cases e : j = zrot g k
          · rw [e, zu2_eq, decide_eq_true rfl, Bool.or_true, if_pos rfl]
          · rw [zu2_i e, a3, decide_eq_false (fun h => e h.symm), Bool.or_false]
        refine ⟨?_, upd, tab, n4⟩
        have hg0' : zqgk g x n k 1166 n = 0 := (ek _ _ (by omega)).trans hg0
        by_cases c : zqgk g x n k 1180 k = -1
        · obtain ⟨p1, p2⟩ := o1 c
          rw [if_pos p1]
          have : zrot g k = k := by omega
          rw [this]
          exact zqQ_g1 a1 hn hg0' (by omega) tk2
        · have b := zqR_gb a1 (show k < 60 by omega)
          obtain ⟨p1, p2, p3, p4⟩ := o2 (by omega)
          rw [if_neg (show ¬ zotm (zgat f x (n : Int) k) k = -1 by omega), if_neg (show ¬ zotm (zgat f x (n : Int) k) k = (n : Int) by omega), p1, Int.toNat_natCast, kk]
          rw [kk] at p4
          exact zqQ_g2 a1 hn hg0' rk p4
    · rw [if_neg hb, if_neg (fun c => hb c.1)]
      have same : ∀ j, zgq g x (k + 1) j = zgq g x k j := fun j => by
        have : zbt x k = false := by cases hc : zbt x k <;> simp_all
        rw [zgq_s, this, Bool.false_and, Bool.or_false]
      exact ⟨a1, fun i hi t => by rw [same]; exact a2 i hi t, fun j => by rw [same]; exact a3 j, by rw [same]; exact a4⟩
/-- the members counted -/
theorem zqcnt {x : Int64} (h : zqR n f g) (hx : ∀ i, i < 60 → zbt x i = true → g 1166 i = 1) : ∀ k, k ≤ 60 → zcmn f x k = zgc g x k ∧ (∀ G, G < 60 → g 1166 G = 0 → (zcmc f x k G = 1 ↔ zgq g x k G = true)) ∧ ∀ i, k ≤ i → i < 60 → g 1166 i = 1 → g 1180 i = -1 → zgq g x k i = false
  | 0, _ => ⟨rfl, fun G hG _ => ⟨fun e => by rw [show zcmc f x 0 G = 0 from if_pos hG] at e; exact absurd e (by decide), fun e => absurd (show false = true from e) (by decide)⟩, fun _ _ _ _ _ => rfl⟩
  | k + 1, hk => by
    obtain ⟨a1, a2, a3⟩ := zqcnt h hx k (by omega)
    rw [zcmn_s, zgc_s, zcmc_s]
    by_cases hb : zbt x k = true
    · have tk := hx k (by omega) hb
      obtain ⟨o1, o2⟩ := zqR_ot h (show k < 60 by omega) tk
      have zs : ∀ j, zgq g x (k + 1) j = (zgq g x k j || decide (zrot g k = j)) := fun j => by rw [zgq_s, hb, Bool.true_and]
      by_cases c : g 1180 k = -1
      · obtain ⟨p1, p2⟩ := o1 c
        have q3 := a3 k (by omega) (by omega) tk c
        rw [if_pos ⟨hb, Or.inl p1⟩, p2, if_pos ⟨hb, q3⟩, if_neg (fun d => d.2 p1), a1]
        refine ⟨rfl, fun G hG g0 => ?_, fun i hi hi6 ti ci => ?_⟩
        · have : G ≠ k := fun e => by subst e; omega
          rw [zs, p2, decide_eq_false (fun e => this e.symm), Bool.or_false]
          exact a2 G hG g0
        · rw [zs, p2, decide_eq_false (by omega), Bool.or_false]
          exact a3 i (by omega) hi6 ti ci
      · have b := zqR_gb h (show k < 60 by omega)
        obtain ⟨p1, p2, p3, p4⟩ := o2 (by omega)
        have iff := a2 _ p3 p4
        have b01 := zcmc_b f x k (zrot g k) p3
        rw [p1, Int.toNat_natCast]
        refine ⟨?_, fun G hG g0 => ?_, fun i hi hi6 ti ci => ?_⟩
        · by_cases d : zgq g x k (zrot g k) = true
          · have d1 := iff.mpr d
            rw [if_neg (fun d2 => d2.2.elim (fun e => by omega) (fun e => by omega)), if_neg (fun d2 => by rw [d] at d2; exact absurd d2.2 (by decide))]
            exact a1
          · have d1 : zcmc f x k (zrot g k) = 0 := b01.resolve_right (fun e => d (iff.mp e))
            have d2 : zgq g x k (zrot g k) = false := by cases hc : zgq g x k (zrot g k) <;> simp_all
            rw [if_pos ⟨hb, Or.inr d1⟩, if_pos ⟨hb, d2⟩, a1]
        · rw [if_pos ⟨hb, by omega⟩, zup_if, zs]
          by_cases e : G = zrot g k
          · rw [if_pos e, e, decide_eq_true rfl, Bool.or_true]
            exact ⟨fun _ => rfl, fun _ => rfl⟩
          · rw [if_neg e, decide_eq_false (fun e2 => e e2.symm), Bool.or_false]
            exact a2 G hG g0
        · have : zrot g k ≠ i := fun e => by subst e; omega
          rw [zs, decide_eq_false this, Bool.or_false]
          exact a3 i (by omega) hi6 ti ci
    · have zs : ∀ j, zgq g x (k + 1) j = zgq g x k j := fun j => by
        have : zbt x k = false := by cases hc : zbt x k <;> simp_all
        rw [zgq_s, this, Bool.false_and, Bool.or_false]
      rw [if_neg (fun d => hb d.1), if_neg (fun d => hb d.1), if_neg (fun d => hb d.1)]
      exact ⟨a1, fun G hG g0 => by rw [zs]; exact a2 G hG g0, fun i hi hi6 ti ci => by rw [zs]; exact a3 i (by omega) hi6 ti ci⟩
variable {L k : Nat} {M N : zM}
theorem zqS_12 (hM : zLay M.2.2.2) (hN : zLayN N.2.2.2) (hk : k < 60) (h : zqR k M.2.1 N.2.1) (hw : zqJw M N k 12) (h2 : M.2.1 (855 + 4 * k) 2 = -1) (h3 : M.2.1 (855 + 4 * k) 3 = -1) (hl : M.2.2.1 (855 + 4 * k) 10 = N.2.2.1 1162 k) : zqS L k M N := by
  obtain ⟨j0, j1⟩ := hw
  have h1 := zqR_g1 (k := k) h
  have hg : zgua M.2.1 k := ⟨Or.inl h2, Or.inl h3⟩
  generalize ex : N.2.2.1 1162 k = x at *
  by_cases hz : zat (zqg1 N.2.1 k) x 64
  · have hx : ∀ i, i < 60 → zbt x i = true → zqg1 N.2.1 k 1166 i = 1 := fun i hi hb => by
      have := (hz i (by omega) hb).2.2
      rw [Int.toNat_natCast] at this
      exact this
    have hina : zina M.2.1 x := (zqina h1).mpr hz
    obtain ⟨c1, c2, c3⟩ := zqcnt h1 hx 60 (by omega)
    have hgg : zqG k M.2.1 N.2.1 := h.2.2.2.2.1
    have n0 : N.2.1 1166 k = 0 := by
      rcases (h.1.2 k hk).1 with e | e
      · exact e
      · have := (h.1.2 k hk).2.2 e; omega
    have e201 := fun Q8 => c201 (L := L) (M := zwI N (zqg1 N.2.1 k)) (x := x) (num := k) (Q := Q8) hN (zqR_rG h1) hk
    by_cases hc : zgc (zqg1 N.2.1 k) x 60 < 2
    · refine ⟨zua M.2.1 8 (zcmc M.2.1 x 60), zqg1 N.2.1 k, -1, 0, fun Q => c10_12 (v := -1) (M9 := zwI M (zua M.2.1 8 (zcmc M.2.1 x 60))) hM (zqR_01 h) hk hk hg j0 (fun Q9 => ?_), fun Q => c192_12y (v := 0) (M9 := zwI N (zqg1 N.2.1 k)) hN hk j1 (zqR_r01 h) (by rw [ex]; exact hz) (fun Q9 => ?_) (Or.inl rfl), fun c j hc => zua_o (by omega) _ _, fun c j hc => zqg1_o (by omega), fun j _ h2 _ => zu2_i h2 _ _ _ _, Or.inl ⟨rfl, rfl, zqR_keep (fun b j _ h2 _ _ _ => zua_o h2 _ _) (fun j hj => by rw [zua_a]; exact zcmc_b _ _ _ _ hj) (fun _ _ _ _ _ => rfl) rfl h1⟩⟩
      · rw [hl]
        exact c35b hM (zqR_gr h) (zqR_01 h) hina (by omega)
      · rw [ex]
        refine (e201 Q9).trans ?_
        exact propext ⟨fun q => q.1 hc, fun q => ⟨fun _ => q, fun q2 => absurd hc q2⟩⟩
    · have h8 : zqR (k + 1) (zua M.2.1 8 (zcmc M.2.1 x 60)) (zqg1 N.2.1 k) := zqR_n hk (zqR_keep (fun b j _ h2 _ _ _ => zua_o h2 _ _) (fun j hj => by rw [zua_a]; exact zcmc_b _ _ _ _ hj) (fun _ _ _ _ _ => rfl) rfl h1)
      have nn : N.2.1 1180 k = -1 := by
        rcases (hgg k hk).2.2 with e | ⟨e1, e2, _⟩
        · exact e
        · omega
      obtain ⟨g1', _, g3, _⟩ := zqgat (n := k) (x := x) h8 hk ((zqg1_o (by omega)).trans n0) ((zqg1_o (by omega)).trans nn) hx (fun i hi => ⟨fun t => (h.1.2 i hi).2.2 ((zqg1_o (by omega)).symm.trans t), by
        rw [zqg1_o (by omega)]
        rcases (hgg i hi).2.2 with e | ⟨e1, e2, _⟩
        · omega
        · exact e2⟩) 60 (by omega)
      refine ⟨zgat (zua M.2.1 8 (zcmc M.2.1 x 60)) x (k : Int) 60, zrga (zqg1 N.2.1 k) x k, (k : Int), 1, fun Q => c10_12 (v := (k : Int)) (M9 := zwI M (zgat (zua M.2.1 8 (zcmc M.2.1 x 60)) x (k : Int) 60)) hM (zqR_01 h) hk hk hg j0 (fun Q9 => ?_), fun Q => c192_12y (v := 1) (M9 := zwI N (zrga (zqg1 N.2.1 k) x k)) hN hk j1 (zqR_r01 h) (by rw [ex]; exact hz) (fun Q9 => ?_) (Or.inr rfl), fun c j hc => ?_, fun c j hc => ?_, fun j h1 h2 h3 => ?_, Or.inr ⟨rfl, by omega, ?_, ?_⟩⟩
      · rw [hl]
        exact c35 hM (zqR_gr h) (zqR_01 h) hina (by omega) (by omega)
      · rw [ex]
        refine (e201 Q9).trans ?_
        exact propext ⟨fun q => q.2 hc, fun q => ⟨fun q2 => absurd q2 hc, fun _ => q⟩⟩
      · have : ∀ m, m ≤ 60 → zgat (zua M.2.1 8 (zcmc M.2.1 x 60)) x (k : Int) m c j = zua M.2.1 8 (zcmc M.2.1 x 60) c j := by
          intro m
          induction m with
          | zero => exact fun _ => rfl
          | succ m ih =>
            intro hm
            rw [zgat_s]
            split
            · split
              · rw [zu2_sj (by omega)]; exact ih (by omega)
              · split
                · exact ih (by omega)
                · rw [zu2_sj (by omega)]; exact ih (by omega)
            · exact ih (by omega)
        rw [this 60 (by omega)]
        exact zua_o (by omega) _ _
      · unfold zrga zgw
        rw [zua_o (by omega), zu2_sj (by omega)]
        exact zqg1_o (by omega)
      · unfold zrga zgw
        rw [zua_o (by omega), zu2_sj (by omega)]
        exact zu2_i h2 _ _ _ _
      · unfold zrga zgw
        rw [zua_o (by omega), zu2_sj (by omega)]
        exact zu2_eq _ _ _ _
      · refine zqR_keep (fun _ _ _ _ _ _ _ => rfl) (zqR_ch g1') (fun b j b1 b2 b3 => ?_) ?_ g1'
        · by_cases e : b = 1180
          · subst e
            unfold zrga zgw
            rw [zua_a, g3]
            have eq : ∀ m i, zgq (zu2 (zqg1 N.2.1 k) 1179 k 1) x m i = zgq (zqg1 N.2.1 k) x m i := fun m i => zgq_c (fun j => zu2_sj (by omega)) x m i
            rw [eq]
            by_cases hj : j < 60
            · by_cases q : zgq (zqg1 N.2.1 k) x 60 j = true
              · rw [if_pos ⟨hj, q⟩, if_pos q]
              · rw [if_neg (fun q2 => q q2.2), if_neg q, zu2_sj (by omega)]
            · rw [if_neg (fun q2 => hj q2.1), zu2_sj (by omega)]
              have : zgq (zqg1 N.2.1 k) x 60 j = false := by
                have all : ∀ m, m ≤ 60 → zgq (zqg1 N.2.1 k) x m j = false := by
                  intro m
                  induction m with
                  | zero => exact fun _ => rfl
                  | succ m ih =>
                    intro hm
                    have rb := zrot_b (zqR_rG h1) (show m < 60 by omega)
                    rw [zgq_s, ih (by omega), decide_eq_false (by omega), Bool.and_false]
                    rfl
                exact all 60 (by omega)
              rw [this]
              exact (if_neg (by decide)).symm
          · unfold zrga zgw
            rw [zua_o e, zu2_sj (by omega), zqgk_o e]
        · unfold zrga zgw
          rw [zua_o (by omega), zu2_sj (by omega), zqgk_o (by omega)]
  · refine ⟨M.2.1, zqg1 N.2.1 k, -1, 0, fun Q => c10_12 (v := -1) (M9 := M) hM (zqR_01 h) hk hk hg j0 (fun Q9 => ?_), fun Q => c192_12n (v := 0) (M9 := N) hN hk j1 (zqR_r01 h) (by rw [ex]; exact hz), fun _ _ _ => rfl, fun c j hc => zqg1_o (by omega), fun j _ h2 _ => zu2_i h2 _ _ _ _, Or.inl ⟨rfl, rfl, h1⟩⟩
    rw [hl]
    exact c35a hM (zqR_01 h) (fun h9 => hz ((zqina h1).mp h9))
end ZGATHQ
end SG_C8_gath
section SG_C9_scat
/-! scattered and guides, in both programs -/
section ZSCATQ
variable {n : Nat} {f g f' g' : Nat → Nat → Int} {s t : Nat}
theorem zsc_p {G : Int} : ∀ k : Nat, (∀ b j, ¬ (b = 7 ∧ j < k) → ¬ (j = 8 ∧ 14 ≤ b ∧ (b - 14) % 14 = 0 ∧ (b - 14) / 14 < k) → zsc f G k b j = f b j) ∧ (∀ i, i < k → zsc f G k 7 i = if f 7 i = G then -1 else f 7 i) ∧ (∀ i, i < k → zsc f G k (14 + 14 * i) 8 = if f (14 + 14 * i) 0 ≠ 0 ∧ f (14 + 14 * i) 8 = G then -1 else f (14 + 14 * i) 8)
  | 0 => ⟨fun _ _ _ _ => rfl, fun i h => absurd h (Nat.not_lt_zero i), fun i h => absurd h (Nat.not_lt_zero i)⟩
  | k + 1 => by
    obtain ⟨h1, h2, h3⟩ := zsc_p (G := G) k
    have e0 : zsc f G k (14 + 14 * k) 0 = f (14 + 14 * k) 0 := h1 _ _ (by omega) (by omega)
    have e8 : zsc f G k (14 + 14 * k) 8 = f (14 + 14 * k) 8 := h1 _ _ (by omega) (by omega)
    have e7 : zsc f G k 7 k = f 7 k := h1 _ _ (by omega) (by omega)
    have es : ∀ b j, zsc f G (k + 1) b j = if b = 7 ∧ j = k ∧ f 7 k = G then -1 else if b = 14 + 14 * k ∧ j = 8 ∧ f (14 + 14 * k) 0 ≠ 0 ∧ f (14 + 14 * k) 8 = G then -1 else zsc f G k b j := fun b j => by
      show zsc2 (zsc1 (zsc f G k) G k) G k b j = _
      unfold zsc2 zsc1
      rw [e0, e8]
      by_cases c : f (14 + 14 * k) 0 ≠ 0 ∧ f (14 + 14 * k) 8 = G
      · rw [if_pos c, zu2_sj (by omega), e7]
        by_cases d : f 7 k = G
        · rw [if_pos d]
          by_cases e : b = 7 ∧ j = k
          · rw [if_pos ⟨e.1, e.2, d⟩, e.1, e.2, zu2_eq]
          · rw [zu2_sj (by omega), if_neg (by omega)]
            by_cases e2 : b = 14 + 14 * k ∧ j = 8
            · rw [if_pos ⟨e2.1, e2.2, c⟩, e2.1, e2.2, zu2_eq]
            · rw [zu2_sj (by omega), if_neg (by omega)]
        · rw [if_neg d, if_neg (by omega)]
          by_cases e2 : b = 14 + 14 * k ∧ j = 8
          · rw [if_pos ⟨e2.1, e2.2, c⟩, e2.1, e2.2, zu2_eq]
          · rw [zu2_sj (by omega), if_neg (by omega)]
      · rw [if_neg c, e7]
        rw [if_neg (c := b = 14 + 14 * k ∧ j = 8 ∧ _) (fun q => c q.2.2)]
        by_cases d : f 7 k = G
        · rw [if_pos d]
          by_cases e : b = 7 ∧ j = k
          · rw [if_pos ⟨e.1, e.2, d⟩, e.1, e.2, zu2_eq]
          · rw [zu2_sj (by omega), if_neg (by omega)]
        · rw [if_neg d, if_neg (by omega)]
    refine ⟨fun b j a1 a2 => ?_, fun i hi => ?_, fun i hi => ?_⟩
    · rw [es, if_neg (by omega), if_neg (by omega)]
      exact h1 b j (by omega) (by omega)
    · rw [es]
      by_cases e : i = k
      · subst e
        by_cases d : f 7 i = G
        · rw [if_pos ⟨rfl, rfl, d⟩, if_pos d]
        · rw [if_neg (fun q => d q.2.2), if_neg (by omega), if_neg d, e7]
      · rw [if_neg (fun q => e q.2.1), if_neg (by omega)]
        exact h2 i (by omega)
    · rw [es, if_neg (by omega)]
      by_cases e : i = k
      · subst e
        by_cases d : f (14 + 14 * i) 0 ≠ 0 ∧ f (14 + 14 * i) 8 = G
        · rw [if_pos ⟨rfl, rfl, d⟩, if_pos d]
        · rw [if_neg (fun q => d q.2.2), if_neg d, e8]
      · rw [if_neg (by omega)]
        exact h3 i (by omega)
theorem zscn_p {G : Int} (hG : ∀ i, i < 60 → (f (14 + 14 * i) 0 = 1 → f (14 + 14 * i) 8 = g 1180 i ∧ f 7 i = -1) ∧ (f (14 + 14 * i) 0 ≠ 1 → f (14 + 14 * i) 0 = 0 ∧ f 7 i = g 1180 i)) (h0 : 0 ≤ G) : ∀ k : Nat, k ≤ 60 → zscn f G k = zcnt (zrscb g G) k
  | 0, _ => rfl
  | k + 1, hk => by
    have ih := zscn_p hG h0 k (by omega)
    obtain ⟨h1, h2, h3⟩ := zsc_p (f := f) (G := G) k
    have e0 : zsc f G k (14 + 14 * k) 0 = f (14 + 14 * k) 0 := h1 _ _ (by omega) (by omega)
    have e8 : zsc f G k (14 + 14 * k) 8 = f (14 + 14 * k) 8 := h1 _ _ (by omega) (by omega)
    have e7 : zsc1 (zsc f G k) G k 7 k = f 7 k := by
      unfold zsc1
      split
      · rw [zu2_sj (by omega)]; exact h1 _ _ (by omega) (by omega)
      · exact h1 _ _ (by omega) (by omega)
    obtain ⟨a, b⟩ := hG k (by omega)
    have iff : zrscb g G k = true ↔ g 1180 k = G := decide_eq_true_iff
    rw [zcnt_s]
    unfold zscn
    rw [e0, e8, e7, ih]
    by_cases c : f (14 + 14 * k) 0 = 1
    · obtain ⟨a1, a2⟩ := a c
      rw [a1, a2, if_neg (show ¬ (-1 : Int) = G by omega)]
      by_cases d : g 1180 k = G
      · rw [if_pos ⟨by omega, d⟩, if_pos (iff.mpr d)]
      · rw [if_neg (fun q => d q.2), if_neg (fun q => d (iff.mp q))]
        rfl
    · obtain ⟨b1, b2⟩ := b c
      rw [if_neg (fun q => q.1 b1), b2]
      by_cases d : g 1180 k = G
      · rw [if_pos d, if_pos (iff.mpr d)]
      · rw [if_neg d, if_neg (fun q => d (iff.mp q))]
        rfl
theorem zqQ_scat (h : zqR n f g) {W : Nat} {a : Int} : zqR n (zsc f (W : Int) 60) (zu2 (zu2 (zrsc g (W : Int) 60) 1179 W 0) 1153 36 a) := by
  obtain ⟨p1, p2, p3⟩ := zsc_p (f := f) (G := (W : Int)) 60
  have ht := fun (i : Nat) (hi : i < 60) => zqR_t h hi
  have hGr := h.2.2.2.2.1
  have r01 := zqR_r01 h
  obtain ⟨T, A, K, Lr, G, V, D, S, J⟩ := h
  generalize ef : zsc f (W : Int) 60 = f' at *
  generalize eg : zu2 (zu2 (zrsc g (W : Int) 60) 1179 W 0) 1153 36 a = g'
  have hF : ∀ b i, (¬ (b = 7 ∧ i < 60) ∧ ¬ (i = 8 ∧ 14 ≤ b ∧ (b - 14) % 14 = 0 ∧ (b - 14) / 14 < 60)) → f' b i = f b i := fun b i hb => p1 b i hb.1 hb.2
  have hG : ∀ b i, ((b ≠ 1153 ∨ i ≠ 36) ∧ b ≠ 1180 ∧ b ≠ 1179) → g' b i = g b i := fun b i hb => by
    rw [← eg, zu2_sj (by omega), zu2_sj (by omega)]
    unfold zrsc
    rw [if_neg (by omega)]
  have g8 : ∀ i, i < 60 → g' 1180 i = if g 1180 i = (W : Int) then -1 else g 1180 i := fun i hi => by
    rw [← eg, zu2_sj (by omega), zu2_sj (by omega)]
    unfold zrsc
    by_cases c : g 1180 i = (W : Int)
    · rw [if_pos ⟨rfl, hi, c⟩, if_pos c]
    · rw [if_neg (fun q => c q.2.2), if_neg c]
  have h0 : ∀ i, i < 60 → g' 1166 i = g 1166 i := fun i hi => hG _ _ (by omega)
  have h00 : ∀ i, i < 60 → g' 1166 i = 1 → g 1166 i = 1 := fun i hi t => by rw [← h0 i hi]; exact t
  have hj : zqJ f' := by
    obtain ⟨J1, J2, J3, J4⟩ := J
    refine ⟨fun k hk => ?_, fun k hk => ?_, ⟨fun k hk => ?_, fun k hk => ?_⟩, fun k hk => ?_⟩
    · unfold zKy
      rw [hF _ 3 (by omega), hF _ 4 (by omega)]
      exact J1 k hk
    · unfold zld
      rw [hF _ _ (by omega)]; exact J2 k hk
    · have := J3.1 k hk
      rw [p3 k hk]
      split <;> omega
    · have := J3.2 k hk
      rw [p2 k hk]
      split <;> omega
    · rw [hF _ _ (by omega)]; exact J4 k hk
  have hgr : zqG n f' g' := fun i hi => by
    obtain ⟨a, b, c⟩ := hGr i hi
    have t0 := ht i hi
    rw [h0 i hi, g8 i hi, p2 i hi, p3 i hi]
    refine ⟨fun t => ?_, fun t => ?_, ?_⟩
    · obtain ⟨a1, a2⟩ := a t
      rw [a1, a2, if_neg (show ¬ (-1 : Int) = (W : Int) by omega)]
      by_cases d : g 1180 i = (W : Int)
      · rw [if_pos ⟨by omega, d⟩, if_pos d]
        exact ⟨rfl, rfl⟩
      · rw [if_neg (fun q => d q.2), if_neg d]
        exact ⟨rfl, rfl⟩
    · rw [b t]
    · by_cases d : g 1180 i = (W : Int)
      · rw [if_pos d]; exact Or.inl rfl
      · rw [if_neg d]
        rcases c with c | ⟨c1, c2, c3⟩
        · exact Or.inl c
        · have n6 := T.1
          exact Or.inr ⟨c1, c2, by rw [h0 _ (by omega)]; exact c3⟩
  exact ⟨zqT_c (fun i hi => hF _ _ (by omega)) h0 T, zqA_c h00 (fun i hi _ => ⟨hF _ _ (by omega), hF _ _ (by omega), hF _ _ (by omega)⟩) (fun i hi _ => ⟨hG _ _ (by omega), hG _ _ (by omega), hG _ _ (by omega)⟩) A, zqK_c h00 (fun i hi _ => ⟨hF _ _ (by omega), hF _ _ (by omega)⟩) (fun i hi _ => ⟨hG _ _ (by omega), hG _ _ (by omega), hG _ _ (by omega)⟩) K, zqL_c h0 (fun i hi => ⟨hF _ _ (by omega), hF _ _ (by omega)⟩) (fun i hi => ⟨hG _ _ (by omega), hG _ _ (by omega)⟩) Lr, hgr, zqV_c (fun i hi => hF _ _ (by omega)) (fun i hi => hG _ _ (by omega)) (fun i hi => ⟨hG _ _ (by omega), hG _ _ (by omega)⟩) V, zqD_c (hF _ _ (by omega)) (hG _ _ (by omega)) (fun i hi => ⟨hF _ _ (by omega), hF _ _ (by omega)⟩) (fun i hi => ⟨hG _ _ (by omega), hG _ _ (by omega)⟩) D, zqF_c h00 (fun k hk _ b j h1 h2 h3 => hF _ _ (by omega)) (fun k hk _ => ⟨hG _ _ (by omega), hG _ _ (by omega), fun p _ => hG _ _ (by omega), fun j _ _ => ⟨hG _ _ (by omega), hG _ _ (by omega)⟩⟩) S, hj⟩
theorem zrhg_iff {u a : Int} : ∀ k, zrhg g u a k = true ↔ ∃ i, i < k ∧ g 1183 i = u ∧ g 1182 i = a
  | 0 => ⟨fun h => absurd (show false = true from h) (by decide), fun ⟨i, h, _⟩ => absurd h (Nat.not_lt_zero i)⟩
  | k + 1 => by
    rw [zrhg_s, Bool.or_eq_true, zrhg_iff k, decide_eq_true_iff]
    constructor
    · rintro (⟨i, h1, h2⟩ | h)
      · exact ⟨i, by omega, h2⟩
      · exact ⟨k, by omega, h⟩
    · rintro ⟨i, h1, h2⟩
      by_cases e : i = k
      · subst e; exact Or.inr h2
      · exact Or.inl ⟨i, by omega, h2⟩
theorem zqnew (h : zqR n f g) {u a : Int} {m : Nat} (hm : g 1153 33 = (m : Int)) : zgnew f u a ↔ (m < 8 ∧ zrhg g u a m = false) := by
  obtain ⟨d1, d2, d3⟩ := h.2.2.2.2.2.2.1
  unfold zgnew
  rw [d1, hm]
  have e : zrhg g u a m = false ↔ ¬ zrhg g u a m = true := by cases zrhg g u a m <;> decide
  rw [e, zrhg_iff]
  constructor
  · rintro ⟨a1, a2⟩
    refine ⟨by omega, fun ⟨i, h1, h2, h3⟩ => a2 i (by omega) ?_⟩
    obtain ⟨c1, c2, _⟩ := d3 i (by omega)
    exact ⟨by omega, by omega⟩
  · rintro ⟨a1, a2⟩
    refine ⟨by omega, fun i hi q => a2 ⟨i, by omega, ?_⟩⟩
    obtain ⟨c1, c2, _⟩ := d3 i (by omega)
    exact ⟨by omega, by omega⟩
theorem zqQ_guide (h : zqR n f g) {u a : Int} (hu : u = 0 ∨ u = 1) (ha : 0 ≤ a ∧ a ≤ 60) (h8 : g 1153 33 < 8) : zqR n (zgput f u a) (zrgp g u a) := by
  obtain ⟨T, A, K, Lr, G, V, D, S, J⟩ := h
  obtain ⟨d1, d2, d3⟩ := D
  generalize ef : zgput f u a = f'
  generalize eg : zrgp g u a = g'
  have hF : ∀ b i, (¬ (b = 12 ∧ i = (f 11 0).toNat) ∧ ¬ (b = 13 ∧ i = (f 11 0).toNat) ∧ ¬ (b = 11 ∧ i = 0)) → f' b i = f b i := fun b i hb => by
    rw [← ef]
    unfold zgput
    rw [zu2_sj (by omega), zu2_sj (by omega), zu2_sj (by omega)]
  have hG : ∀ b i, (¬ (b = 1183 ∧ i = (g 1153 33).toNat) ∧ ¬ (b = 1182 ∧ i = (g 1153 33).toNat) ∧ ¬ (b = 1153 ∧ i = 33) ∧ ¬ (b = 1153 ∧ i = 36)) → g' b i = g b i := fun b i hb => by
    rw [← eg]
    unfold zrgp
    rw [zu2_sj (by omega), zu2_sj (by omega), zu2_sj (by omega), zu2_sj (by omega)]
  have h0 : ∀ i, i < 60 → g' 1166 i = g 1166 i := fun i hi => hG _ _ (by omega)
  have h00 : ∀ i, i < 60 → g' 1166 i = 1 → g 1166 i = 1 := fun i hi t => by rw [← h0 i hi]; exact t
  have f1 : f' 11 0 = f 11 0 + 1 := by
    rw [← ef]
    unfold zgput
    rw [zu2_eq]
  have g1 : g' 1153 33 = g 1153 33 + 1 := by
    rw [← eg]
    unfold zrgp
    rw [zu2_i (by omega), zu2_eq]
  have f2 : f' 12 (f 11 0).toNat = u ∧ f' 13 (f 11 0).toNat = a := by
    rw [← ef]
    unfold zgput
    rw [zu2_a (by omega), zu2_a (by omega), zu2_eq, zu2_a (by omega), zu2_eq]
    exact ⟨rfl, rfl⟩
  have g2 : g' 1183 (g 1153 33).toNat = u ∧ g' 1182 (g 1153 33).toNat = a := by
    rw [← eg]
    unfold zrgp
    rw [zu2_a (by omega), zu2_a (by omega), zu2_a (by omega), zu2_eq, zu2_a (by omega), zu2_a (by omega), zu2_eq]
    exact ⟨rfl, rfl⟩
  have hd : zqD f' g' := by
    unfold zqD
    rw [f1, g1]
    refine ⟨by omega, by omega, fun k hk => ?_⟩
    by_cases e : k = (g 1153 33).toNat
    · have e2 : (f 11 0).toNat = k := by omega
      rw [e2] at f2
      rw [← e] at g2
      rw [f2.1, f2.2, g2.1, g2.2]
      exact ⟨rfl, rfl, hu, ha⟩
    · rw [hF _ _ (by omega), hF _ _ (by omega), hG _ _ (by omega), hG _ _ (by omega)]
      exact d3 k (by omega)
  exact ⟨zqT_c (fun i hi => hF _ _ (by omega)) h0 T, zqA_c h00 (fun i hi _ => ⟨hF _ _ (by omega), hF _ _ (by omega), hF _ _ (by omega)⟩) (fun i hi _ => ⟨hG _ _ (by omega), hG _ _ (by omega), hG _ _ (by omega)⟩) A, zqK_c h00 (fun i hi _ => ⟨hF _ _ (by omega), hF _ _ (by omega)⟩) (fun i hi _ => ⟨hG _ _ (by omega), hG _ _ (by omega), hG _ _ (by omega)⟩) K, zqL_c h0 (fun i hi => ⟨hF _ _ (by omega), hF _ _ (by omega)⟩) (fun i hi => ⟨hG _ _ (by omega), hG _ _ (by omega)⟩) Lr, zqG_c (Nat.le_refl _) T.1 h0 (fun i hi => ⟨hF _ _ (by omega), hF _ _ (by omega)⟩) (fun i hi => hG _ _ (by omega)) G, zqV_c (fun i hi => hF _ _ (by omega)) (fun i hi => hG _ _ (by omega)) (fun i hi => ⟨hG _ _ (by omega), hG _ _ (by omega)⟩) V, hd, zqF_c h00 (fun k hk _ b j h1 h2 h3 => hF _ _ (by omega)) (fun k hk _ => ⟨hG _ _ (by omega), hG _ _ (by omega), fun p _ => hG _ _ (by omega), fun j _ _ => ⟨hG _ _ (by omega), hG _ _ (by omega)⟩⟩) S, zqJ_c (fun i hi => ⟨hF _ _ (by omega), hF _ _ (by omega), hF _ _ (by omega), hF _ _ (by omega), hF _ _ (by omega)⟩) (fun i hi => by rw [hF _ _ (by omega)]; exact J.2.2.2 i hi) J⟩
variable {L k : Nat} {M N : zM}
theorem zqS_13 (hM : zLay M.2.2.2) (hN : zLayN N.2.2.2) (hk : k < 60) (h : zqR k M.2.1 N.2.1) (hj : zqJ1 M N k 13) : zqS L k M N := by
  obtain ⟨⟨j0, j1⟩, j2, j3⟩ := hj
  rcases zqS_sh (L := L) hM hN hk h j2 (Or.inl j3) (by omega) with no | ⟨s, hs, e2, e4, ht, hg, e⟩
  · exact no
  · have h1 := zqR_g1 (k := k) h
    have tg : zqg1 N.2.1 k 1166 s = 1 := (zqg1_o (by omega)).trans ht
    obtain ⟨o1, o2⟩ := zqR_ot h1 hs tg
    have gb := zqR_gb h1 hs
    have c229e := fun Q8 => c229 (L := L) (M := zwI N (zqg1 N.2.1 k)) (s := s) (Q := Q8) hN hs (zqR_rG h1)
    by_cases c : zqg1 N.2.1 k 1180 s = -1
    · obtain ⟨p1, p2⟩ := o1 c
      refine ⟨M.2.1, zqg1 N.2.1 k, -1, 0, fun Q => c10_13 (v := -1) (M9 := M) hM (zqR_01 h) hk hk hg j0 hs e2 (fun Q9 => ?_), e 0 _ (Or.inl rfl) (fun Q9 => c208_13 (x := 0) (M9 := zwI N (zqg1 N.2.1 k)) (M10 := N) (M := zwI N (zqg1 N.2.1 k)) hN hk hs ((zqg1_o (k := k) (by omega)).trans j1) (fun Q8 => ?_) (Or.inl rfl)), fun _ _ _ => rfl, fun c j hc => zqg1_o (by omega), fun j _ h2 _ => zu2_i h2 _ _ _ _, Or.inl ⟨rfl, rfl, h1⟩⟩
      · rw [c37 hM (zqR_gr h) hs]
        exact propext ⟨fun q => q.1 p1, fun q => ⟨fun _ => q, fun q2 => absurd p1 q2⟩⟩
      · refine (c229e Q8).trans ?_
        exact propext ⟨fun q => q.1 p2, fun q => ⟨fun _ => q, fun q2 => absurd p2 q2⟩⟩
    · obtain ⟨p1, p2, p3, p4⟩ := o2 (by omega)
      have n1 : ¬ zotm M.2.1 s = -1 := by omega
      have n2 : ¬ zrot (zqg1 N.2.1 k) s = s := by omega
      refine ⟨zsc M.2.1 (zotm M.2.1 s) 60, zu2 (zu2 (zrsc (zqg1 N.2.1 k) (zrot (zqg1 N.2.1 k) s : Int) 60) 1179 (zrot (zqg1 N.2.1 k) s) 0) 1153 36 (zcnt (zrscb (zqg1 N.2.1 k) (zrot (zqg1 N.2.1 k) s : Int)) 60 : Int), (zscn M.2.1 (zotm M.2.1 s) 60 : Int), 1, fun Q => c10_13 (v := (zscn M.2.1 (zotm M.2.1 s) 60 : Int)) (M9 := zwI M (zsc M.2.1 (zotm M.2.1 s) 60)) hM (zqR_01 h) hk hk hg j0 hs e2 (fun Q9 => ?_), e 1 _ (Or.inr rfl) (fun Q9 => c208_13 (x := 0) (M10 := N) (M := zwI N (zqg1 N.2.1 k)) hN hk hs ((zqg1_o (k := k) (by omega)).trans j1) (fun Q8 => ?_) (Or.inr rfl)), fun c j hc => ?_, fun c j hc => ?_, fun j h1 h2 h3 => ?_, Or.inr ⟨rfl, by omega, ?_, zqR_n hk ?_⟩⟩
      · rw [c37 hM (zqR_gr h) hs]
        exact propext ⟨fun q => q.2 n1, fun q => ⟨fun q2 => absurd q2 n1, fun _ => q⟩⟩
      · refine (c229e Q8).trans ?_
        exact propext ⟨fun q => q.2 n2, fun q => ⟨fun q2 => absurd q2 n2, fun _ => q⟩⟩
      · exact (zsc_p (f := M.2.1) (G := zotm M.2.1 s) 60).1 _ _ (by omega) (by omega)
      · rw [zu2_sj (by omega), zu2_sj (by omega)]
        unfold zrsc
        rw [if_neg (by omega)]
        exact zqg1_o (by omega)
      · rw [zu2_sj (by omega), zu2_sj (by omega)]
        unfold zrsc
        rw [if_neg (by omega)]
        exact zu2_i h2 _ _ _ _
      · rw [zu2_eq, p1]
        refine congrArg (fun u : Nat => (u : Int)) ?_
        refine (zscn_p (f := M.2.1) (g := zqg1 N.2.1 k) (G := (zrot (zqg1 N.2.1 k) s : Int)) (fun i hi => ?_) (by omega) 60 (by omega)).symm
        have t0 := zqR_t h1 hi
        obtain ⟨a, b, _⟩ := h1.2.2.2.2.1 i hi
        have r := zqR_r01 h1 i hi
        rw [t0]
        exact ⟨a, fun q => ⟨by omega, b (by omega)⟩⟩
      · rw [p1]
        exact zqQ_scat h1
theorem zqS_15 (hM : zLay M.2.2.2) (hN : zLayN N.2.2.2) (hk : k < 60) (h : zqR k M.2.1 N.2.1) (hw : zqJw M N k 15) (h2 : M.2.1 (855 + 4 * k) 2 = -1) (h3 : M.2.1 (855 + 4 * k) 3 = -1) (h9 : M.2.1 (855 + 4 * k) 9 = N.2.1 1161 (4 * k) ∧ (N.2.1 1161 (4 * k) = 0 ∨ N.2.1 1161 (4 * k) = 1)) (h8 : M.2.1 (855 + 4 * k) 8 = N.2.1 1161 (4 * k + 1) ∧ 0 ≤ N.2.1 1161 (4 * k + 1) ∧ N.2.1 1161 (4 * k + 1) ≤ 60) : zqS L k M N := by
  obtain ⟨j0, j1⟩ := hw
  have h1 := zqR_g1 (k := k) h
  have hg : zgua M.2.1 k := ⟨Or.inl h2, Or.inl h3⟩
  obtain ⟨d1, d2, d3⟩ := h1.2.2.2.2.2.2.1
  have hm : zqg1 N.2.1 k 1153 33 = (((zqg1 N.2.1 k 1153 33).toNat : Nat) : Int) := by omega
  have eu : (if N.2.1 1161 (4 * k) = 1 then (1 : Int) else 0) = N.2.1 1161 (4 * k) := by
    rcases h9.2 with e | e <;> rw [e] <;> rfl
  have e204 := fun Q8 => c204 (L := L) (M := zwI N (zqg1 N.2.1 k)) (u := N.2.1 1161 (4 * k)) (a := N.2.1 1161 (4 * k + 1)) (n := (zqg1 N.2.1 k 1153 33).toNat) (Q := Q8) hN h9.2 hm (by omega)
  have iff := zqnew h1 (u := N.2.1 1161 (4 * k)) (a := N.2.1 1161 (4 * k + 1)) hm
  by_cases c : zgnew M.2.1 (N.2.1 1161 (4 * k)) (N.2.1 1161 (4 * k + 1))
  · have c2 := iff.mp c
    refine ⟨zgput M.2.1 (N.2.1 1161 (4 * k)) (N.2.1 1161 (4 * k + 1)), zrgp (zqg1 N.2.1 k) (N.2.1 1161 (4 * k)) (N.2.1 1161 (4 * k + 1)), M.2.1 11 0 + 1, 1, fun Q => c10_15 (v := M.2.1 11 0 + 1) (M9 := zwI M (zgput M.2.1 (N.2.1 1161 (4 * k)) (N.2.1 1161 (4 * k + 1)))) hM (zqR_01 h) hk hk hg j0 (fun Q9 => ?_), fun Q => c192_15 (v := 1) (M9 := zwI N (zrgp (zqg1 N.2.1 k) (N.2.1 1161 (4 * k)) (N.2.1 1161 (4 * k + 1)))) hN hk j1 (fun Q9 => ?_) (Or.inr rfl), fun c j hc => ?_, fun c j hc => ?_, fun j h1 h2 h3 => ?_, Or.inr ⟨rfl, by omega, ?_, zqR_n hk (zqQ_guide h1 h9.2 h8.2 (by omega))⟩⟩
    · rw [h9.1, h8.1, c58 hM (zqR_gd h) h9.2]
      exact propext ⟨fun q => q.1 c, fun q => ⟨fun _ => q, fun q2 => absurd c q2⟩⟩
    · rw [eu]
      refine (e204 Q9).trans ?_
      exact propext ⟨fun q => q.1 c2, fun q => ⟨fun _ => q, fun q2 => absurd c2 q2⟩⟩
    · unfold zgput
      rw [zu2_sj (by omega), zu2_sj (by omega), zu2_sj (by omega)]
    · unfold zrgp
      rw [zu2_sj (by omega), zu2_sj (by omega), zu2_sj (by omega), zu2_sj (by omega)]
      exact zqg1_o (by omega)
    · unfold zrgp
      rw [zu2_sj (by omega), zu2_sj (by omega), zu2_sj (by omega), zu2_sj (by omega)]
      exact zu2_i h2 _ _ _ _
    · unfold zrgp
      rw [zu2_eq, d1]
  · have c2 := fun q => c (iff.mpr q)
    refine ⟨M.2.1, zqg1 N.2.1 k, -1, 0, fun Q => c10_15 (v := -1) (M9 := M) hM (zqR_01 h) hk hk hg j0 (fun Q9 => ?_), fun Q => c192_15 (v := 0) (M9 := zwI N (zqg1 N.2.1 k)) hN hk j1 (fun Q9 => ?_) (Or.inl rfl), fun _ _ _ => rfl, fun c j hc => zqg1_o (by omega), fun j _ h2 _ => zu2_i h2 _ _ _ _, Or.inl ⟨rfl, rfl, h1⟩⟩
    · rw [h9.1, h8.1, c58 hM (zqR_gd h) h9.2]
      exact propext ⟨fun q => q.2 c, fun q => ⟨fun q2 => absurd q2 c, fun _ => q⟩⟩
    · rw [eu]
      refine (e204 Q9).trans ?_
      exact propext ⟨fun q => q.2 c2, fun q => ⟨fun q2 => absurd q2 c2, fun _ => q⟩⟩
end ZSCATQ
end SG_C9_scat
section SG_CA_geo
/-! shapes given other corners, in both programs -/
section ZGEOQ
theorem zf2_vn {n : Nat → Int} {X : Nat → Nat → Int} {b l : Int} {c : Nat} (h : ∀ p, p < c → ∀ k : Nat, (k : Int) < n p → l ≤ X p k) (ha : ∃ p k : Nat, p < c ∧ (k : Int) < n p ∧ X p k = l) (hb : l ≤ b) : zf2 zmn n X b c = l := by
  obtain ⟨a1, a2, a3⟩ := zf2_mn (n := n) (X := X) (b := b) c
  obtain ⟨p, k, hp, hk, e⟩ := ha
  have := a2 p hp k hk
  rcases a3 with a3 | ⟨p2, k2, hp2, hk2, e2⟩
  · omega
  · have := h p2 hp2 k2 hk2
    omega
theorem zf2_vx {n : Nat → Int} {X : Nat → Nat → Int} {b u : Int} {c : Nat} (h : ∀ p, p < c → ∀ k : Nat, (k : Int) < n p → X p k ≤ u) (ha : ∃ p k : Nat, p < c ∧ (k : Int) < n p ∧ X p k = u) (hb : b ≤ u) : zf2 zmx n X b c = u := by
  obtain ⟨a1, a2, a3⟩ := zf2_mx (n := n) (X := X) (b := b) c
  obtain ⟨p, k, hp, hk, e⟩ := ha
  have := a2 p hp k hk
  rcases a3 with a3 | ⟨p2, k2, hp2, hk2, e2⟩
  · omega
  · have := h p2 hp2 k2 hk2
    omega
/-- the corners alike -/
def zqC (f g : Nat → Nat → Int) (i : Nat) : Prop := f (14 + 14 * i) 9 = g 1175 i ∧ f (14 + 14 * i) 10 = g 1174 i ∧ ∀ p : Nat, (p : Int) < g 1174 i → zN f (14 + 14 * i) p = zrN g i p ∧ ∀ k : Nat, (k : Int) < zrN g i p → zX f (14 + 14 * i) p k = zrX g i p k ∧ zY f (14 + 14 * i) p k = zrY g i p k
/-- a shape with its frame -/
def zqP (g : Nat → Nat → Int) (i : Nat) (l d r u : Int) : Prop := (1 ≤ g 1174 i ∧ g 1174 i ≤ 4) ∧ (∀ p : Nat, (p : Int) < g 1174 i → (3 ≤ zrN g i p ∧ zrN g i p ≤ 8) ∧ zpr (zrN g i p) (zrX g i p) (zrY g i p) 0 ∧ ∀ k : Nat, (k : Int) < zrN g i p → (l ≤ zrX g i p k ∧ zrX g i p k ≤ r) ∧ d ≤ zrY g i p k ∧ zrY g i p k ≤ u) ∧ ((∃ p k : Nat, p < (g 1174 i).toNat ∧ (k : Int) < zrN g i p ∧ zrX g i p k = l) ∧ (∃ p k : Nat, p < (g 1174 i).toNat ∧ (k : Int) < zrN g i p ∧ zrX g i p k = r)) ∧ ((∃ p k : Nat, p < (g 1174 i).toNat ∧ (k : Int) < zrN g i p ∧ zrY g i p k = d) ∧ (∃ p k : Nat, p < (g 1174 i).toNat ∧ (k : Int) < zrN g i p ∧ zrY g i p k = u)) ∧ (0 ≤ l ∧ l ≤ 100) ∧ 0 ≤ d ∧ d ≤ 100
variable {n : Nat} {f g f' g' : Nat → Nat → Int} {i s : Nat} {l d r u l' d' r' u' : Int} {gx gy : Int → Int → Int}
theorem zqP_lr (h : zqP g i l d r u) : l ≤ r ∧ d ≤ u := by
  obtain ⟨h1, h2, ⟨⟨p, k, hp, hk, e⟩, _⟩, ⟨⟨p2, k2, hp2, hk2, e2⟩, _⟩, _⟩ := h
  have a := ((h2 p (by omega)).2.2 k hk).1
  have b := ((h2 p2 (by omega)).2.2 k2 hk2).2
  omega
theorem zqP_d (h : zqP g i l d r u) : zrsd g i 0 = l ∧ zrsd g i 1 = d ∧ zrsd g i 2 = r ∧ zrsd g i 3 = u := by
  obtain ⟨q1, q2⟩ := zqP_lr h
  obtain ⟨h1, h2, ⟨a1, a2⟩, ⟨a3, a4⟩, b1, b2⟩ := h
  rw [zrsd_0, zrsd_1, zrsd_2, zrsd_3]
  exact ⟨zf2_vn (fun p hp k hk => ((h2 p (by omega)).2.2 k hk).1.1) a1 (by omega), zf2_vn (fun p hp k hk => ((h2 p (by omega)).2.2 k hk).2.1) a3 (by omega), zf2_vx (fun p hp k hk => ((h2 p (by omega)).2.2 k hk).1.2) a2 (by omega), zf2_vx (fun p hp k hk => ((h2 p (by omega)).2.2 k hk).2.2) a4 (by omega)⟩
theorem zqO_P (h : zqO g i) : zqP g i (zrsd g i 0) (zrsd g i 1) (zrsd g i 2) (zrsd g i 3) := by
  have fm := zqO_fm h
  have hh := h
  obtain ⟨h1, h2, h3⟩ := h
  obtain ⟨m1, m2⟩ := fm
  have e0 : ((0 : Nat) : Int) < g 1174 i := by omega
  have e1 : ((0 : Nat) : Int) < zrN g i 0 := by have := (h3 0 e0).1; omega
  have c0 := (h3 0 e0).2.2 0 e1
  refine ⟨h1, fun p hp => ⟨(h3 p hp).1, (h3 p hp).2.1, fun k hk => zqO_fr hh hp hk⟩, ⟨?_, ?_⟩, ⟨?_, ?_⟩, by omega, by omega⟩
  · rw [zrsd_0] at *
    rcases (zf2_mn (n := zrN g i) (X := zrX g i) (b := 100) (g 1174 i).toNat).2.2 with e | ⟨p, k, hp, hk, e⟩
    · omega
    · exact ⟨p, k, hp, hk, e.symm⟩
  · rw [zrsd_2] at *
    rcases (zf2_mx (n := zrN g i) (X := zrX g i) (b := -1) (g 1174 i).toNat).2.2 with e | ⟨p, k, hp, hk, e⟩
    · omega
    · exact ⟨p, k, hp, hk, e.symm⟩
  · rw [zrsd_1] at *
    rcases (zf2_mn (n := zrN g i) (X := zrY g i) (b := 100) (g 1174 i).toNat).2.2 with e | ⟨p, k, hp, hk, e⟩
    · omega
    · exact ⟨p, k, hp, hk, e.symm⟩
  · rw [zrsd_3] at *
    rcases (zf2_mx (n := zrN g i) (X := zrY g i) (b := -1) (g 1174 i).toNat).2.2 with e | ⟨p, k, hp, hk, e⟩
    · omega
    · exact ⟨p, k, hp, hk, e.symm⟩
theorem zqP_O (h : zqP g i l d r u) (ht : 0 ≤ g 1175 i ∧ (g 1175 i).toNat < 2 ^ 2 ^ (g 1174 i).toNat ∧ ¬ zhs (g 1175 i) 0) (hr : r ≤ 60) (hu : u ≤ 60) : zqO g i := by
  obtain ⟨h1, h2, _, _, b1, b2⟩ := h
  refine ⟨h1, ht, fun p hp => ?_⟩
  obtain ⟨a, b, c⟩ := h2 p hp
  refine ⟨a, b, fun k hk => ?_⟩
  have := c k hk
  omega
/-- the corners mapped -/
theorem zqC_mp (h : zqC f g i) (h4 : g 1174 i ≤ 4) (h8 : ∀ p : Nat, (p : Int) < g 1174 i → zrN g i p ≤ 8) : zqC (zmp f (14 + 14 * i) (f (14 + 14 * i) 10).toNat 0 gx gy) (zrmp g i (g 1174 i).toNat 0 gx gy) i := by
  obtain ⟨h1, h2, h3⟩ := h
  unfold zqC
  rw [zmp_o _ (by omega), zmp_o _ (by omega), zrmp_o (by omega), zrmp_o (by omega)]
  refine ⟨h1, h2, fun p hp => ?_⟩
  obtain ⟨q1, q2⟩ := h3 p hp
  have e1 : zN (zmp f (14 + 14 * i) (f (14 + 14 * i) 10).toNat 0 gx gy) (14 + 14 * i) p = zN f (14 + 14 * i) p := zmp_N _ _ _ _ _ _ _
  have e2 : zrN (zrmp g i (g 1174 i).toNat 0 gx gy) i p = zrN g i p := zrmp_o (by omega)
  rw [e1, e2]
  refine ⟨q1, fun k hk => ?_⟩
  obtain ⟨x1, y1⟩ := q2 k hk
  have hk2 : (k : Int) < zN f (14 + 14 * i) p := by omega
  have p4 : p < 4 := by omega
  have n8 := h8 p hp
  rw [zrmp_x (by omega) p4 hk (by omega), zrmp_y (by omega) p4 hk (by omega)]
  unfold zX zY at *
  unfold zN at hk2
  rw [zmp_X f p4, if_pos ⟨by omega, hk2⟩, zmp_Y f p4, if_pos ⟨by omega, hk2⟩, x1, y1]
  exact ⟨rfl, rfl⟩
theorem zqP_mp (h : zqP g i l d r u) (hb : ∀ x y, l ≤ x → x ≤ r → d ≤ y → y ≤ u → (l' ≤ gx x y ∧ gx x y ≤ r') ∧ d' ≤ gy x y ∧ gy x y ≤ u') (hl : (∀ x y, x = l → gx x y = l') ∨ (∀ x y, x = r → gx x y = l') ∨ (∀ x y, y = u → gx x y = l')) (hr : (∀ x y, x = l → gx x y = r') ∨ (∀ x y, x = r → gx x y = r') ∨ (∀ x y, y = d → gx x y = r')) (hd : (∀ x y, y = d → gy x y = d') ∨ (∀ x y, y = u → gy x y = d') ∨ (∀ x y, x = l → gy x y = d')) (hu : (∀ x y, y = d → gy x y = u') ∨ (∀ x y, y = u → gy x y = u') ∨ (∀ x y, x = r → gy x y = u')) (hz : ∀ a b c e : Int, zcg ((c - a).natAbs : Int) ((e - b).natAbs : Int) → zcg ((gx c e - gx a b).natAbs : Int) ((gy c e - gy a b).natAbs : Int)) (hp : (0 ≤ l' ∧ l' ≤ 100) ∧ 0 ≤ d' ∧ d' ≤ 100) : zqP (zrmp g i (g 1174 i).toNat 0 gx gy) i l' d' r' u' := by
  obtain ⟨h1, h2, ⟨⟨pl, kl, hpl, hkl, el⟩, ⟨pr, kr, hpr, hkr, er⟩⟩, ⟨⟨pd, kd, hpd, hkd, ed⟩, ⟨pu, ku, hpu, hku, eu⟩⟩, b⟩ := h
  have eN : ∀ p, zrN (zrmp g i (g 1174 i).toNat 0 gx gy) i p = zrN g i p := fun p => zrmp_o (by omega)
  have e4 : zrmp g i (g 1174 i).toNat 0 gx gy 1174 i = g 1174 i := zrmp_o (by omega)
  have eX : ∀ p k : Nat, (p : Int) < g 1174 i → (k : Int) < zrN g i p → zrX (zrmp g i (g 1174 i).toNat 0 gx gy) i p k = gx (zrX g i p k) (zrY g i p k) := fun p k hp hk => zrmp_x (by omega) (by omega) hk (by have := (h2 p hp).1; omega)
  have eY : ∀ p k : Nat, (p : Int) < g 1174 i → (k : Int) < zrN g i p → zrY (zrmp g i (g 1174 i).toNat 0 gx gy) i p k = gy (zrX g i p k) (zrY g i p k) := fun p k hp hk => zrmp_y (by omega) (by omega) hk (by have := (h2 p hp).1; omega)
  unfold zqP
  rw [e4]
  refine ⟨h1, fun p hp => ?_, ⟨?_, ?_⟩, ⟨?_, ?_⟩, hp⟩
  · obtain ⟨a1, a2, a3⟩ := h2 p hp
    rw [eN]
    refine ⟨a1, fun j hj hm => ?_, fun k hk => ?_⟩
    · have z := a2 j hj hm
      have ha : ((zaf (zrN g i p) j : Nat) : Int) < zrN g i p := by unfold zaf; split <;> omega
      unfold zwd at *
      rw [eX p _ hp ha, eX p _ hp hm, eY p _ hp ha, eY p _ hp hm]
      exact hz _ _ _ _ z
    · rw [eX p k hp hk, eY p k hp hk]
      have c := a3 k hk
      exact hb _ _ c.1.1 c.1.2 c.2.1 c.2.2
  · rcases hl with e | e | e
    · exact ⟨pl, kl, hpl, by rw [eN]; exact hkl, by rw [eX _ _ (by omega) hkl]; exact e _ _ el⟩
    · exact ⟨pr, kr, hpr, by rw [eN]; exact hkr, by rw [eX _ _ (by omega) hkr]; exact e _ _ er⟩
    · exact ⟨pu, ku, hpu, by rw [eN]; exact hku, by rw [eX _ _ (by omega) hku]; exact e _ _ eu⟩
  · rcases hr with e | e | e
    · exact ⟨pl, kl, hpl, by rw [eN]; exact hkl, by rw [eX _ _ (by omega) hkl]; exact e _ _ el⟩
    · exact ⟨pr, kr, hpr, by rw [eN]; exact hkr, by rw [eX _ _ (by omega) hkr]; exact e _ _ er⟩
    · exact ⟨pd, kd, hpd, by rw [eN]; exact hkd, by rw [eX _ _ (by omega) hkd]; exact e _ _ ed⟩
  · rcases hd with e | e | e
    · exact ⟨pd, kd, hpd, by rw [eN]; exact hkd, by rw [eY _ _ (by omega) hkd]; exact e _ _ ed⟩
    · exact ⟨pu, ku, hpu, by rw [eN]; exact hku, by rw [eY _ _ (by omega) hku]; exact e _ _ eu⟩
    · exact ⟨pl, kl, hpl, by rw [eN]; exact hkl, by rw [eY _ _ (by omega) hkl]; exact e _ _ el⟩
  · rcases hu with e | e | e
    · exact ⟨pd, kd, hpd, by rw [eN]; exact hkd, by rw [eY _ _ (by omega) hkd]; exact e _ _ ed⟩
    · exact ⟨pu, ku, hpu, by rw [eN]; exact hku, by rw [eY _ _ (by omega) hku]; exact e _ _ eu⟩
    · exact ⟨pr, kr, hpr, by rw [eN]; exact hkr, by rw [eY _ _ (by omega) hkr]; exact e _ _ er⟩
theorem zcg_s {w h : Int} (hz : zcg w h) : zcg h w := by
  unfold zcg at *
  split at hz
  · next c =>
    rw [if_pos (by omega)]
    omega
  · next c =>
    rw [if_neg (by omega)]
    omega
theorem zqz_id : ∀ a b c e : Int, zcg ((c - a).natAbs : Int) ((e - b).natAbs : Int) → ∀ p q p2 q2 : Int, p2 = p + (c - a) ∨ p2 = p - (c - a) → q2 = q + (e - b) ∨ q2 = q - (e - b) → zcg ((p2 - p).natAbs : Int) ((q2 - q).natAbs : Int) := by
  intro a b c e h p q p2 q2 h1 h2
  have e1 : (p2 - p).natAbs = (c - a).natAbs := by omega
  have e2 : (q2 - q).natAbs = (e - b).natAbs := by omega
  rw [e1, e2]
  exact h
theorem zcg_m {n w h : Int} (hn : 1 ≤ n) (hz : zcg w h) : zcg (n * w) (n * h) := by
  have h0 : ∀ v : Int, n * v = 0 ↔ v = 0 := fun v => ⟨fun e => (Int.mul_eq_zero.mp e).resolve_left (by omega), fun e => by rw [e, Int.mul_zero]⟩
  have hi : ∀ v w : Int, n * v = n * w ↔ v = w := fun v w => ⟨fun e => Int.eq_of_mul_eq_mul_left (by omega) e, fun e => by rw [e]⟩
  unfold zcg at *
  by_cases c : w = 0 ∨ h = 0
  · rw [if_pos c] at hz
    rw [if_pos (by rw [h0, h0]; exact c)]
    intro e
    exact hz ((hi _ _).mp e)
  · rw [if_neg c] at hz
    rw [if_neg (by rw [h0, h0]; exact c)]
    rcases hz with e | e | e
    · exact Or.inl (by rw [e])
    · exact Or.inr (Or.inl (by rw [e, Int.mul_left_comm]))
    · exact Or.inr (Or.inr (by rw [e, Int.mul_left_comm]))
/-- the frame found -/
theorem zqE_fnd (hc : zqC f g i) (hP : zqP g i l d r u) : zqE (zfnd f (14 + 14 * i)) g i := by
  have dd := zqP_d hP
  obtain ⟨q1, q2⟩ := zqP_lr hP
  obtain ⟨h1, h2, ⟨⟨pl, kl, hpl, hkl, el⟩, ⟨pr, kr, hpr, hkr, er⟩⟩, ⟨⟨pd, kd, hpd, hkd, ed⟩, ⟨pu, ku, hpu, hku, eu⟩⟩, b⟩ := hP
  obtain ⟨c1, c2, c3⟩ := hc
  have oth : ∀ b j, (b ≠ 14 + 14 * i ∨ j < 11 ∨ 15 ≤ j) → zfnd f (14 + 14 * i) b j = f b j := fun b j h => zfnd_o h
  have e0 : ((0 : Nat) : Int) < g 1174 i := by omega
  have e1 : ((0 : Nat) : Int) < zrN g i 0 := by have := (h2 0 e0).1; omega
  have f0 := (c3 0 e0).2 0 e1
  have b0 := (h2 0 e0).2.2 0 e1
  have tn : (f (14 + 14 * i) 10).toNat = (g 1174 i).toNat := by rw [c2]
  refine ⟨by rw [oth _ _ (by omega)]; exact c1, by rw [oth _ _ (by omega)]; exact c2, fun p hp => ?_, ?_⟩
  · unfold zN zX zY
    rw [oth _ _ (by omega), show zfnd f (14 + 14 * i) (14 + 14 * i + 2 + 3 * p + 1) = f (14 + 14 * i + 2 + 3 * p + 1) from funext fun j => oth _ _ (by omega), show zfnd f (14 + 14 * i) (14 + 14 * i + 2 + 3 * p + 2) = f (14 + 14 * i + 2 + 3 * p + 2) from funext fun j => oth _ _ (by omega)]
    exact c3 p hp
  · rw [dd.1, dd.2.1, dd.2.2.1, dd.2.2.2]
    unfold zfnd
    rw [zfr_l, zfr_d, zfr_r, zfr_u, tn]
    have eN : ∀ p, p < (g 1174 i).toNat → zN f (14 + 14 * i) p = zrN g i p := fun p hp => (c3 p (by omega)).1
    have eX : ∀ p, p < (g 1174 i).toNat → ∀ k : Nat, (k : Int) < zN f (14 + 14 * i) p → zX f (14 + 14 * i) p k = zrX g i p k := fun p hp k hk => ((c3 p (by omega)).2 k (by rw [← eN p hp]; exact hk)).1
    have eY : ∀ p, p < (g 1174 i).toNat → ∀ k : Nat, (k : Int) < zN f (14 + 14 * i) p → zY f (14 + 14 * i) p k = zrY g i p k := fun p hp k hk => ((c3 p (by omega)).2 k (by rw [← eN p hp]; exact hk)).2
    have bb : ∀ p, p < (g 1174 i).toNat → ∀ k : Nat, (k : Int) < zN f (14 + 14 * i) p → (l ≤ zX f (14 + 14 * i) p k ∧ zX f (14 + 14 * i) p k ≤ r) ∧ d ≤ zY f (14 + 14 * i) p k ∧ zY f (14 + 14 * i) p k ≤ u := fun p hp k hk => by
      rw [eX p hp k hk, eY p hp k hk]
      exact (h2 p (by omega)).2.2 k (by rw [← eN p hp]; exact hk)
    refine ⟨zf2_vn (fun p hp k hk => (bb p hp k hk).1.1) ⟨pl, kl, hpl, by rw [eN pl hpl]; exact hkl, by rw [eX pl hpl kl (by rw [eN pl hpl]; exact hkl)]; exact el⟩ (by omega), zf2_vn (fun p hp k hk => (bb p hp k hk).2.1) ⟨pd, kd, hpd, by rw [eN pd hpd]; exact hkd, by rw [eY pd hpd kd (by rw [eN pd hpd]; exact hkd)]; exact ed⟩ (by omega), zf2_vx (fun p hp k hk => (bb p hp k hk).1.2) ⟨pr, kr, hpr, by rw [eN pr hpr]; exact hkr, by rw [eX pr hpr kr (by rw [eN pr hpr]; exact hkr)]; exact er⟩ (by omega), zf2_vx (fun p hp k hk => (bb p hp k hk).2.2) ⟨pu, ku, hpu, by rw [eN pu hpu]; exact hku, by rw [eY pu hpu ku (by rw [eN pu hpu]; exact hku)]; exact eu⟩ (by omega)⟩
theorem zqE_C (h : zqE f g i) : zqC f g i := ⟨h.1, h.2.1, h.2.2.1⟩
/-- one shape's corners changed on both boards -/
theorem zqQ_geo (h : zqR n f g) (hs : s < 60) (hf : ∀ b j, (b < 14 + 14 * s ∨ 28 + 14 * s ≤ b ∨ (b = 14 + 14 * s ∧ (j < 11 ∨ 15 ≤ j))) → f' b j = f b j) (hg : ∀ b j, ((b ≠ 1177 ∧ b ≠ 1178) ∨ ¬ (32 * s ≤ j ∧ j < 32 * s + 32)) → (b ≠ 1153 ∨ j ≠ 36) → g' b j = g b j) (hE : zqE f' g' s ∧ zqO g' s) : zqR n f' g' := by
  obtain ⟨T, A, K, Lr, G, V, D, S, J⟩ := h
  have hF : ∀ b j, (b < 14 + 14 * s ∨ 28 + 14 * s ≤ b ∨ (b = 14 + 14 * s ∧ (j < 11 ∨ 15 ≤ j))) → f' b j = f b j := hf
  have hG : ∀ b j, (((b ≠ 1177 ∧ b ≠ 1178) ∨ ¬ (32 * s ≤ j ∧ j < 32 * s + 32)) ∧ (b ≠ 1153 ∨ j ≠ 36)) → g' b j = g b j := fun b j q => hg b j q.1 q.2
  have h0 : ∀ i, i < 60 → g' 1166 i = g 1166 i := fun i hi => hG _ _ (by omega)
  have h00 : ∀ i, i < 60 → g' 1166 i = 1 → g 1166 i = 1 := fun i hi t => by rw [← h0 i hi]; exact t
  have hff : zqF f' g' := fun i hi t => by
    by_cases e : i = s
    · subst e; exact hE
    · obtain ⟨a, b⟩ := S i hi (h00 i hi t)
      have eq : zrEq g' g i := ⟨hG _ _ (by omega), hG _ _ (by omega), fun p _ => hG _ _ (by omega), fun j j1 j2 => ⟨hG _ _ (by omega), hG _ _ (by omega)⟩⟩
      exact ⟨zqE_c (fun b j b1 b2 _ => hF _ _ (by omega)) eq b a, zqO_c eq b⟩
  exact ⟨zqT_c (fun i hi => hF _ _ (by omega)) h0 T, zqA_c h00 (fun i hi _ => ⟨hF _ _ (by omega), hF _ _ (by omega), hF _ _ (by omega)⟩) (fun i hi _ => ⟨hG _ _ (by omega), hG _ _ (by omega), hG _ _ (by omega)⟩) A, zqK_c h00 (fun i hi _ => ⟨hF _ _ (by omega), hF _ _ (by omega)⟩) (fun i hi _ => ⟨hG _ _ (by omega), hG _ _ (by omega), hG _ _ (by omega)⟩) K, zqL_c h0 (fun i hi => ⟨hF _ _ (by omega), hF _ _ (by omega)⟩) (fun i hi => ⟨hG _ _ (by omega), hG _ _ (by omega)⟩) Lr, zqG_c (Nat.le_refl _) T.1 h0 (fun i hi => ⟨hF _ _ (by omega), hF _ _ (by omega)⟩) (fun i hi => hG _ _ (by omega)) G, zqV_c (fun i hi => hF _ _ (by omega)) (fun i hi => hG _ _ (by omega)) (fun i hi => ⟨hG _ _ (by omega), hG _ _ (by omega)⟩) V, zqD_c (hF _ _ (by omega)) (hG _ _ (by omega)) (fun i hi => ⟨hF _ _ (by omega), hF _ _ (by omega)⟩) (fun i hi => ⟨hG _ _ (by omega), hG _ _ (by omega)⟩) D, hff, zqJ_c (fun i hi => ⟨hF _ _ (by omega), hF _ _ (by omega), hF _ _ (by omega), hF _ _ (by omega), hF _ _ (by omega)⟩) (fun i hi => by rw [hF _ _ (by omega)]; exact J.2.2.2 i hi) J⟩
end ZGEOQ
end SG_CA_geo
section SG_CB_shape
/-! turned, mirrored, grown, in both programs -/
section ZSHAPEQ
variable {n : Nat} {f g f' g' : Nat → Nat → Int} {i s : Nat} {l d r u : Int}
theorem zqC_sw (hc : zqC f g s) (hP : zqP g s l d r u) (ht : 0 ≤ g 1175 s ∧ g 1175 s < 65536) (hr : r ≤ 1000) (hu : u ≤ 1000) : zSv f (14 + 14 * s) := by
  obtain ⟨c1, c2, c3⟩ := hc
  obtain ⟨h1, h2, _, _, b1, b2⟩ := hP
  refine ⟨by omega, by omega, fun p hp => ?_⟩
  rw [c2] at hp
  obtain ⟨q1, q2⟩ := c3 p hp
  obtain ⟨a1, a2, a3⟩ := h2 p hp
  refine ⟨by omega, by omega, fun k hk => ?_⟩
  rw [q1] at hk
  rw [(q2 k hk).1, (q2 k hk).2]
  have := a3 k hk
  omega
theorem zqE_map {gx gy : Int → Int → Int} {l' d' r' u' : Int} (hE : zqE f g s) (hP : zqP g s l d r u) (hP2 : zqP (zrmp g s (g 1174 s).toNat 0 gx gy) s l' d' r' u') : zqE (zfnd (zmp f (14 + 14 * s) (f (14 + 14 * s) 10).toNat 0 gx gy) (14 + 14 * s)) (zrmp g s (g 1174 s).toNat 0 gx gy) s :=
  zqE_fnd (zqC_mp (zqE_C hE) hP.1.2 (fun p hp => (hP.2.1 p hp).1.2)) hP2
theorem zqturn (hE : zqE f g s) (hP : zqP g s l d r u) (hb : r ≤ 1000 ∧ u ≤ 1000) : zqE (ztq f (14 + 14 * s)) (zrt1 g s) s ∧ zqP (zrt1 g s) s l d (l + u - d) (d + r - l) := by
  obtain ⟨e0, e1, e2, e3⟩ := zqP_d hP
  obtain ⟨q1, q2⟩ := zqP_lr hP
  have b5 := hP.2.2.2.2
  obtain ⟨_, _, _, f1, f2, f3, f4⟩ := hE
  have hP2 : zqP (zrt1 g s) s l d (l + u - d) (d + r - l) := by
    unfold zrt1
    refine zqP_mp hP (fun x y _ _ _ _ => ?_) (Or.inr (Or.inr (fun x y e => ?_))) (Or.inr (Or.inr (fun x y e => ?_))) (Or.inr (Or.inr (fun x y e => ?_))) (Or.inr (Or.inr (fun x y e => ?_))) (fun a b c e h => ?_) b5
    · show (l ≤ zrsd g s 0 + zrsd g s 3 - y ∧ zrsd g s 0 + zrsd g s 3 - y ≤ l + u - d) ∧ d ≤ zrsd g s 1 + x - zrsd g s 0 ∧ zrsd g s 1 + x - zrsd g s 0 ≤ d + r - l
      omega
    · show zrsd g s 0 + zrsd g s 3 - y = l
      omega
    · show zrsd g s 0 + zrsd g s 3 - y = l + u - d
      omega
    · show zrsd g s 1 + x - zrsd g s 0 = d
      omega
    · show zrsd g s 1 + x - zrsd g s 0 = d + r - l
      omega
    · show zcg ((zrsd g s 0 + zrsd g s 3 - e - (zrsd g s 0 + zrsd g s 3 - b)).natAbs : Int) ((zrsd g s 1 + c - zrsd g s 0 - (zrsd g s 1 + a - zrsd g s 0)).natAbs : Int)
      rw [show (zrsd g s 0 + zrsd g s 3 - e - (zrsd g s 0 + zrsd g s 3 - b)).natAbs = (e - b).natAbs by omega, show (zrsd g s 1 + c - zrsd g s 0 - (zrsd g s 1 + a - zrsd g s 0)).natAbs = (c - a).natAbs by omega]
      exact zcg_s h
  refine ⟨?_, hP2⟩
  have ex : (fun (_ y : Int) => f (14 + 14 * s) 11 + f (14 + 14 * s) 14 - y) = (fun _ y => zrsd g s 0 + zrsd g s 3 - y) := by rw [f1, f4]
  have ey : (fun (x _ : Int) => f (14 + 14 * s) 12 + (x - f (14 + 14 * s) 11)) = (fun x _ => zrsd g s 1 + x - zrsd g s 0) := by
    rw [f1, f2]
    funext x y
    omega
  unfold ztq
  rw [ex, ey]
  exact zqE_map ⟨‹_›, ‹_›, ‹_›, f1, f2, f3, f4⟩ hP hP2
/-- after k quarters -/
theorem zqturns (hE : zqE f g s) (hP : zqP g s l d r u) (hb : r ≤ 60 ∧ u ≤ 60) : ∀ k : Nat, k ≤ 3 → ∃ r2 u2 : Int, zqE (ztr f (14 + 14 * s) k) (zrtu g s k) s ∧ zqP (zrtu g s k) s l d r2 u2 ∧ ((k = 0 ∧ r2 = r ∧ u2 = u) ∨ (k = 1 ∧ r2 = l + u - d ∧ u2 = d + r - l) ∨ (k = 2 ∧ r2 = r ∧ u2 = u) ∨ (k = 3 ∧ r2 = l + u - d ∧ u2 = d + r - l))
  | 0, _ => ⟨r, u, hE, hP, Or.inl ⟨rfl, rfl, rfl⟩⟩
  | k + 1, hk => by
    obtain ⟨r2, u2, a1, a2, a3⟩ := zqturns hE hP hb k (by omega)
    have b5 := hP.2.2.2.2
    obtain ⟨c1, c2⟩ := zqturn a1 a2 (by omega)
    exact ⟨l + u2 - d, d + r2 - l, c1, c2, by omega⟩
theorem ztr_o {b j : Nat} (h : b < 14 + 14 * s ∨ 28 + 14 * s ≤ b ∨ (b = 14 + 14 * s ∧ (j < 11 ∨ 15 ≤ j))) : ∀ k, ztr f (14 + 14 * s) k b j = f b j
  | 0 => rfl
  | k + 1 => by
    show ztq (ztr f (14 + 14 * s) k) (14 + 14 * s) b j = _
    unfold ztq
    rw [zfnd_o (by omega), zmp_o _ (by omega)]
    exact ztr_o h k
theorem zrmp_q {b j c : Nat} {gx gy : Int → Int → Int} (h : (b ≠ 1177 ∧ b ≠ 1178) ∨ ¬ (32 * s ≤ j ∧ j < 32 * s + 32)) : zrmp g s c 0 gx gy b j = g b j := by
  rcases h with h | h
  · exact zrmp_o h
  · exact zrmp_p (fun q => h q.1)
theorem zrtu_q {b j : Nat} (h : (b ≠ 1177 ∧ b ≠ 1178) ∨ ¬ (32 * s ≤ j ∧ j < 32 * s + 32)) : ∀ k, zrtu g s k b j = g b j
  | 0 => rfl
  | k + 1 => by
    rw [zrtu_s]
    unfold zrt1
    rw [zrmp_q h]
    exact zrtu_q h k
theorem zqE_36 {v : Int} (h : zqE f g s ∧ zqO g s) : zqE f (zu2 g 1153 36 v) s ∧ zqO (zu2 g 1153 36 v) s := by
  have e : zrEq (zu2 g 1153 36 v) g s := ⟨zu2_sj (by omega), zu2_sj (by omega), fun p _ => zu2_sj (by omega), fun j _ _ => ⟨zu2_sj (by omega), zu2_sj (by omega)⟩⟩
  exact ⟨zqE_c (fun _ _ _ _ _ => rfl) e h.2 h.1, zqO_c e h.2⟩
variable {L k : Nat} {M N : zM}
theorem zqS_3 (hM : zLay M.2.2.2) (hN : zLayN N.2.2.2) (hk : k < 60) (h : zqR k M.2.1 N.2.1) (hj : zqJ1 M N k 3) (h8 : M.2.1 (855 + 4 * k) 8 = N.2.1 1161 (4 * k + 1) ∧ 1 ≤ N.2.1 1161 (4 * k + 1) ∧ N.2.1 1161 (4 * k + 1) ≤ 3) : zqS L k M N := by
  obtain ⟨⟨j0, j1⟩, j2, j3⟩ := hj
  rcases zqS_sh (L := L) hM hN hk h j2 (Or.inl j3) (by omega) with no | ⟨s, hs, e2, e4, ht, hg, e⟩
  · exact no
  · have h1 := zqR_g1 (k := k) h
    have j1g : zqg1 N.2.1 k 1158 k = 3 := (zqg1_o (by omega)).trans j1
    generalize eq : (N.2.1 1161 (4 * k + 1)).toNat = q at *
    have eq2 : N.2.1 1161 (4 * k + 1) = (q : Int) := by omega
    rw [eq2] at e
    generalize eg1 : zqg1 N.2.1 k = g1 at *
    obtain ⟨hE, hO⟩ := h1.2.2.2.2.2.2.2.1 s hs (by rw [← eg1]; exact (zqg1_o (by omega)).trans ht)
    have hP := zqO_P hO
    obtain ⟨m1, m2⟩ := zqO_fm hO
    have tb := hO.2.1
    have sw := zqO_sw hO
    have tr := zqturns hE hP (by omega)
    have bb := hP.2.2.2.2
    obtain ⟨_, _, _, f1, f2, f3, f4⟩ := hE
    have fm : zFm M.2.1 (14 + 14 * s) := by unfold zFm; omega
    have ic : ztc M.2.1 (14 + 14 * s) q ↔ (q = 2 ∨ zrit g1 s) := by
      unfold ztc zrit
      rw [f1, f2, f3, f4]
    have hv : ∀ m, m < q → ztv (ztr M.2.1 (14 + 14 * s) m) (14 + 14 * s) := fun m hm => by
      obtain ⟨r2, u2, a1, a2, a3⟩ := tr m (by omega)
      have tb2 : zrtu g1 s m 1175 s = g1 1175 s := zrtu_q (by omega) m
      have sv := zqC_sw (zqE_C a1) a2 (by rw [tb2]; exact sw.2.1) (by omega) (by omega)
      obtain ⟨y0, y1, y2, y3⟩ := zqP_d a2
      obtain ⟨z1, z2, z3, z4, z5, z6, z7⟩ := a1
      refine ⟨sv, by unfold zFv; omega, fun p c hp hc => ?_⟩
      have w := (sv.2.2 p hp).2.2 c hc
      have w2 := (z3 p (by omega)).2 c (by have := (z3 p (by omega)).1; omega)
      have w3 := (a2.2.1 p (by omega)).2.2 c (by have := (z3 p (by omega)).1; omega)
      show -10000 ≤ ztr M.2.1 (14 + 14 * s) m (14 + 14 * s) 11 + ztr M.2.1 (14 + 14 * s) m (14 + 14 * s) 14 - _ ∧ ztr M.2.1 (14 + 14 * s) m (14 + 14 * s) 11 + ztr M.2.1 (14 + 14 * s) m (14 + 14 * s) 14 - _ ≤ 10000 ∧ -10000 ≤ ztr M.2.1 (14 + 14 * s) m (14 + 14 * s) 12 + (_ - ztr M.2.1 (14 + 14 * s) m (14 + 14 * s) 11) ∧ ztr M.2.1 (14 + 14 * s) m (14 + 14 * s) 12 + (_ - ztr M.2.1 (14 + 14 * s) m (14 + 14 * s) 11) ≤ 10000
      omega
    have ec := fun Q9 => c22 (L := L) (M := M) (Q := Q9) (q := q) (zShA_i hs) hM fm (by omega) (fun _ => hv)
    have er := fun Q9 => c238 (L := L) (M := zwI N g1) (s := s) (n := q) (Q := Q9) hN (by omega) sw (zqO_fm hO) (by omega)
    have e8 : M.2.1 (855 + 4 * k) 8 = (q : Int) := by omega
    by_cases c : ztc M.2.1 (14 + 14 * s) q
    · have c2 := ic.mp c
      obtain ⟨r2, u2, a1, a2, a3⟩ := tr q (by omega)
      have dd := zqP_d a2
      have bnd : r2 ≤ 60 ∧ u2 ≤ 60 := by
        rcases c2 with c2 | c2
        · omega
        · unfold zrit at c2
          omega
      have t5 : zrtu g1 s q 1175 s = g1 1175 s := zrtu_q (by omega) q
      have t4 : zrtu g1 s q 1174 s = g1 1174 s := zrtu_q (by omega) q
      have oo : zqO (zrtu g1 s q) s := zqP_O a2 (by rw [t4, t5]; exact tb) bnd.1 bnd.2
      have y13 := a1.2.2.2.2.2.1
      refine ⟨ztr M.2.1 (14 + 14 * s) q, zu2 (zrtu g1 s q) 1153 36 (zrsd (zrtu g1 s q) s 2), ztr M.2.1 (14 + 14 * s) q (14 + 14 * s) 13, 1, fun Q => c10_3 (v := ztr M.2.1 (14 + 14 * s) q (14 + 14 * s) 13) (M9 := zwI M (ztr M.2.1 (14 + 14 * s) q)) hM (zqR_01 h) hk hk hg j0 hs e2 (fun Q9 => ?_), e 1 _ (Or.inr rfl) (fun Q9 => c208_3 (x := 0) (M10 := N) (M := zwI N g1) hN hk hs j1g (fun Q8 => c237_3 (M9 := zwI N (zrtu g1 s q)) (M := zwI N g1) hN hk hs j1g (fun Q7 => ?_) (Or.inr rfl) hN (zqO_sw oo) ((zrtu_q (g := g1) (by omega) q).trans j1g)) (Or.inr rfl)), fun b j hb => ztr_o (by omega) q, fun b j hb => ?_, fun j h1 h2 h3 => ?_, Or.inr ⟨rfl, by omega, ?_, zqR_n hk (zqQ_geo h1 hs (fun b j hb => ztr_o hb q) (fun b j hb h36 => ?_) (zqE_36 ⟨a1, oo⟩))⟩⟩
      · rw [e8, ec]
        exact propext ⟨fun q => q.1 c, fun q => ⟨fun _ => q, fun q2 => absurd c q2⟩⟩
      · refine (er Q7).trans ?_
        exact propext ⟨fun q => q.1 c2, fun q => ⟨fun _ => q, fun q2 => absurd c2 q2⟩⟩
      · rw [zu2_sj (by omega), zrtu_q (by omega), ← eg1]
        exact zqg1_o (by omega)
      · rw [zu2_sj (by omega), zrtu_q (by omega), ← eg1]
        exact zu2_i h2 _ _ _ _
      · rw [zu2_eq, y13]
      · rw [zu2_sj (by omega), zrtu_q hb]
    · have c2 := fun q => c (ic.mpr q)
      refine ⟨M.2.1, zu2 g1 1153 36 (zrsd g1 s 2), -1, 0, fun Q => c10_3 (v := -1) (M9 := M) hM (zqR_01 h) hk hk hg j0 hs e2 (fun Q9 => ?_), e 0 _ (Or.inl rfl) (fun Q9 => c208_3 (x := 0) (M10 := N) (M := zwI N g1) hN hk hs j1g (fun Q8 => c237_3 (M9 := zwI N g1) (M := zwI N g1) hN hk hs j1g (fun Q7 => ?_) (Or.inl rfl) hN sw j1g) (Or.inl rfl)), fun _ _ _ => rfl, fun b j hb => ?_, fun j h1 h2 h3 => ?_, Or.inl ⟨rfl, rfl, zqR_keep (fun _ _ _ _ _ _ _ => rfl) (zqR_ch h) (fun b j b1 b2 _ => zu2_sj (by omega)) (zu2_sj (by omega)) h1⟩⟩
      · rw [e8, ec]
        exact propext ⟨fun q => q.2 c, fun q => ⟨fun q2 => absurd q2 c, fun _ => q⟩⟩
      · refine (er Q7).trans ?_
        exact propext ⟨fun q => q.2 c2, fun q => ⟨fun q2 => absurd q2 c2, fun _ => q⟩⟩
      · rw [zu2_sj (by omega), ← eg1]
        exact zqg1_o (by omega)
      · rw [zu2_sj (by omega), ← eg1]
        exact zu2_i h2 _ _ _ _
theorem zcorn_r {F G : Nat → Nat → Int} {s : Nat} : ∀ c : Nat, (∀ p, p < c → zN F (14 + 14 * s) p = zrN G s p) → zcorn (zN F (14 + 14 * s)) c = zrcs G s c
  | 0, _ => rfl
  | c + 1, h => by
    rw [zrcs_s, ← zcorn_r c (fun p hp => h p (by omega)), ← h c (by omega)]
    rfl
theorem zqS_4 (hM : zLay M.2.2.2) (hN : zLayN N.2.2.2) (hk : k < 60) (h : zqR k M.2.1 N.2.1) (hj : zqJ1 M N k 4) (h9 : M.2.1 (855 + 4 * k) 9 = N.2.1 1161 (4 * k + 1) ∧ (N.2.1 1161 (4 * k + 1) = 0 ∨ N.2.1 1161 (4 * k + 1) = 1)) : zqS L k M N := by
  obtain ⟨⟨j0, j1⟩, j2, j3⟩ := hj
  rcases zqS_sh (L := L) hM hN hk h j2 (Or.inl j3) (by omega) with no | ⟨s, hs, e2, e4, ht, hg, e⟩
  · exact no
  · have h1 := zqR_g1 (k := k) h
    have j1g : zqg1 N.2.1 k 1158 k = 4 := (zqg1_o (by omega)).trans j1
    generalize eu : N.2.1 1161 (4 * k + 1) = w at *
    obtain ⟨h9, h01⟩ := h9
    generalize eg1 : zqg1 N.2.1 k = g1 at *
    obtain ⟨hE, hO⟩ := h1.2.2.2.2.2.2.2.1 s hs (by rw [← eg1]; exact (zqg1_o (by omega)).trans ht)
    have hP := zqO_P hO
    obtain ⟨m1, m2⟩ := zqO_fm hO
    have tb := hO.2.1
    have sw := zqO_sw hO
    have bb := hP.2.2.2.2
    have hE2 := hE
    obtain ⟨z1, z2, z3, f1, f2, f3, f4⟩ := hE2
    have fm : zFm M.2.1 (14 + 14 * s) := by unfold zFm; omega
    have ec := fun Q9 => c99 (L := L) (M := M) (Q := Q9) (u := w) (zShA_i hs) hM (zSv_of (zqE_sw hE hO)) (zFv_of fm) h01
    have er := fun Q9 => c241m (L := L) (M := zwI N g1) (s := s) (n := w) (Q := Q9) hN (by omega) sw h01
    have ex : (fun (x _ : Int) => if w = 0 then x else M.2.1 (14 + 14 * s) 11 + M.2.1 (14 + 14 * s) 13 - x) = (fun x _ => if w = 1 then zrsd g1 s 0 + zrsd g1 s 2 - x else x) := by
      funext x y
      rw [f1, f3]
      rcases h01 with q | q <;> subst q
      · rw [if_pos rfl, if_neg (by omega)]
      · rw [if_pos rfl, if_neg (by omega)]
    have ey : (fun (_ y : Int) => if w = 0 then M.2.1 (14 + 14 * s) 12 + M.2.1 (14 + 14 * s) 14 - y else y) = (fun _ y => if w = 1 then y else zrsd g1 s 1 + zrsd g1 s 3 - y) := by
      funext x y
      rw [f2, f4]
      rcases h01 with q | q <;> subst q
      · rw [if_pos rfl, if_neg (by omega)]
      · rw [if_pos rfl, if_neg (by omega)]
    rw [ex, ey] at ec
    generalize egx : (fun (x _ : Int) => if w = 1 then zrsd g1 s 0 + zrsd g1 s 2 - x else x) = gx at *
    generalize egy : (fun (_ y : Int) => if w = 1 then y else zrsd g1 s 1 + zrsd g1 s 3 - y) = gy at *
    have er2 : ∀ Q9 : zO → zM → Prop, zFR (zK L) 241 0 (zcall 241 [.inr (.inr 1153), .inl (s : Int), .inl 4, .inl w]) [] (zwI N g1) Q9 = Q9 (.inl (some (.inl 1))) (zwI N (zrmp g1 s (g1 1174 s).toNat 0 gx gy)) := fun Q9 => by
      rw [← egx, ← egy]
      exact er Q9
    have vx : ∀ x y, gx x y = if w = 1 then zrsd g1 s 0 + zrsd g1 s 2 - x else x := fun x y => by rw [← egx]
    have vy : ∀ x y, gy x y = if w = 1 then y else zrsd g1 s 1 + zrsd g1 s 3 - y := fun x y => by rw [← egy]
    have hP2 : zqP (zrmp g1 s (g1 1174 s).toNat 0 gx gy) s (zrsd g1 s 0) (zrsd g1 s 1) (zrsd g1 s 2) (zrsd g1 s 3) := by
      refine zqP_mp hP (fun x y x1 x2 y1 y2 => ?_) ?_ ?_ ?_ ?_ (fun a b c e h => ?_) bb
      · rw [vx, vy]
        split <;> omega
      · by_cases c : w = 1
        · exact Or.inr (Or.inl (fun x y e => by rw [vx, if_pos c]; omega))
        · exact Or.inl (fun x y e => by rw [vx, if_neg c]; omega)
      · by_cases c : w = 1
        · exact Or.inl (fun x y e => by rw [vx, if_pos c]; omega)
        · exact Or.inr (Or.inl (fun x y e => by rw [vx, if_neg c]; omega))
      · by_cases c : w = 1
        · exact Or.inl (fun x y e => by rw [vy, if_pos c]; omega)
        · exact Or.inr (Or.inl (fun x y e => by rw [vy, if_neg c]; omega))
      · by_cases c : w = 1
        · exact Or.inr (Or.inl (fun x y e => by rw [vy, if_pos c]; omega))
        · exact Or.inl (fun x y e => by rw [vy, if_neg c]; omega)
      · refine zqz_id a b c e h _ _ _ _ ?_ ?_
        · rw [vx, vx]
          split <;> omega
        · rw [vy, vy]
          split <;> omega
    have cc := zqC_mp (gx := gx) (gy := gy) (zqE_C hE) hO.1.2 (fun p hp => (hO.2.2 p hp).1.2)
    have dd := zqP_d hP2
    have t5 : zrmp g1 s (g1 1174 s).toNat 0 gx gy 1175 s = g1 1175 s := zrmp_o (by omega)
    have t4 : zrmp g1 s (g1 1174 s).toNat 0 gx gy 1174 s = g1 1174 s := zrmp_o (by omega)
    have oo : zqO (zrmp g1 s (g1 1174 s).toNat 0 gx gy) s := zqP_O hP2 (by rw [t4, t5]; exact tb) (by omega) (by omega)
    have ee : zqE (zmp M.2.1 (14 + 14 * s) (M.2.1 (14 + 14 * s) 10).toNat 0 gx gy) (zrmp g1 s (g1 1174 s).toNat 0 gx gy) s := by
      refine ⟨cc.1, cc.2.1, cc.2.2, ?_⟩
      rw [dd.1, dd.2.1, dd.2.2.1, dd.2.2.2, zmp_o _ (by omega), zmp_o _ (by omega), zmp_o _ (by omega), zmp_o _ (by omega)]
      exact ⟨f1, f2, f3, f4⟩
    have hj1 : zrmp g1 s (g1 1174 s).toNat 0 gx gy 1158 k = 4 := (zrmp_o (by omega)).trans j1g
    refine ⟨zmp M.2.1 (14 + 14 * s) (M.2.1 (14 + 14 * s) 10).toNat 0 gx gy, zu2 (zrmp g1 s (g1 1174 s).toNat 0 gx gy) 1153 36 (zrcs (zrmp g1 s (g1 1174 s).toNat 0 gx gy) s (zrmp g1 s (g1 1174 s).toNat 0 gx gy 1174 s).toNat), zcorn (zN M.2.1 (14 + 14 * s)) (M.2.1 (14 + 14 * s) 10).toNat, 1, fun Q => c10_4 (v := zcorn (zN M.2.1 (14 + 14 * s)) (M.2.1 (14 + 14 * s) 10).toNat) (M9 := zwI M (zmp M.2.1 (14 + 14 * s) (M.2.1 (14 + 14 * s) 10).toNat 0 gx gy)) hM (zqR_01 h) hk hk hg j0 hs e2 (fun Q9 => by rw [h9]; exact ec Q9), e 1 _ (Or.inr rfl) (fun Q9 => c208_4 (x := 0) (M10 := N) (M := zwI N g1) hN hk hs j1g (fun Q8 => c237_4 (M9 := zwI N (zrmp g1 s (g1 1174 s).toNat 0 gx gy)) (M := zwI N g1) hN hk hs j1g er2 (Or.inr rfl) hN (zqO_sw oo) hj1) (Or.inr rfl)), fun b j hb => zmp_o _ (by omega) _ _ _ _ _, fun b j hb => ?_, fun j h1 h2 h3 => ?_, Or.inr ⟨rfl, ?_, ?_, zqR_n hk (zqQ_geo h1 hs (fun b j hb => zmp_o _ (by omega) _ _ _ _ _) (fun b j hb h36 => ?_) (zqE_36 ⟨ee, oo⟩))⟩⟩
    · rw [zu2_sj (by omega), zrmp_q (by omega), ← eg1]
      exact zqg1_o (by omega)
    · rw [zu2_sj (by omega), zrmp_q (by omega), ← eg1]
      exact zu2_i h2 _ _ _ _
    · exact (zcorn_b (fun p hp => by
        obtain ⟨q1, _⟩ := z3 p (by omega)
        have := (hO.2.2 p (by omega)).1
        omega)).1
    · rw [zu2_eq, t4, ← z2]
      refine (zcorn_r _ (fun p hp => ?_)).symm
      rw [show zrN (zrmp g1 s (M.2.1 (14 + 14 * s) 10).toNat 0 gx gy) s p = zrN g1 s p from zrmp_o (by omega)]
      exact (z3 p (by omega)).1
    · rw [zu2_sj (by omega), zrmp_q hb]
theorem zqS_5 (hM : zLay M.2.2.2) (hN : zLayN N.2.2.2) (hk : k < 60) (h : zqR k M.2.1 N.2.1) (hj : zqJ1 M N k 5) (h8 : M.2.1 (855 + 4 * k) 8 = N.2.1 1161 (4 * k + 1) ∧ 2 ≤ N.2.1 1161 (4 * k + 1) ∧ N.2.1 1161 (4 * k + 1) ≤ 4) : zqS L k M N := by
  obtain ⟨⟨j0, j1⟩, j2, j3⟩ := hj
  rcases zqS_sh (L := L) hM hN hk h j2 (Or.inl j3) (by omega) with no | ⟨s, hs, e2, e4, ht, hg, e⟩
  · exact no
  · have h1 := zqR_g1 (k := k) h
    have j1g : zqg1 N.2.1 k 1158 k = 5 := (zqg1_o (by omega)).trans j1
    generalize eu : N.2.1 1161 (4 * k + 1) = w at *
    obtain ⟨h8, hw⟩ := h8
    generalize eg1 : zqg1 N.2.1 k = g1 at *
    obtain ⟨hE, hO⟩ := h1.2.2.2.2.2.2.2.1 s hs (by rw [← eg1]; exact (zqg1_o (by omega)).trans ht)
    have hP := zqO_P hO
    obtain ⟨m1, m2⟩ := zqO_fm hO
    have tb := hO.2.1
    have sw := zqO_sw hO
    have bb := hP.2.2.2.2
    have hE2 := hE
    obtain ⟨z1, z2, z3, f1, f2, f3, f4⟩ := hE2
    have fm : zFm M.2.1 (14 + 14 * s) := by unfold zFm; omega
    have ic : zgrc M.2.1 (14 + 14 * s) w ↔ (zrsd g1 s 0 + w * (zrsd g1 s 2 - zrsd g1 s 0) ≤ 60 ∧ zrsd g1 s 1 + w * (zrsd g1 s 3 - zrsd g1 s 1) ≤ 60) := by
      unfold zgrc
      rw [f1, f2, f3, f4]
    have mono : ∀ a b : Int, a ≤ b → w * a ≤ w * b := fun a b q => Int.mul_le_mul_of_nonneg_left q (by omega)
    have mz : ∀ a : Int, 0 ≤ a → 0 ≤ w * a := fun a q => Int.mul_nonneg (by omega) q
    have on : zgrc M.2.1 (14 + 14 * s) w → zOn M.2.1 (14 + 14 * s) (fun x _ => M.2.1 (14 + 14 * s) 11 + w * (x - M.2.1 (14 + 14 * s) 11)) (fun _ y => M.2.1 (14 + 14 * s) 12 + w * (y - M.2.1 (14 + 14 * s) 12)) := fun c p j hp hj => by
      obtain ⟨c1, c2⟩ := ic.mp c
      rw [z2] at hp
      obtain ⟨q1, q2⟩ := z3 p hp
      rw [q1] at hj
      obtain ⟨x1, y1⟩ := q2 j hj
      have fr := zqO_fr hO hp hj
      show 0 ≤ M.2.1 (14 + 14 * s) 11 + w * (zX M.2.1 (14 + 14 * s) p j - M.2.1 (14 + 14 * s) 11) ∧ M.2.1 (14 + 14 * s) 11 + w * (zX M.2.1 (14 + 14 * s) p j - M.2.1 (14 + 14 * s) 11) ≤ 60 ∧ 0 ≤ M.2.1 (14 + 14 * s) 12 + w * (zY M.2.1 (14 + 14 * s) p j - M.2.1 (14 + 14 * s) 12) ∧ M.2.1 (14 + 14 * s) 12 + w * (zY M.2.1 (14 + 14 * s) p j - M.2.1 (14 + 14 * s) 12) ≤ 60
      rw [x1, y1, f1, f2]
      have a1 := mono (zrX g1 s p j - zrsd g1 s 0) (zrsd g1 s 2 - zrsd g1 s 0) (by omega)
      have a2 := mono (zrY g1 s p j - zrsd g1 s 1) (zrsd g1 s 3 - zrsd g1 s 1) (by omega)
      have a3 := mz (zrX g1 s p j - zrsd g1 s 0) (by omega)
      have a4 := mz (zrY g1 s p j - zrsd g1 s 1) (by omega)
      omega
    have ec := fun Q9 => c23 (L := L) (M := M) (Q := Q9) (n := w) (zShA_i hs) hM (zqE_sw hE hO) fm (by omega) on
    by_cases c : zgrc M.2.1 (14 + 14 * s) w
    · have c2 := ic.mp c
      have er := fun Q9 => c241g (L := L) (M := zwI N g1) (s := s) (n := w) (Q := Q9) hN (by omega) sw hw c2
      generalize egx : (fun (x _ : Int) => zrsd g1 s 0 + w * (x - zrsd g1 s 0)) = gx at *
      generalize egy : (fun (_ y : Int) => zrsd g1 s 1 + w * (y - zrsd g1 s 1)) = gy at *
      have er2 : ∀ Q9 : zO → zM → Prop, zFR (zK L) 241 0 (zcall 241 [.inr (.inr 1153), .inl (s : Int), .inl 5, .inl w]) [] (zwI N g1) Q9 = Q9 (.inl (some (.inl 1))) (zwI N (zrmp g1 s (g1 1174 s).toNat 0 gx gy)) := fun Q9 => by
        rw [← egx, ← egy]
        exact er Q9
      have vx : ∀ x y, gx x y = zrsd g1 s 0 + w * (x - zrsd g1 s 0) := fun x y => by rw [← egx]
      have vy : ∀ x y, gy x y = zrsd g1 s 1 + w * (y - zrsd g1 s 1) := fun x y => by rw [← egy]
      have ew : zgrw M.2.1 (14 + 14 * s) w = zfnd (zmp M.2.1 (14 + 14 * s) (M.2.1 (14 + 14 * s) 10).toNat 0 gx gy) (14 + 14 * s) := by
        unfold zgrw
        rw [f1, f2, egx, egy]
      have hP2 : zqP (zrmp g1 s (g1 1174 s).toNat 0 gx gy) s (zrsd g1 s 0) (zrsd g1 s 1) (zrsd g1 s 0 + w * (zrsd g1 s 2 - zrsd g1 s 0)) (zrsd g1 s 1 + w * (zrsd g1 s 3 - zrsd g1 s 1)) := by
        refine zqP_mp hP (fun x y x1 x2 y1 y2 => ?_) (Or.inl (fun x y e => ?_)) (Or.inr (Or.inl (fun x y e => ?_))) (Or.inl (fun x y e => ?_)) (Or.inr (Or.inl (fun x y e => ?_))) (fun a b c e h => ?_) bb
        · rw [vx, vy]
          have a1 := mono (x - zrsd g1 s 0) (zrsd g1 s 2 - zrsd g1 s 0) (by omega)
          have a2 := mono (y - zrsd g1 s 1) (zrsd g1 s 3 - zrsd g1 s 1) (by omega)
          have a3 := mz (x - zrsd g1 s 0) (by omega)
          have a4 := mz (y - zrsd g1 s 1) (by omega)
          omega
        · rw [vx, e, Int.sub_self, Int.mul_zero]
          omega
        · rw [vx, e]
        · rw [vy, e, Int.sub_self, Int.mul_zero]
          omega
        · rw [vy, e]
        · have m := zcg_m (n := w) (by omega) h
          rw [vx, vx, vy, vy]
          have q1 : zrsd g1 s 0 + w * (c - zrsd g1 s 0) - (zrsd g1 s 0 + w * (a - zrsd g1 s 0)) = w * (c - a) := by grind
          have q2 : zrsd g1 s 1 + w * (e - zrsd g1 s 1) - (zrsd g1 s 1 + w * (b - zrsd g1 s 1)) = w * (e - b) := by grind
          rw [q1, q2, Int.natAbs_mul, Int.natAbs_mul, Int.natCast_mul, Int.natCast_mul, Int.natAbs_of_nonneg (show 0 ≤ w by omega)]
          exact m
      have ee := zqE_map hE hP hP2
      rw [← ew] at ee
      have dd := zqP_d hP2
      have t5 : zrmp g1 s (g1 1174 s).toNat 0 gx gy 1175 s = g1 1175 s := zrmp_o (by omega)
      have t4 : zrmp g1 s (g1 1174 s).toNat 0 gx gy 1174 s = g1 1174 s := zrmp_o (by omega)
      have oo : zqO (zrmp g1 s (g1 1174 s).toNat 0 gx gy) s := zqP_O hP2 (by rw [t4, t5]; exact tb) c2.1 c2.2
      have hj1 : zrmp g1 s (g1 1174 s).toNat 0 gx gy 1158 k = 5 := (zrmp_o (by omega)).trans j1g
      have y13 := ee.2.2.2.2.2.1
      have go : ∀ b j, (b < 14 + 14 * s ∨ 28 + 14 * s ≤ b ∨ (b = 14 + 14 * s ∧ (j < 11 ∨ 15 ≤ j))) → zgrw M.2.1 (14 + 14 * s) w b j = M.2.1 b j := fun b j hb => by
        rw [ew, zfnd_o (by omega), zmp_o _ (by omega)]
      have pos := zqO_fm oo
      refine ⟨zgrw M.2.1 (14 + 14 * s) w, zu2 (zrmp g1 s (g1 1174 s).toNat 0 gx gy) 1153 36 (zrsd (zrmp g1 s (g1 1174 s).toNat 0 gx gy) s 2), zgrw M.2.1 (14 + 14 * s) w (14 + 14 * s) 13, 1, fun Q => c10_5 (v := zgrw M.2.1 (14 + 14 * s) w (14 + 14 * s) 13) (M9 := zwI M (zgrw M.2.1 (14 + 14 * s) w)) hM (zqR_01 h) hk hk hg j0 hs e2 (fun Q9 => ?_), e 1 _ (Or.inr rfl) (fun Q9 => c208_5 (x := 0) (M10 := N) (M := zwI N g1) hN hk hs j1g (fun Q8 => c237_5 (M9 := zwI N (zrmp g1 s (g1 1174 s).toNat 0 gx gy)) (M := zwI N g1) hN hk hs j1g er2 (Or.inr rfl) hN (zqO_sw oo) hj1) (Or.inr rfl)), fun b j hb => go b j (by omega), fun b j hb => ?_, fun j h1 h2 h3 => ?_, Or.inr ⟨rfl, ?_, ?_, zqR_n hk (zqQ_geo h1 hs go (fun b j hb h36 => ?_) (zqE_36 ⟨ee, oo⟩))⟩⟩
      · rw [h8, ec]
        exact propext ⟨fun q => q.1 c, fun q => ⟨fun _ => q, fun q2 => absurd c q2⟩⟩
      · rw [zu2_sj (by omega), zrmp_q (by omega), ← eg1]
        exact zqg1_o (by omega)
      · rw [zu2_sj (by omega), zrmp_q (by omega), ← eg1]
        exact zu2_i h2 _ _ _ _
      · rw [y13]
        unfold zrFm at pos
        omega
      · rw [zu2_eq, y13]
      · rw [zu2_sj (by omega), zrmp_q hb]
    · have c2 := fun q => c (ic.mpr q)
      have er := fun Q9 => c241x (L := L) (M := zwI N g1) (s := s) (n := w) (Q := Q9) hN (by omega) sw hw c2
      refine ⟨M.2.1, zu2 g1 1153 36 (zrsd g1 s 2), -1, 0, fun Q => c10_5 (v := -1) (M9 := M) hM (zqR_01 h) hk hk hg j0 hs e2 (fun Q9 => ?_), e 0 _ (Or.inl rfl) (fun Q9 => c208_5 (x := 0) (M10 := N) (M := zwI N g1) hN hk hs j1g (fun Q8 => c237_5 (M9 := zwI N g1) (M := zwI N g1) hN hk hs j1g er (Or.inl rfl) hN sw j1g) (Or.inl rfl)), fun _ _ _ => rfl, fun b j hb => ?_, fun j h1 h2 h3 => ?_, Or.inl ⟨rfl, rfl, zqR_keep (fun _ _ _ _ _ _ _ => rfl) (zqR_ch h) (fun b j b1 b2 _ => zu2_sj (by omega)) (zu2_sj (by omega)) h1⟩⟩
      · rw [h8, ec]
        exact propext ⟨fun q => q.2 c, fun q => ⟨fun q2 => absurd q2 c, fun _ => q⟩⟩
      · rw [zu2_sj (by omega), ← eg1]
        exact zqg1_o (by omega)
      · rw [zu2_sj (by omega), ← eg1]
        exact zu2_i h2 _ _ _ _
end ZSHAPEQ
end SG_CB_shape
section SG_CC_moveq
/-! moved, in both programs -/
section ZMOVEQ
variable {n : Nat} {f g f' g' : Nat → Nat → Int} {i s : Nat}
theorem zbt_one {s : Nat} (hs : s < 64) (j : Nat) : zbt (Int64.ofInt 1 <<< ((Int32.ofInt (s : Int)).toInt64 &&& 63)) j = decide (j = s) := by
  have h := zbt_or (x := Int64.ofInt 0) hs j
  rw [zbt_z, Bool.false_or] at h
  rw [← h]
  congr 1
  apply Int64.toBitVec_inj.mp
  show _ = 0#64 ||| _
  exact (BitVec.zero_or).symm
/-- what is chosen, in both programs -/
theorem zqch0 (h : zqR n f g) (hs : s < 60) (ts : g 1166 s = 1) {fl : Int} (hf : fl ≠ 0) {j : Nat} (hj : j < 60) : (zchs f s fl 8 j ≠ 0 ↔ zbt (Int64.ofInt 1 <<< ((Int32.ofInt (s : Int)).toInt64 &&& 63)) j = true) := by
  rw [zbt_one (by omega), decide_eq_true_iff]
  unfold zchs
  rw [if_pos (Or.inl hf)]
  unfold zchr
  rw [if_pos ⟨rfl, hj⟩, if_neg (by omega)]
  by_cases e : j = s
  · rw [if_pos e]; exact ⟨fun _ => e, fun _ => by omega⟩
  · rw [if_neg e]; exact ⟨fun h => absurd rfl h, fun h => absurd h e⟩
theorem zqch1 (h : zqR n f g) (hs : s < 60) (ts : g 1166 s = 1) {j : Nat} (hj : j < 60) : (zchs f s 0 8 j ≠ 0 ↔ zbt (zsts (zrtg g s) 60) j = true) := by
  have e : zchs f s 0 8 j = zcho f s j := by
    unfold zchs zcho zchr
    rw [if_pos ⟨rfl, hj⟩]
    by_cases c : zotm f s = -1
    · have eK : (if (0 : Int) ≠ 0 ∨ zotm f s = -1 then (0 : Nat) else 60) = 0 := if_pos (Or.inr c)
      rw [eK, if_pos c, if_neg (by omega)]
    · have eK : (if (0 : Int) ≠ 0 ∨ zotm f s = -1 then (0 : Nat) else 60) = 60 := if_neg (fun q => q.elim (fun q => q rfl) c)
      rw [eK, if_neg c, if_pos hj]
  rw [e, zqcho h hs ts hj, zbt_sts _ 60 (by omega), decide_eq_true hj, Bool.true_and]
  by_cases c : zrtg g s j = true
  · rw [if_pos c]; exact ⟨fun _ => c, fun _ => by omega⟩
  · rw [if_neg c]; exact ⟨fun h => absurd rfl h, fun h => absurd h c⟩
theorem zif1 {a k q Z : Int} : (if (if a ≠ 0 ∧ k ≠ q then (1 : Int) else 0) = 0 then 0 else Z) = if a = 0 then 0 else if k = q then 0 else Z := by
  by_cases h1 : a = 0 <;> by_cases h2 : k = q <;> simp [h1, h2]
/-- up the leaders -/
theorem zqfs {P : Nat → Prop} {u v kd kr ch : Nat → Int} {cb : Nat → Bool} {dx : Int} (hP : ∀ i, P i → (u i = v i ∧ kd i = kr i ∧ (ch i ≠ 0 ↔ cb i = true)) ∧ (v i = -1 ∨ (0 ≤ v i ∧ P (v i).toNat))) : ∀ (K : Nat) (x a b : Int), (x = -1 ∨ (0 ≤ x ∧ P x.toNat)) → zby1 (zfs u kd ch K x a b).1 dx = (if a = 0 then 0 else zbv v kr cb 2 dx K x) ∧ zby1 (zfs u kd ch K x a b).2 dx = (if b = 0 then 0 else zbv v kr cb 1 dx K x)
  | 0, x, a, b, _ => by
    show (if (0 : Int) = 0 then 0 else dx) = (if a = 0 then 0 else 0) ∧ (if (0 : Int) = 0 then 0 else dx) = (if b = 0 then 0 else 0)
    rw [if_pos rfl]
    constructor <;> split <;> rfl
  | K + 1, x, a, b, hx => by
    rw [zfs_s, zbv_s, zbv_s]
    by_cases h1 : x = -1
    · rw [if_pos h1, if_pos h1, if_pos h1]
      show (if (0 : Int) = 0 then 0 else dx) = (if a = 0 then 0 else 0) ∧ (if (0 : Int) = 0 then 0 else dx) = (if b = 0 then 0 else 0)
      rw [if_pos rfl]
      constructor <;> split <;> rfl
    · rw [if_neg h1, if_neg h1, if_neg h1]
      obtain ⟨⟨p1, p2, p3⟩, p4⟩ := hP x.toNat (hx.resolve_left h1).2
      by_cases h2 : cb x.toNat = true
      · rw [if_pos (p3.mpr h2), if_pos h2, if_pos h2]
        exact ⟨rfl, rfl⟩
      · rw [if_neg (fun q => h2 (p3.mp q)), if_neg h2, if_neg h2, p1, p2]
        obtain ⟨i1, i2⟩ := zqfs (dx := dx) hP K (v x.toNat) (if a ≠ 0 ∧ kr x.toNat ≠ 2 then 1 else 0) (if b ≠ 0 ∧ kr x.toNat ≠ 1 then 1 else 0) p4
        rw [i1, i2]
        exact ⟨zif1, zif1⟩
/-- one shape shifted on both boards -/
theorem zqQ_shift (h : zqR n f g) (hs : s < 60) (ts : g 1166 s = 1) {dx dy : Int} (hx : 0 ≤ zrsd g s 0 + dx ∧ zrsd g s 2 + dx ≤ 60) (hy : 0 ≤ zrsd g s 1 + dy ∧ zrsd g s 3 + dy ≤ 60) : zqR n (zshf f (14 + 14 * s) dx dy) (zrmp g s (g 1174 s).toNat 0 (fun x _ => x + dx) (fun _ y => y + dy)) := by
  obtain ⟨hE, hO⟩ := h.2.2.2.2.2.2.2.1 s hs ts
  have hP := zqO_P hO
  obtain ⟨m1, m2⟩ := zqO_fm hO
  have hP2 : zqP (zrmp g s (g 1174 s).toNat 0 (fun x _ => x + dx) (fun _ y => y + dy)) s (zrsd g s 0 + dx) (zrsd g s 1 + dy) (zrsd g s 2 + dx) (zrsd g s 3 + dy) := by
    refine zqP_mp hP (fun x y _ _ _ _ => ?_) (Or.inl (fun x y e => ?_)) (Or.inr (Or.inl (fun x y e => ?_))) (Or.inl (fun x y e => ?_)) (Or.inr (Or.inl (fun x y e => ?_))) (fun a b c e h => zqz_id a b c e h _ _ _ _ (Or.inl ?_) (Or.inl ?_)) (by omega)
    · show (zrsd g s 0 + dx ≤ x + dx ∧ x + dx ≤ zrsd g s 2 + dx) ∧ zrsd g s 1 + dy ≤ y + dy ∧ y + dy ≤ zrsd g s 3 + dy
      omega
    · show x + dx = _
      omega
    · show x + dx = _
      omega
    · show y + dy = _
      omega
    · show y + dy = _
      omega
    · show c + dx = a + dx + (c - a)
      omega
    · show e + dy = b + dy + (e - b)
      omega
  have cc := zqC_mp (gx := fun x _ => x + dx) (gy := fun _ y => y + dy) (zqE_C hE) hO.1.2 (fun p hp => (hO.2.2 p hp).1.2)
  have dd := zqP_d hP2
  have t5 : zrmp g s (g 1174 s).toNat 0 (fun x _ => x + dx) (fun _ y => y + dy) 1175 s = g 1175 s := zrmp_o (by omega)
  have t4 : zrmp g s (g 1174 s).toNat 0 (fun x _ => x + dx) (fun _ y => y + dy) 1174 s = g 1174 s := zrmp_o (by omega)
  have oo : zqO (zrmp g s (g 1174 s).toNat 0 (fun x _ => x + dx) (fun _ y => y + dy)) s := zqP_O hP2 (by rw [t4, t5]; exact hO.2.1) (by omega) (by omega)
  obtain ⟨_, _, _, f1, f2, f3, f4⟩ := hE
  have ee : zqE (zshf f (14 + 14 * s) dx dy) (zrmp g s (g 1174 s).toNat 0 (fun x _ => x + dx) (fun _ y => y + dy)) s := by
    obtain ⟨c1, c2, c3⟩ := cc
    unfold zshf
    refine ⟨by rw [zfr_9 (by omega)]; exact c1, by rw [zfr_9 (by omega)]; exact c2, fun p hp => ?_, ?_⟩
    · unfold zN zX zY
      rw [zfr_9 (by omega)]
      refine ⟨(c3 p hp).1, fun k hk => ?_⟩
      rw [zfr_9 (by omega), zfr_9 (by omega)]
      exact (c3 p hp).2 k hk
    · rw [zfr_l, zfr_d, zfr_r, zfr_u, dd.1, dd.2.1, dd.2.2.1, dd.2.2.2, f1, f2, f3, f4]
      exact ⟨rfl, rfl, rfl, rfl⟩
  refine zqQ_geo h hs (fun b j hb => ?_) (fun b j hb _ => zrmp_q hb) ⟨ee, oo⟩
  unfold zshf
  rw [zfr_9 (by omega), zmp_o _ (by omega)]
/-- what goes how far, in both programs -/
theorem zqvals (h : zqR n f g) (hn : n ≤ 59) {cb : Nat → Bool} (hc : ∀ j, j < 60 → (f 8 j ≠ 0 ↔ cb j = true)) {dx dy : Int} (hi : i < 60) (ti : g 1166 i = 1) : zvx f dx i = zrlm g cb dx dy 1186 i ∧ zvy f dy i = zrlm g cb dx dy 1187 i ∧ (zrlm g cb dx dy 1185 i = 0 ∨ zrlm g cb dx dy 1185 i = 1) ∧ (zrlm g cb dx dy 1185 i ≠ 1 → zrlm g cb dx dy 1186 i = 0 ∧ zrlm g cb dx dy 1187 i = 0) := by
  have lv := zqR_lv h
  have lk : ∀ i, (i < 60 ∧ g 1166 i = 1) → zkd f i = g 1173 i := fun i hi => (h.2.2.2.1.1 i hi.1 hi.2).2.1
  have inn := (h.1.2 i hi).2.2 ti
  obtain ⟨K0, hK0⟩ := zqR_le h i inn
  have ends : zrne (g 1172) 60 (i : Int) := zrne_u (n + 1) 60 _ (by omega) (zqpig (zqR_lb h) K0 i inn hK0)
  have q := fun (dd : Int) => zqfs (P := fun i => i < 60 ∧ g 1166 i = 1) (u := zld f) (v := g 1172) (kd := zkd f) (kr := g 1173) (ch := f 8) (cb := cb) (dx := dd) (fun i hi => ⟨⟨(lv i hi).1, lk i hi, hc i hi.1⟩, (lv i hi).2⟩) 60 (i : Int) 1 1 (Or.inr ⟨by omega, by rw [Int.toNat_natCast]; exact ⟨hi, ti⟩⟩)
  have b2 := fun (dd : Int) => zbv_e (nx := g 1172) (kd := g 1173) (ch := cb) (q := 2) (d := dd) 60 61 (i : Int) ends (by omega)
  have b1 := fun (dd : Int) => zbv_e (nx := g 1172) (kd := g 1173) (ch := cb) (q := 1) (d := dd) 60 61 (i : Int) ends (by omega)
  have m := zmo_e (nx := g 1172) (ch := cb) 60 61 (i : Int) ends (by omega)
  have e1 : zrlm g cb dx dy 1186 i = zbv (g 1172) (g 1173) cb 2 dx 61 (i : Int) := by
    unfold zrlm
    rw [zmv_2]
    exact if_pos hi
  have e2 : zrlm g cb dx dy 1187 i = zbv (g 1172) (g 1173) cb 1 dy 61 (i : Int) := by
    unfold zrlm
    rw [zmv_3]
    exact if_pos hi
  have e0 : zrlm g cb dx dy 1185 i = if zmo (g 1172) cb 61 (i : Int) = true then 1 else 0 := by
    unfold zrlm
    rw [zmv_1]
    exact if_pos hi
  have t := zqR_t h hi
  rw [e1, e2, e0]
  refine ⟨?_, ?_, ?_, fun hz => ?_⟩
  · unfold zvx zhb
    rw [if_pos (by omega), (q dx).1, if_neg (by omega), b2]
  · unfold zvy zhb
    rw [if_pos (by omega), (q dy).2, if_neg (by omega), b1]
  · split
    · exact Or.inr rfl
    · exact Or.inl rfl
  · have : zmo (g 1172) cb 61 (i : Int) = false := by
      cases c : zmo (g 1172) cb 61 (i : Int)
      · rfl
      · rw [c] at hz; exact absurd rfl hz
    exact ⟨zbv_0 61 _ this, zbv_0 61 _ this⟩
theorem zqnot (h : zqR n f g) {cb : Nat → Bool} {dx dy : Int} (hi : i < 60) (ti : g 1166 i ≠ 1) (hb : cb i = true → g 1166 i = 1) : zrlm g cb dx dy 1185 i = 0 := by
  have l := h.2.2.2.1.2.1 i hi
  have l1 : g 1172 i = -1 := by
    by_cases c : 0 ≤ g 1172 i
    · exact absurd (l.2.2 c).1 ti
    · omega
  have e0 : zrlm g cb dx dy 1185 i = if zmo (g 1172) cb 61 (i : Int) = true then 1 else 0 := by
    unfold zrlm
    rw [zmv_1]
    exact if_pos hi
  have z : zmo (g 1172) cb 61 (i : Int) = false := by
    rw [zmo_s, if_neg (by omega), Int.toNat_natCast, if_neg (fun c => ti (hb c)), l1, zmo_s, if_pos rfl]
  rw [e0, z]
  rfl
theorem zrlm_d {cb : Nat → Bool} {dx dy : Int} (i w : Nat) : zrsd (zrlm g cb dx dy) i w = zrsd g i w := zrsd_cg (funext fun j => zrlm_o (by omega)) (funext fun j => zrlm_o (by omega)) (funext fun j => zrlm_o (by omega)) (funext fun j => zrlm_o (by omega)) i w
/-- whether all can go -/
theorem zqcan (h : zqR n f g) (hn : n ≤ 59) {cb : Nat → Bool} (hc : ∀ j, j < 60 → (f 8 j ≠ 0 ↔ cb j = true)) (hb : ∀ j, j < 60 → cb j = true → g 1166 j = 1) {dx dy : Int} : (∀ i, i < 60 → zgo f dx dy i) ↔ zcam (zrlm g cb dx dy) 60 := by
  have fr : ∀ i, i < 60 → g 1166 i = 1 → (f (14 + 14 * i) 11 = zrsd g i 0 ∧ f (14 + 14 * i) 12 = zrsd g i 1 ∧ f (14 + 14 * i) 13 = zrsd g i 2 ∧ f (14 + 14 * i) 14 = zrsd g i 3) ∧ zrFm g i := fun i hi ti => by
    obtain ⟨hE, hO⟩ := h.2.2.2.2.2.2.2.1 i hi ti
    exact ⟨hE.2.2.2, zqO_fm hO⟩
  constructor
  · intro a i hi hz
    have r := zqR_r01 h i hi
    by_cases ti : g 1166 i = 1
    · obtain ⟨v1, v2, v3, v4⟩ := zqvals (dx := dx) (dy := dy) h hn hc hi ti
      obtain ⟨⟨f1, f2, f3, f4⟩, fm⟩ := fr i hi ti
      have z := a i hi (by rw [zqR_t h hi]; exact ti)
      unfold zcs at z
      unfold zcmv
      rw [zrlm_d, zrlm_d, zrlm_d, zrlm_d]
      rw [f1, f2, f3, f4, v1, v2] at z
      omega
    · exact absurd (zqnot h hi ti (hb i hi)) hz
  · intro a i hi ti
    rw [zqR_t h hi] at ti
    obtain ⟨v1, v2, v3, v4⟩ := zqvals (dx := dx) (dy := dy) h hn hc hi ti
    obtain ⟨⟨f1, f2, f3, f4⟩, fm⟩ := fr i hi ti
    unfold zcs
    rw [f1, f2, f3, f4, v1, v2]
    by_cases c : zrlm g cb dx dy 1185 i = 1
    · have z := a i hi (by omega)
      unfold zcmv at z
      rw [zrlm_d, zrlm_d, zrlm_d, zrlm_d] at z
      omega
    · obtain ⟨w1, w2⟩ := v4 c
      unfold zrFm at fm
      omega
/-- all shifted -/
theorem zqQ_moved (h : zqR n f g) (hn : n ≤ 59) {cb : Nat → Bool} (hc : ∀ j, j < 60 → (f 8 j ≠ 0 ↔ cb j = true)) (hb : ∀ j, j < 60 → cb j = true → g 1166 j = 1) {dx dy : Int} (ha : zcam (zrlm g cb dx dy) 60) : zqR n (zshal (zvs f dx dy 60) (zvx f dx) (zvy f dy) 60) (zrmv g cb dx dy) ∧ zshn (zvs f dx dy 60) (zvx f dx) (zvy f dy) 60 = zcnt (zrmc (zrlm g cb dx dy)) 60 := by
  have h0 : zqR n (zvs f dx dy 60) (zrlm g cb dx dy) := zqR_keep (fun b j _ _ h9 h10 _ => zvs_o ⟨h9, h10⟩ _ _ _ _) (fun j hj => by rw [zvs_o (by omega)]; exact zqR_ch h j hj) (fun b j b1 b2 _ => zrlm_o (by omega)) (zrlm_o (by omega)) h
  have cond : ∀ i, i < 60 → ((zvs f dx dy 60 (14 + 14 * i) 0 = 1 ∧ (zvx f dx i ≠ 0 ∨ zvy f dy i ≠ 0)) ↔ zrmc (zrlm g cb dx dy) i = true) := fun i hi => by
    rw [zvs_o (by omega), zqR_t h hi]
    unfold zrmc
    rw [decide_eq_true_iff]
    by_cases ti : g 1166 i = 1
    · obtain ⟨v1, v2, v3, v4⟩ := zqvals (dx := dx) (dy := dy) h hn hc hi ti
      rw [v1, v2]
      by_cases c : zrlm g cb dx dy 1185 i = 1
      · exact ⟨fun q => ⟨c, q.2⟩, fun q => ⟨ti, q.2⟩⟩
      · obtain ⟨w1, w2⟩ := v4 c
        exact ⟨fun q => absurd q.2 (by omega), fun q => absurd q.1 c⟩
    · have z := zqnot (dx := dx) (dy := dy) h hi ti (hb i hi)
      exact ⟨fun q => absurd q.1 ti, fun q => absurd q.1 (by omega)⟩
  have main : ∀ k, k ≤ 60 → zqR n (zshal (zvs f dx dy 60) (zvx f dx) (zvy f dy) k) (zrmf (zrlm g cb dx dy) k) ∧ zshn (zvs f dx dy 60) (zvx f dx) (zvy f dy) k = zcnt (zrmc (zrlm g cb dx dy)) k := by
    intro k
    induction k with
    | zero => exact fun _ => ⟨h0, rfl⟩
    | succ k ih =>
      intro hk
      obtain ⟨i1, i2⟩ := ih (by omega)
      rw [zshal_s, zshn_s, zrmf_s, zcnt_s]
      have cd := cond k (by omega)
      by_cases c : zrmc (zrlm g cb dx dy) k = true
      · have c2 := cd.mpr c
        rw [if_pos c2, if_pos c2, if_pos c, if_pos c, i2]
        have tk : g 1166 k = 1 := by
          have := c2.1
          rw [zvs_o (by omega), zqR_t h (by omega)] at this
          exact this
        obtain ⟨v1, v2, v3, v4⟩ := zqvals (dx := dx) (dy := dy) h hn hc (show k < 60 by omega) tk
        have eq : zrEq (zrmf (zrlm g cb dx dy) k) (zrlm g cb dx dy) k := ⟨zrmf_o (by omega) k, zrmf_o (by omega) k, fun p _ => zrmf_o (by omega) k, fun j j1 j2 => ⟨zrmf_p k j1, zrmf_p k j1⟩⟩
        obtain ⟨hE, hO⟩ := h0.2.2.2.2.2.2.2.1 k (by omega) ((zrlm_o (by omega)).trans tk)
        have ed := zrEq_d eq (zqO_sw hO)
        have cm := ha k (by omega) (by
          unfold zrmc at c
          rw [decide_eq_true_iff] at c
          omega)
        unfold zcmv at cm
        have e4 : zrmf (zrlm g cb dx dy) k 1174 k = zrlm g cb dx dy 1174 k := zrmf_o (by omega) k
        rw [v1, v2]
        refine ⟨?_, rfl⟩
        have := zqQ_shift (dx := zrlm g cb dx dy 1186 k) (dy := zrlm g cb dx dy 1187 k) i1 (show k < 60 by omega) ((zrmf_o (by omega) k).trans ((zrlm_o (by omega)).trans tk)) (by rw [ed, ed]; exact cm.1) (by rw [ed, ed]; exact cm.2)
        rw [e4] at this
        exact this
      · have c2 := fun q => c (cd.mp q)
        rw [if_neg c2, if_neg c2, if_neg c, if_neg c]
        exact ⟨i1, i2⟩
  exact main 60 (by omega)
theorem zqfirst {P : Nat → Prop} : ∀ m, ¬ (∀ i, i < m → P i) → ∃ i, i < m ∧ ¬ P i ∧ ∀ j, j < i → P j
  | 0, h => absurd (fun i hi => absurd hi (Nat.not_lt_zero i)) h
  | m + 1, h => by
    by_cases c : ∀ i, i < m → P i
    · exact ⟨m, by omega, fun q => h (fun i hi => by
        by_cases e : i = m
        · rw [e]; exact q
        · exact c i (by omega)), c⟩
    · obtain ⟨i, h1, h2, h3⟩ := zqfirst m c
      exact ⟨i, by omega, h2, h3⟩
variable {L k : Nat} {M N : zM}
/-- what both do with a chosen set -/
theorem zqmove (hM : zLay M.2.2.2) (hN : zLayN N.2.2.2) (hk : k < 60) (h : zqR k M.2.1 N.2.1) (hm : zMv M.2.1) {x : Int64} (hc : ∀ j, j < 60 → (M.2.1 8 j ≠ 0 ↔ zbt x j = true)) (hb : ∀ j, j < 60 → zbt x j = true → N.2.1 1166 j = 1) {dx dy : Int} (hx : -1000 ≤ dx ∧ dx ≤ 1000) (hy : -1000 ≤ dy ∧ dy ≤ 1000) : ∃ (F : Nat → Nat → Int) (v : Int), (∀ Q : zO → zM → Prop, zFR (zK L) 20 0 (zcall 20 [.inr (.inr 3), .inl dx, .inl dy]) [] M Q = Q (.inl (some (.inl v))) (zwI M F)) ∧ (∀ b j, (b < 3 ∨ 854 ≤ b) → F b j = M.2.1 b j) ∧ ((zcam (zrlm N.2.1 (zbt x) dx dy) 60 ∧ 0 ≤ v ∧ v = (zcnt (zrmc (zrlm N.2.1 (zbt x) dx dy)) 60 : Int) ∧ zqR k F (zrmv N.2.1 (zbt x) dx dy)) ∨ (¬ zcam (zrlm N.2.1 (zbt x) dx dy) 60 ∧ v = -1 ∧ zqR k F (zrlm N.2.1 (zbt x) dx dy))) := by
  have can := zqcan (dx := dx) (dy := dy) h (by omega) hc hb
  by_cases c : ∀ i, i < 60 → zgo M.2.1 dx dy i
  · obtain ⟨m1, m2⟩ := zqQ_moved (dx := dx) (dy := dy) h (by omega) hc hb (can.mp c)
    refine ⟨_, _, fun Q => c20 hM hm hx hy c, fun b j hb => ?_, Or.inl ⟨can.mp c, by omega, by rw [m2], m1⟩⟩
    rw [zshal_o _ _ _ 60 (by omega), zvs_o (by omega)]
  · obtain ⟨i, hi, h2, h3⟩ := zqfirst 60 c
    refine ⟨_, _, fun Q => c20n hM hm hx hy hi h2 h3, fun b j hb => zvs_o (by omega) _ _ _ _, Or.inr ⟨fun q => c (can.mpr q), rfl, ?_⟩⟩
    exact zqR_keep (fun b j _ _ h9 h10 _ => zvs_o ⟨h9, h10⟩ _ _ _ _) (fun j hj => by rw [zvs_o (by omega)]; exact zqR_ch h j hj) (fun b j b1 b2 _ => zrlm_o (by omega)) (zrlm_o (by omega)) h
end ZMOVEQ
end SG_CC_moveq
