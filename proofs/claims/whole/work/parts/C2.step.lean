/-! one change on both boards -/
section ZSTEP
/-- the change's shape in both journals -/
def zqJs (M N : zM) (k : Nat) : Prop := M.2.1 (855 + 4 * k) 2 = N.2.1 1161 (4 * k) ∧ 0 ≤ N.2.1 1161 (4 * k) ∧ N.2.1 1161 (4 * k) < 60
/-- its kind in both journals -/
def zqJw (M N : zM) (k : Nat) (w : Int) : Prop := M.2.1 (855 + 4 * k) 0 = w ∧ N.2.1 1158 k = w
/-- the change is done on both boards alike, or on none -/
def zqS (L k : Nat) (M N : zM) : Prop := ∃ (f' g' : Nat → Nat → Int) (v b : Int), (∀ Q : zO → zM → Prop, zFR (zK L) 10 0 (zcall 10 [.inr (.inr 3), .inr (.inr (855 + 4 * k)), .inl (k : Int)]) [] M Q = Q (.inl (some (.inl v))) (zwI M f')) ∧ (∀ Q : zO → zM → Prop, zFR (zK L) 192 0 (zcall 192 [.inr (.inr 1153), .inl (k : Int)]) [] N Q = Q (.inl (some (.inl b))) (zwI N g')) ∧ (∀ c j, (c < 3 ∨ 854 ≤ c) → f' c j = M.2.1 c j) ∧ (∀ c j, (c < 1153 ∨ (1154 ≤ c ∧ c < 1166) ∨ 1189 ≤ c) → g' c j = N.2.1 c j) ∧ (∀ j, j ≠ 33 → j ≠ 36 → j ≠ 38 → g' 1153 j = N.2.1 1153 j) ∧ ((b = 0 ∧ v = -1 ∧ zqR k f' g') ∨ (b = 1 ∧ 0 ≤ v ∧ g' 1153 36 = v ∧ zqR (k + 1) f' g'))
/-- the number of the change noted -/
def zqg1 (g : Nat → Nat → Int) (k : Nat) : Nat → Nat → Int := zu2 g 1153 36 (k : Int)
theorem zqg1_o {g : Nat → Nat → Int} {k b j : Nat} (h : b ≠ 1153) : zqg1 g k b j = g b j := zu2_a h _ _ _ _
theorem zqg1_a {g : Nat → Nat → Int} {k b : Nat} (h : b ≠ 1153) : zqg1 g k b = g b := funext fun j => zqg1_o h
theorem zqR_g1 {n k : Nat} {f g : Nat → Nat → Int} (h : zqR n f g) : zqR n f (zqg1 g k) := zqR_keep (fun _ _ _ _ _ _ _ => rfl) (zqR_ch h) (fun b j h1 h2 _ => zqg1_o (by omega)) (zu2_i (by omega) _ _ _ _) h
variable {L k : Nat} {M N : zM} {s : Nat}
theorem zqS_no (hM : zLay M.2.2.2) (hk : k < 60) (h : zqR k M.2.1 N.2.1) (hg : ¬ zgua M.2.1 k) (e : ∀ Q : zO → zM → Prop, zFR (zK L) 192 0 (zcall 192 [.inr (.inr 1153), .inl (k : Int)]) [] N Q = Q (.inl (some (.inl 0))) (zwI N (zqg1 N.2.1 k))) : zqS L k M N :=
  ⟨M.2.1, zqg1 N.2.1 k, -1, 0, fun Q => c10n hM (zqR_01 h) hk hk hg, e, fun _ _ _ => rfl, fun c j hc => zqg1_o (by omega), fun j _ h2 _ => zu2_i h2 _ _ _ _, Or.inl ⟨rfl, rfl, zqR_g1 h⟩⟩
/-- a change of a shape: it is not there, or .. -/
theorem zqS_sh (hM : zLay M.2.2.2) (hN : zLay N.2.2.2) (hk : k < 60) (h : zqR k M.2.1 N.2.1) (hs : zqJs M N k) (h3 : M.2.1 (855 + 4 * k) 3 = -1 ∨ (0 ≤ M.2.1 (855 + 4 * k) 3 ∧ M.2.1 (855 + 4 * k) 3 < 60 ∧ M.2.1 (14 + 14 * (M.2.1 (855 + 4 * k) 3).toNat) 0 = 1)) (hw : N.2.1 1158 k ≠ 0 ∧ N.2.1 1158 k ≠ 12 ∧ N.2.1 1158 k ≠ 9 ∧ N.2.1 1158 k ≠ 15 ∧ N.2.1 1158 k ≠ 17) : zqS L k M N ∨ ∃ s : Nat, s < 60 ∧ M.2.1 (855 + 4 * k) 2 = (s : Int) ∧ N.2.1 1161 (4 * k) = (s : Int) ∧ N.2.1 1166 s = 1 ∧ zgua M.2.1 k ∧ ∀ (v : Int) (g' : Nat → Nat → Int), (v = 0 ∨ v = 1) → (∀ Q9 : zO → zM → Prop, zFR (zK L) 208 0 (zcall 208 [.inr (.inr 1153), .inl (k : Int), .inl (s : Int), .inl (N.2.1 1161 (4 * k + 1))]) [] (zwI N (zqg1 N.2.1 k)) Q9 = Q9 (.inl (some (.inl v))) (zwI N g')) → ∀ Q : zO → zM → Prop, zFR (zK L) 192 0 (zcall 192 [.inr (.inr 1153), .inl (k : Int)]) [] N Q = Q (.inl (some (.inl v))) (zwI N g') := by
  obtain ⟨a1, a2, a3⟩ := hs
  have es : ((N.2.1 1161 (4 * k)).toNat : Int) = N.2.1 1161 (4 * k) := by omega
  have t := zqR_t h (i := (N.2.1 1161 (4 * k)).toNat) (by omega)
  by_cases ht : N.2.1 1166 (N.2.1 1161 (4 * k)).toNat = 1
  · refine Or.inr ⟨(N.2.1 1161 (4 * k)).toNat, by omega, by omega, by omega, ht, ⟨Or.inr ⟨by omega, by omega, by rw [a1, t, ht]⟩, h3⟩, fun v g' hv e Q => ?_⟩
    rw [es] at e
    exact c192_ty (M9 := zwI N g') hN hk hw (zqR_r01 h) ⟨by omega, by omega, ht⟩ e hv
  · refine Or.inl (zqS_no hM hk h (fun hg => ?_) (fun Q => c192_tn (v := 0) (M9 := N) hN hk hw (zqR_r01 h) (fun hr => ht ?_)))
    · rcases hg.1 with h5 | ⟨_, _, h7⟩
      · omega
      · rw [a1, t] at h7
        exact ht h7
    · have h9 := hr.2.2
      rw [zu2_a (by omega)] at h9
      exact h9
end ZSTEP
