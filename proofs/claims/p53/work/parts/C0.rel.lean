section SG_C0_rel
/-! the class's board and the reference's, told alike -/
section ZREL
/-- who is there -/
def zqT (n : Nat) (f g : Nat → Nat → Int) : Prop := n ≤ 60 ∧ ∀ i, i < 60 → (g 1166 i = 0 ∨ g 1166 i = 1) ∧ f (14 + 14 * i) 0 = g 1166 i ∧ (g 1166 i = 1 → i < n)
/-- layers, colours, hands -/
def zqA (f g : Nat → Nat → Int) : Prop := ∀ i, i < 60 → g 1166 i = 1 → f (14 + 14 * i) 1 = g 1167 i ∧ f (14 + 14 * i) 2 = g 1168 i ∧ f (14 + 14 * i) 5 = g 1171 i ∧ (0 ≤ g 1167 i ∧ g 1167 i ≤ 3) ∧ 1 ≤ g 1168 i ∧ g 1168 i ≤ 9
/-- keys -/
def zqK (n : Nat) (f g : Nat → Nat → Int) : Prop := (∀ i, i < 60 → g 1166 i = 1 → f (14 + 14 * i) 3 = g 1169 i ∧ f (14 + 14 * i) 4 = g 1170 i ∧ 1 ≤ g 1169 i ∧ (1 ≤ g 1170 i ∧ g 1170 i ≤ 50) ∧ g 1169 i ≤ (n : Int) * g 1170 i) ∧ ∀ i j, i < 60 → j < 60 → i ≠ j → g 1166 i = 1 → g 1166 j = 1 → g 1167 i = g 1167 j → g 1169 i * g 1170 j ≠ g 1169 j * g 1170 i
/-- ties -/
def zqL (f g : Nat → Nat → Int) : Prop := (∀ i, i < 60 → g 1166 i = 1 → f (14 + 14 * i) 6 = g 1172 i ∧ f (14 + 14 * i) 7 = g 1173 i ∧ (g 1172 i = -1 → g 1173 i = -1)) ∧ (∀ i, i < 60 → -1 ≤ g 1172 i ∧ g 1172 i < 60 ∧ (0 ≤ g 1172 i → g 1166 i = 1 ∧ g 1166 (g 1172 i).toNat = 1)) ∧ ∀ i, i < 60 → zrne (g 1172) 60 (g 1172 i)
/-- groups -/
def zqG (n : Nat) (f g : Nat → Nat → Int) : Prop := ∀ i, i < 60 → (g 1166 i = 1 → f (14 + 14 * i) 8 = g 1180 i ∧ f 7 i = -1) ∧ (g 1166 i = 0 → f 7 i = g 1180 i) ∧ (g 1180 i = -1 ∨ ((i : Int) < g 1180 i ∧ g 1180 i < (n : Int) ∧ g 1166 (g 1180 i).toNat = 0))
/-- layers that are seen -/
def zqV (f g : Nat → Nat → Int) : Prop := (∀ l, l < 4 → (g 1181 l = 0 ∨ g 1181 l = 1) ∧ f 6 l = 1 - g 1181 l) ∧ ∀ i, i < 60 → (0 ≤ g 1167 i ∧ g 1167 i ≤ 3) ∧ 0 ≤ g 1168 i ∧ g 1168 i ≤ 9
/-- guides -/
def zqD (f g : Nat → Nat → Int) : Prop := f 11 0 = g 1153 33 ∧ (0 ≤ g 1153 33 ∧ g 1153 33 ≤ 8) ∧ ∀ k : Nat, (k : Int) < g 1153 33 → f 12 k = g 1183 k ∧ f 13 k = g 1182 k ∧ (g 1183 k = 0 ∨ g 1183 k = 1) ∧ 0 ≤ g 1182 k ∧ g 1182 k ≤ 60
/-- a shape's corners, table and frame -/
def zqE (f g : Nat → Nat → Int) (i : Nat) : Prop := f (14 + 14 * i) 9 = g 1175 i ∧ f (14 + 14 * i) 10 = g 1174 i ∧ (∀ p : Nat, (p : Int) < g 1174 i → zN f (14 + 14 * i) p = zrN g i p ∧ ∀ k : Nat, (k : Int) < zrN g i p → zX f (14 + 14 * i) p k = zrX g i p k ∧ zY f (14 + 14 * i) p k = zrY g i p k) ∧ f (14 + 14 * i) 11 = zrsd g i 0 ∧ f (14 + 14 * i) 12 = zrsd g i 1 ∧ f (14 + 14 * i) 13 = zrsd g i 2 ∧ f (14 + 14 * i) 14 = zrsd g i 3
/-- a shape as it may be -/
def zqO (g : Nat → Nat → Int) (i : Nat) : Prop := (1 ≤ g 1174 i ∧ g 1174 i ≤ 4) ∧ (0 ≤ g 1175 i ∧ (g 1175 i).toNat < 2 ^ 2 ^ (g 1174 i).toNat ∧ ¬ zhs (g 1175 i) 0) ∧ ∀ p : Nat, (p : Int) < g 1174 i → (3 ≤ zrN g i p ∧ zrN g i p ≤ 8) ∧ zpr (zrN g i p) (zrX g i p) (zrY g i p) 0 ∧ ∀ k : Nat, (k : Int) < zrN g i p → (0 ≤ zrX g i p k ∧ zrX g i p k ≤ 60) ∧ 0 ≤ zrY g i p k ∧ zrY g i p k ≤ 60
def zqF (f g : Nat → Nat → Int) : Prop := ∀ i, i < 60 → g 1166 i = 1 → zqE f g i ∧ zqO g i
/-- what lies in the class's board anyhow -/
def zqJ (f : Nat → Nat → Int) : Prop := (∀ i, i < 60 → zKy f (14 + 14 * i)) ∧ zLd f ∧ zGr f ∧ ∀ j, j < 60 → f 8 j = 0 ∨ f 8 j = 1
/-- the two boards after so many changes -/
def zqR (n : Nat) (f g : Nat → Nat → Int) : Prop := zqT n f g ∧ zqA f g ∧ zqK n f g ∧ zqL f g ∧ zqG n f g ∧ zqV f g ∧ zqD f g ∧ zqF f g ∧ zqJ f
variable {n : Nat} {f g f' g' : Nat → Nat → Int} {i : Nat}
-- what each part reads
theorem zqT_c (hf : ∀ i, i < 60 → f' (14 + 14 * i) 0 = f (14 + 14 * i) 0) (hg : ∀ i, i < 60 → g' 1166 i = g 1166 i) (h : zqT n f g) : zqT n f' g' :=
  ⟨h.1, fun i hi => by rw [hf i hi, hg i hi]; exact h.2 i hi⟩
theorem zqA_c (h0 : ∀ i, i < 60 → g' 1166 i = 1 → g 1166 i = 1) (hf : ∀ i, i < 60 → g' 1166 i = 1 → f' (14 + 14 * i) 1 = f (14 + 14 * i) 1 ∧ f' (14 + 14 * i) 2 = f (14 + 14 * i) 2 ∧ f' (14 + 14 * i) 5 = f (14 + 14 * i) 5) (hg : ∀ i, i < 60 → g' 1166 i = 1 → g' 1167 i = g 1167 i ∧ g' 1168 i = g 1168 i ∧ g' 1171 i = g 1171 i) (h : zqA f g) : zqA f' g' := by
  intro i hi h1
  obtain ⟨a1, a2, a3⟩ := hf i hi h1
  obtain ⟨b1, b2, b3⟩ := hg i hi h1
  rw [a1, a2, a3, b1, b2, b3]
  exact h i hi (h0 i hi h1)
theorem zqK_c (h0 : ∀ i, i < 60 → g' 1166 i = 1 → g 1166 i = 1) (hf : ∀ i, i < 60 → g' 1166 i = 1 → f' (14 + 14 * i) 3 = f (14 + 14 * i) 3 ∧ f' (14 + 14 * i) 4 = f (14 + 14 * i) 4) (hg : ∀ i, i < 60 → g' 1166 i = 1 → g' 1167 i = g 1167 i ∧ g' 1169 i = g 1169 i ∧ g' 1170 i = g 1170 i) (h : zqK n f g) : zqK n f' g' := by
  refine ⟨fun i hi h1 => ?_, fun i j hi hj hij h1 h2 h3 => ?_⟩
  · obtain ⟨a1, a2⟩ := hf i hi h1
    obtain ⟨b1, b2, b3⟩ := hg i hi h1
    rw [a1, a2, b2, b3]
    exact h.1 i hi (h0 i hi h1)
  · obtain ⟨b1, b2, b3⟩ := hg i hi h1
    obtain ⟨c1, c2, c3⟩ := hg j hj h2
    rw [b1, c1] at h3
    rw [b2, b3, c2, c3]
    exact h.2 i j hi hj hij (h0 i hi h1) (h0 j hj h2) h3
theorem zqK_n (h : zqK n f g) : zqK (n + 1) f g := by
  refine ⟨fun i hi h1 => ?_, h.2⟩
  obtain ⟨a1, a2, a3, a4, a5⟩ := h.1 i hi h1
  refine ⟨a1, a2, a3, a4, ?_⟩
  have e : ((n + 1 : Nat) : Int) * g 1170 i = (n : Int) * g 1170 i + g 1170 i := by rw [Int.natCast_add, Int.add_mul]; omega
  omega
theorem zrne_c {u v : Nat → Int} (hb : ∀ i, i < 60 → -1 ≤ u i ∧ u i < 60) (he : ∀ i, i < 60 → v i = u i) : ∀ (k : Nat) (x : Int), (-1 ≤ x ∧ x < 60) → zrne u k x → zrne v k x
  | 0, _, _, h => h.elim
  | k + 1, x, hx, h => by
    rcases h with h | h
    · exact Or.inl h
    · by_cases h1 : x = -1
      · exact Or.inl h1
      · have e := he x.toNat (by omega)
        refine Or.inr ?_
        rw [e]
        exact zrne_c hb he k _ (hb x.toNat (by omega)) h
theorem zqL_c (h0 : ∀ i, i < 60 → g' 1166 i = g 1166 i) (hf : ∀ i, i < 60 → f' (14 + 14 * i) 6 = f (14 + 14 * i) 6 ∧ f' (14 + 14 * i) 7 = f (14 + 14 * i) 7) (hg : ∀ i, i < 60 → g' 1172 i = g 1172 i ∧ g' 1173 i = g 1173 i) (h : zqL f g) : zqL f' g' := by
  obtain ⟨h1, h2, h3⟩ := h
  refine ⟨fun i hi t => ?_, fun i hi => ?_, fun i hi => ?_⟩
  · rw [h0 i hi] at t
    rw [(hf i hi).1, (hf i hi).2, (hg i hi).1, (hg i hi).2]
    exact h1 i hi t
  · obtain ⟨a, b, c⟩ := h2 i hi
    rw [(hg i hi).1, h0 i hi]
    refine ⟨a, b, fun d => ?_⟩
    rw [h0 _ (by omega)]
    exact c d
  · rw [(hg i hi).1]
    exact zrne_c (fun j hj => ⟨(h2 j hj).1, (h2 j hj).2.1⟩) (fun j hj => (hg j hj).1) 60 _ ⟨(h2 i hi).1, (h2 i hi).2.1⟩ (h3 i hi)
theorem zqG_c {m : Nat} (hn : n ≤ m) (h60 : n ≤ 60) (h0 : ∀ i, i < 60 → g' 1166 i = g 1166 i) (hf : ∀ i, i < 60 → f' (14 + 14 * i) 8 = f (14 + 14 * i) 8 ∧ f' 7 i = f 7 i) (hg : ∀ i, i < 60 → g' 1180 i = g 1180 i) (h : zqG n f g) : zqG m f' g' := by
  intro i hi
  obtain ⟨a, b, c⟩ := h i hi
  rw [h0 i hi, (hf i hi).1, (hf i hi).2, hg i hi]
  refine ⟨a, b, ?_⟩
  rcases c with c | ⟨c1, c2, c3⟩
  · exact Or.inl c
  · exact Or.inr ⟨c1, by omega, by rw [h0 _ (by omega)]; exact c3⟩
theorem zqV_c (hf : ∀ l, l < 4 → f' 6 l = f 6 l) (hg : ∀ l, l < 4 → g' 1181 l = g 1181 l) (hj : ∀ i, i < 60 → g' 1167 i = g 1167 i ∧ g' 1168 i = g 1168 i) (h : zqV f g) : zqV f' g' := ⟨fun l hl => by
  rw [hf l hl, hg l hl]; exact h.1 l hl, fun i hi => by
  rw [(hj i hi).1, (hj i hi).2]; exact h.2 i hi⟩
theorem zqD_c (h1 : f' 11 0 = f 11 0) (h2 : g' 1153 33 = g 1153 33) (hf : ∀ k, k < 8 → f' 12 k = f 12 k ∧ f' 13 k = f 13 k) (hg : ∀ k, k < 8 → g' 1182 k = g 1182 k ∧ g' 1183 k = g 1183 k) (h : zqD f g) : zqD f' g' := by
  obtain ⟨a, b, c⟩ := h
  unfold zqD
  rw [h1, h2]
  refine ⟨a, b, fun k hk => ?_⟩
  rw [(hf k (by omega)).1, (hf k (by omega)).2, (hg k (by omega)).1, (hg k (by omega)).2]
  exact c k hk
theorem zqE_c {k : Nat} (hf : ∀ b j, 14 + 14 * k ≤ b → b < 14 + 14 * k + 14 → (b = 14 + 14 * k → 9 ≤ j) → f' b j = f b j) (hg : zrEq g' g k) (hgo : zqO g k) (h : zqE f g k) : zqE f' g' k := by
  obtain ⟨h1, h2, h3, h4⟩ := h
  have hw : zrSw g k := by
    obtain ⟨⟨a1, a2⟩, ⟨b1, b2, _⟩, c⟩ := hgo
    refine ⟨⟨by omega, a2⟩, ⟨b1, ?_⟩, fun p hp => ⟨by have := (c p hp).1; omega, (c p hp).1.2, fun j hj => by have := (c p hp).2.2 j hj; omega⟩⟩
    have e : (g 1174 k).toNat ≤ 4 := by omega
    have e2 : 2 ^ 2 ^ (g 1174 k).toNat ≤ 2 ^ 2 ^ 4 := Nat.pow_le_pow_right (by omega) (Nat.pow_le_pow_right (by omega) e)
    have e3 : (2 : Nat) ^ 2 ^ 4 = 65536 := by decide
    omega
  have d := zrEq_d hg hw
  refine ⟨by rw [hf _ _ (by omega) (by omega) (by omega), hg.2.1]; exact h1, by rw [hf _ _ (by omega) (by omega) (by omega), hg.1]; exact h2, fun p hp => ?_, ?_⟩
  · rw [hg.1] at hp
    have p4 : p < 4 := by have := hgo.1.2; omega
    obtain ⟨q1, q2⟩ := h3 p hp
    rw [zrEq_n hg p4]
    refine ⟨by unfold zN at *; rw [hf _ _ (by omega) (by omega) (by omega)]; exact q1, fun j hj => ?_⟩
    have j8 : j < 8 := by have := (hgo.2.2 p hp).1.2; omega
    obtain ⟨r1, r2⟩ := q2 j hj
    rw [zrEq_x hg p4 j8, zrEq_y hg p4 j8]
    unfold zX zY at *
    rw [hf _ _ (by omega) (by omega) (by omega), hf _ _ (by omega) (by omega) (by omega)]
    exact ⟨r1, r2⟩
  · rw [hf _ 11 (by omega) (by omega) (by omega), hf _ 12 (by omega) (by omega) (by omega), hf _ 13 (by omega) (by omega) (by omega), hf _ 14 (by omega) (by omega) (by omega), d, d, d, d]
    exact h4
theorem zpr_cg {m : Int} {X Y U V : Nat → Int} (hx : ∀ k : Nat, (k : Int) < m → U k = X k) (hy : ∀ k : Nat, (k : Int) < m → V k = Y k) (h : zpr m X Y 0) : zpr m U V 0 := by
  intro j hj hm
  have h1 := h j hj hm
  have ha : ((zaf m j : Nat) : Int) < m := by unfold zaf; split <;> omega
  unfold zwd at *
  rw [hx _ ha, hx _ hm, hy _ ha, hy _ hm]
  exact h1
theorem zqO_c {k : Nat} (hg : zrEq g' g k) (h : zqO g k) : zqO g' k := by
  obtain ⟨h1, h2, h3⟩ := h
  refine ⟨by rw [hg.1]; exact h1, by rw [hg.1, hg.2.1]; exact h2, fun p hp => ?_⟩
  rw [hg.1] at hp
  have p4 : p < 4 := by omega
  obtain ⟨q1, q2, q3⟩ := h3 p hp
  rw [zrEq_n hg p4]
  have ex : ∀ j : Nat, (j : Int) < zrN g k p → zrX g' k p j = zrX g k p j := fun j hj => zrEq_x hg p4 (by omega)
  have ey : ∀ j : Nat, (j : Int) < zrN g k p → zrY g' k p j = zrY g k p j := fun j hj => zrEq_y hg p4 (by omega)
  refine ⟨q1, zpr_cg ex ey q2, fun j hj => ?_⟩
  rw [ex j hj, ey j hj]
  exact q3 j hj
theorem zqF_c (h0 : ∀ i, i < 60 → g' 1166 i = 1 → g 1166 i = 1) (hf : ∀ k, k < 60 → g' 1166 k = 1 → ∀ b j, 14 + 14 * k ≤ b → b < 14 + 14 * k + 14 → (b = 14 + 14 * k → 9 ≤ j) → f' b j = f b j) (hg : ∀ k, k < 60 → g' 1166 k = 1 → zrEq g' g k) (h : zqF f g) : zqF f' g' := by
  intro i hi t
  obtain ⟨a, b⟩ := h i hi (h0 i hi t)
  exact ⟨zqE_c (hf i hi t) (hg i hi t) b a, zqO_c (hg i hi t) b⟩
theorem zqJ_c (hf : ∀ i, i < 60 → f' (14 + 14 * i) 3 = f (14 + 14 * i) 3 ∧ f' (14 + 14 * i) 4 = f (14 + 14 * i) 4 ∧ f' (14 + 14 * i) 6 = f (14 + 14 * i) 6 ∧ f' (14 + 14 * i) 8 = f (14 + 14 * i) 8 ∧ f' 7 i = f 7 i) (hc : ∀ j, j < 60 → f' 8 j = 0 ∨ f' 8 j = 1) (h : zqJ f) : zqJ f' := by
  obtain ⟨h1, h2, h3, h4⟩ := h
  refine ⟨fun i hi => ?_, fun i hi => ?_, ⟨fun i hi => ?_, fun i hi => ?_⟩, hc⟩
  · unfold zKy
    rw [(hf i hi).1, (hf i hi).2.1]
    exact h1 i hi
  · unfold zld
    rw [(hf i hi).2.2.1]
    exact h2 i hi
  · rw [(hf i hi).2.2.2.1]
    exact h3.1 i hi
  · rw [(hf i hi).2.2.2.2]
    exact h3.2 i hi
/-- nothing of it has changed -/
theorem zqR_keep (hf : ∀ b j, b ≠ 5 → b ≠ 8 → b ≠ 9 → b ≠ 10 → b < 854 → f' b j = f b j) (hc : ∀ j, j < 60 → f' 8 j = 0 ∨ f' 8 j = 1) (hg : ∀ b j, 1166 ≤ b → b < 1184 → b ≠ 1179 → g' b j = g b j) (h33 : g' 1153 33 = g 1153 33) (h : zqR n f g) : zqR n f' g' := by
  obtain ⟨t, a, k, l, gg, v, d, ff, j⟩ := h
  have h0 : ∀ i, i < 60 → g' 1166 i = g 1166 i := fun i hi => hg _ _ (by omega) (by omega) (by omega)
  have h00 : ∀ i, i < 60 → g' 1166 i = 1 → g 1166 i = 1 := fun i hi t => by rw [← h0 i hi]; exact t
  have hF : ∀ i, i < 60 → ∀ j, f' (14 + 14 * i) j = f (14 + 14 * i) j := fun i hi j => hf _ _ (by omega) (by omega) (by omega) (by omega) (by omega)
  have hG : ∀ b, 1166 ≤ b ∧ b < 1184 ∧ b ≠ 1179 → ∀ j, g' b j = g b j := fun b hb j => hg b j hb.1 hb.2.1 hb.2.2
  refine ⟨zqT_c (fun i hi => hF i hi _) h0 t, zqA_c h00 (fun i hi _ => ⟨hF i hi _, hF i hi _, hF i hi _⟩) (fun i hi _ => ⟨hG _ (by omega) _, hG _ (by omega) _, hG _ (by omega) _⟩) a, zqK_c h00 (fun i hi _ => ⟨hF i hi _, hF i hi _⟩) (fun i hi _ => ⟨hG _ (by omega) _, hG _ (by omega) _, hG _ (by omega) _⟩) k, zqL_c h0 (fun i hi => ⟨hF i hi _, hF i hi _⟩) (fun i hi => ⟨hG _ (by omega) _, hG _ (by omega) _⟩) l, zqG_c (Nat.le_refl _) t.1 h0 (fun i hi => ⟨hF i hi _, hf _ _ (by omega) (by omega) (by omega) (by omega) (by omega)⟩) (fun i hi => hG _ (by omega) _) gg, zqV_c (fun l hl => hf _ _ (by omega) (by omega) (by omega) (by omega) (by omega)) (fun l hl => hG _ (by omega) _) (fun i hi => ⟨hG _ (by omega) _, hG _ (by omega) _⟩) v, zqD_c (hf _ _ (by omega) (by omega) (by omega) (by omega) (by omega)) h33 (fun k hk => ⟨hf _ _ (by omega) (by omega) (by omega) (by omega) (by omega), hf _ _ (by omega) (by omega) (by omega) (by omega) (by omega)⟩) (fun k hk => ⟨hG _ (by omega) _, hG _ (by omega) _⟩) d, zqF_c h00 (fun k hk _ b j h1 h2 _ => hf _ _ (by omega) (by omega) (by omega) (by omega) (by omega)) (fun k hk _ => ⟨hG _ (by omega) _, hG _ (by omega) _, fun p _ => hG _ (by omega) _, fun j _ _ => ⟨hG _ (by omega) _, hG _ (by omega) _⟩⟩) ff, zqJ_c (fun i hi => ⟨hF i hi _, hF i hi _, hF i hi _, hF i hi _, hf _ _ (by omega) (by omega) (by omega) (by omega) (by omega)⟩) hc j⟩
/-- one change later -/
theorem zqR_n (hn : n < 60) (h : zqR n f g) : zqR (n + 1) f g := by
  obtain ⟨t, a, k, l, gg, v, d, ff, j⟩ := h
  refine ⟨⟨hn, fun i hi => ⟨(t.2 i hi).1, (t.2 i hi).2.1, fun h => by have := (t.2 i hi).2.2 h; omega⟩⟩, a, zqK_n k, l, zqG_c (by omega) t.1 (fun _ _ => rfl) (fun _ _ => ⟨rfl, rfl⟩) (fun _ _ => rfl) gg, v, d, ff, j⟩
end ZREL
end SG_C0_rel
section SG_C1_relfacts
/-! what the two boards give to the contracts -/
section ZRELF
variable {n : Nat} {f g f' g' : Nat → Nat → Int} {i : Nat}
theorem zqR_01 (h : zqR n f g) : ∀ i, i < 60 → f (14 + 14 * i) 0 = 0 ∨ f (14 + 14 * i) 0 = 1 := fun i hi => by
  obtain ⟨a, b, _⟩ := h.1.2 i hi
  omega
theorem zqR_r01 (h : zqR n f g) : ∀ i, i < 60 → g 1166 i = 0 ∨ g 1166 i = 1 := fun i hi => (h.1.2 i hi).1
theorem zqR_t (h : zqR n f g) (hi : i < 60) : f (14 + 14 * i) 0 = g 1166 i := (h.1.2 i hi).2.1
theorem zqR_bk (h : zqR n f g) : zBk f := fun i hi => ⟨zqR_01 h i hi, fun _ => h.2.2.2.2.2.2.2.2.1 i hi⟩
theorem zqR_kb (h : zqR n f g) (hi : i < 60) (t : g 1166 i = 1) : (1 ≤ g 1169 i ∧ g 1169 i ≤ 3000) ∧ (1 ≤ g 1170 i ∧ g 1170 i ≤ 50) ∧ g 1169 i ≤ (n : Int) * g 1170 i := by
  obtain ⟨_, _, a, b, c⟩ := h.2.2.1.1 i hi t
  refine ⟨⟨a, ?_⟩, b, c⟩
  have n6 := h.1.1
  have e : (n : Int) * g 1170 i ≤ 60 * 50 := Int.mul_le_mul (by omega) b.2 (by omega) (by omega)
  omega
theorem zqR_rbk (h : zqR n f g) : zrBk g := fun i hi => ⟨zqR_r01 h i hi, fun t => by
  obtain ⟨a, b, _⟩ := zqR_kb h hi t
  exact ⟨⟨by omega, by omega⟩, b⟩⟩
theorem zqR_ld (h : zqR n f g) : zLd f := h.2.2.2.2.2.2.2.2.2.1
theorem zqR_gr (h : zqR n f g) : zGr f := h.2.2.2.2.2.2.2.2.2.2.1
theorem zqR_ch (h : zqR n f g) : ∀ j, j < 60 → f 8 j = 0 ∨ f 8 j = 1 := h.2.2.2.2.2.2.2.2.2.2.2
theorem zqR_rld (h : zqR n f g) : zrLd g := fun i hi => ⟨(h.2.2.2.1.2.1 i hi).1, (h.2.2.2.1.2.1 i hi).2.1⟩
theorem zqR_ne (h : zqR n f g) : zrNe g := ⟨h.2.2.2.1.2.2, zqR_r01 h, fun i hi h0 => ((h.2.2.2.1.2.1 i hi).2.2 h0).1⟩
theorem zqR_gb (h : zqR n f g) (hi : i < 60) : -1 ≤ g 1180 i ∧ g 1180 i < 60 := by
  have n6 := h.1.1
  rcases (h.2.2.2.2.1 i hi).2.2 with a | ⟨a, b, _⟩ <;> omega
theorem zotr_up {w : Nat → Int} (hw : ∀ a, a < 60 → w a = -1 ∨ ((a : Int) < w a ∧ w a < 60)) : ∀ k a, a < 60 → 60 ≤ a + k → w (zotr w k a) < 0
  | 0, a, h, h2 => by omega
  | k + 1, a, h, h2 => by
    rw [zotr_s]
    split
    · next h3 => exact h3
    · next h3 =>
      rcases hw a h with e | ⟨e1, e2⟩
      · omega
      · exact zotr_up hw k _ (by omega) (by omega)
theorem zqR_wup (h : zqR n f g) : ∀ a, a < 60 → g 1180 a = -1 ∨ ((a : Int) < g 1180 a ∧ g 1180 a < 60) := fun a ha => by
  have n6 := h.1.1
  rcases (h.2.2.2.2.1 a ha).2.2 with e | ⟨e1, e2, _⟩
  · exact Or.inl e
  · exact Or.inr ⟨e1, by omega⟩
theorem zqR_rG (h : zqR n f g) : zrG g := ⟨fun a ha => zqR_gb h ha, fun i hi => zotr_up (zqR_wup h) 60 i hi (by omega)⟩
theorem zqO_sp (h : zqO g i) : zrSp g i := by
  obtain ⟨⟨a1, a2⟩, ⟨b1, b2, _⟩, c⟩ := h
  refine ⟨⟨by omega, a2⟩, ⟨b1, ?_⟩, fun p hp => ⟨by have := (c p hp).1; omega, (c p hp).1.2, fun j hj => by have := (c p hp).2.2 j hj; omega⟩⟩
  have e : (g 1174 i).toNat ≤ 4 := by omega
  have e2 : 2 ^ 2 ^ (g 1174 i).toNat ≤ 2 ^ 2 ^ 4 := Nat.pow_le_pow_right (by omega) (Nat.pow_le_pow_right (by omega) e)
  have e3 : (2 : Nat) ^ 2 ^ 4 = 65536 := by decide
  omega
theorem zrSp_sw (h : zrSp g i) : zrSw g i := by
  obtain ⟨a, b, c⟩ := h
  exact ⟨a, b, fun p hp => ⟨(c p hp).1, (c p hp).2.1, fun j hj => by have := (c p hp).2.2 j hj; omega⟩⟩
theorem zqO_sw (h : zqO g i) : zrSw g i := zrSp_sw (zqO_sp h)
/-- the frame of a shape as it may be -/
theorem zqO_fr (h : zqO g i) {p k : Nat} (hp : (p : Int) < g 1174 i) (hk : (k : Int) < zrN g i p) : (zrsd g i 0 ≤ zrX g i p k ∧ zrX g i p k ≤ zrsd g i 2) ∧ zrsd g i 1 ≤ zrY g i p k ∧ zrY g i p k ≤ zrsd g i 3 := by
  rw [zrsd_0, zrsd_1, zrsd_2, zrsd_3]
  have a1 := (zf2_mn (n := zrN g i) (X := zrX g i) (b := 100) (g 1174 i).toNat).2.1 p (by omega) k hk
  have a2 := (zf2_mn (n := zrN g i) (X := zrY g i) (b := 100) (g 1174 i).toNat).2.1 p (by omega) k hk
  have a3 := (zf2_mx (n := zrN g i) (X := zrX g i) (b := -1) (g 1174 i).toNat).2.1 p (by omega) k hk
  have a4 := (zf2_mx (n := zrN g i) (X := zrY g i) (b := -1) (g 1174 i).toNat).2.1 p (by omega) k hk
  omega
theorem zqO_fm (h : zqO g i) : zrFm g i := by
  obtain ⟨h1, h2, h3⟩ := h
  have z0 : ((0 : Nat) : Int) < g 1174 i := by omega
  obtain ⟨n0, _, c0⟩ := h3 0 z0
  have b0 := c0 0 (by omega)
  unfold zrFm
  rw [zrsd_0, zrsd_1, zrsd_2, zrsd_3]
  obtain ⟨a1, a2, a3⟩ := zf2_mn (n := zrN g i) (X := zrX g i) (b := 100) (g 1174 i).toNat
  obtain ⟨b1, b2, b3⟩ := zf2_mn (n := zrN g i) (X := zrY g i) (b := 100) (g 1174 i).toNat
  obtain ⟨c1, c2, c3⟩ := zf2_mx (n := zrN g i) (X := zrX g i) (b := -1) (g 1174 i).toNat
  obtain ⟨d1, d2, d3⟩ := zf2_mx (n := zrN g i) (X := zrY g i) (b := -1) (g 1174 i).toNat
  have a20 := a2 0 (by omega) 0 (by omega)
  have b20 := b2 0 (by omega) 0 (by omega)
  have c20 := c2 0 (by omega) 0 (by omega)
  have d20 := d2 0 (by omega) 0 (by omega)
  generalize zf2 zmn (zrN g i) (zrX g i) 100 (g 1174 i).toNat = l at *
  generalize zf2 zmn (zrN g i) (zrY g i) 100 (g 1174 i).toNat = d at *
  generalize zf2 zmx (zrN g i) (zrX g i) (-1) (g 1174 i).toNat = r at *
  generalize zf2 zmx (zrN g i) (zrY g i) (-1) (g 1174 i).toNat = u at *
  have l0 : 0 ≤ l := by
    rcases a3 with a3 | ⟨p, k, hp, hk, e⟩
    · omega
    · have := (h3 p (by omega)).2.2 k hk; omega
  have d0 : 0 ≤ d := by
    rcases b3 with b3 | ⟨p, k, hp, hk, e⟩
    · omega
    · have := (h3 p (by omega)).2.2 k hk; omega
  have r0 : r ≤ 60 := by
    rcases c3 with c3 | ⟨p, k, hp, hk, e⟩
    · omega
    · have := (h3 p (by omega)).2.2 k hk; omega
  have u0 : u ≤ 60 := by
    rcases d3 with d3 | ⟨p, k, hp, hk, e⟩
    · omega
    · have := (h3 p (by omega)).2.2 k hk; omega
  exact ⟨⟨l0, by omega, r0⟩, d0, by omega, u0⟩
/-- .. and the class's -/
theorem zqE_sw (h : zqE f g i) (hg : zqO g i) : zSw f (14 + 14 * i) := by
  obtain ⟨a, b, c⟩ := zqO_sp hg
  obtain ⟨h1, h2, h3, _⟩ := h
  refine ⟨by rw [h2]; exact a, by rw [h1]; exact b, fun p hp => ?_⟩
  rw [h2] at hp
  obtain ⟨q1, q2⟩ := h3 p hp
  obtain ⟨c1, c2, c3⟩ := c p hp
  refine ⟨by rw [q1]; exact c1, by rw [q1]; exact c2, fun k hk => ?_⟩
  rw [q1] at hk
  rw [(q2 k hk).1, (q2 k hk).2]
  exact c3 k hk
theorem zqE_fm (h : zqE f g i) (hg : zqO g i) : zFm f (14 + 14 * i) ∧ f (14 + 14 * i) 11 ≤ f (14 + 14 * i) 13 ∧ f (14 + 14 * i) 12 ≤ f (14 + 14 * i) 14 := by
  obtain ⟨⟨a1, a2, a3⟩, a4, a5, a6⟩ := zqO_fm hg
  obtain ⟨_, _, _, e1, e2, e3, e4⟩ := h
  unfold zFm
  rw [e1, e2, e3, e4]
  omega
theorem zqE_pr (h : zqE f g i) (hg : zqO g i) {p : Nat} (hp : (p : Int) < f (14 + 14 * i) 10) : 3 ≤ zN f (14 + 14 * i) p ∧ zpr (zN f (14 + 14 * i) p) (zX f (14 + 14 * i) p) (zY f (14 + 14 * i) p) 0 := by
  obtain ⟨h1, h2, h3, _⟩ := h
  rw [h2] at hp
  obtain ⟨q1, q2⟩ := h3 p hp
  obtain ⟨c1, c2, c3⟩ := hg.2.2 p hp
  rw [q1]
  exact ⟨c1.1, zpr_cg (fun k hk => (q2 k hk).1) (fun k hk => (q2 k hk).2) c2⟩
theorem zqE_pk (h : zqE f g i) (hg : zqO g i) : zPk f (14 + 14 * i) := by
  have hh := h
  obtain ⟨m1, m2, m3⟩ := zqE_fm h hg
  refine ⟨zqE_sw h hg, m1, m2, by rw [h.1]; exact hg.2.1.2.2, fun p hp => ⟨(zqE_pr h hg hp).2, fun k hk => ?_⟩⟩
  obtain ⟨h1, h2, h3, e1, e2, e3, e4⟩ := hh
  rw [h2] at hp
  obtain ⟨q1, q2⟩ := h3 p hp
  rw [q1] at hk
  rw [e1, e2, e3, e4, (q2 k hk).1, (q2 k hk).2]
  exact zqO_fr hg hp hk
theorem zqR_f (h : zqR n f g) (hi : i < 60) (t : f (14 + 14 * i) 0 = 1) : zqE f g i ∧ zqO g i := h.2.2.2.2.2.2.2.1 i hi (by rw [← zqR_t h hi]; exact t)
theorem zqR_mw (h : zqR n f g) : zMw f := ⟨zqR_ld h, zqR_01 h, fun i hi t => by
  obtain ⟨a, b⟩ := zqR_f h hi t
  exact ⟨zqE_sw a b, (zqE_fm a b).1⟩⟩
theorem zqR_mv (h : zqR n f g) : zMv f := ⟨zqR_ld h, zqR_ch h, zqR_01 h, (zqR_mw h).2.2⟩
theorem zqR_gd (h : zqR n f g) : zgd f := by
  obtain ⟨a, b, c⟩ := h.2.2.2.2.2.2.1
  unfold zgd
  rw [a]
  refine ⟨b, fun k hk => ?_⟩
  obtain ⟨c1, c2, c3, c4⟩ := c k hk
  rw [c1, c2]
  exact ⟨c3, c4⟩
theorem zqR_ly (h : zqR n f g) : zLy f := ⟨fun i hi t => by
  rw [zqR_t h hi] at t
  obtain ⟨a, _, _, b, _⟩ := h.2.1 i hi t
  omega, fun j hj => by
  obtain ⟨a, b⟩ := h.2.2.2.2.2.1.1 j hj
  omega⟩
end ZRELF
end SG_C1_relfacts
section SG_C2_step
/-! one change on both boards -/
section ZSTEP
/-- the change's shape in both journals -/
def zqJs (M N : zM) (k : Nat) : Prop := M.2.1 (855 + 4 * k) 2 = N.2.1 1161 (4 * k) ∧ 0 ≤ N.2.1 1161 (4 * k) ∧ N.2.1 1161 (4 * k) < 60
/-- its kind in both journals -/
def zqJw (M N : zM) (k : Nat) (w : Int) : Prop := M.2.1 (855 + 4 * k) 0 = w ∧ N.2.1 1158 k = w
/-- the change is done on both boards alike, or on none -/
def zqS (L k : Nat) (M N : zM) : Prop := ∃ (f' g' : Nat → Nat → Int) (v b : Int), (∀ Q : zO → zM → Prop, zFR (zK L) 10 0 (zcall 10 [.inr (.inr 3), .inr (.inr (855 + 4 * k)), .inl (k : Int)]) [] M Q = Q (.inl (some (.inl v))) (zwI M f')) ∧ (∀ Q : zO → zM → Prop, zFR (zK L) 192 0 (zcall 192 [.inr (.inr 1153), .inl (k : Int)]) [] N Q = Q (.inl (some (.inl b))) (zwI N g')) ∧ (∀ c j, (c < 3 ∨ 854 ≤ c) → f' c j = M.2.1 c j) ∧ (∀ c j, (c < 1153 ∨ (1154 ≤ c ∧ c < 1166) ∨ 1189 ≤ c) → g' c j = N.2.1 c j) ∧ (∀ j, j ≠ 33 → j ≠ 36 → j ≠ 38 → g' 1153 j = N.2.1 1153 j) ∧ ((b = 0 ∧ v = -1 ∧ zqR k f' g') ∨ (b = 1 ∧ 0 ≤ v ∧ g' 1153 36 = v ∧ zqR (k + 1) f' g'))
/-- the number of the change noted -/
def zqg1 (g : Nat → Nat → Int) (k : Nat) : Nat → Nat → Int := zu2 g 1153 36 (k : Int)
theorem zqg1_o {g : Nat → Nat → Int} {k b j : Nat} (h : b ≠ 1153) : zqg1 g k b j = g b j := zu2_a h _ _ _ _
theorem zqg1_a {g : Nat → Nat → Int} {k b : Nat} (h : b ≠ 1153) : zqg1 g k b = g b := funext fun j => zqg1_o h
theorem zqR_g1 {n k : Nat} {f g : Nat → Nat → Int} (h : zqR n f g) : zqR n f (zqg1 g k) := zqR_keep (fun _ _ _ _ _ _ _ => rfl) (zqR_ch h) (fun b j h1 h2 _ => zqg1_o (by omega)) (zu2_i (by omega) _ _ _ _) h
variable {L k : Nat} {M N : zM} {s : Nat}
theorem zqS_no (hM : zLay M.2.2.2) (hk : k < 60) (h : zqR k M.2.1 N.2.1) (hg : ¬ zgua M.2.1 k) (e : ∀ Q : zO → zM → Prop, zFR (zK L) 192 0 (zcall 192 [.inr (.inr 1153), .inl (k : Int)]) [] N Q = Q (.inl (some (.inl 0))) (zwI N (zqg1 N.2.1 k))) : zqS L k M N :=
  ⟨M.2.1, zqg1 N.2.1 k, -1, 0, fun Q => c10n hM (zqR_01 h) hk hk hg, e, fun _ _ _ => rfl, fun c j hc => zqg1_o (by omega), fun j _ h2 _ => zu2_i h2 _ _ _ _, Or.inl ⟨rfl, rfl, zqR_g1 h⟩⟩
/-- a change of a shape: it is not there, or .. -/
theorem zqS_sh (hM : zLay M.2.2.2) (hN : zLayN N.2.2.2) (hk : k < 60) (h : zqR k M.2.1 N.2.1) (hs : zqJs M N k) (h3 : M.2.1 (855 + 4 * k) 3 = -1 ∨ (0 ≤ M.2.1 (855 + 4 * k) 3 ∧ M.2.1 (855 + 4 * k) 3 < 60 ∧ M.2.1 (14 + 14 * (M.2.1 (855 + 4 * k) 3).toNat) 0 = 1)) (hw : N.2.1 1158 k ≠ 0 ∧ N.2.1 1158 k ≠ 12 ∧ N.2.1 1158 k ≠ 9 ∧ N.2.1 1158 k ≠ 15 ∧ N.2.1 1158 k ≠ 17) : zqS L k M N ∨ ∃ s : Nat, s < 60 ∧ M.2.1 (855 + 4 * k) 2 = (s : Int) ∧ N.2.1 1161 (4 * k) = (s : Int) ∧ N.2.1 1166 s = 1 ∧ zgua M.2.1 k ∧ ∀ (v : Int) (g' : Nat → Nat → Int), (v = 0 ∨ v = 1) → (∀ Q9 : zO → zM → Prop, zFR (zK L) 208 0 (zcall 208 [.inr (.inr 1153), .inl (k : Int), .inl (s : Int), .inl (N.2.1 1161 (4 * k + 1))]) [] (zwI N (zqg1 N.2.1 k)) Q9 = Q9 (.inl (some (.inl v))) (zwI N g')) → ∀ Q : zO → zM → Prop, zFR (zK L) 192 0 (zcall 192 [.inr (.inr 1153), .inl (k : Int)]) [] N Q = Q (.inl (some (.inl v))) (zwI N g') := by
  obtain ⟨a1, a2, a3⟩ := hs
  have es : ((N.2.1 1161 (4 * k)).toNat : Int) = N.2.1 1161 (4 * k) := by omega
  have t := zqR_t h (i := (N.2.1 1161 (4 * k)).toNat) (by omega)
  by_cases ht : N.2.1 1166 (N.2.1 1161 (4 * k)).toNat = 1
  · refine Or.inr ⟨(N.2.1 1161 (4 * k)).toNat, by omega, by omega, by omega, ht, ⟨Or.inr ⟨by omega, by omega, by rw [a1, t, ht]⟩, h3⟩, fun v g' hv e Q => ?_⟩
    rw [es] at e
    exact c192_ty (M9 := zwI N g') hN hk hw (zqR_r01 h) ⟨by omega, by omega, ht⟩ e hv
  · refine Or.inl (zqS_no hM hk h (fun hg => ?_) (fun Q => c192_tn (v := 0) (M9 := N) hN hk hw (zqR_r01 h) (fun hr => ht ?_)))
    · rcases hg.1 with h5 | ⟨_, _, h7⟩
      · omega
      · rw [a1, t] at h7
        exact ht h7
    · have h9 := hr.2.2
      rw [zu2_a (by omega)] at h9
      exact h9
end ZSTEP
end SG_C2_step
section SG_C3_attrs
/-! painted, shown, untied, erased -/
section ZATTRS
variable {n : Nat} {f g f' g' : Nat → Nat → Int} {s : Nat}
/-- a slot elsewhere -/
theorem zu2_sj {f : Nat → Nat → Int} {a j : Nat} {x : Int} {b i : Nat} (h : b ≠ a ∨ i ≠ j) : zu2 f a j x b i = f b i := if_neg (fun h2 => h.elim (fun h3 => h3 h2.1) (fun h3 => h3 h2.2))
theorem zqQ_paint (h : zqR n f g) (hs : s < 60) {c v : Int} (hc : 1 ≤ c ∧ c ≤ 9) : zqR n (zu2 f (14 + 14 * s) 2 c) (zu2 (zu2 g 1153 36 v) 1168 s c) := by
  obtain ⟨T, A, K, Lr, G, V, D, S, J⟩ := h
  generalize ef : zu2 f (14 + 14 * s) 2 c = f'
  generalize eg : zu2 (zu2 g 1153 36 v) 1168 s c = g'
  have hF : ∀ b i, (b ≠ 14 + 14 * s ∨ i ≠ 2) → f' b i = f b i := fun b i hb => by rw [← ef]; exact zu2_sj hb
  have hG : ∀ b i, ((b ≠ 1153 ∨ i ≠ 36) ∧ (b ≠ 1168 ∨ i ≠ s)) → g' b i = g b i := fun b i hb => by rw [← eg, zu2_sj hb.2, zu2_sj hb.1]
  have h0 : ∀ i, i < 60 → g' 1166 i = g 1166 i := fun i hi => hG _ _ (by omega)
  have h00 : ∀ i, i < 60 → g' 1166 i = 1 → g 1166 i = 1 := fun i hi t => by rw [← h0 i hi]; exact t
  refine ⟨zqT_c (fun i hi => hF _ _ (by omega)) h0 T, fun i hi t2 => ?_, zqK_c h00 (fun i hi _ => ⟨hF _ _ (by omega), hF _ _ (by omega)⟩) (fun i hi _ => ⟨hG _ _ (by omega), hG _ _ (by omega), hG _ _ (by omega)⟩) K, zqL_c h0 (fun i hi => ⟨hF _ _ (by omega), hF _ _ (by omega)⟩) (fun i hi => ⟨hG _ _ (by omega), hG _ _ (by omega)⟩) Lr, zqG_c (Nat.le_refl _) T.1 h0 (fun i hi => ⟨hF _ _ (by omega), hF _ _ (by omega)⟩) (fun i hi => hG _ _ (by omega)) G, ⟨fun l hl => by rw [hF _ _ (by omega), hG _ _ (by omega)]; exact V.1 l hl, fun i hi => ?_⟩, zqD_c (hF _ _ (by omega)) (hG _ _ (by omega)) (fun i hi => ⟨hF _ _ (by omega), hF _ _ (by omega)⟩) (fun i hi => ⟨hG _ _ (by omega), hG _ _ (by omega)⟩) D, zqF_c h00 (fun k hk _ b j h1 h2 h3 => hF _ _ (by omega)) (fun k hk _ => ⟨hG _ _ (by omega), hG _ _ (by omega), fun p _ => hG _ _ (by omega), fun j _ _ => ⟨hG _ _ (by omega), hG _ _ (by omega)⟩⟩) S, zqJ_c (fun i hi => ⟨hF _ _ (by omega), hF _ _ (by omega), hF _ _ (by omega), hF _ _ (by omega), hF _ _ (by omega)⟩) (fun i hi => by rw [hF _ _ (by omega)]; exact J.2.2.2 i hi) J⟩
  rotate_left
  · rw [hG 1167 i (by omega)]
    refine ⟨(V.2 i hi).1, ?_⟩
    by_cases e : i = s
    · subst e
      rw [← eg, zu2_eq]
      omega
    · rw [hG 1168 i (by omega)]
      exact (V.2 i hi).2
  obtain ⟨a1, a2, a3, a4, a5⟩ := A i hi (h00 i hi t2)
  rw [hF _ 1 (by omega), hF _ 5 (by omega), hG 1167 _ (by omega), hG 1171 _ (by omega)]
  by_cases e : i = s
  · subst e
    rw [← ef, ← eg, zu2_eq, zu2_eq]
    exact ⟨a1, rfl, a3, a4, hc⟩
  · rw [hF _ _ (by omega), hG _ _ (by omega)]
    exact ⟨a1, a2, a3, a4, a5⟩
theorem zqQ_show (h : zqR n f g) {l : Nat} {u v : Int} (hu : u = 0 ∨ u = 1) : zqR n (zu2 f 6 l (if u = 0 then 1 else 0)) (zu2 (zu2 g 1153 36 v) 1181 l (if u = 1 then 1 else 0)) := by
  obtain ⟨T, A, K, Lr, G, V, D, S, J⟩ := h
  have hxy : ((if u = 1 then (1 : Int) else 0) = 0 ∨ (if u = 1 then (1 : Int) else 0) = 1) ∧ (if u = 0 then (1 : Int) else 0) = 1 - (if u = 1 then (1 : Int) else 0) := by rcases hu with e | e <;> subst e <;> decide
  generalize (if u = 0 then (1 : Int) else 0) = x at *
  generalize (if u = 1 then (1 : Int) else 0) = y at *
  generalize ef : zu2 f 6 l x = f'
  generalize eg : zu2 (zu2 g 1153 36 v) 1181 l y = g'
  have hF : ∀ b i, (b ≠ 6 ∨ i ≠ l) → f' b i = f b i := fun b i hb => by rw [← ef]; exact zu2_sj hb
  have hG : ∀ b i, ((b ≠ 1153 ∨ i ≠ 36) ∧ (b ≠ 1181 ∨ i ≠ l)) → g' b i = g b i := fun b i hb => by rw [← eg, zu2_sj hb.2, zu2_sj hb.1]
  have h0 : ∀ i, i < 60 → g' 1166 i = g 1166 i := fun i hi => hG _ _ (by omega)
  have h00 : ∀ i, i < 60 → g' 1166 i = 1 → g 1166 i = 1 := fun i hi t => by rw [← h0 i hi]; exact t
  refine ⟨zqT_c (fun i hi => hF _ _ (by omega)) h0 T, zqA_c h00 (fun i hi _ => ⟨hF _ _ (by omega), hF _ _ (by omega), hF _ _ (by omega)⟩) (fun i hi _ => ⟨hG _ _ (by omega), hG _ _ (by omega), hG _ _ (by omega)⟩) A, zqK_c h00 (fun i hi _ => ⟨hF _ _ (by omega), hF _ _ (by omega)⟩) (fun i hi _ => ⟨hG _ _ (by omega), hG _ _ (by omega), hG _ _ (by omega)⟩) K, zqL_c h0 (fun i hi => ⟨hF _ _ (by omega), hF _ _ (by omega)⟩) (fun i hi => ⟨hG _ _ (by omega), hG _ _ (by omega)⟩) Lr, zqG_c (Nat.le_refl _) T.1 h0 (fun i hi => ⟨hF _ _ (by omega), hF _ _ (by omega)⟩) (fun i hi => hG _ _ (by omega)) G, ⟨fun i hi => ?_, fun i hi => by rw [hG 1167 i (by omega), hG 1168 i (by omega)]; exact V.2 i hi⟩, zqD_c (hF _ _ (by omega)) (hG _ _ (by omega)) (fun i hi => ⟨hF _ _ (by omega), hF _ _ (by omega)⟩) (fun i hi => ⟨hG _ _ (by omega), hG _ _ (by omega)⟩) D, zqF_c h00 (fun k hk _ b j h1 h2 h3 => hF _ _ (by omega)) (fun k hk _ => ⟨hG _ _ (by omega), hG _ _ (by omega), fun p _ => hG _ _ (by omega), fun j _ _ => ⟨hG _ _ (by omega), hG _ _ (by omega)⟩⟩) S, zqJ_c (fun i hi => ⟨hF _ _ (by omega), hF _ _ (by omega), hF _ _ (by omega), hF _ _ (by omega), hF _ _ (by omega)⟩) (fun i hi => by rw [hF _ _ (by omega)]; exact J.2.2.2 i hi) J⟩
  by_cases e : i = l
  · subst e
    rw [← ef, ← eg, zu2_eq, zu2_eq]
    exact hxy
  · rw [hF _ _ (by omega), hG _ _ (by omega)]
    exact V.1 i hi
/-- a chain that loses leaders still ends -/
theorem zrne_d {u v : Nat → Int} (hb : ∀ i, i < 60 → -1 ≤ u i ∧ u i < 60) (he : ∀ i, i < 60 → v i = u i ∨ v i = -1) : ∀ (k : Nat) (x : Int), (-1 ≤ x ∧ x < 60) → zrne u k x → zrne v (k + 1) x ∧ (k ≠ 0 → zrne v k x)
  | 0, _, _, h => h.elim
  | k + 1, x, hx, h => by
    have key : zrne v (k + 1) x := by
      rcases h with h | h
      · exact Or.inl h
      · by_cases h1 : x = -1
        · exact Or.inl h1
        · have hux := hb x.toNat (by omega)
          obtain ⟨q1, q2⟩ := zrne_d hb he k _ hux h
          refine Or.inr ?_
          have k0 : k ≠ 0 := fun h0 => by subst h0; exact h.elim
          rcases he x.toNat (by omega) with e | e <;> rw [e]
          · exact q2 k0
          · cases k with
            | zero => exact absurd rfl k0
            | succ k => exact Or.inl rfl
    refine ⟨?_, fun _ => key⟩
    have mono : ∀ (m : Nat) (y : Int), zrne v m y → zrne v (m + 1) y := by
      intro m
      induction m with
      | zero => exact fun y h => h.elim
      | succ m ih =>
        intro y hy
        rcases hy with hy | hy
        · exact Or.inl hy
        · exact Or.inr (ih _ hy)
    exact mono _ _ key
/-- the parts that ties, and who is there, bear upon -/
theorem zqQ_untie (h : zqR n f g) (hs : s < 60) {v : Int} : zqR n (zu2 (zu2 f (14 + 14 * s) 6 (-1)) (14 + 14 * s) 7 (-1)) (zu2 (zu2 (zu2 g 1153 36 v) 1172 s (-1)) 1173 s (-1)) := by
  obtain ⟨T, A, K, Lr, G, V, D, S, J⟩ := h
  generalize ef : zu2 (zu2 f (14 + 14 * s) 6 (-1)) (14 + 14 * s) 7 (-1) = f'
  generalize eg : zu2 (zu2 (zu2 g 1153 36 v) 1172 s (-1)) 1173 s (-1) = g'
  have hF : ∀ b i, (b ≠ 14 + 14 * s ∨ (i ≠ 6 ∧ i ≠ 7)) → f' b i = f b i := fun b i hb => by rw [← ef, zu2_sj (by omega), zu2_sj (by omega)]
  have hG : ∀ b i, ((b ≠ 1153 ∨ i ≠ 36) ∧ ((b ≠ 1172 ∧ b ≠ 1173) ∨ i ≠ s)) → g' b i = g b i := fun b i hb => by rw [← eg, zu2_sj (by omega), zu2_sj (by omega), zu2_sj (by omega)]
  have f6 : f' (14 + 14 * s) 6 = -1 := by rw [← ef, zu2_i (by omega), zu2_eq]
  have f7 : f' (14 + 14 * s) 7 = -1 := by rw [← ef, zu2_eq]
  have g2 : g' 1172 s = -1 := by rw [← eg, zu2_a (by omega), zu2_eq]
  have g3 : g' 1173 s = -1 := by rw [← eg, zu2_eq]
  have h0 : ∀ i, i < 60 → g' 1166 i = g 1166 i := fun i hi => hG _ _ (by omega)
  have h00 : ∀ i, i < 60 → g' 1166 i = 1 → g 1166 i = 1 := fun i hi t => by rw [← h0 i hi]; exact t
  have hj : zqJ f' := by
    obtain ⟨J1, J2, J3, J4⟩ := J
    refine ⟨fun i hi => ?_, fun i hi => ?_, ⟨fun i hi => ?_, fun i hi => ?_⟩, fun i hi => ?_⟩
    · unfold zKy
      rw [hF _ 3 (by omega), hF _ 4 (by omega)]
      exact J1 i hi
    · unfold zld
      by_cases e : i = s
      · subst e; rw [f6]; omega
      · rw [hF _ _ (by omega)]; exact J2 i hi
    · rw [hF _ _ (by omega)]; exact J3.1 i hi
    · rw [hF _ _ (by omega)]; exact J3.2 i hi
    · rw [hF _ _ (by omega)]; exact J4 i hi
  refine ⟨zqT_c (fun i hi => hF _ _ (by omega)) h0 T, zqA_c h00 (fun i hi _ => ⟨hF _ _ (by omega), hF _ _ (by omega), hF _ _ (by omega)⟩) (fun i hi _ => ⟨hG _ _ (by omega), hG _ _ (by omega), hG _ _ (by omega)⟩) A, zqK_c h00 (fun i hi _ => ⟨hF _ _ (by omega), hF _ _ (by omega)⟩) (fun i hi _ => ⟨hG _ _ (by omega), hG _ _ (by omega), hG _ _ (by omega)⟩) K, ⟨fun i hi t => ?_, fun i hi => ?_, fun i hi => ?_⟩, zqG_c (Nat.le_refl _) T.1 h0 (fun i hi => ⟨hF _ _ (by omega), hF _ _ (by omega)⟩) (fun i hi => hG _ _ (by omega)) G, zqV_c (fun i hi => hF _ _ (by omega)) (fun i hi => hG _ _ (by omega)) (fun i hi => ⟨hG _ _ (by omega), hG _ _ (by omega)⟩) V, zqD_c (hF _ _ (by omega)) (hG _ _ (by omega)) (fun i hi => ⟨hF _ _ (by omega), hF _ _ (by omega)⟩) (fun i hi => ⟨hG _ _ (by omega), hG _ _ (by omega)⟩) D, zqF_c h00 (fun k hk _ b j h1 h2 h3 => hF _ _ (by omega)) (fun k hk _ => ⟨hG _ _ (by omega), hG _ _ (by omega), fun p _ => hG _ _ (by omega), fun j _ _ => ⟨hG _ _ (by omega), hG _ _ (by omega)⟩⟩) S, hj⟩
  · by_cases e : i = s
    · subst e; rw [f6, f7, g2, g3]; exact ⟨rfl, rfl, fun _ => rfl⟩
    · rw [hF _ _ (by omega), hF _ _ (by omega), hG _ _ (by omega), hG _ _ (by omega)]
      exact Lr.1 i hi (h00 i hi t)
  · by_cases e : i = s
    · subst e; rw [g2]; omega
    · rw [hG 1172 i (by omega), h0 i hi]
      obtain ⟨a, b, c⟩ := Lr.2.1 i hi
      refine ⟨a, b, fun d => ?_⟩
      rw [h0 _ (by omega)]
      exact c d
  · have he : ∀ i, i < 60 → g' 1172 i = g 1172 i ∨ g' 1172 i = -1 := fun i hi => by
      by_cases e : i = s
      · subst e; exact Or.inr g2
      · exact Or.inl (hG _ _ (by omega))
    have hb : ∀ i, i < 60 → -1 ≤ g 1172 i ∧ g 1172 i < 60 := fun i hi => ⟨(Lr.2.1 i hi).1, (Lr.2.1 i hi).2.1⟩
    by_cases e : i = s
    · subst e; rw [g2]; exact Or.inl rfl
    · rw [hG 1172 i (by omega)]
      exact (zrne_d hb he 60 _ (hb i hi) (Lr.2.2 i hi)).2 (by omega)
/-- erased -/
theorem zqQ_erase (h : zqR n f g) (hs : s < 60) (ts : g 1166 s = 1) {v : Int} : zqR n (zu2 (zer f s 60) (14 + 14 * s) 0 0) (zu2 (zrera g s) 1153 36 v) := by
  obtain ⟨T, A, K, Lr, G, V, D, S, J⟩ := h
  generalize ef : zu2 (zer f s 60) (14 + 14 * s) 0 0 = f'
  generalize eg : zu2 (zrera g s) 1153 36 v = g'
  have hz : ∀ i, i < 60 → ∀ j, zer f s 60 (14 + 14 * i) j = if (j = 6 ∨ j = 7) ∧ f (14 + 14 * i) 0 = 1 ∧ f (14 + 14 * i) 6 = (s : Int) then -1 else f (14 + 14 * i) j := fun i hi j => by
    unfold zer
    by_cases c : (j = 6 ∨ j = 7) ∧ f (14 + 14 * i) 0 = 1 ∧ f (14 + 14 * i) 6 = (s : Int)
    · rw [if_pos c, if_pos ⟨c.1, by omega, by omega, by omega, c.2⟩]
    · rw [if_neg c, if_neg (fun c2 => c ⟨c2.1, c2.2.2.2.2⟩)]
  have hF : ∀ b i, ((b ≠ 14 + 14 * s ∨ i ≠ 0) ∧ (i ≠ 6 ∧ i ≠ 7 ∨ b < 14 ∨ (b - 14) % 14 ≠ 0)) → f' b i = f b i := fun b i hb => by
    rw [← ef, zu2_sj hb.1]
    unfold zer
    rw [if_neg (by omega)]
  have hG : ∀ b i, ((b ≠ 1153 ∨ i ≠ 36) ∧ (b ≠ 1166 ∨ i ≠ s) ∧ (b ≠ 1180 ∨ i ≠ s) ∧ b ≠ 1172 ∧ b ≠ 1173) → g' b i = g b i := fun b i hb => by
    rw [← eg, zu2_sj (by omega)]
    unfold zrera
    rw [zu2_sj (by omega), zu2_sj (by omega), zu2_sj (by omega)]
    unfold zrer
    rw [if_neg (by omega)]
  have gs : g' 1166 s = 0 := by
    rw [← eg, zu2_sj (by omega)]
    unfold zrera
    rw [zu2_sj (by omega), zu2_sj (by omega), zu2_eq]
  have gw : g' 1180 s = -1 := by
    rw [← eg, zu2_sj (by omega)]
    unfold zrera
    rw [zu2_eq]
  have gl : ∀ i, i < 60 → g' 1172 i = if i = s ∨ g 1172 i = (s : Int) then -1 else g 1172 i := fun i hi => by
    rw [← eg, zu2_sj (by omega)]
    unfold zrera
    rw [zu2_sj (by omega)]
    by_cases e : i = s
    · subst e
      rw [zu2_eq, if_pos (Or.inl rfl)]
    · rw [zu2_sj (by omega), zu2_sj (by omega)]
      unfold zrer
      by_cases c : g 1172 i = (s : Int)
      · rw [if_pos ⟨Or.inl rfl, hi, c⟩, if_pos (Or.inr c)]
      · rw [if_neg (fun c2 => c c2.2.2), if_neg (fun c2 => c2.elim e c)]
  have gk : ∀ i, i < 60 → i ≠ s → g' 1173 i = if g 1172 i = (s : Int) then -1 else g 1173 i := fun i hi e => by
    rw [← eg, zu2_sj (by omega)]
    unfold zrera
    rw [zu2_sj (by omega), zu2_sj (by omega), zu2_sj (by omega)]
    unfold zrer
    by_cases c : g 1172 i = (s : Int)
    · rw [if_pos ⟨Or.inr rfl, hi, c⟩, if_pos c]
    · rw [if_neg (fun c2 => c c2.2.2), if_neg c]
  have h00 : ∀ i, i < 60 → g' 1166 i = 1 → g 1166 i = 1 := fun i hi t => by
    by_cases e : i = s
    · subst e; rw [gs] at t; omega
    · rw [hG _ _ (by omega)] at t; exact t
  have hb : ∀ i, i < 60 → -1 ≤ g 1172 i ∧ g 1172 i < 60 := fun i hi => ⟨(Lr.2.1 i hi).1, (Lr.2.1 i hi).2.1⟩
  have fl : ∀ i, i < 60 → f' (14 + 14 * i) 6 = (if f (14 + 14 * i) 0 = 1 ∧ f (14 + 14 * i) 6 = (s : Int) then -1 else f (14 + 14 * i) 6) ∧ f' (14 + 14 * i) 7 = (if f (14 + 14 * i) 0 = 1 ∧ f (14 + 14 * i) 6 = (s : Int) then -1 else f (14 + 14 * i) 7) := fun i hi => by
    rw [← ef, zu2_sj (by omega), zu2_sj (by omega), hz i hi, hz i hi]
    by_cases c : f (14 + 14 * i) 0 = 1 ∧ f (14 + 14 * i) 6 = (s : Int)
    · rw [if_pos c, if_pos c, if_pos ⟨Or.inl rfl, c⟩, if_pos ⟨Or.inr rfl, c⟩]
      exact ⟨rfl, rfl⟩
    · rw [if_neg c, if_neg c, if_neg (fun c2 => c c2.2), if_neg (fun c2 => c c2.2)]
      exact ⟨rfl, rfl⟩
  have hj : zqJ f' := by
    obtain ⟨J1, J2, J3, J4⟩ := J
    refine ⟨fun i hi => ?_, fun i hi => ?_, ⟨fun i hi => ?_, fun i hi => ?_⟩, fun i hi => ?_⟩
    · unfold zKy
      rw [hF _ 3 (by omega), hF _ 4 (by omega)]
      exact J1 i hi
    · unfold zld
      rw [(fl i hi).1]
      have := J2 i hi
      unfold zld at this
      split <;> omega
    · rw [hF _ _ (by omega)]; exact J3.1 i hi
    · rw [hF _ _ (by omega)]; exact J3.2 i hi
    · rw [hF _ _ (by omega)]; exact J4 i hi
  have ht : zqT n f' g' := by
    refine ⟨T.1, fun i hi => ?_⟩
    obtain ⟨a, b, c⟩ := T.2 i hi
    by_cases e : i = s
    · subst e
      rw [gs, ← ef, zu2_eq]
      exact ⟨Or.inl rfl, rfl, fun h => absurd h (by omega)⟩
    · rw [hF _ _ (by omega), hG _ _ (by omega)]
      exact ⟨a, b, c⟩
  refine ⟨ht, zqA_c h00 (fun i hi _ => ⟨hF _ _ (by omega), hF _ _ (by omega), hF _ _ (by omega)⟩) (fun i hi _ => ⟨hG _ _ (by omega), hG _ _ (by omega), hG _ _ (by omega)⟩) A, zqK_c h00 (fun i hi _ => ⟨hF _ _ (by omega), hF _ _ (by omega)⟩) (fun i hi _ => ⟨hG _ _ (by omega), hG _ _ (by omega), hG _ _ (by omega)⟩) K, ⟨fun i hi t => ?_, fun i hi => ?_, fun i hi => ?_⟩, fun i hi => ?_, zqV_c (fun i hi => hF _ _ (by omega)) (fun i hi => hG _ _ (by omega)) (fun i hi => ⟨hG _ _ (by omega), hG _ _ (by omega)⟩) V, zqD_c (hF _ _ (by omega)) (hG _ _ (by omega)) (fun i hi => ⟨hF _ _ (by omega), hF _ _ (by omega)⟩) (fun i hi => ⟨hG _ _ (by omega), hG _ _ (by omega)⟩) D, zqF_c h00 (fun k hk _ b j h1 h2 h3 => hF _ _ (by omega)) (fun k hk _ => ⟨hG _ _ (by omega), hG _ _ (by omega), fun p _ => hG _ _ (by omega), fun j _ _ => ⟨hG _ _ (by omega), hG _ _ (by omega)⟩⟩) S, hj⟩
  · have e : i ≠ s := fun e => by subst e; rw [gs] at t; omega
    have t1 := h00 i hi t
    obtain ⟨a, b, b2⟩ := Lr.1 i hi t1
    rw [(fl i hi).1, (fl i hi).2, gl i hi, gk i hi e, a, b, (T.2 i hi).2.1]
    by_cases c : g 1172 i = (s : Int)
    · rw [if_pos ⟨t1, c⟩, if_pos (Or.inr c), if_pos ⟨t1, c⟩, if_pos c]
      exact ⟨rfl, rfl, fun _ => rfl⟩
    · rw [if_neg (fun c2 => c c2.2), if_neg (fun c2 => c2.elim e c), if_neg (fun c2 => c c2.2), if_neg c]
      exact ⟨rfl, rfl, b2⟩
  · rw [gl i hi]
    obtain ⟨a, b, c⟩ := Lr.2.1 i hi
    split
    · exact ⟨by omega, by omega, fun h => absurd h (by omega)⟩
    · next d =>
      refine ⟨a, b, fun p => ?_⟩
      rw [hG 1166 i (by omega), hG 1166 _ (by omega)]
      exact c p
  · have he : ∀ i, i < 60 → g' 1172 i = g 1172 i ∨ g' 1172 i = -1 := fun i hi => by
      rw [gl i hi]
      split
      · exact Or.inr rfl
      · exact Or.inl rfl
    rcases he i hi with e | e <;> rw [e]
    · exact (zrne_d hb he 60 _ (hb i hi) (Lr.2.2 i hi)).2 (by omega)
    · exact Or.inl rfl
  · obtain ⟨a, b, c⟩ := G i hi
    by_cases e : i = s
    · subst e
      rw [gs, gw]
      refine ⟨fun t => absurd t (by omega), fun _ => ?_, Or.inl rfl⟩
      rw [hF _ _ (by omega)]
      exact (a ts).2
    · rw [hG 1166 i (by omega), hG 1180 i (by omega), hF _ 8 (by omega), hF 7 i (by omega)]
      refine ⟨a, b, ?_⟩
      rcases c with c | ⟨c1, c2, c3⟩
      · exact Or.inl c
      · refine Or.inr ⟨c1, c2, ?_⟩
        by_cases e2 : (g 1180 i).toNat = s
        · rw [e2]; exact gs
        · rw [hG _ _ (by omega)]; exact c3
end ZATTRS
end SG_C3_attrs
section SG_C4_attrs2
/-! the same, done by both programs -/
section ZATTR2
variable {L k : Nat} {M N : zM} {s : Nat}
/-- what a change of such a kind needs, and no more -/
def zqJ1 (M N : zM) (k : Nat) (w : Int) : Prop := zqJw M N k w ∧ zqJs M N k ∧ M.2.1 (855 + 4 * k) 3 = -1
theorem zqS_1 (hM : zLay M.2.2.2) (hN : zLayN N.2.2.2) (hk : k < 60) (h : zqR k M.2.1 N.2.1) (hj : zqJ1 M N k 1) : zqS L k M N := by
  obtain ⟨⟨j0, j1⟩, j2, j3⟩ := hj
  rcases zqS_sh (L := L) hM hN hk h j2 (Or.inl j3) (by omega) with no | ⟨s, hs, e2, e4, ht, hg, e⟩
  · exact no
  · have h1 := zqR_g1 (k := k) h
    refine ⟨zu2 (zer M.2.1 s 60) (14 + 14 * s) 0 0, zu2 (zrera (zqg1 N.2.1 k) s) 1153 36 (zcnt (zrfl (zqg1 N.2.1 k) s) 60 : Int), (zcnt (zfol M.2.1 s) 60 : Int), 1, fun Q => c10_1 hM (zqR_01 h) hk hk hg j0 hs e2 (fun Q9 => c15 hM (zqR_01 h) hs), e 1 _ (Or.inr rfl) (fun Q9 => c208_1 (M := zwI N (zqg1 N.2.1 k)) (x := 0) (M10 := N) (M9 := zwI N (zrera (zqg1 N.2.1 k) s)) hN hk hs ((zqg1_o (k := k) (by omega)).trans j1) (fun Q8 => c209 (M := zwI N (zqg1 N.2.1 k)) hN (zqR_r01 h1) hs)), fun c j hc => ?_, fun c j hc => ?_, fun j h1 h2 h3 => ?_, Or.inr ⟨rfl, by omega, ?_, zqR_n hk (zqQ_erase h1 hs ((zqg1_o (by omega)).trans ht))⟩⟩
    · rw [zu2_sj (by omega)]
      unfold zer
      rw [if_neg (by omega)]
    · rw [zu2_sj (by omega)]
      unfold zrera
      rw [zu2_sj (by omega), zu2_sj (by omega), zu2_sj (by omega)]
      unfold zrer
      rw [if_neg (by omega)]
      exact zqg1_o (by omega)
    · rw [zu2_i h2]
      unfold zrera
      rw [zu2_sj (by omega), zu2_sj (by omega), zu2_sj (by omega)]
      unfold zrer
      rw [if_neg (by omega)]
      exact zu2_i h2 _ _ _ _
    · rw [zu2_eq]
      congr 1
      refine zcnt_cong _ _ 60 (fun i hi => ?_)
      unfold zrfl zfol
      rw [zqg1_a (show 1166 ≠ 1153 by omega), zqg1_a (show 1172 ≠ 1153 by omega), zqR_t h hi]
      refine decide_eq_decide.mpr ⟨fun c => ⟨c.1, ?_⟩, fun c => ⟨c.1, ?_⟩⟩
      · rw [(h.2.2.2.1.1 i hi c.1).1]; exact c.2
      · rw [← (h.2.2.2.1.1 i hi c.1).1]; exact c.2
theorem zqS_6 (hM : zLay M.2.2.2) (hN : zLayN N.2.2.2) (hk : k < 60) (h : zqR k M.2.1 N.2.1) (hj : zqJ1 M N k 6) (h5 : M.2.1 (855 + 4 * k) 5 = N.2.1 1161 (4 * k + 1) ∧ 1 ≤ N.2.1 1161 (4 * k + 1) ∧ N.2.1 1161 (4 * k + 1) ≤ 9) : zqS L k M N := by
  obtain ⟨⟨j0, j1⟩, j2, j3⟩ := hj
  rcases zqS_sh (L := L) hM hN hk h j2 (Or.inl j3) (by omega) with no | ⟨s, hs, e2, e4, ht, hg, e⟩
  · exact no
  · have h1 := zqR_g1 (k := k) h
    obtain ⟨a1, a2, a3, a4, a5⟩ := h.2.1 s hs ht
    have ec := fun Q9 => c24 (L := L) (M := M) (Q := Q9) (c := N.2.1 1161 (4 * k + 1)) (zShA_i hs)
    rw [← h5.1] at ec
    rw [← h5.1] at e
    refine ⟨zu2 M.2.1 (14 + 14 * s) 2 (M.2.1 (855 + 4 * k) 5), zu2 (zu2 (zqg1 N.2.1 k) 1153 36 ((zqg1 N.2.1 k) 1168 s)) 1168 s (M.2.1 (855 + 4 * k) 5), M.2.1 (14 + 14 * s) 2, 1, fun Q => c10_6 hM (zqR_01 h) hk hk hg j0 hs e2 ec, e 1 _ (Or.inr rfl) (fun Q9 => c208_6 (a := 0) (M9 := N) (M := zwI N (zqg1 N.2.1 k)) (x := 0) (M10 := N) hN hk hs ((zqg1_o (k := k) (by omega)).trans j1)), fun c j hc => zu2_sj (by omega), fun c j hc => ?_, fun j h1 h2 h3 => ?_, Or.inr ⟨rfl, by omega, ?_, zqR_n hk (zqQ_paint h1 hs (by omega))⟩⟩
    · rw [zu2_sj (by omega), zu2_sj (by omega)]
      exact zqg1_o (by omega)
    · rw [zu2_sj (by omega), zu2_sj (by omega)]
      exact zu2_i h2 _ _ _ _
    · rw [zu2_sj (by omega), zu2_eq, zqg1_o (by omega), a2]
theorem zqS_11 (hM : zLay M.2.2.2) (hN : zLayN N.2.2.2) (hk : k < 60) (h : zqR k M.2.1 N.2.1) (hj : zqJ1 M N k 11) : zqS L k M N := by
  obtain ⟨⟨j0, j1⟩, j2, j3⟩ := hj
  rcases zqS_sh (L := L) hM hN hk h j2 (Or.inl j3) (by omega) with no | ⟨s, hs, e2, e4, ht, hg, e⟩
  · exact no
  · have h1 := zqR_g1 (k := k) h
    have hl := (h.2.2.2.1.1 s hs ht).1
    have hb := h.2.2.2.1.2.1 s hs
    have e72 : zqg1 N.2.1 k 1172 s = N.2.1 1172 s := zqg1_o (by omega)
    have k1 : ∀ c j, (c < 1153 ∨ (1154 ≤ c ∧ c < 1166) ∨ 1189 ≤ c) → zu2 (zu2 (zu2 (zqg1 N.2.1 k) 1153 36 ((zqg1 N.2.1 k) 1172 s)) 1172 s (-1)) 1173 s (-1) c j = N.2.1 c j := fun c j hc => by
      rw [zu2_sj (by omega), zu2_sj (by omega), zu2_sj (by omega)]
      exact zqg1_o (by omega)
    have k2 : ∀ j, j ≠ 33 → j ≠ 36 → j ≠ 38 → zu2 (zu2 (zu2 (zqg1 N.2.1 k) 1153 36 ((zqg1 N.2.1 k) 1172 s)) 1172 s (-1)) 1173 s (-1) 1153 j = N.2.1 1153 j := fun j h1 h2 h3 => by
      rw [zu2_sj (by omega), zu2_sj (by omega), zu2_sj (by omega)]
      exact zu2_i h2 _ _ _ _
    have hl7 := (h.2.2.2.1.1 s hs ht).2.2
    by_cases c : N.2.1 1172 s = -1
    · have k0 : zqR k M.2.1 (zu2 (zu2 (zu2 (zqg1 N.2.1 k) 1153 36 ((zqg1 N.2.1 k) 1172 s)) 1172 s (-1)) 1173 s (-1)) := by
        refine zqR_keep (fun _ _ _ _ _ _ _ => rfl) (zqR_ch h) (fun b j q1 q2 _ => ?_) ?_ h
        · by_cases c3 : b = 1173 ∧ j = s
          · rw [c3.1, c3.2, zu2_eq, hl7 c]
          · rw [zu2_sj (by omega)]
            by_cases c2 : b = 1172 ∧ j = s
            · rw [c2.1, c2.2, zu2_eq, c]
            · rw [zu2_sj (by omega), zu2_sj (by omega)]
              exact zqg1_o (by omega)
        · rw [zu2_sj (by omega), zu2_sj (by omega), zu2_sj (by omega)]
          exact zu2_i (by omega) _ _ _ _
      refine ⟨M.2.1, _, -1, 0, fun Q => c10_11 (v := -1) (M9 := M) hM (zqR_01 h) hk hk hg j0 hs e2 (fun Q9 => ?_), e 0 _ (Or.inl rfl) (fun Q9 => c208_11n (a := 0) (x := 0) (M9 := N) (M10 := N) (M := zwI N (zqg1 N.2.1 k)) hN hk hs ((zqg1_o (k := k) (by omega)).trans j1) (by show zqg1 N.2.1 k 1172 s < 0; omega)), fun _ _ _ => rfl, k1, k2, Or.inl ⟨rfl, rfl, k0⟩⟩
      rw [c34 (zShA_i hs)]
      exact propext ⟨fun q => q.1 (by omega), fun q => ⟨fun _ => q, fun q2 => absurd (show M.2.1 (14 + 14 * s) 6 = -1 by omega) q2⟩⟩
    · refine ⟨zu2 (zu2 M.2.1 (14 + 14 * s) 6 (-1)) (14 + 14 * s) 7 (-1), _, M.2.1 (14 + 14 * s) 6, 1, fun Q => c10_11 (v := M.2.1 (14 + 14 * s) 6) (M9 := zwI M (zu2 (zu2 M.2.1 (14 + 14 * s) 6 (-1)) (14 + 14 * s) 7 (-1))) hM (zqR_01 h) hk hk hg j0 hs e2 (fun Q9 => ?_), e 1 _ (Or.inr rfl) (fun Q9 => c208_11p (a := 0) (x := 0) (M9 := N) (M10 := N) (M := zwI N (zqg1 N.2.1 k)) hN hk hs ((zqg1_o (k := k) (by omega)).trans j1) (by show 0 ≤ zqg1 N.2.1 k 1172 s; omega)), fun c j hc => by rw [zu2_sj (by omega), zu2_sj (by omega)], k1, k2, Or.inr ⟨rfl, by omega, ?_, zqR_n hk (zqQ_untie h1 hs)⟩⟩
      · rw [c34 (zShA_i hs)]
        exact propext ⟨fun q => q.2 (by omega), fun q => ⟨fun q2 => absurd q2 (by omega), fun _ => q⟩⟩
      · rw [zu2_sj (by omega), zu2_sj (by omega), zu2_eq]
        exact e72.trans hl.symm
theorem zqS_9 (hM : zLay M.2.2.2) (hN : zLayN N.2.2.2) (hk : k < 60) (h : zqR k M.2.1 N.2.1) (hw : zqJw M N k 9) (h2 : M.2.1 (855 + 4 * k) 2 = -1) (h3 : M.2.1 (855 + 4 * k) 3 = -1) (h4 : M.2.1 (855 + 4 * k) 4 = N.2.1 1161 (4 * k) ∧ 0 ≤ N.2.1 1161 (4 * k) ∧ N.2.1 1161 (4 * k) ≤ 3) (h9 : M.2.1 (855 + 4 * k) 9 = N.2.1 1161 (4 * k + 1) ∧ (N.2.1 1161 (4 * k + 1) = 0 ∨ N.2.1 1161 (4 * k + 1) = 1)) : zqS L k M N := by
  obtain ⟨j0, j1⟩ := hw
  have h1 := zqR_g1 (k := k) h
  refine ⟨_, _, _, 1, fun Q => c10_9 hM (zqR_01 h) hk hk ⟨Or.inl h2, Or.inl h3⟩ j0 (fun Q9 => c32 hM (zqR_01 h) (by omega)), fun Q => c192_9 hN hk j1 (fun Q9 => c203 (M := zwI N (zqg1 N.2.1 k)) hN (zqR_r01 h1) (by omega)) (Or.inr rfl), fun c j hc => zu2_sj (by omega), fun c j hc => ?_, fun j h1 h2 h3 => ?_, Or.inr ⟨rfl, by omega, ?_, ?_⟩⟩
  · show zu2 (zu2 (zqg1 N.2.1 k) 1153 36 _) 1181 _ _ c j = N.2.1 c j
    rw [zu2_sj (by omega), zu2_sj (by omega)]
    exact zqg1_o (by omega)
  · show zu2 (zu2 (zqg1 N.2.1 k) 1153 36 _) 1181 _ _ 1153 j = N.2.1 1153 j
    rw [zu2_sj (by omega), zu2_sj (by omega)]
    exact zu2_i h2 _ _ _ _
  · show zu2 (zu2 (zqg1 N.2.1 k) 1153 36 _) 1181 _ _ 1153 36 = _
    rw [zu2_sj (by omega), zu2_eq, h4.1]
    congr 1
    refine zcnt_cong _ _ 60 (fun i hi => ?_)
    show zrnl (zqg1 N.2.1 k) _ i = _
    unfold zrnl zinl
    rw [zqg1_a (show 1166 ≠ 1153 by omega), zqg1_a (show 1167 ≠ 1153 by omega), zqR_t h hi]
    refine decide_eq_decide.mpr ⟨fun c => ⟨c.1, ?_⟩, fun c => ⟨c.1, ?_⟩⟩
    · rw [(h.2.1 i hi c.1).1]; exact c.2
    · rw [← (h.2.1 i hi c.1).1]; exact c.2
  · rw [h4.1, h9.1]
    exact zqR_n hk (zqQ_show h1 h9.2)
end ZATTR2
end SG_C4_attrs2
section SG_C5_top
/-! the top of a layer -/
section ZTOPK
variable {n : Nat} {f g f' g' G : Nat → Nat → Int} {s : Nat}
theorem zrab_m {l : Int} : ∀ k : Nat, 1 ≤ zrab G s l k ∧ (∀ i, i < k → i ≠ s → zrnl G l i = true → G 1169 i / G 1170 i + 1 ≤ zrab G s l k) ∧ (zrab G s l k = 1 ∨ ∃ i, i < k ∧ i ≠ s ∧ zrnl G l i = true ∧ zrab G s l k = G 1169 i / G 1170 i + 1)
  | 0 => ⟨Int.le_refl _, fun i h => absurd h (Nat.not_lt_zero i), Or.inl rfl⟩
  | k + 1 => by
    obtain ⟨h1, h2, h3⟩ := zrab_m (l := l) k
    rw [zrab_s]
    by_cases c : k ≠ s ∧ zrnl G l k = true
    · rw [if_pos c]
      refine ⟨by omega, fun i hi hs hl => ?_, ?_⟩
      · by_cases e : i = k
        · subst e; omega
        · have := h2 i (by omega) hs hl; omega
      · by_cases d : zrab G s l k ≤ G 1169 k / G 1170 k + 1
        · exact Or.inr ⟨k, by omega, c.1, c.2, by omega⟩
        · rcases h3 with h3 | ⟨i, hi, hs, hl, e⟩
          · exact Or.inl (by omega)
          · exact Or.inr ⟨i, by omega, hs, hl, by omega⟩
    · rw [if_neg c]
      refine ⟨h1, fun i hi hs hl => ?_, ?_⟩
      · by_cases e : i = k
        · subst e; exact absurd ⟨hs, hl⟩ c
        · exact h2 i (by omega) hs hl
      · rcases h3 with h3 | ⟨i, hi, hs, hl, e⟩
        · exact Or.inl h3
        · exact Or.inr ⟨i, by omega, hs, hl, e⟩
/-- the class's greatest and the reference's next -/
theorem zqgr {F : Nat → Nat → Int} {l : Int} : ∀ k : Nat, (∀ i, i < k → i ≠ s → F (14 + 14 * i) 0 = G 1166 i ∧ (G 1166 i = 1 → F (14 + 14 * i) 1 = G 1167 i ∧ F (14 + 14 * i) 3 = G 1169 i ∧ F (14 + 14 * i) 4 = G 1170 i)) → zgr F s l k + 1 = zrab G s l k
  | 0, _ => rfl
  | k + 1, h => by
    have ih := zqgr (F := F) (l := l) k (fun i hi => h i (by omega))
    rw [zgr_s, zrab_s]
    by_cases e : k = s
    · rw [if_neg (fun c => c.1 e), if_neg (fun c => c.1 e)]
      exact ih
    · obtain ⟨a, b⟩ := h k (by omega) e
      by_cases c : zrnl G l k = true
      · obtain ⟨c1, c2⟩ := zrnl_iff.mp c
        obtain ⟨b1, b2, b3⟩ := b c1
        rw [if_pos ⟨e, zinl_iff.mpr ⟨by omega, by omega⟩⟩, if_pos ⟨e, c⟩, b2, b3]
        omega
      · rw [if_neg (fun c2 => c ?_), if_neg (fun c2 => c c2.2)]
        · exact ih
        · obtain ⟨d1, d2⟩ := zinl_iff.mp c2.2
          rw [a] at d1
          exact zrnl_iff.mpr ⟨d1, by rw [← (b d1).1]; exact d2⟩
theorem zdvm {a b t : Int} (hb : 1 ≤ b) (h : a / b + 1 ≤ t) : a < t * b := by
  have h1 := Int.lt_ediv_add_one_mul_self a (show (0 : Int) < b by omega)
  have h2 : (a / b + 1) * b ≤ t * b := Int.mul_le_mul_of_nonneg_right h (by omega)
  omega
theorem zdvl {a b m : Int} (hb : 1 ≤ b) (h : a ≤ m * b) : a / b ≤ m := by
  have h1 := Int.ediv_le_ediv (c := b) (by omega) h
  rw [Int.mul_ediv_cancel _ (by omega)] at h1
  exact h1
/-- s at the top of layer l -/
theorem zqK_top {l t : Int} (hK : zqK n f g) (hO : ∀ i, i < 60 → i ≠ s → (g' 1166 i = 1 → g 1166 i = 1) ∧ f' (14 + 14 * i) 3 = f (14 + 14 * i) 3 ∧ f' (14 + 14 * i) 4 = f (14 + 14 * i) 4 ∧ g' 1167 i = g 1167 i ∧ g' 1169 i = g 1169 i ∧ g' 1170 i = g 1170 i) (hG : ∀ i, i < 60 → i ≠ s → G 1166 i = g 1166 i ∧ G 1167 i = g 1167 i ∧ G 1169 i = g 1169 i ∧ G 1170 i = g 1170 i) (hS : f' (14 + 14 * s) 3 = t ∧ f' (14 + 14 * s) 4 = 1 ∧ g' 1167 s = l ∧ g' 1169 s = t ∧ g' 1170 s = 1) (ht : t = zrab G s l 60) : zqK (n + 1) f' g' := by
  obtain ⟨m1, m2, m3⟩ := zrab_m (G := G) (s := s) (l := l) 60
  rw [← ht] at m1 m2 m3
  obtain ⟨s1, s2, s3, s4, s5⟩ := hS
  have bound : t ≤ (n : Int) + 1 := by
    rcases m3 with m3 | ⟨i, hi, his, hl, e⟩
    · omega
    · obtain ⟨a1, a2, a3, a4⟩ := hG i hi his
      obtain ⟨l1, l2⟩ := zrnl_iff.mp hl
      rw [a1] at l1
      obtain ⟨_, _, _, b, c⟩ := hK.1 i hi l1
      have := zdvl b.1 c
      rw [a3, a4] at e
      omega
  have key : ∀ i, i < 60 → i ≠ s → g' 1166 i = 1 → g' 1167 i = l → g' 1169 i < t * g' 1170 i := fun i hi his h1 h2 => by
    obtain ⟨o1, o2, o3, o4, o5, o6⟩ := hO i hi his
    obtain ⟨a1, a2, a3, a4⟩ := hG i hi his
    have g1 := o1 h1
    obtain ⟨_, _, _, b, c⟩ := hK.1 i hi g1
    have := m2 i hi his (zrnl_iff.mpr ⟨by omega, by omega⟩)
    rw [a3, a4] at this
    rw [o5, o6]
    exact zdvm b.1 this
  refine ⟨fun i hi h1 => ?_, fun i j hi hj hij h1 h2 h3 => ?_⟩
  · by_cases e : i = s
    · subst e
      rw [s1, s2, s4, s5]
      exact ⟨rfl, rfl, m1, by omega, by omega⟩
    · obtain ⟨o1, o2, o3, o4, o5, o6⟩ := hO i hi e
      rw [o2, o3, o5, o6]
      exact (zqK_n hK).1 i hi (o1 h1)
  · by_cases e : i = s
    · subst e
      have k := key j hj (fun e => hij e.symm) h2 (by omega)
      rw [s4, s5]
      omega
    · by_cases e2 : j = s
      · subst e2
        have k := key i hi e h1 (by omega)
        rw [s4, s5]
        omega
      · obtain ⟨o1, o2, o3, o4, o5, o6⟩ := hO i hi e
        obtain ⟨p1, p2, p3, p4, p5, p6⟩ := hO j hj e2
        rw [o5, o6, p5, p6]
        exact hK.2 i j hi hj hij (o1 h1) (p1 h2) (by omega)
theorem zqK_o {l t : Int} (hK : zqK n f g) (hn : n ≤ 60) (hG : ∀ i, i < 60 → i ≠ s → G 1166 i = g 1166 i ∧ G 1167 i = g 1167 i ∧ G 1169 i = g 1169 i ∧ G 1170 i = g 1170 i) : 1 ≤ zrab G s l 60 ∧ zrab G s l 60 ≤ 61 := by
  obtain ⟨m1, m2, m3⟩ := zrab_m (G := G) (s := s) (l := l) 60
  refine ⟨m1, ?_⟩
  rcases m3 with m3 | ⟨i, hi, his, hl, e⟩
  · omega
  · obtain ⟨a1, a2, a3, a4⟩ := hG i hi his
    obtain ⟨l1, l2⟩ := zrnl_iff.mp hl
    rw [a1] at l1
    obtain ⟨_, _, _, b, c⟩ := hK.1 i hi l1
    have := zdvl b.1 c
    rw [a3, a4] at e
    omega
theorem zqQ_layer (h : zqR n f g) (hs : s < 60) (hn : n < 60) (ts : g 1166 s = 1) {l v : Int} (hl : 0 ≤ l ∧ l ≤ 3) : zqR (n + 1) (zlay f s l) (zrtp (zu2 (zu2 g 1153 36 v) 1167 s l) s) := by
  have hrt : ∀ i, i < 60 → f (14 + 14 * i) 0 = g 1166 i := fun i hi => zqR_t h hi
  obtain ⟨T, A, K, Lr, G, V, D, S, J⟩ := h
  have eG : ∀ b i, ((b ≠ 1153 ∨ i ≠ 36) ∧ (b ≠ 1167 ∨ i ≠ s)) → zu2 (zu2 g 1153 36 v) 1167 s l b i = g b i := fun b i hb => by rw [zu2_sj hb.2, zu2_sj hb.1]
  have eG2 : zu2 (zu2 g 1153 36 v) 1167 s l 1167 s = l := zu2_eq _ _ _ _
  unfold zlay zrtp
  rw [eG2]
  generalize zu2 (zu2 g 1153 36 v) 1167 s l = G1 at *
  have e1 : zgr f s l 60 + 1 = zrab G1 s l 60 := zqgr 60 (fun i hi his => by
    rw [eG 1166 i (by omega), eG 1167 i (by omega), eG 1169 i (by omega), eG 1170 i (by omega)]
    exact ⟨hrt i hi, fun t => ⟨(A i hi t).1, (K.1 i hi t).1, (K.1 i hi t).2.1⟩⟩)
  rw [e1]
  have hGG : ∀ i, i < 60 → i ≠ s → G1 1166 i = g 1166 i ∧ G1 1167 i = g 1167 i ∧ G1 1169 i = g 1169 i ∧ G1 1170 i = g 1170 i := fun i hi his => ⟨eG _ _ (by omega), eG _ _ (by omega), eG _ _ (by omega), eG _ _ (by omega)⟩
  have hb := zqK_o (l := l) (t := 0) K T.1 hGG
  generalize et : zrab G1 s l 60 = t at *
  generalize ef : zu2 (zu2 (zu2 f (14 + 14 * s) 1 l) (14 + 14 * s) 3 t) (14 + 14 * s) 4 1 = f'
  generalize eg : zu2 (zu2 G1 1169 s t) 1170 s 1 = g'
  have hF : ∀ b i, (b ≠ 14 + 14 * s ∨ (i ≠ 1 ∧ i ≠ 3 ∧ i ≠ 4)) → f' b i = f b i := fun b i hb => by rw [← ef, zu2_sj (by omega), zu2_sj (by omega), zu2_sj (by omega)]
  have hG : ∀ b i, ((b ≠ 1153 ∨ i ≠ 36) ∧ ((b ≠ 1167 ∧ b ≠ 1169 ∧ b ≠ 1170) ∨ i ≠ s)) → g' b i = g b i := fun b i hb => by rw [← eg, zu2_sj (by omega), zu2_sj (by omega), eG _ _ (by omega)]
  have s1 : f' (14 + 14 * s) 1 = l := by rw [← ef, zu2_i (by omega), zu2_i (by omega), zu2_eq]
  have s3 : f' (14 + 14 * s) 3 = t := by rw [← ef, zu2_i (by omega), zu2_eq]
  have s4 : f' (14 + 14 * s) 4 = 1 := by rw [← ef, zu2_eq]
  have r1 : g' 1167 s = l := by rw [← eg, zu2_a (by omega), zu2_a (by omega), eG2]
  have r3 : g' 1169 s = t := by rw [← eg, zu2_a (by omega), zu2_eq]
  have r4 : g' 1170 s = 1 := by rw [← eg, zu2_eq]
  have h0 : ∀ i, i < 60 → g' 1166 i = g 1166 i := fun i hi => hG _ _ (by omega)
  have h00 : ∀ i, i < 60 → g' 1166 i = 1 → g 1166 i = 1 := fun i hi t => by rw [← h0 i hi]; exact t
  have ht2 : zqT (n + 1) f' g' := by
    have := zqT_c (fun i hi => hF _ _ (by omega)) h0 T
    exact ⟨hn, fun i hi => ⟨(this.2 i hi).1, (this.2 i hi).2.1, fun t => by have := (this.2 i hi).2.2 t; omega⟩⟩
  have hj : zqJ f' := by
    obtain ⟨J1, J2, J3, J4⟩ := J
    refine ⟨fun i hi => ?_, fun i hi => ?_, ⟨fun i hi => ?_, fun i hi => ?_⟩, fun i hi => ?_⟩
    · unfold zKy
      by_cases e : i = s
      · subst e; rw [s3, s4]; omega
      · rw [hF _ 3 (by omega), hF _ 4 (by omega)]
        exact J1 i hi
    · unfold zld
      rw [hF _ _ (by omega)]; exact J2 i hi
    · rw [hF _ _ (by omega)]; exact J3.1 i hi
    · rw [hF _ _ (by omega)]; exact J3.2 i hi
    · rw [hF _ _ (by omega)]; exact J4 i hi
  have hg2 : zqG (n + 1) f' g' := zqG_c (by omega) T.1 h0 (fun i hi => ⟨hF _ _ (by omega), hF _ _ (by omega)⟩) (fun i hi => hG _ _ (by omega)) G
  have hv : zqV f' g' := ⟨fun l hl => by rw [hF _ _ (by omega), hG _ _ (by omega)]; exact V.1 l hl, fun i hi => by
    rw [hG 1168 i (by omega)]
    refine ⟨?_, (V.2 i hi).2⟩
    by_cases e : i = s
    · subst e; rw [r1]; exact hl
    · rw [hG 1167 i (by omega)]; exact (V.2 i hi).1⟩
  refine ⟨ht2, fun i hi t2 => ?_, zqK_top (G := G1) (l := l) (t := t) (s := s) K (fun i hi his => ⟨h00 i hi, hF _ _ (by omega), hF _ _ (by omega), hG _ _ (by omega), hG _ _ (by omega), hG _ _ (by omega)⟩) hGG ⟨s3, s4, r1, r3, r4⟩ et.symm, zqL_c h0 (fun i hi => ⟨hF _ _ (by omega), hF _ _ (by omega)⟩) (fun i hi => ⟨hG _ _ (by omega), hG _ _ (by omega)⟩) Lr, hg2, hv, zqD_c (hF _ _ (by omega)) (hG _ _ (by omega)) (fun i hi => ⟨hF _ _ (by omega), hF _ _ (by omega)⟩) (fun i hi => ⟨hG _ _ (by omega), hG _ _ (by omega)⟩) D, zqF_c h00 (fun k hk _ b j h1 h2 h3 => hF _ _ (by omega)) (fun k hk _ => ⟨hG _ _ (by omega), hG _ _ (by omega), fun p _ => hG _ _ (by omega), fun j _ _ => ⟨hG _ _ (by omega), hG _ _ (by omega)⟩⟩) S, hj⟩
  obtain ⟨a1, a2, a3, a4, a5⟩ := A i hi (h00 i hi t2)
  rw [hF _ 2 (by omega), hF _ 5 (by omega), hG 1168 _ (by omega), hG 1171 _ (by omega)]
  by_cases e : i = s
  · subst e
    rw [s1, r1]
    exact ⟨rfl, a2, a3, hl, a5⟩
  · rw [hF _ _ (by omega), hG _ _ (by omega)]
    exact ⟨a1, a2, a3, a4, a5⟩
variable {L k : Nat} {M N : zM}
theorem zqS_8 (hM : zLay M.2.2.2) (hN : zLayN N.2.2.2) (hk : k < 60) (h : zqR k M.2.1 N.2.1) (hj : zqJ1 M N k 8) (h4 : M.2.1 (855 + 4 * k) 4 = N.2.1 1161 (4 * k + 1) ∧ 0 ≤ N.2.1 1161 (4 * k + 1) ∧ N.2.1 1161 (4 * k + 1) ≤ 3) : zqS L k M N := by
  obtain ⟨⟨j0, j1⟩, j2, j3⟩ := hj
  rcases zqS_sh (L := L) hM hN hk h j2 (Or.inl j3) (by omega) with no | ⟨s, hs, e2, e4, ht, hg, e⟩
  · exact no
  · have h1 := zqR_g1 (k := k) h
    obtain ⟨a1, a2, a3, a4, a5⟩ := h.2.1 s hs ht
    have h9 : zrBk (zu2 (zu2 (zqg1 N.2.1 k) 1153 36 ((zqg1 N.2.1 k) 1167 s)) 1167 s (N.2.1 1161 (4 * k + 1))) := fun i hi => by
      have := zqR_rbk h1 i hi
      unfold zrKy at *
      rw [zu2_sj (by omega), zu2_sj (by omega), zu2_sj (by omega), zu2_sj (by omega), zu2_sj (by omega), zu2_sj (by omega)]
      exact this
    refine ⟨_, _, _, 1, fun Q => c10_8 hM (zqR_01 h) hk hk hg j0 hs e2 (fun Q9 => c12 hM (zqR_bk h) hs), e 1 _ (Or.inr rfl) (fun Q9 => c208_8 (a := 0) (x := 0) (M10 := N) (M := zwI N (zqg1 N.2.1 k)) hN hk hs ((zqg1_o (k := k) (by omega)).trans j1) (fun Q8 => c196 (M := zwI N (zu2 (zu2 (zqg1 N.2.1 k) 1153 36 ((zqg1 N.2.1 k) 1167 s)) 1167 s (N.2.1 1161 (4 * k + 1)))) hN h9 hs)), fun c j hc => by rw [zu2_sj (by omega), zu2_sj (by omega), zu2_sj (by omega)], fun c j hc => ?_, fun j h1 h2 h3 => ?_, Or.inr ⟨rfl, by omega, ?_, ?_⟩⟩
    · show zrtp (zu2 (zu2 (zqg1 N.2.1 k) 1153 36 _) 1167 s _) s c j = N.2.1 c j
      unfold zrtp
      rw [zu2_sj (by omega), zu2_sj (by omega), zu2_sj (by omega), zu2_sj (by omega)]
      exact zqg1_o (by omega)
    · show zrtp (zu2 (zu2 (zqg1 N.2.1 k) 1153 36 _) 1167 s _) s 1153 j = N.2.1 1153 j
      unfold zrtp
      rw [zu2_sj (by omega), zu2_sj (by omega), zu2_sj (by omega), zu2_sj (by omega)]
      exact zu2_i h2 _ _ _ _
    · show zrtp (zu2 (zu2 (zqg1 N.2.1 k) 1153 36 _) 1167 s _) s 1153 36 = _
      unfold zrtp
      rw [zu2_sj (by omega), zu2_sj (by omega), zu2_sj (by omega), zu2_eq, zqg1_o (by omega), a1]
    · rw [h4.1]
      exact zqQ_layer h1 hs hk ((zqg1_o (by omega)).trans ht) h4.2
end ZTOPK
end SG_C5_top
section SG_C6_ties
/-! chains of leaders; tied -/
section ZTIEQ
theorem zcnt_m {p q : Nat → Bool} : ∀ m, (∀ i, i < m → p i = true → q i = true) → zcnt p m ≤ zcnt q m ∧ (zcnt p m = zcnt q m → ∀ i, i < m → q i = true → p i = true)
  | 0, _ => ⟨Nat.le_refl _, fun _ i h => absurd h (Nat.not_lt_zero i)⟩
  | m + 1, h => by
    obtain ⟨h1, h2⟩ := zcnt_m m (fun i hi => h i (by omega))
    rw [zcnt_s, zcnt_s]
    by_cases a : p m = true
    · have b := h m (by omega) a
      rw [if_pos a, if_pos b]
      refine ⟨by omega, fun e i hi hq => ?_⟩
      by_cases ei : i = m
      · subst ei; exact a
      · exact h2 (by omega) i (by omega) hq
    · rw [if_neg a]
      by_cases b : q m = true
      · rw [if_pos b]
        exact ⟨by omega, fun e => absurd e (by omega)⟩
      · rw [if_neg b]
        refine ⟨h1, fun e i hi hq => ?_⟩
        by_cases ei : i = m
        · subst ei; exact absurd hq b
        · exact h2 e i (by omega) hq
theorem zcnt_f {p : Nat → Bool} : ∀ m, m ≤ zcnt p m → ∀ i, i < m → p i = true
  | 0, _, i, h => absurd h (Nat.not_lt_zero i)
  | m + 1, h, i, hi => by
    have h1 := zcnt_le p m
    rw [zcnt_s] at h
    by_cases a : p m = true
    · rw [if_pos a] at h
      by_cases ei : i = m
      · subst ei; exact a
      · exact zcnt_f m (by omega) i (by omega)
    · rw [if_neg a] at h
      omega
theorem zrne_u {nx : Nat → Int} : ∀ (k l : Nat) (x : Int), k ≤ l → zrne nx k x → zrne nx l x
  | 0, _, _, _, h => h.elim
  | k + 1, 0, _, hl, _ => absurd hl (by omega)
  | k + 1, l + 1, x, hl, h => h.elim Or.inl (fun h => Or.inr (zrne_u k l _ (by omega) h))
/-- a chain among m that ends, ends within m + 1 steps -/
theorem zqpig {nx : Nat → Int} {m : Nat} (hb : ∀ i, i < m → nx i = -1 ∨ (0 ≤ nx i ∧ nx i < (m : Int))) (K : Nat) (i : Nat) (hi : i < m) (h : zrne nx K (i : Int)) : zrne nx (m + 1) (i : Int) := by
  have P : Nat → Nat → Bool := fun k j => @decide (zrne nx k (j : Int)) (Classical.propDecidable _)
  have eP : ∃ P : Nat → Nat → Bool, ∀ k j, P k j = true ↔ zrne nx k (j : Int) := ⟨fun k j => @decide (zrne nx k (j : Int)) (Classical.propDecidable _), fun k j => @decide_eq_true_iff _ (Classical.propDecidable _)⟩
  clear P
  obtain ⟨P, hP⟩ := eP
  have stab : ∀ k, 1 ≤ k → (∀ j, j < m → zrne nx (k + 1) (j : Int) → zrne nx k (j : Int)) → ∀ l j, j < m → zrne nx l (j : Int) → zrne nx k (j : Int) := by
    intro k hk h1 l
    induction l with
    | zero => exact fun j _ h => h.elim
    | succ l ih =>
      intro j hj h2
      refine h1 j hj ?_
      rcases h2 with h2 | h2
      · exact Or.inl h2
      · refine Or.inr ?_
        rw [Int.toNat_natCast] at *
        rcases hb j hj with e | ⟨e1, e2⟩
        · rw [e]
          cases k with
          | zero => omega
          | succ k => exact Or.inl rfl
        · have e3 : nx j = ((nx j).toNat : Int) := by omega
          rw [e3] at h2 ⊢
          exact ih _ (by omega) h2
  have main : ∀ k, 1 ≤ k → (∀ l j, j < m → zrne nx l (j : Int) → zrne nx k (j : Int)) ∨ k ≤ zcnt (P k) m + 1 := by
    intro k
    induction k with
    | zero => exact fun h => absurd h (by omega)
    | succ k ih =>
      intro _
      by_cases k0 : k = 0
      · subst k0
        exact Or.inr (by omega)
      · have sub : ∀ j, j < m → P k j = true → P (k + 1) j = true := fun j _ h => (hP _ _).mpr (zrne_u k (k + 1) _ (by omega) ((hP _ _).mp h))
        obtain ⟨c1, c2⟩ := zcnt_m m sub
        rcases ih (by omega) with ih | ih
        · exact Or.inl (fun l j hj h => zrne_u k (k + 1) _ (by omega) (ih l j hj h))
        · by_cases e : zcnt (P k) m = zcnt (P (k + 1)) m
          · have c3 := c2 e
            refine Or.inl (fun l j hj h => zrne_u k (k + 1) _ (by omega) (stab k (by omega) (fun j hj h => (hP _ _).mp (c3 j hj ((hP _ _).mpr h))) l j hj h))
          · exact Or.inr (by omega)
  rcases main (m + 1) (by omega) with a | a
  · exact a K i hi h
  · exact (hP _ _).mp (zcnt_f m (by omega) i hi)
/-- a new tie that makes no ring -/
theorem zqtie {nx : Nat → Int} {m s t : Nat} (hb : ∀ i, i < m → nx i = -1 ∨ (0 ≤ nx i ∧ nx i < (m : Int))) (he : ∀ i, i < m → ∃ K, zrne nx K (i : Int)) (hs : s < m) (ht : t < m) (hm : m ≤ 59) (hr : zrng nx (s : Int) 60 1 (t : Int) = 0) : ∀ i, i < m → zrne (fun j => if j = s then (t : Int) else nx j) (m + 1) (i : Int) := by
  have hb2 : ∀ i, i < m → (if i = s then (t : Int) else nx i) = -1 ∨ (0 ≤ (if i = s then (t : Int) else nx i) ∧ (if i = s then (t : Int) else nx i) < (m : Int)) := fun i hi => by
    split
    · omega
    · exact hb i hi
  have a1 : ∀ (K n : Nat) (x : Int), 1 ≤ n → (x = -1 ∨ (0 ≤ x ∧ x < (m : Int))) → zrne nx K x → zrng nx (s : Int) K n x = 0 → zrne (fun j => if j = s then (t : Int) else nx j) K x := by
    intro K
    induction K with
    | zero => exact fun n x _ _ h _ => h.elim
    | succ K ih =>
      intro n x hn hx h hz
      rw [zrng_s] at hz
      by_cases h1 : x = -1
      · exact Or.inl h1
      · rw [if_neg h1] at hz
        by_cases h2 : x = (s : Int)
        · rw [if_pos h2] at hz
          omega
        · rw [if_neg h2] at hz
          have h3 := h.resolve_left h1
          refine Or.inr ?_
          have e : (if x.toNat = s then (t : Int) else nx x.toNat) = nx x.toNat := if_neg (by omega)
          show zrne _ K (if x.toNat = s then (t : Int) else nx x.toNat)
          rw [e]
          exact ih (n + 1) _ (by omega) (hb x.toNat (by omega)) h3 hz
  obtain ⟨K0, h0⟩ := he t ht
  have h60 : zrne nx 60 (t : Int) := zrne_u (m + 1) 60 _ (by omega) (zqpig hb K0 t ht h0)
  have t60 := a1 60 1 (t : Int) (by omega) (by omega) h60 hr
  have a2 : ∀ (K : Nat) (x : Int), (x = -1 ∨ (0 ≤ x ∧ x < (m : Int))) → zrne nx K x → zrne (fun j => if j = s then (t : Int) else nx j) (K + 61) x := by
    intro K
    induction K with
    | zero => exact fun x _ h => h.elim
    | succ K ih =>
      intro x hx h
      by_cases h1 : x = -1
      · exact zrne_u 1 _ _ (by omega) (Or.inl h1)
      · by_cases h2 : x = (s : Int)
        · refine zrne_u 61 _ _ (by omega) (Or.inr ?_)
          show zrne _ 60 (if x.toNat = s then (t : Int) else nx x.toNat)
          rw [if_pos (by omega)]
          exact t60
        · rw [show K + 1 + 61 = (K + 61) + 1 by omega]
          refine Or.inr ?_
          show zrne _ (K + 61) (if x.toNat = s then (t : Int) else nx x.toNat)
          rw [if_neg (by omega)]
          exact ih _ (hb x.toNat (by omega)) (h.resolve_left h1)
  intro i hi
  obtain ⟨K, h⟩ := he i hi
  exact zqpig hb2 _ i hi (a2 K _ (by omega) h)
/-- walks over the same leaders -/
theorem zqrng {u v : Nat → Int} {P : Nat → Prop} (h : ∀ i, P i → u i = v i ∧ (v i = -1 ∨ (0 ≤ v i ∧ P (v i).toNat))) (s : Int) : ∀ (k n : Nat) (x : Int), (x = -1 ∨ (0 ≤ x ∧ P x.toNat)) → zrng u s k n x = zrng v s k n x
  | 0, _, _, _ => rfl
  | k + 1, n, x, hx => by
    rw [zrng_s, zrng_s]
    by_cases h1 : x = -1
    · rw [if_pos h1, if_pos h1]
    · rw [if_neg h1, if_neg h1]
      obtain ⟨a, b⟩ := h x.toNat (hx.resolve_left h1).2
      rw [a, zqrng h s k (n + 1) _ b]
theorem zqovr {u v : Nat → Int} {P : Nat → Prop} (h : ∀ i, P i → u i = v i ∧ (v i = -1 ∨ (0 ≤ v i ∧ P (v i).toNat))) : ∀ (k : Nat) (x : Int), (x = -1 ∨ (0 ≤ x ∧ P x.toNat)) → zovr u k x = zovr v k x
  | 0, _, _ => rfl
  | k + 1, x, hx => by
    rw [zovr_s, zovr_s]
    by_cases h1 : x = -1
    · rw [if_pos h1, if_pos h1]
    · rw [if_neg h1, if_neg h1]
      obtain ⟨a, b⟩ := h x.toNat (hx.resolve_left h1).2
      rw [a, zqovr h k _ b]
theorem zrng_nn (nx : Nat → Int) (s : Int) : ∀ (k n : Nat) (x : Int), 0 ≤ zrng nx s k n x
  | 0, _, _ => Int.le_refl _
  | k + 1, n, x => by
    rw [zrng_s]
    split
    · omega
    · split
      · omega
      · exact zrng_nn nx s k (n + 1) _
variable {n : Nat} {f g f' g' : Nat → Nat → Int} {s t : Nat}
theorem zqR_lb (h : zqR n f g) : ∀ i, i < n → g 1172 i = -1 ∨ (0 ≤ g 1172 i ∧ g 1172 i < (n : Int)) := fun i hi => by
  have n6 := h.1.1
  obtain ⟨a, b, c⟩ := h.2.2.2.1.2.1 i (by omega)
  by_cases e : g 1172 i = -1
  · exact Or.inl e
  · have q := (c (by omega)).2
    have := (h.1.2 _ (by omega)).2.2 q
    exact Or.inr ⟨by omega, by omega⟩
theorem zqR_lv (h : zqR n f g) : ∀ i, (i < 60 ∧ g 1166 i = 1) → zld f i = g 1172 i ∧ (g 1172 i = -1 ∨ (0 ≤ g 1172 i ∧ ((g 1172 i).toNat < 60 ∧ g 1166 (g 1172 i).toNat = 1))) := fun i hi => by
  obtain ⟨a, b, c⟩ := h.2.2.2.1.2.1 i hi.1
  refine ⟨(h.2.2.2.1.1 i hi.1 hi.2).1, ?_⟩
  by_cases e : g 1172 i = -1
  · exact Or.inl e
  · exact Or.inr ⟨by omega, by omega, (c (by omega)).2⟩
theorem zqR_le (h : zqR n f g) : ∀ i, i < n → ∃ K, zrne (g 1172) K (i : Int) := fun i hi => by
  have n6 := h.1.1
  exact ⟨61, Or.inr (by rw [Int.toNat_natCast]; exact h.2.2.2.1.2.2 i (by omega))⟩
theorem zrnd_e {nx : Nat → Int} {s : Int} : ∀ (k : Nat) (x : Int), zrne nx k x → zrnd nx s k x
  | 0, _, h => h.elim
  | k + 1, x, h => h.elim Or.inl (fun h => Or.inr (Or.inr (zrnd_e k _ h)))
theorem zrti_l {k : Int} : zrti g s (t : Int) k 1172 = fun j => if j = s then (t : Int) else g 1172 j := by
  funext j
  unfold zrti
  by_cases e : j = s
  · subst e
    rw [zu2_sj (by omega), zu2_eq, if_pos rfl]
  · rw [zu2_sj (by omega), zu2_sj (by omega), if_neg e]
/-- tied: the boards -/
theorem zqQ_tie (h : zqR n f g) (hn : n < 60) (hs : g 1166 s = 1) (hs6 : s < 60) (ht : g 1166 t = 1) (ht6 : t < 60) (hr : zrng (g 1172) (s : Int) 60 1 (t : Int) = 0) {k a : Int} : zqR n (ztie f s (t : Int) k) (zu2 (zrti g s (t : Int) k) 1153 36 a) ∧ (∀ i, i < n → zrne (zrti g s (t : Int) k 1172) 60 (i : Int)) ∧ zovr (zld (ztie f s (t : Int) k)) 60 (zld (ztie f s (t : Int) k) t) = zovr (zrti g s (t : Int) k 1172) 60 (zrti g s (t : Int) k 1172 t) := by
  have hsn := (h.1.2 s hs6).2.2 hs
  have htn := (h.1.2 t ht6).2.2 ht
  have lb := zqR_lb h
  have ends := zqtie (nx := g 1172) (m := n) lb (zqR_le h) hsn htn (by omega) hr
  have e72 := zrti_l (g := g) (s := s) (t := t) (k := k)
  have en : ∀ i, i < n → zrne (zrti g s (t : Int) k 1172) 60 (i : Int) := fun i hi => by
    rw [e72]
    exact zrne_u (n + 1) 60 _ (by omega) (ends i hi)
  have lv := zqR_lv h
  have n6 := h.1.1
  have ov : zovr (zld (ztie f s (t : Int) k)) 60 (zld (ztie f s (t : Int) k) t) = zovr (zrti g s (t : Int) k 1172) 60 (zrti g s (t : Int) k 1172 t) := by
    have hv : ∀ i, (i < 60 ∧ g 1166 i = 1) → zld (ztie f s (t : Int) k) i = zrti g s (t : Int) k 1172 i ∧ (zrti g s (t : Int) k 1172 i = -1 ∨ (0 ≤ zrti g s (t : Int) k 1172 i ∧ ((zrti g s (t : Int) k 1172 i).toNat < 60 ∧ g 1166 (zrti g s (t : Int) k 1172 i).toNat = 1))) := fun i hi => by
      rw [e72]
      unfold zld ztie
      by_cases e : i = s
      · subst e
        show zu2 _ _ _ _ _ _ = (if i = i then (t : Int) else _) ∧ ((if i = i then (t : Int) else _) = _ ∨ (0 ≤ (if i = i then (t : Int) else _) ∧ ((if i = i then (t : Int) else _).toNat < 60 ∧ g 1166 (if i = i then (t : Int) else _).toNat = 1)))
        rw [if_pos rfl, zu2_sj (by omega), zu2_eq, Int.toNat_natCast]
        exact ⟨rfl, Or.inr ⟨by omega, ht6, ht⟩⟩
      · show zu2 _ _ _ _ _ _ = (if i = s then (t : Int) else g 1172 i) ∧ ((if i = s then (t : Int) else g 1172 i) = _ ∨ (0 ≤ (if i = s then (t : Int) else g 1172 i) ∧ ((if i = s then (t : Int) else g 1172 i).toNat < 60 ∧ g 1166 (if i = s then (t : Int) else g 1172 i).toNat = 1)))
        rw [if_neg e, zu2_sj (by omega), zu2_sj (by omega)]
        exact lv i hi
    obtain ⟨q1, q2⟩ := hv t ⟨ht6, ht⟩
    rw [q1]
    exact zqovr (P := fun i => i < 60 ∧ g 1166 i = 1) hv 60 _ q2
  refine ⟨?_, en, ov⟩
  obtain ⟨T, A, K, Lr, G, V, D, S, J⟩ := h
  generalize ef : ztie f s (t : Int) k = f'
  generalize eg : zu2 (zrti g s (t : Int) k) 1153 36 a = g'
  have hF : ∀ b i, (b ≠ 14 + 14 * s ∨ (i ≠ 6 ∧ i ≠ 7)) → f' b i = f b i := fun b i hb => by
    rw [← ef]
    unfold ztie
    rw [zu2_sj (by omega), zu2_sj (by omega)]
  have hG : ∀ b i, ((b ≠ 1153 ∨ i ≠ 36) ∧ ((b ≠ 1172 ∧ b ≠ 1173) ∨ i ≠ s)) → g' b i = g b i := fun b i hb => by
    rw [← eg, zu2_sj (by omega)]
    unfold zrti
    rw [zu2_sj (by omega), zu2_sj (by omega)]
  have f6 : f' (14 + 14 * s) 6 = (t : Int) := by
    rw [← ef]
    unfold ztie
    rw [zu2_i (by omega), zu2_eq]
  have f7 : f' (14 + 14 * s) 7 = k := by
    rw [← ef]
    unfold ztie
    rw [zu2_eq]
  have g2 : g' 1172 s = (t : Int) := by
    rw [← eg, zu2_sj (by omega)]
    unfold zrti
    rw [zu2_a (by omega), zu2_eq]
  have g3 : g' 1173 s = k := by
    rw [← eg, zu2_sj (by omega)]
    unfold zrti
    rw [zu2_eq]
  have g72 : g' 1172 = zrti g s (t : Int) k 1172 := by
    funext j
    rw [← eg, zu2_sj (by omega)]
  have h0 : ∀ i, i < 60 → g' 1166 i = g 1166 i := fun i hi => hG _ _ (by omega)
  have h00 : ∀ i, i < 60 → g' 1166 i = 1 → g 1166 i = 1 := fun i hi t => by rw [← h0 i hi]; exact t
  have hj : zqJ f' := by
    obtain ⟨J1, J2, J3, J4⟩ := J
    refine ⟨fun i hi => ?_, fun i hi => ?_, ⟨fun i hi => ?_, fun i hi => ?_⟩, fun i hi => ?_⟩
    · unfold zKy
      rw [hF _ 3 (by omega), hF _ 4 (by omega)]
      exact J1 i hi
    · unfold zld
      by_cases e : i = s
      · subst e; rw [f6]; omega
      · rw [hF _ _ (by omega)]; exact J2 i hi
    · rw [hF _ _ (by omega)]; exact J3.1 i hi
    · rw [hF _ _ (by omega)]; exact J3.2 i hi
    · rw [hF _ _ (by omega)]; exact J4 i hi
  refine ⟨zqT_c (fun i hi => hF _ _ (by omega)) h0 T, zqA_c h00 (fun i hi _ => ⟨hF _ _ (by omega), hF _ _ (by omega), hF _ _ (by omega)⟩) (fun i hi _ => ⟨hG _ _ (by omega), hG _ _ (by omega), hG _ _ (by omega)⟩) A, zqK_c h00 (fun i hi _ => ⟨hF _ _ (by omega), hF _ _ (by omega)⟩) (fun i hi _ => ⟨hG _ _ (by omega), hG _ _ (by omega), hG _ _ (by omega)⟩) K, ⟨fun i hi t2 => ?_, fun i hi => ?_, fun i hi => ?_⟩, zqG_c (Nat.le_refl _) T.1 h0 (fun i hi => ⟨hF _ _ (by omega), hF _ _ (by omega)⟩) (fun i hi => hG _ _ (by omega)) G, zqV_c (fun i hi => hF _ _ (by omega)) (fun i hi => hG _ _ (by omega)) (fun i hi => ⟨hG _ _ (by omega), hG _ _ (by omega)⟩) V, zqD_c (hF _ _ (by omega)) (hG _ _ (by omega)) (fun i hi => ⟨hF _ _ (by omega), hF _ _ (by omega)⟩) (fun i hi => ⟨hG _ _ (by omega), hG _ _ (by omega)⟩) D, zqF_c h00 (fun k hk _ b j h1 h2 h3 => hF _ _ (by omega)) (fun k hk _ => ⟨hG _ _ (by omega), hG _ _ (by omega), fun p _ => hG _ _ (by omega), fun j _ _ => ⟨hG _ _ (by omega), hG _ _ (by omega)⟩⟩) S, hj⟩
  · by_cases e : i = s
    · subst e; rw [f6, f7, g2, g3]; exact ⟨rfl, rfl, fun e => absurd e (by omega)⟩
    · rw [hF _ _ (by omega), hF _ _ (by omega), hG _ _ (by omega), hG _ _ (by omega)]
      exact Lr.1 i hi (h00 i hi t2)
  · by_cases e : i = s
    · subst e
      rw [g2, Int.toNat_natCast, h0 _ hi, h0 _ ht6]
      exact ⟨by omega, by omega, fun _ => ⟨hs, ht⟩⟩
    · rw [hG 1172 i (by omega), h0 i hi]
      obtain ⟨a, b, c⟩ := Lr.2.1 i hi
      refine ⟨a, b, fun d => ?_⟩
      rw [h0 _ (by omega)]
      exact c d
  · by_cases e : i = s
    · subst e
      rw [g2, g72]
      exact en t htn
    · rw [hG 1172 i (by omega)]
      by_cases e1 : g 1172 i = -1
      · rw [e1]; exact Or.inl rfl
      · obtain ⟨a, b, c⟩ := Lr.2.1 i hi
        have q := (c (by omega)).2
        have q2 := (T.2 _ (by omega)).2.2 q
        have := en _ q2
        rw [Int.toNat_of_nonneg (by omega)] at this
        rw [g72]
        exact this
variable {L k : Nat} {M N : zM}
theorem zqS_10 (hM : zLay M.2.2.2) (hN : zLayN N.2.2.2) (hk : k < 60) (h : zqR k M.2.1 N.2.1) (hw : zqJw M N k 10) (hs2 : zqJs M N k) (h3 : M.2.1 (855 + 4 * k) 3 = N.2.1 1161 (4 * k + 1) ∧ 0 ≤ N.2.1 1161 (4 * k + 1) ∧ N.2.1 1161 (4 * k + 1) < 60) (h8 : M.2.1 (855 + 4 * k) 8 = N.2.1 1161 (4 * k + 2)) : zqS L k M N := by
  obtain ⟨j0, j1⟩ := hw
  have h1 := zqR_g1 (k := k) h
  have tt := zqR_t h (i := (N.2.1 1161 (4 * k + 1)).toNat) (by omega)
  by_cases hv : N.2.1 1166 (N.2.1 1161 (4 * k + 1)).toNat = 1
  · rcases zqS_sh (L := L) hM hN hk h hs2 (Or.inr ⟨by omega, by omega, by rw [h3.1, tt]; exact hv⟩) (by omega) with no | ⟨s, hs, e2, e4, ht, hg, e⟩
    · exact no
    · generalize ev : (N.2.1 1161 (4 * k + 1)).toNat = t at *
      have ev2 : N.2.1 1161 (4 * k + 1) = (t : Int) := by omega
      have ht6 : t < 60 := by omega
      rw [ev2] at e
      have lv := zqR_lv h
      have er : zrng (zld M.2.1) (s : Int) 60 1 (t : Int) = zrng (N.2.1 1172) (s : Int) 60 1 (t : Int) := zqrng (P := fun i => i < 60 ∧ N.2.1 1166 i = 1) lv _ 60 1 _ (Or.inr ⟨by omega, by rw [Int.toNat_natCast]; exact ⟨ht6, hv⟩⟩)
      have e72 : (zqg1 N.2.1 k) 1172 = N.2.1 1172 := zqg1_a (by omega)
      have tn := (h.1.2 t ht6).2.2 hv
      have he : zrnd ((zqg1 N.2.1 k) 1172) (s : Int) 60 (t : Int) := by
        rw [e72]
        obtain ⟨K0, hK0⟩ := zqR_le h t tn
        exact zrnd_e 60 _ (zrne_u (k + 1) 60 _ (by omega) (zqpig (zqR_lb h) K0 t tn hK0))
      have hts : (zqg1 N.2.1 k) 1166 s = 1 := (zqg1_o (by omega)).trans ht
      have htt : (zqg1 N.2.1 k) 1166 t = 1 := (zqg1_o (by omega)).trans hv
      have h74 : (zqg1 N.2.1 k) 1161 (4 * k + 2) = N.2.1 1161 (4 * k + 2) := zqg1_o (by omega)
      have c226e := fun Q8 => c226 (L := L) (M := zwI N (zqg1 N.2.1 k)) (s := s) (l := t) (k := (zqg1 N.2.1 k) 1161 (4 * k + 2)) (Q := Q8) hN (zqR_rld h1) hs ht6 he (fun h0 => by
        have := (zqQ_tie (k := (zqg1 N.2.1 k) 1161 (4 * k + 2)) (a := 0) h1 hk hts hs htt ht6 h0).2.1
        have l2 := zqR_lv h1 t ⟨ht6, htt⟩
        show zrne (zrti (zqg1 N.2.1 k) s (t : Int) _ 1172) 60 (zrti (zqg1 N.2.1 k) s (t : Int) _ 1172 t)
        have q : zrti (zqg1 N.2.1 k) s (t : Int) ((zqg1 N.2.1 k) 1161 (4 * k + 2)) 1172 t = -1 ∨ (0 ≤ zrti (zqg1 N.2.1 k) s (t : Int) ((zqg1 N.2.1 k) 1161 (4 * k + 2)) 1172 t ∧ zrti (zqg1 N.2.1 k) s (t : Int) ((zqg1 N.2.1 k) 1161 (4 * k + 2)) 1172 t < (k : Int)) := by
          rw [zrti_l]
          show (if t = s then (t : Int) else _) = -1 ∨ (0 ≤ (if t = s then (t : Int) else _) ∧ (if t = s then (t : Int) else _) < (k : Int))
          split
          · omega
          · exact zqR_lb h1 t tn
        rcases q with q | ⟨q1, q2⟩
        · rw [q]; exact Or.inl rfl
        · have := this _ (show (zrti (zqg1 N.2.1 k) s (t : Int) ((zqg1 N.2.1 k) 1161 (4 * k + 2)) 1172 t).toNat < k by omega)
          rw [Int.toNat_of_nonneg q1] at this
          exact this)
      by_cases hz : zrng (N.2.1 1172) (s : Int) 60 1 (t : Int) = 0
      · have z1 : ¬ 0 < zrng (N.2.1 1172) (s : Int) 60 1 (t : Int) := by omega
        obtain ⟨q1, q2, q3⟩ := zqQ_tie (k := (zqg1 N.2.1 k) 1161 (4 * k + 2)) (a := (zovr (zrti (zqg1 N.2.1 k) s (t : Int) ((zqg1 N.2.1 k) 1161 (4 * k + 2)) 1172) 60 (zrti (zqg1 N.2.1 k) s (t : Int) ((zqg1 N.2.1 k) 1161 (4 * k + 2)) 1172 t) : Int)) h1 hk hts hs htt ht6 (by rw [e72]; exact hz)
        refine ⟨ztie M.2.1 s (t : Int) ((zqg1 N.2.1 k) 1161 (4 * k + 2)), zu2 (zrti (zqg1 N.2.1 k) s (t : Int) ((zqg1 N.2.1 k) 1161 (4 * k + 2))) 1153 36 (zovr (zrti (zqg1 N.2.1 k) s (t : Int) ((zqg1 N.2.1 k) 1161 (4 * k + 2)) 1172) 60 (zrti (zqg1 N.2.1 k) s (t : Int) ((zqg1 N.2.1 k) 1161 (4 * k + 2)) 1172 t) : Int), _, 1, fun Q => c10_10 (t := t) (v := (zovr (zld (ztie M.2.1 s (t : Int) ((zqg1 N.2.1 k) 1161 (4 * k + 2)))) 60 (zld (ztie M.2.1 s (t : Int) ((zqg1 N.2.1 k) 1161 (4 * k + 2))) t) : Int)) (M9 := zwI M (ztie M.2.1 s (t : Int) ((zqg1 N.2.1 k) 1161 (4 * k + 2)))) hM (zqR_01 h) hk hk hg j0 hs e2 (by omega) (fun Q9 => ?_), e 1 _ (Or.inr rfl) (fun Q9 => c208_10y (x := 0) (M10 := N) (M := zwI N (zqg1 N.2.1 k)) hN hk hs ((zqg1_o (k := k) (by omega)).trans j1) (zqR_r01 h1) ⟨by omega, by omega, by rw [Int.toNat_natCast]; exact htt⟩ (Or.inr rfl) (fun Q8 => ?_)), fun c j hc => ?_, fun c j hc => ?_, fun j h1 h2 h3 => ?_, Or.inr ⟨rfl, by omega, ?_, zqR_n hk q1⟩⟩
        · rw [h8, ← h74, c33 hM (zqR_ld h) hs ht6, er]
          exact propext ⟨fun q => q.2 z1, fun q => ⟨fun q2 => absurd q2 z1, fun _ => q⟩⟩
        · refine (c226e Q8).trans ?_
          show ((0 < zrng ((zqg1 N.2.1 k) 1172) (s : Int) 60 1 (t : Int) → _) ∧ (¬ 0 < zrng ((zqg1 N.2.1 k) 1172) (s : Int) 60 1 (t : Int) → _)) = _
          rw [e72]
          exact propext ⟨fun q => q.2 z1, fun q => ⟨fun q2 => absurd q2 z1, fun _ => q⟩⟩
        · unfold ztie
          rw [zu2_sj (by omega), zu2_sj (by omega)]
        · unfold zrti
          rw [zu2_sj (by omega), zu2_sj (by omega), zu2_sj (by omega)]
          exact zqg1_o (by omega)
        · unfold zrti
          rw [zu2_sj (by omega), zu2_sj (by omega), zu2_sj (by omega)]
          exact zu2_i h2 _ _ _ _
        · rw [zu2_eq, q3]
      · have z1 : 0 < zrng (N.2.1 1172) (s : Int) 60 1 (t : Int) := by
          have := zrng_nn (N.2.1 1172) (s : Int) 60 1 (t : Int)
          omega
        refine ⟨M.2.1, zqg1 N.2.1 k, -1, 0, fun Q => c10_10 (t := t) (v := -1) (M9 := M) hM (zqR_01 h) hk hk hg j0 hs e2 (by omega) (fun Q9 => ?_), e 0 _ (Or.inl rfl) (fun Q9 => c208_10y (x := 0) (M9 := zwI N (zqg1 N.2.1 k)) (M10 := N) (M := zwI N (zqg1 N.2.1 k)) hN hk hs ((zqg1_o (k := k) (by omega)).trans j1) (zqR_r01 h1) ⟨by omega, by omega, by rw [Int.toNat_natCast]; exact htt⟩ (Or.inl rfl) (fun Q8 => ?_)), fun _ _ _ => rfl, fun c j hc => zqg1_o (by omega), fun j _ h2 _ => zu2_i h2 _ _ _ _, Or.inl ⟨rfl, rfl, h1⟩⟩
        · rw [c33 hM (zqR_ld h) hs ht6, er]
          exact propext ⟨fun q => q.1 z1, fun q => ⟨fun _ => q, fun q2 => absurd z1 q2⟩⟩
        · refine (c226e Q8).trans ?_
          show ((0 < zrng ((zqg1 N.2.1 k) 1172) (s : Int) 60 1 (t : Int) → _) ∧ (¬ 0 < zrng ((zqg1 N.2.1 k) 1172) (s : Int) 60 1 (t : Int) → _)) = _
          rw [e72]
          exact propext ⟨fun q => q.1 z1, fun q => ⟨fun _ => q, fun q2 => absurd z1 q2⟩⟩
  · refine zqS_no hM hk h (fun hg => ?_) ?_
    · rcases hg.2 with h5 | ⟨_, _, h7⟩
      · omega
      · rw [h3.1, tt] at h7
        exact hv h7
    · obtain ⟨a1, a2, a3⟩ := hs2
      by_cases hu : N.2.1 1166 (N.2.1 1161 (4 * k)).toNat = 1
      · have es : ((N.2.1 1161 (4 * k)).toNat : Int) = N.2.1 1161 (4 * k) := by omega
        intro Q
        refine c192_ty (v := 0) (M9 := zwI N (zqg1 N.2.1 k)) hN hk (by omega) (zqR_r01 h) ⟨by omega, by omega, hu⟩ (fun Q9 => ?_) (Or.inl rfl)
        rw [← es]
        refine c208_10n (a := 0) (x := 0) (M9 := N) (M10 := N) (M := zwI N (zqg1 N.2.1 k)) hN hk (by omega) ((zqg1_o (k := k) (by omega)).trans j1) (zqR_r01 h1) (fun hr => hv ?_)
        have := hr.2.2
        exact (zqg1_o (g := N.2.1) (k := k) (b := 1166) (by omega)).symm.trans this
      · intro Q
        refine c192_tn (v := 0) (M9 := N) hN hk (by omega) (zqR_r01 h) (fun hr => hu ?_)
        have h9 := hr.2.2
        rw [zu2_a (by omega)] at h9
        exact h9
end ZTIEQ
end SG_C6_ties
section SG_C7_groups
/-! sets of shapes in both programs; gathered, scattered -/
section ZGROUPQ
theorem zcmpz (y : Int64) : (lg_cmp y (Int64.ofInt 0)).toInt = 0 ↔ y = Int64.ofInt 0 := by
  unfold lg_cmp
  by_cases h1 : y > Int64.ofInt 0
  · rw [if_pos h1]
    exact ⟨fun h => absurd h (by decide), fun h => by subst h; exact absurd h1 (Int64.lt_irrefl)⟩
  · rw [if_neg h1]
    by_cases h2 : y = Int64.ofInt 0
    · rw [if_pos h2]
      exact ⟨fun _ => h2, fun _ => rfl⟩
    · rw [if_neg h2]
      exact ⟨fun h => absurd h (by decide), fun h => absurd h h2⟩
theorem zbt_z (j : Nat) : zbt (Int64.ofInt 0) j = false := by
  show (0#64).getLsbD j = false
  exact BitVec.getLsbD_zero
theorem zbt_sts (p : Nat → Bool) : ∀ k, k ≤ 64 → ∀ j, zbt (zsts p k) j = (decide (j < k) && p j)
  | 0, _, j => by
    rw [decide_eq_false (by omega), Bool.false_and]
    exact zbt_z j
  | k + 1, hk, j => by
    have ih := zbt_sts p k (by omega) j
    rw [zsts_s]
    by_cases c : p k = true
    · rw [if_pos c, zbt_or (by omega), ih]
      by_cases e : j = k
      · subst e
        rw [c, decide_eq_true (rfl : j = j), decide_eq_true (show j < j + 1 by omega)]
        simp
      · rw [decide_eq_false e, Bool.or_false]
        congr 1
        exact decide_eq_decide.mpr ⟨fun _ => by omega, fun _ => by omega⟩
    · rw [if_neg c, ih]
      by_cases e : j = k
      · subst e
        have c2 : p j = false := by cases hp : p j <;> simp_all
        rw [c2, Bool.and_false, Bool.and_false]
      · congr 1
        exact decide_eq_decide.mpr ⟨fun _ => by omega, fun _ => by omega⟩
theorem zsub_iff (x S : Int64) : x &&& (S ^^^ Int64.ofInt (-1)) = Int64.ofInt 0 ↔ ∀ j, j < 64 → zbt x j = true → zbt S j = true := by
  have e : (x &&& (S ^^^ Int64.ofInt (-1))).toBitVec = x.toBitVec &&& (S.toBitVec ^^^ BitVec.allOnes 64) := rfl
  have b : ∀ j, j < 64 → (x &&& (S ^^^ Int64.ofInt (-1))).toBitVec.getLsbD j = (zbt x j && !zbt S j) := fun j hj => by
    rw [e, BitVec.getLsbD_and, BitVec.getLsbD_xor, BitVec.getLsbD_allOnes, decide_eq_true hj, Bool.xor_true]
    rfl
  constructor
  · intro h j hj hx
    have h1 := b j hj
    rw [h, hx] at h1
    have h2 : (Int64.ofInt 0).toBitVec.getLsbD j = false := zbt_z j
    rw [h2, Bool.true_and] at h1
    cases hS : zbt S j
    · rw [hS] at h1; exact absurd h1 (by decide)
    · rfl
  · intro h
    apply Int64.toBitVec_inj.mp
    apply BitVec.eq_of_getLsbD_eq
    intro j hj
    rw [b j hj]
    have h2 : (Int64.ofInt 0).toBitVec.getLsbD j = false := zbt_z j
    rw [h2]
    cases hx : zbt x j
    · rfl
    · rw [h j hj hx]; rfl
variable {n : Nat} {f g f' g' : Nat → Nat → Int} {s t : Nat}
/-- the set is there, for both -/
theorem zqina {x : Int64} (h : zqR n f g) : zina f x ↔ zat g x 64 := by
  unfold zina
  rw [zcmpz, zsub_iff]
  constructor
  · intro h1 j hj hx
    have h2 := h1 j hj hx
    rw [zbt_sts _ 60 (by omega), Bool.and_eq_true, decide_eq_true_iff] at h2
    obtain ⟨a, b⟩ := h2
    unfold zcth at b
    rw [decide_eq_true_iff, zqR_t h a] at b
    exact ⟨by omega, by omega, by rw [Int.toNat_natCast]; exact b⟩
  · intro h1 j hj hx
    obtain ⟨a, b, c⟩ := h1 j hj hx
    rw [Int.toNat_natCast] at c
    rw [zbt_sts _ 60 (by omega), Bool.and_eq_true, decide_eq_true_iff]
    refine ⟨by omega, ?_⟩
    unfold zcth
    rw [decide_eq_true_iff, zqR_t h (by omega)]
    exact c
-- up the groups
theorem zotr_st {w : Nat → Int} (hw : ∀ a, a < 60 → w a = -1 ∨ ((a : Int) < w a ∧ w a < 60)) : ∀ k a, a < 60 → 60 ≤ a + k → zotr w (k + 1) a = zotr w k a
  | 0, a, h, h2 => by omega
  | k + 1, a, h, h2 => by
    rw [zotr_s w (k + 1) a, zotr_s w k a]
    by_cases c : w a < 0
    · rw [if_pos c, if_pos c]
    · rw [if_neg c, if_neg c]
      rcases hw a h with e | ⟨e1, e2⟩
      · omega
      · exact zotr_st hw k _ (by omega) (by omega)
theorem zotr_ge {w : Nat → Int} (hw : ∀ a, a < 60 → w a = -1 ∨ ((a : Int) < w a ∧ w a < 60)) : ∀ k a, a < 60 → a ≤ zotr w k a ∧ zotr w k a < 60
  | 0, a, h => ⟨Nat.le_refl _, h⟩
  | k + 1, a, h => by
    rw [zotr_s]
    by_cases c : w a < 0
    · rw [if_pos c]; exact ⟨Nat.le_refl _, h⟩
    · rw [if_neg c]
      rcases hw a h with e | ⟨e1, e2⟩
      · omega
      · have := zotr_ge hw k (w a).toNat (by omega)
        omega
theorem zqR_gn (h : zqR n f g) {a : Nat} (ha : a < 60) (h0 : 0 ≤ g 1180 a) : g 1166 (g 1180 a).toNat = 0 ∧ (g 1180 a).toNat < 60 ∧ (g 1180 a).toNat < n ∧ a < (g 1180 a).toNat := by
  have n6 := h.1.1
  rcases (h.2.2.2.2.1 a ha).2.2 with e | ⟨e1, e2, e3⟩
  · omega
  · exact ⟨e3, by omega, by omega, by omega⟩
theorem zqchn (h : zqR n f g) : ∀ (k a : Nat), a < 60 → g 1166 a = 0 → zchn (f 7) k (a : Int) = (zotr (g 1180) k a : Int) ∧ g 1166 (zotr (g 1180) k a) = 0
  | 0, a, _, h0 => ⟨rfl, h0⟩
  | k + 1, a, ha, h0 => by
    have e := (h.2.2.2.2.1 a ha).2.1 h0
    have b := zqR_gb h ha
    rw [zchn_s, zotr_s, Int.toNat_natCast, e]
    by_cases c : g 1180 a = -1
    · rw [if_pos (Or.inr c), if_pos (by omega)]
      exact ⟨rfl, h0⟩
    · obtain ⟨d1, d2, d3, d4⟩ := zqR_gn h ha (by omega)
      rw [if_neg (by omega), if_neg (by omega)]
      have ih := zqchn h k _ d2 d1
      rw [Int.toNat_of_nonneg (by omega)] at ih
      exact ih
theorem zqR_ot (h : zqR n f g) {i : Nat} (hi : i < 60) (t : g 1166 i = 1) : (g 1180 i = -1 → zotm f i = -1 ∧ zrot g i = i) ∧ (0 ≤ g 1180 i → zotm f i = (zrot g i : Int) ∧ i < zrot g i ∧ zrot g i < 60 ∧ g 1166 (zrot g i) = 0) := by
  have e := ((h.2.2.2.2.1 i hi).1 t).1
  have wu := zqR_wup h
  unfold zotm zrot
  rw [e]
  constructor
  · intro c
    rw [c]
    refine ⟨?_, ?_⟩
    · rw [zchn_s, if_pos (Or.inl rfl)]
    · rw [zotr_s, if_pos (by omega)]
  · intro c
    obtain ⟨d1, d2, d3, d4⟩ := zqR_gn h hi c
    obtain ⟨q1, q2⟩ := zqchn h 60 _ d2 d1
    rw [Int.toNat_of_nonneg c] at q1
    have a1 : zotr (g 1180) 60 i = zotr (g 1180) 59 (g 1180 i).toNat := by
      show (if g 1180 i < 0 then i else zotr (g 1180) 59 (g 1180 i).toNat) = _
      rw [if_neg (by omega)]
    have hz : zotr (g 1180) 60 i = zotr (g 1180) 60 (g 1180 i).toNat := a1.trans (zotr_st wu 59 _ d2 (by omega)).symm
    have ge := zotr_ge wu 60 _ d2
    rw [hz]
    exact ⟨q1, by omega, by omega, q2⟩
/-- chosen together, for both -/
theorem zqcho (h : zqR n f g) (hs : s < 60) (ts : g 1166 s = 1) {i : Nat} (hi : i < 60) : zcho f s i = if zrtg g s i = true then 1 else 0 := by
  have e : zrtg g s i = true ↔ (g 1166 i = 1 ∧ zrot g i = zrot g s) := decide_eq_true_iff
  obtain ⟨s1, s2⟩ := zqR_ot h hs ts
  have bs := zqR_gb h hs
  have bi := zqR_gb h hi
  unfold zcho
  rw [zqR_t h hi]
  by_cases c : g 1180 s = -1
  · obtain ⟨q1, q2⟩ := s1 c
    rw [if_pos q1]
    by_cases d : i = s
    · subst d
      rw [if_pos rfl, if_pos (e.mpr ⟨ts, rfl⟩)]
    · rw [if_neg d, if_neg (fun d2 => ?_)]
      obtain ⟨d3, d4⟩ := e.mp d2
      obtain ⟨i1, i2⟩ := zqR_ot h hi d3
      by_cases c2 : g 1180 i = -1
      · have := (i1 c2).2; omega
      · have := (i2 (by omega)).2.2.2
        rw [d4, q2, ts] at this
        omega
  · obtain ⟨q1, q2, q3, q4⟩ := s2 (by omega)
    rw [if_neg (by omega)]
    by_cases d : g 1166 i = 1
    · obtain ⟨i1, i2⟩ := zqR_ot h hi d
      by_cases c2 : g 1180 i = -1
      · obtain ⟨r1, r2⟩ := i1 c2
        rw [if_neg (by omega), if_neg (fun d2 => ?_)]
        have := (e.mp d2).2
        rw [r2] at this
        subst this
        omega
      · obtain ⟨r1, r2, r3, r4⟩ := i2 (by omega)
        by_cases d3 : zrot g i = zrot g s
        · rw [if_pos ⟨d, by omega⟩, if_pos (e.mpr ⟨d, d3⟩)]
        · rw [if_neg (by omega), if_neg (fun d2 => d3 (e.mp d2).2)]
    · rw [if_neg (fun d2 => d d2.1), if_neg (fun d2 => d (e.mp d2).1)]
end ZGROUPQ
end SG_C7_groups
