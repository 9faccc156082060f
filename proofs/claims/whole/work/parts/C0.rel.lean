/-! the class's board and the reference's, told alike -/
section ZREL
/-- who is there -/
def zqT (n : Nat) (f g : Nat → Nat → Int) : Prop := n ≤ 60 ∧ ∀ i, i < 60 → (g 1166 i = 0 ∨ g 1166 i = 1) ∧ f (14 + 14 * i) 0 = g 1166 i ∧ (g 1166 i = 1 → i < n)
/-- layers, colours, hands -/
def zqA (f g : Nat → Nat → Int) : Prop := ∀ i, i < 60 → g 1166 i = 1 → f (14 + 14 * i) 1 = g 1167 i ∧ f (14 + 14 * i) 2 = g 1168 i ∧ f (14 + 14 * i) 5 = g 1171 i ∧ (0 ≤ g 1167 i ∧ g 1167 i ≤ 3) ∧ 1 ≤ g 1168 i ∧ g 1168 i ≤ 9
/-- keys -/
def zqK (n : Nat) (f g : Nat → Nat → Int) : Prop := (∀ i, i < 60 → g 1166 i = 1 → f (14 + 14 * i) 3 = g 1169 i ∧ f (14 + 14 * i) 4 = g 1170 i ∧ 1 ≤ g 1169 i ∧ (1 ≤ g 1170 i ∧ g 1170 i ≤ 50) ∧ g 1169 i ≤ (n : Int) * g 1170 i) ∧ ∀ i j, i < 60 → j < 60 → i ≠ j → g 1166 i = 1 → g 1166 j = 1 → g 1167 i = g 1167 j → g 1169 i * g 1170 j ≠ g 1169 j * g 1170 i
/-- ties -/
def zqL (f g : Nat → Nat → Int) : Prop := (∀ i, i < 60 → g 1166 i = 1 → f (14 + 14 * i) 6 = g 1172 i ∧ f (14 + 14 * i) 7 = g 1173 i ∧ (g 1172 i = -1 → g 1173 i = -1)) ∧ (∀ i, i < 60 → -1 ≤ g 1172 i ∧ g 1172 i < 60 ∧ (0 ≤ g 1172 i → g 1166 i = 1 ∧ g 1166 (g 1172 i).toNat = 1)) ∧ ∀ i, i < 60 → zrne (g 1172) 60 (g 1172 i)
/-- groups -/
def zqG (n : Nat) (f g : Nat → Nat → Int) : Prop := ∀ i, i < 60 → (g 1166 i = 1 → f (14 + 14 * i) 8 = g 1180 i ∧ f 7 i = -1) ∧ (g 1166 i = 0 → f 7 i = g 1180 i) ∧ (g 1180 i = -1 ∨ ((i : Int) < g 1180 i ∧ g 1180 i < (n : Int) ∧ g 1166 (g 1180 i).toNat = 0))
/-- layers that are seen -/
def zqV (f g : Nat → Nat → Int) : Prop := (∀ l, l < 4 → (g 1181 l = 0 ∨ g 1181 l = 1) ∧ f 6 l = 1 - g 1181 l) ∧ ∀ i, i < 60 → (0 ≤ g 1167 i ∧ g 1167 i ≤ 3) ∧ 0 ≤ g 1168 i ∧ g 1168 i ≤ 9
/-- guides -/
def zqD (f g : Nat → Nat → Int) : Prop := f 11 0 = g 1153 33 ∧ (0 ≤ g 1153 33 ∧ g 1153 33 ≤ 8) ∧ ∀ k : Nat, (k : Int) < g 1153 33 → f 12 k = g 1183 k ∧ f 13 k = g 1182 k ∧ (g 1183 k = 0 ∨ g 1183 k = 1) ∧ 0 ≤ g 1182 k ∧ g 1182 k ≤ 60
/-- a shape's corners, table and frame -/
def zqE (f g : Nat → Nat → Int) (i : Nat) : Prop := f (14 + 14 * i) 9 = g 1175 i ∧ f (14 + 14 * i) 10 = g 1174 i ∧ (∀ p : Nat, (p : Int) < g 1174 i → zN f (14 + 14 * i) p = zrN g i p ∧ ∀ k : Nat, (k : Int) < zrN g i p → zX f (14 + 14 * i) p k = zrX g i p k ∧ zY f (14 + 14 * i) p k = zrY g i p k) ∧ f (14 + 14 * i) 11 = zrsd g i 0 ∧ f (14 + 14 * i) 12 = zrsd g i 1 ∧ f (14 + 14 * i) 13 = zrsd g i 2 ∧ f (14 + 14 * i) 14 = zrsd g i 3
/-- a shape as it may be -/
def zqO (g : Nat → Nat → Int) (i : Nat) : Prop := (1 ≤ g 1174 i ∧ g 1174 i ≤ 4) ∧ (0 ≤ g 1175 i ∧ (g 1175 i).toNat < 2 ^ 2 ^ (g 1174 i).toNat ∧ ¬ zhs (g 1175 i) 0) ∧ ∀ p : Nat, (p : Int) < g 1174 i → (3 ≤ zrN g i p ∧ zrN g i p ≤ 8) ∧ zpr (zrN g i p) (zrX g i p) (zrY g i p) 0 ∧ ∀ k : Nat, (k : Int) < zrN g i p → (0 ≤ zrX g i p k ∧ zrX g i p k ≤ 60) ∧ 0 ≤ zrY g i p k ∧ zrY g i p k ≤ 60
def zqF (f g : Nat → Nat → Int) : Prop := ∀ i, i < 60 → g 1166 i = 1 → zqE f g i ∧ zqO g i
/-- what lies in the class's board anyhow -/
def zqJ (f : Nat → Nat → Int) : Prop := (∀ i, i < 60 → zKy f (14 + 14 * i)) ∧ zLd f ∧ zGr f ∧ ∀ j, j < 60 → f 8 j = 0 ∨ f 8 j = 1
/-- the two boards after so many changes -/
def zqR (n : Nat) (f g : Nat → Nat → Int) : Prop := zqT n f g ∧ zqA f g ∧ zqK n f g ∧ zqL f g ∧ zqG n f g ∧ zqV f g ∧ zqD f g ∧ zqF f g ∧ zqJ f
variable {n : Nat} {f g f' g' : Nat → Nat → Int} {i : Nat}
-- what each part reads
theorem zqT_c (hf : ∀ i, i < 60 → f' (14 + 14 * i) 0 = f (14 + 14 * i) 0) (hg : ∀ i, i < 60 → g' 1166 i = g 1166 i) (h : zqT n f g) : zqT n f' g' :=
  ⟨h.1, fun i hi => by rw [hf i hi, hg i hi]; exact h.2 i hi⟩
theorem zqA_c (h0 : ∀ i, i < 60 → g' 1166 i = 1 → g 1166 i = 1) (hf : ∀ i, i < 60 → g' 1166 i = 1 → f' (14 + 14 * i) 1 = f (14 + 14 * i) 1 ∧ f' (14 + 14 * i) 2 = f (14 + 14 * i) 2 ∧ f' (14 + 14 * i) 5 = f (14 + 14 * i) 5) (hg : ∀ i, i < 60 → g' 1166 i = 1 → g' 1167 i = g 1167 i ∧ g' 1168 i = g 1168 i ∧ g' 1171 i = g 1171 i) (h : zqA f g) : zqA f' g' := by
  intro i hi h1
  obtain ⟨a1, a2, a3⟩ := hf i hi h1
  obtain ⟨b1, b2, b3⟩ := hg i hi h1
  rw [a1, a2, a3, b1, b2, b3]
  exact h i hi (h0 i hi h1)
theorem zqK_c (h0 : ∀ i, i < 60 → g' 1166 i = 1 → g 1166 i = 1) (hf : ∀ i, i < 60 → g' 1166 i = 1 → f' (14 + 14 * i) 3 = f (14 + 14 * i) 3 ∧ f' (14 + 14 * i) 4 = f (14 + 14 * i) 4) (hg : ∀ i, i < 60 → g' 1166 i = 1 → g' 1167 i = g 1167 i ∧ g' 1169 i = g 1169 i ∧ g' 1170 i = g 1170 i) (h : zqK n f g) : zqK n f' g' := by
  refine ⟨fun i hi h1 => ?_, fun i j hi hj hij h1 h2 h3 => ?_⟩
  · obtain ⟨a1, a2⟩ := hf i hi h1
    obtain ⟨b1, b2, b3⟩ := hg i hi h1
    rw [a1, a2, b2, b3]
    exact h.1 i hi (h0 i hi h1)
  · obtain ⟨b1, b2, b3⟩ := hg i hi h1
    obtain ⟨c1, c2, c3⟩ := hg j hj h2
    rw [b1, c1] at h3
    rw [b2, b3, c2, c3]
    exact h.2 i j hi hj hij (h0 i hi h1) (h0 j hj h2) h3
theorem zqK_n (h : zqK n f g) : zqK (n + 1) f g := by
  refine ⟨fun i hi h1 => ?_, h.2⟩
  obtain ⟨a1, a2, a3, a4, a5⟩ := h.1 i hi h1
  refine ⟨a1, a2, a3, a4, ?_⟩
  have e : ((n + 1 : Nat) : Int) * g 1170 i = (n : Int) * g 1170 i + g 1170 i := by rw [Int.natCast_add, Int.add_mul]; omega
  omega
theorem zrne_c {u v : Nat → Int} (hb : ∀ i, i < 60 → -1 ≤ u i ∧ u i < 60) (he : ∀ i, i < 60 → v i = u i) : ∀ (k : Nat) (x : Int), (-1 ≤ x ∧ x < 60) → zrne u k x → zrne v k x
  | 0, _, _, h => h.elim
  | k + 1, x, hx, h => by
    rcases h with h | h
    · exact Or.inl h
    · by_cases h1 : x = -1
      · exact Or.inl h1
      · have e := he x.toNat (by omega)
        refine Or.inr ?_
        rw [e]
        exact zrne_c hb he k _ (hb x.toNat (by omega)) h
theorem zqL_c (h0 : ∀ i, i < 60 → g' 1166 i = g 1166 i) (hf : ∀ i, i < 60 → f' (14 + 14 * i) 6 = f (14 + 14 * i) 6 ∧ f' (14 + 14 * i) 7 = f (14 + 14 * i) 7) (hg : ∀ i, i < 60 → g' 1172 i = g 1172 i ∧ g' 1173 i = g 1173 i) (h : zqL f g) : zqL f' g' := by
  obtain ⟨h1, h2, h3⟩ := h
  refine ⟨fun i hi t => ?_, fun i hi => ?_, fun i hi => ?_⟩
  · rw [h0 i hi] at t
    rw [(hf i hi).1, (hf i hi).2, (hg i hi).1, (hg i hi).2]
    exact h1 i hi t
  · obtain ⟨a, b, c⟩ := h2 i hi
    rw [(hg i hi).1, h0 i hi]
    refine ⟨a, b, fun d => ?_⟩
    rw [h0 _ (by omega)]
    exact c d
  · rw [(hg i hi).1]
    exact zrne_c (fun j hj => ⟨(h2 j hj).1, (h2 j hj).2.1⟩) (fun j hj => (hg j hj).1) 60 _ ⟨(h2 i hi).1, (h2 i hi).2.1⟩ (h3 i hi)
theorem zqG_c {m : Nat} (hn : n ≤ m) (h60 : n ≤ 60) (h0 : ∀ i, i < 60 → g' 1166 i = g 1166 i) (hf : ∀ i, i < 60 → f' (14 + 14 * i) 8 = f (14 + 14 * i) 8 ∧ f' 7 i = f 7 i) (hg : ∀ i, i < 60 → g' 1180 i = g 1180 i) (h : zqG n f g) : zqG m f' g' := by
  intro i hi
  obtain ⟨a, b, c⟩ := h i hi
  rw [h0 i hi, (hf i hi).1, (hf i hi).2, hg i hi]
  refine ⟨a, b, ?_⟩
  rcases c with c | ⟨c1, c2, c3⟩
  · exact Or.inl c
  · exact Or.inr ⟨c1, by omega, by rw [h0 _ (by omega)]; exact c3⟩
theorem zqV_c (hf : ∀ l, l < 4 → f' 6 l = f 6 l) (hg : ∀ l, l < 4 → g' 1181 l = g 1181 l) (hj : ∀ i, i < 60 → g' 1167 i = g 1167 i ∧ g' 1168 i = g 1168 i) (h : zqV f g) : zqV f' g' := ⟨fun l hl => by
  rw [hf l hl, hg l hl]; exact h.1 l hl, fun i hi => by
  rw [(hj i hi).1, (hj i hi).2]; exact h.2 i hi⟩
theorem zqD_c (h1 : f' 11 0 = f 11 0) (h2 : g' 1153 33 = g 1153 33) (hf : ∀ k, k < 8 → f' 12 k = f 12 k ∧ f' 13 k = f 13 k) (hg : ∀ k, k < 8 → g' 1182 k = g 1182 k ∧ g' 1183 k = g 1183 k) (h : zqD f g) : zqD f' g' := by
  obtain ⟨a, b, c⟩ := h
  unfold zqD
  rw [h1, h2]
  refine ⟨a, b, fun k hk => ?_⟩
  rw [(hf k (by omega)).1, (hf k (by omega)).2, (hg k (by omega)).1, (hg k (by omega)).2]
  exact c k hk
theorem zqE_c {k : Nat} (hf : ∀ b j, 14 + 14 * k ≤ b → b < 14 + 14 * k + 14 → (b = 14 + 14 * k → 9 ≤ j) → f' b j = f b j) (hg : zrEq g' g k) (hgo : zqO g k) (h : zqE f g k) : zqE f' g' k := by
  obtain ⟨h1, h2, h3, h4⟩ := h
  have hw : zrSw g k := by
    obtain ⟨⟨a1, a2⟩, ⟨b1, b2, _⟩, c⟩ := hgo
    refine ⟨⟨by omega, a2⟩, ⟨b1, ?_⟩, fun p hp => ⟨by have := (c p hp).1; omega, (c p hp).1.2, fun j hj => by have := (c p hp).2.2 j hj; omega⟩⟩
    have e : (g 1174 k).toNat ≤ 4 := by omega
    have e2 : 2 ^ 2 ^ (g 1174 k).toNat ≤ 2 ^ 2 ^ 4 := Nat.pow_le_pow_right (by omega) (Nat.pow_le_pow_right (by omega) e)
    have e3 : (2 : Nat) ^ 2 ^ 4 = 65536 := by decide
    omega
  have d := zrEq_d hg hw
  refine ⟨by rw [hf _ _ (by omega) (by omega) (by omega), hg.2.1]; exact h1, by rw [hf _ _ (by omega) (by omega) (by omega), hg.1]; exact h2, fun p hp => ?_, ?_⟩
  · rw [hg.1] at hp
    have p4 : p < 4 := by have := hgo.1.2; omega
    obtain ⟨q1, q2⟩ := h3 p hp
    rw [zrEq_n hg p4]
    refine ⟨by unfold zN at *; rw [hf _ _ (by omega) (by omega) (by omega)]; exact q1, fun j hj => ?_⟩
    have j8 : j < 8 := by have := (hgo.2.2 p hp).1.2; omega
    obtain ⟨r1, r2⟩ := q2 j hj
    rw [zrEq_x hg p4 j8, zrEq_y hg p4 j8]
    unfold zX zY at *
    rw [hf _ _ (by omega) (by omega) (by omega), hf _ _ (by omega) (by omega) (by omega)]
    exact ⟨r1, r2⟩
  · rw [hf _ 11 (by omega) (by omega) (by omega), hf _ 12 (by omega) (by omega) (by omega), hf _ 13 (by omega) (by omega) (by omega), hf _ 14 (by omega) (by omega) (by omega), d, d, d, d]
    exact h4
theorem zpr_cg {m : Int} {X Y U V : Nat → Int} (hx : ∀ k : Nat, (k : Int) < m → U k = X k) (hy : ∀ k : Nat, (k : Int) < m → V k = Y k) (h : zpr m X Y 0) : zpr m U V 0 := by
  intro j hj hm
  have h1 := h j hj hm
  have ha : ((zaf m j : Nat) : Int) < m := by unfold zaf; split <;> omega
  unfold zwd at *
  rw [hx _ ha, hx _ hm, hy _ ha, hy _ hm]
  exact h1
theorem zqO_c {k : Nat} (hg : zrEq g' g k) (h : zqO g k) : zqO g' k := by
  obtain ⟨h1, h2, h3⟩ := h
  refine ⟨by rw [hg.1]; exact h1, by rw [hg.1, hg.2.1]; exact h2, fun p hp => ?_⟩
  rw [hg.1] at hp
  have p4 : p < 4 := by omega
  obtain ⟨q1, q2, q3⟩ := h3 p hp
  rw [zrEq_n hg p4]
  have ex : ∀ j : Nat, (j : Int) < zrN g k p → zrX g' k p j = zrX g k p j := fun j hj => zrEq_x hg p4 (by omega)
  have ey : ∀ j : Nat, (j : Int) < zrN g k p → zrY g' k p j = zrY g k p j := fun j hj => zrEq_y hg p4 (by omega)
  refine ⟨q1, zpr_cg ex ey q2, fun j hj => ?_⟩
  rw [ex j hj, ey j hj]
  exact q3 j hj
theorem zqF_c (h0 : ∀ i, i < 60 → g' 1166 i = 1 → g 1166 i = 1) (hf : ∀ k, k < 60 → g' 1166 k = 1 → ∀ b j, 14 + 14 * k ≤ b → b < 14 + 14 * k + 14 → (b = 14 + 14 * k → 9 ≤ j) → f' b j = f b j) (hg : ∀ k, k < 60 → g' 1166 k = 1 → zrEq g' g k) (h : zqF f g) : zqF f' g' := by
  intro i hi t
  obtain ⟨a, b⟩ := h i hi (h0 i hi t)
  exact ⟨zqE_c (hf i hi t) (hg i hi t) b a, zqO_c (hg i hi t) b⟩
theorem zqJ_c (hf : ∀ i, i < 60 → f' (14 + 14 * i) 3 = f (14 + 14 * i) 3 ∧ f' (14 + 14 * i) 4 = f (14 + 14 * i) 4 ∧ f' (14 + 14 * i) 6 = f (14 + 14 * i) 6 ∧ f' (14 + 14 * i) 8 = f (14 + 14 * i) 8 ∧ f' 7 i = f 7 i) (hc : ∀ j, j < 60 → f' 8 j = 0 ∨ f' 8 j = 1) (h : zqJ f) : zqJ f' := by
  obtain ⟨h1, h2, h3, h4⟩ := h
  refine ⟨fun i hi => ?_, fun i hi => ?_, ⟨fun i hi => ?_, fun i hi => ?_⟩, hc⟩
  · unfold zKy
    rw [(hf i hi).1, (hf i hi).2.1]
    exact h1 i hi
  · unfold zld
    rw [(hf i hi).2.2.1]
    exact h2 i hi
  · rw [(hf i hi).2.2.2.1]
    exact h3.1 i hi
  · rw [(hf i hi).2.2.2.2]
    exact h3.2 i hi
/-- nothing of it has changed -/
theorem zqR_keep (hf : ∀ b j, b ≠ 5 → b ≠ 8 → b ≠ 9 → b ≠ 10 → b < 854 → f' b j = f b j) (hc : ∀ j, j < 60 → f' 8 j = 0 ∨ f' 8 j = 1) (hg : ∀ b j, 1166 ≤ b → b < 1184 → b ≠ 1179 → g' b j = g b j) (h33 : g' 1153 33 = g 1153 33) (h : zqR n f g) : zqR n f' g' := by
  obtain ⟨t, a, k, l, gg, v, d, ff, j⟩ := h
  have h0 : ∀ i, i < 60 → g' 1166 i = g 1166 i := fun i hi => hg _ _ (by omega) (by omega) (by omega)
  have h00 : ∀ i, i < 60 → g' 1166 i = 1 → g 1166 i = 1 := fun i hi t => by rw [← h0 i hi]; exact t
  have hF : ∀ i, i < 60 → ∀ j, f' (14 + 14 * i) j = f (14 + 14 * i) j := fun i hi j => hf _ _ (by omega) (by omega) (by omega) (by omega) (by omega)
  have hG : ∀ b, 1166 ≤ b ∧ b < 1184 ∧ b ≠ 1179 → ∀ j, g' b j = g b j := fun b hb j => hg b j hb.1 hb.2.1 hb.2.2
  refine ⟨zqT_c (fun i hi => hF i hi _) h0 t, zqA_c h00 (fun i hi _ => ⟨hF i hi _, hF i hi _, hF i hi _⟩) (fun i hi _ => ⟨hG _ (by omega) _, hG _ (by omega) _, hG _ (by omega) _⟩) a, zqK_c h00 (fun i hi _ => ⟨hF i hi _, hF i hi _⟩) (fun i hi _ => ⟨hG _ (by omega) _, hG _ (by omega) _, hG _ (by omega) _⟩) k, zqL_c h0 (fun i hi => ⟨hF i hi _, hF i hi _⟩) (fun i hi => ⟨hG _ (by omega) _, hG _ (by omega) _⟩) l, zqG_c (Nat.le_refl _) t.1 h0 (fun i hi => ⟨hF i hi _, hf _ _ (by omega) (by omega) (by omega) (by omega) (by omega)⟩) (fun i hi => hG _ (by omega) _) gg, zqV_c (fun l hl => hf _ _ (by omega) (by omega) (by omega) (by omega) (by omega)) (fun l hl => hG _ (by omega) _) (fun i hi => ⟨hG _ (by omega) _, hG _ (by omega) _⟩) v, zqD_c (hf _ _ (by omega) (by omega) (by omega) (by omega) (by omega)) h33 (fun k hk => ⟨hf _ _ (by omega) (by omega) (by omega) (by omega) (by omega), hf _ _ (by omega) (by omega) (by omega) (by omega) (by omega)⟩) (fun k hk => ⟨hG _ (by omega) _, hG _ (by omega) _⟩) d, zqF_c h00 (fun k hk _ b j h1 h2 _ => hf _ _ (by omega) (by omega) (by omega) (by omega) (by omega)) (fun k hk _ => ⟨hG _ (by omega) _, hG _ (by omega) _, fun p _ => hG _ (by omega) _, fun j _ _ => ⟨hG _ (by omega) _, hG _ (by omega) _⟩⟩) ff, zqJ_c (fun i hi => ⟨hF i hi _, hF i hi _, hF i hi _, hF i hi _, hf _ _ (by omega) (by omega) (by omega) (by omega) (by omega)⟩) hc j⟩
/-- one change later -/
theorem zqR_n (hn : n < 60) (h : zqR n f g) : zqR (n + 1) f g := by
  obtain ⟨t, a, k, l, gg, v, d, ff, j⟩ := h
  refine ⟨⟨hn, fun i hi => ⟨(t.2 i hi).1, (t.2 i hi).2.1, fun h => by have := (t.2 i hi).2.2 h; omega⟩⟩, a, zqK_n k, l, zqG_c (by omega) t.1 (fun _ _ => rfl) (fun _ _ => ⟨rfl, rfl⟩) (fun _ _ => rfl) gg, v, d, ff, j⟩
end ZREL
