/-! the points in which two shapes meet -/
section ZMEET
variable {L : Nat} {M : zM} {s a b : Nat} {Q : zO → zM → Prop}
theorem zplc_i {o : Nat → Int} {v : Int} : ∀ n : Nat, (∀ i j, i < j → j < n → o i < o j) → ∀ j, j < n → (o j < v ↔ j < zplc o v n)
  | 0, _, j, h => absurd h (Nat.not_lt_zero j)
  | n + 1, hs, j, hj => by
    have ih := zplc_i (v := v) n (fun i j h1 h2 => hs i j h1 (by omega))
    have e : zplc o v (n + 1) = if decide (o n < v) = true then zplc o v n + 1 else zplc o v n := zcnt_s _ n
    have hle : zplc o v n ≤ n := zcnt_le _ n
    by_cases h : o n < v
    · have all : ∀ i, i < n → o i < v := fun i hi => by have := hs i n hi (by omega); omega
      have hk : zplc o v n = n := by
        by_cases h0 : n = 0
        · omega
        · have := (ih (n - 1) (by omega)).mp (all (n - 1) (by omega))
          omega
      rw [e, if_pos (decide_eq_true h), hk]
      refine ⟨fun _ => hj, fun _ => ?_⟩
      by_cases h1 : j = n
      · rw [h1]; exact h
      · exact all j (by omega)
    · rw [e, if_neg (fun h2 => h (of_decide_eq_true h2))]
      by_cases h1 : j = n
      · subst h1
        exact ⟨fun h2 => absurd h2 h, fun h2 => by omega⟩
      · exact ih j (by omega)
theorem zcnt_0 {p : Nat → Bool} : ∀ n, zcnt p n = 0 → ∀ j, j < n → p j = false
  | 0, _, j, h => absurd h (Nat.not_lt_zero j)
  | n + 1, h, j, hj => by
    rw [zcnt_s] at h
    by_cases hp : p n = true
    · rw [if_pos hp] at h; omega
    · rw [if_neg hp] at h
      by_cases e : j = n
      · subst e; exact Bool.eq_false_iff.mpr hp
      · exact zcnt_0 n h j (by omega)
theorem zcnt_p {p : Nat → Bool} : ∀ n, zcnt p n ≠ 0 → ∃ j, j < n ∧ p j = true
  | 0, h => absurd rfl h
  | n + 1, h => by
    rw [zcnt_s] at h
    by_cases hp : p n = true
    · exact ⟨n, by omega, hp⟩
    · rw [if_neg hp] at h
      obtain ⟨j, h1, h2⟩ := zcnt_p n h
      exact ⟨j, by omega, h2⟩
/-- a point put: in order as before, one more at most -/
theorem zpnt_t {f : Nat → Nat → Int} {n : Nat} {v : Int} (h : zPt f n) : ∃ n', n ≤ n' ∧ n' ≤ n + 1 ∧ zPt (zpnt f v) n' ∧ ∀ w, (∃ j, j < n' ∧ zpnt f v 1116 j = w) ↔ ((∃ j, j < n ∧ f 1116 j = w) ∨ w = v) := by
  obtain ⟨hc, hs⟩ := h
  unfold zpnt
  rw [hc, Int.toNat_natCast]
  by_cases h0 : zcnt (fun j => decide (f 1116 j = v)) n = 0
  · rw [if_pos h0]
    have hn := fun j hj => of_decide_eq_false (zcnt_0 n h0 j hj)
    have hi := zplc_i (v := v) n hs
    have hle : zplc (f 1116) v n ≤ n := zcnt_le _ n
    generalize zplc (f 1116) v n = k at *
    generalize f 1116 = o at *
    have e1 : ∀ j, zu2 (zua f 1116 (zinp o v k n)) 1115 0 ((n : Int) + 1) 1116 j = zinp o v k n j := fun j => by rw [zu2_a (by omega), zua_a]
    refine ⟨n + 1, by omega, Nat.le_refl _, ⟨by rw [zu2_eq]; omega, fun i j h1 h2 => ?_⟩, fun w => ⟨?_, ?_⟩⟩
    · rw [e1, e1]
      unfold zinp
      by_cases h3 : i < k
      · rw [if_pos h3]
        have h4 := (hi i (by omega)).mpr h3
        by_cases h5 : j < k
        · rw [if_pos h5]; exact hs i j h1 (by omega)
        · rw [if_neg h5]
          by_cases h6 : j = k
          · rw [if_pos h6]; exact h4
          · rw [if_neg h6, if_pos (by omega)]
            exact hs i (j - 1) (by omega) (by omega)
      · rw [if_neg h3]
        by_cases h6 : i = k
        · rw [if_pos h6, if_neg (by omega), if_neg (by omega), if_pos (by omega)]
          have h7 := hn (j - 1) (by omega)
          have h8 := hi (j - 1) (by omega)
          have h9 : ¬ o (j - 1) < v := fun h => by have := h8.mp h; omega
          omega
        · rw [if_neg h6, if_pos (by omega), if_neg (by omega), if_neg (by omega), if_pos (by omega)]
          exact hs (i - 1) (j - 1) (by omega) (by omega)
    · rintro ⟨j, h1, h2⟩
      rw [e1] at h2
      unfold zinp at h2
      by_cases h3 : j < k
      · rw [if_pos h3] at h2; exact Or.inl ⟨j, by omega, h2⟩
      · rw [if_neg h3] at h2
        by_cases h4 : j = k
        · rw [if_pos h4] at h2; exact Or.inr h2.symm
        · rw [if_neg h4, if_pos (by omega)] at h2
          exact Or.inl ⟨j - 1, by omega, h2⟩
    · rintro (⟨j, h1, h2⟩ | h2)
      · by_cases h3 : j < k
        · refine ⟨j, by omega, ?_⟩
          rw [e1]; unfold zinp; rw [if_pos h3]; exact h2
        · refine ⟨j + 1, by omega, ?_⟩
          rw [e1]; unfold zinp; rw [if_neg (by omega), if_neg (by omega), if_pos (by omega)]; exact h2
      · refine ⟨k, by omega, ?_⟩
        rw [e1]; unfold zinp; rw [if_neg (by omega), if_pos rfl]; exact h2.symm
  · rw [if_neg h0]
    obtain ⟨j, h1, h2⟩ := zcnt_p n h0
    have h3 := of_decide_eq_true h2
    exact ⟨n, Nat.le_refl _, by omega, ⟨hc, hs⟩, fun w => ⟨fun h => Or.inl h, fun h => h.elim id (fun h4 => ⟨j, h1, by rw [h3, h4]⟩)⟩⟩
theorem zpnt_o {f : Nat → Nat → Int} {v : Int} {c j : Nat} (h : c ≠ 1116 ∧ (c ≠ 1115 ∨ j ≠ 0)) : zpnt f v c j = f c j := by
  unfold zpnt
  split
  · rw [zu2_if, if_neg (by omega), zua_o h.1]
  · rfl
/-- all of a row of points put -/
def zpts (f : Nat → Nat → Int) (l : List Int) : Nat → Nat → Int := l.foldl zpnt f
theorem zpts_a (f : Nat → Nat → Int) (l k : List Int) : zpts f (l ++ k) = zpts (zpts f l) k := List.foldl_append
theorem zpts_o {c j : Nat} (h : c ≠ 1116 ∧ (c ≠ 1115 ∨ j ≠ 0)) : ∀ (l : List Int) (f : Nat → Nat → Int), zpts f l c j = f c j
  | [], f => rfl
  | v :: l, f => by
    show zpts (zpnt f v) l c j = f c j
    rw [zpts_o h l, zpnt_o h]
theorem zpts_t : ∀ (l : List Int) {f : Nat → Nat → Int} {n : Nat}, zPt f n → ∃ n', n' ≤ n + l.length ∧ zPt (zpts f l) n' ∧ ∀ w, (∃ j, j < n' ∧ zpts f l 1116 j = w) ↔ ((∃ j, j < n ∧ f 1116 j = w) ∨ w ∈ l)
  | [], f, n, h => ⟨n, Nat.le_refl _, h, fun w => ⟨fun h => Or.inl h, fun h => h.elim id (fun h2 => absurd h2 (List.not_mem_nil))⟩⟩
  | v :: l, f, n, h => by
    obtain ⟨n1, h1, h2, h3, h4⟩ := zpnt_t (v := v) h
    obtain ⟨n2, h5, h6, h7⟩ := zpts_t l h3
    refine ⟨n2, by rw [List.length_cons]; omega, h6, fun w => ?_⟩
    have h8 := h7 w
    rw [h4 w] at h8
    refine h8.trans ?_
    rw [List.mem_cons]
    exact or_assoc
def zwib (p w : Int) : Bool := if 0 < w then decide (0 ≤ p ∧ p ≤ w) else decide (p ≤ 0 ∧ w ≤ p)
theorem zwib_iff {p w : Int} : zwib p w = true ↔ zwi p w := by
  unfold zwib zwi
  by_cases h : 0 < w
  · rw [if_pos h]
    exact ⟨fun h2 => ⟨fun _ => of_decide_eq_true h2, fun h3 => absurd h h3⟩, fun h2 => decide_eq_true (h2.1 h)⟩
  · rw [if_neg h]
    exact ⟨fun h2 => ⟨fun h3 => absurd h3 h, fun _ => of_decide_eq_true h2⟩, fun h2 => decide_eq_true (h2.2 h)⟩
def zcrs (n : Int) (X Y : Nat → Int) (i : Nat) (m : Int) (U V : Nat → Int) (j : Nat) : Int := zwd n X i * zwd m V j - zwd n Y i * zwd m U j
def zalg (X Y : Nat → Int) (i : Nat) (m : Int) (U V : Nat → Int) (j : Nat) : Int := (U j - X i) * zwd m V j - (V j - Y i) * zwd m U j
def zalo (n : Int) (X Y : Nat → Int) (i : Nat) (U V : Nat → Int) (j : Nat) : Int := (U j - X i) * zwd n Y i - (V j - Y i) * zwd n X i
def zmtk (n : Int) (X Y : Nat → Int) (i : Nat) (m : Int) (U V : Nat → Int) (j : Nat) : Int := (60 * X i + (60 * zalg X Y i m U V j * zwd n X i).tdiv (zcrs n X Y i m U V j)) * 3601 + (60 * Y i + (60 * zalg X Y i m U V j * zwd n Y i).tdiv (zcrs n X Y i m U V j))
def zmtl (n : Int) (X Y : Nat → Int) (i : Nat) (m : Int) (U V : Nat → Int) (j : Nat) : List Int := if zcrs n X Y i m U V j ≠ 0 ∧ zwib (zalg X Y i m U V j) (zcrs n X Y i m U V j) = true ∧ zwib (zalo n X Y i U V j) (zcrs n X Y i m U V j) = true then [zmtk n X Y i m U V j] else []
/-- a part of a whole -/
theorem ztdq {a c w : Int} (hc : c ≠ 0) (h : zwi a c) : (0 ≤ w → 0 ≤ (60 * a * w).tdiv c ∧ (60 * a * w).tdiv c ≤ 60 * w) ∧ (w ≤ 0 → 60 * w ≤ (60 * a * w).tdiv c ∧ (60 * a * w).tdiv c ≤ 0) := by
  -- for a positive whole
  have pos : ∀ a c w : Int, 0 < c → 0 ≤ a → a ≤ c → 0 ≤ w → 0 ≤ (60 * a * w).tdiv c ∧ (60 * a * w).tdiv c ≤ 60 * w := by
    intro a c w h0 h1 h2 h3
    have h4 : 0 ≤ 60 * a * w := Int.mul_nonneg (by omega) h3
    rw [Int.tdiv_eq_ediv_of_nonneg h4]
    refine ⟨Int.ediv_nonneg h4 (by omega), ?_⟩
    have h5 : a * (60 * w) ≤ c * (60 * w) := Int.mul_le_mul_of_nonneg_right h2 (by omega)
    have h6 : 60 * a * w = a * (60 * w) := by rw [Int.mul_comm 60 a, Int.mul_assoc]
    have h7 : a * (60 * w) / c ≤ c * (60 * w) / c := Int.ediv_le_ediv h0 h5
    rw [Int.mul_ediv_cancel_left _ (by omega)] at h7
    rw [h6]; exact h7
  have all : ∀ a c : Int, 0 < c → 0 ≤ a → a ≤ c → (0 ≤ w → 0 ≤ (60 * a * w).tdiv c ∧ (60 * a * w).tdiv c ≤ 60 * w) ∧ (w ≤ 0 → 60 * w ≤ (60 * a * w).tdiv c ∧ (60 * a * w).tdiv c ≤ 0) := by
    intro a c h0 h1 h2
    refine ⟨fun h3 => pos a c w h0 h1 h2 h3, fun h3 => ?_⟩
    have h4 := pos a c (-w) h0 h1 h2 (by omega)
    rw [Int.mul_neg, Int.neg_tdiv] at h4
    omega
  obtain ⟨z1, z2⟩ := h
  by_cases h0 : 0 < c
  · exact all a c h0 (z1 h0).1 (z1 h0).2
  · have h1 := z2 h0
    have h2 := all (-a) (-c) (by omega) (by omega) (by omega)
    have e : 60 * -a * w = -(60 * a * w) := by rw [Int.mul_neg, Int.neg_mul]
    rw [e, Int.neg_tdiv, Int.tdiv_neg, Int.neg_neg] at h2
    exact h2
theorem c52 {i j : Nat} {n : Nat} {f : Nat → Nat → Int} (ha : zPoA a) (hb : zPoA b) (hR : zLay M.2.2.2) (pa : zPg 0 (f a 0) (f (a + 1)) (f (a + 2))) (pb : zPg 0 (f b 0) (f (b + 1)) (f (b + 2))) (hi : (i : Int) < f a 0) (hj : (j : Int) < f b 0) (hp : zPt f n) (hn : n < 1024) : zFR (zK L) 52 0 (zcall 52 [.inr (.inr 1115), .inr (.inr a), .inl (i : Int), .inr (.inr b), .inl (j : Int)]) [] (zwI M f) Q = Q (.inl none) (zwI M (zpts f (zmtl (f a 0) (f (a + 1)) (f (a + 2)) i (f b 0) (f (b + 1)) (f (b + 2)) j))) := by
  have hF := hR.1
  unfold zLayF at hF
  obtain ⟨k1, k2, k3⟩ := zK_po (L := L) ha
  obtain ⟨l1, l2, l3⟩ := zK_po (L := L) hb
  obtain ⟨r1, r2⟩ := hR.2.1 a ha
  obtain ⟨t1, t2⟩ := hR.2.1 b hb
  have ha2 := zPoA_lt ha
  have hb2 := zPoA_lt hb
  have p1 := pa.2.2 i hi
  have p2 := pa.2.2 (zaf (f a 0) i) (zaf_lt hi)
  have q1 := pb.2.2 j hj
  have q2 := pb.2.2 (zaf (f b 0) j) (zaf_lt hj)
  have hia := pa.2.1
  have hjb := pb.2.1
  have d79a := fun Q => c79 (L := L) (M := zwI M f) (Q := Q) (e := i) ha hR pa hi
  have d81a := fun Q => c81 (L := L) (M := zwI M f) (Q := Q) (e := i) ha hR pa hi
  have d79b := fun Q => c79 (L := L) (M := zwI M f) (Q := Q) (e := j) hb hR pb hj
  have d81b := fun Q => c81 (L := L) (M := zwI M f) (Q := Q) (e := j) hb hR pb hj
  simp only [zwI_I] at d79a d81a d79b d81b
  have eW : zwd (f a 0) (f (a + 1)) i = f (a + 1) (zaf (f a 0) i) - f (a + 1) i := rfl
  have eH : zwd (f a 0) (f (a + 2)) i = f (a + 2) (zaf (f a 0) i) - f (a + 2) i := rfl
  have eW2 : zwd (f b 0) (f (b + 1)) j = f (b + 1) (zaf (f b 0) j) - f (b + 1) j := rfl
  have eH2 : zwd (f b 0) (f (b + 2)) j = f (b + 2) (zaf (f b 0) j) - f (b + 2) j := rfl
  have c53' := fun p w Q => c53 (L := L) (M := zwI M f) (Q := Q) (p := p) (w := w)
  have c54' := fun v Q => c54 (L := L) (M := zwI M f) (Q := Q) (n := n) (v := v) hR hp hn
  simp only [zwI_I, zwI_w] at c54'
  unfold zmtl zmtk zcrs zalg zalo
  generalize zwd (f a 0) (f (a + 1)) i = W at *
  generalize zwd (f a 0) (f (a + 2)) i = H at *
  generalize zwd (f b 0) (f (b + 1)) j = W2 at *
  generalize zwd (f b 0) (f (b + 2)) j = H2 at *
  generalize f (a + 1) (zaf (f a 0) i) = X1 at *
  generalize f (a + 2) (zaf (f a 0) i) = Y1 at *
  generalize hx : f (a + 1) i = X at *
  generalize hy : f (a + 2) i = Y at *
  generalize hu : f (b + 1) j = U at *
  generalize hv : f (b + 2) j = V at *
  have m1 := zmulb (u := W) (v := H2) (A := 60) (B := 60) (by omega) (by omega) (by omega) (by omega)
  have m2 := zmulb (u := H) (v := W2) (A := 60) (B := 60) (by omega) (by omega) (by omega) (by omega)
  have m3 := zmulb (u := U - X) (v := H2) (A := 60) (B := 60) (by omega) (by omega) (by omega) (by omega)
  have m4 := zmulb (u := V - Y) (v := W2) (A := 60) (B := 60) (by omega) (by omega) (by omega) (by omega)
  have m5 := zmulb (u := U - X) (v := H) (A := 60) (B := 60) (by omega) (by omega) (by omega) (by omega)
  have m6 := zmulb (u := V - Y) (v := W) (A := 60) (B := 60) (by omega) (by omega) (by omega) (by omega)
  have e1 : W * H2 - H * W2 = W * H2 - H * W2 := rfl
  generalize hC : W * H2 - H * W2 = C at *
  generalize hA : (U - X) * H2 - (V - Y) * W2 = A at *
  generalize hB : (U - X) * H - (V - Y) * W = B at *
  have m7 := zmulb (u := 60 * A) (v := W) (A := 432000) (B := 60) (by omega) (by omega) (by omega) (by omega)
  have m8 := zmulb (u := 60 * A) (v := H) (A := 432000) (B := 60) (by omega) (by omega) (by omega) (by omega)
  refine zFR_det ?_ Q
  generalize hG : (if C ≠ 0 ∧ zwib A C = true ∧ zwib B C = true then [(60 * X + (60 * A * W).tdiv C) * 3601 + (60 * Y + (60 * A * H).tdiv C)] else []) = G
  generalize hQ : (fun r M2 => r = (Sum.inl none : zO) ∧ M2 = zwI M (zpts f G)) = Q9
  have no : ¬ (C ≠ 0 ∧ zwib A C = true ∧ zwib B C = true) → Q9 (.inl none) (zwI M f) := by
    intro h
    rw [if_neg h] at hG
    subst hG
    subst hQ
    exact ⟨rfl, rfl⟩
  have third : C ≠ 0 → zwi A C → zwi B C → ∀ y1 y2, zFR (zK L) 52 127 [some (.inr (.inr 1115)), some (.inr (.inr a)), some (.inl (i : Int)), some (.inr (.inr b)), some (.inl (j : Int)), some (.inl W), some (.inl H), some (.inl C), some (.inl (U - X)), some (.inl (V - Y)), some (.inl A), some (.inl B), y1, y2] [] (zwI M f) Q9 := by
    intro h0 h1 h2 y1 y2
    have bx := ztdq (w := W) h0 h1
    have by' := ztdq (w := H) h0 h1
    rw [if_pos ⟨h0, zwib_iff.mpr h1, zwib_iff.mpr h2⟩] at hG
    subst hG
    have e : zpts f [(60 * X + (60 * A * W).tdiv C) * 3601 + (60 * Y + (60 * A * H).tdiv C)] = zpnt f ((60 * X + (60 * A * W).tdiv C) * 3601 + (60 * Y + (60 * A * H).tdiv C)) := rfl
    rw [e] at hQ
    generalize hT1 : (60 * A * W).tdiv C = T1 at *
    generalize hT2 : (60 * A * H).tdiv C = T2 at *
    have bb : (0 ≤ 60 * X + T1 ∧ 60 * X + T1 ≤ 3600) ∧ 0 ≤ 60 * Y + T2 ∧ 60 * Y + T2 ≤ 3600 := by
      refine ⟨?_, ?_⟩
      · by_cases hw : 0 ≤ W
        · have := bx.1 hw; omega
        · have := bx.2 (by omega); omega
      · by_cases hw : 0 ≤ H
        · have := by'.1 hw; omega
        · have := by'.2 (by omega); omega
    refine zW_sound 60 [] ?_
    simp only [ZR52, zk_1115, zwI_I, zwI_2, k1, k2, k3, r1, r2, hx, hy, hT1, hT2, ZF54.1, ZF54.2.1, ZF54.2.2.1, c54', zW_succ, zE_iload, zE_aload, zE_lload, zE_iinc, zE_istore, zE_astore, zE_lstore, zE_iconst, zE_ldc2, zE_iadd, zE_isub, zE_imul, zE_idiv, zE_irem, zE_ineg, zE_iand, zE_ior, zE_ixor, zE_ishl, zE_ishr, zE_land, zE_lor, zE_lxor, zE_lshl, zE_lshr, zE_i2l, zE_lcmp, zE_dup_i, zE_dup_a, zE_dup2_ia, zE_pop_i, zE_pop_a, zE_pop2, zE_goto, zE_if_eq, zE_icmp_eq, zE_if_ne, zE_icmp_ne, zE_if_lt, zE_icmp_lt, zE_if_ge, zE_icmp_ge, zE_if_gt, zE_icmp_gt, zE_if_le, zE_icmp_le, zE_iaload, zE_baload, zE_laload, zE_aaload, zE_iastore, zE_bastore, zE_lastore, zE_aastore, zE_alen, zE_getf0, zE_getf1, zE_getf2, zE_getf3, zE_putf0, zE_putf1, zE_putf2, zE_putf3, zE_new, zE_newa, zE_newq, zE_ireturn, zE_lreturn, zE_areturn, zE_return, zE_athrow, zE_st0, zE_vi0, zE_st1, zE_vi1, zE_st2, zE_vi2, zE_st3, zE_vi3, zE_st4, zE_vi4, zE_st5, zE_vi5, zE_st6, zE_vi6, zE_st7, zE_vi7, zE_st8, zE_vi8, zSt_0, zSL_0, zSt_1n, zSt_1i, zSt_1a, zSt_1l, zSt_2n, zSt_2i, zSt_2a, zSt_2l, zSt_3n, zSt_3i, zSt_3a, zSt_3l, zSt_4n, zSt_4i, zSt_4a, zSt_4l, zSt_5n, zSt_5i, zSt_5a, zSt_5l, zSt_6n, zSt_6i, zSt_6a, zSt_6l, zSt_7n, zSt_7i, zSt_7a, zSt_7l, zSt_8n, zSt_8i, zSt_8a, zSt_8l, zSt_9n, zSt_9i, zSt_9a, zSt_9l, zSt_10n, zSt_10i, zSt_10a, zSt_10l, zSt_11n, zSt_11i, zSt_11a, zSt_11l, zSt_12n, zSt_12i, zSt_12a, zSt_12l, zSt_13n, zSt_13i, zSt_13a, zSt_13l, zSL_1n, zSL_1i, zSL_1a, zSL_1l, zSL_2n, zSL_2i, zSL_2a, zSL_2l, zSL_3n, zSL_3i, zSL_3a, zSL_3l, zSL_4n, zSL_4i, zSL_4a, zSL_4l, zSL_5n, zSL_5i, zSL_5a, zSL_5l, zSL_6n, zSL_6i, zSL_6a, zSL_6l, zSL_7n, zSL_7i, zSL_7a, zSL_7l, zSL_8n, zSL_8i, zSL_8a, zSL_8l, zSL_9n, zSL_9i, zSL_9a, zSL_9l, zSL_10n, zSL_10i, zSL_10a, zSL_10l, zSL_11n, zSL_11i, zSL_11a, zSL_11l, zSL_12n, zSL_12i, zSL_12a, zSL_12l, zLI_0, zLL_0, zLA_0, zLI_1, zLL_1, zLA_1, zLI_2, zLL_2, zLA_2, zLI_3, zLL_3, zLA_3, zLI_4, zLL_4, zLA_4, zLI_5, zLL_5, zLA_5, zLI_6, zLL_6, zLA_6, zLI_7, zLL_7, zLA_7, zLI_8, zLL_8, zLA_8, zLI_9, zLL_9, zLA_9, zLI_10, zLL_10, zLA_10, zLI_11, zLL_11, zLA_11, zLI_12, zLL_12, zLA_12, zLI_13, zLL_13, zLA_13, zst_0, zst_1n, zst_1i, zst_1a, zst_2n, zst_2i, zst_2a, zst_3n, zst_3i, zst_3a, zst_4n, zst_4i, zst_4a, zst_5n, zst_5i, zst_5a, zst_6n, zst_6i, zst_6a, zst_7n, zst_7i, zst_7a, zst_8n, zst_8i, zst_8a, zst_9n, zst_9i, zst_9a, zst_10n, zst_10i, zst_10a, zst_11n, zst_11i, zst_11a, zst_12n, zst_12i, zst_12a, zst_13n, zst_13i, zst_13a, zst_14n, zst_14i, zst_14a, zst_15n, zst_15i, zst_15a, zR1_n, zR1_v, zsum_n, zsum_i, zsum_l, zsum_a, zlen_n, zlen_i, zlen_l, zlen_a, List.not_mem_nil, List.mem_cons, or_false, false_or, or_self, ↓reduceIte, if_false, if_true, Nat.reduceEqDiff, Nat.reduceAdd, Nat.reduceLeDiff, true_and, and_true, reduceCtorEq, ne_eq, Int.toNat_natCast, not_true_eq_false, not_false_eq_true, true_implies, false_implies, implies_true, Int.reduceToNat, Int.toNat_zero, Int.reduceLT, Int.reduceLE, Int.reduceEq, Int.reduceAdd, Int.reduceMul, Int.reduceNeg]
    repeat (first | refine ⟨by unfold zr32; omega, ?_⟩ | refine ⟨by omega, ?_⟩)
    subst hQ
    exact ⟨rfl, rfl⟩
  have second : C ≠ 0 → ∀ y1 y2 y3 y4 y5 y6, zFR (zK L) 52 41 [some (.inr (.inr 1115)), some (.inr (.inr a)), some (.inl (i : Int)), some (.inr (.inr b)), some (.inl (j : Int)), some (.inl W), some (.inl H), some (.inl C), y1, y2, y3, y4, y5, y6] [] (zwI M f) Q9 := by
    intro h0 y1 y2 y3 y4 y5 y6
    refine zW_sound 60 [127] ?_
    simp only [ZR52, zwI_I, zwI_2, k1, k2, k3, l1, l2, l3, r1, r2, t1, t2, hx, hy, hu, hv, hA, hB, ZF79.1, ZF79.2.1, ZF79.2.2.1, ZF81.1, ZF81.2.1, ZF81.2.2.1, ZF53.1, ZF53.2.1, ZF53.2.2.1, d79b, d81b, c53', zW_succ, zE_iload, zE_aload, zE_lload, zE_iinc, zE_istore, zE_astore, zE_lstore, zE_iconst, zE_ldc2, zE_iadd, zE_isub, zE_imul, zE_idiv, zE_irem, zE_ineg, zE_iand, zE_ior, zE_ixor, zE_ishl, zE_ishr, zE_land, zE_lor, zE_lxor, zE_lshl, zE_lshr, zE_i2l, zE_lcmp, zE_dup_i, zE_dup_a, zE_dup2_ia, zE_pop_i, zE_pop_a, zE_pop2, zE_goto, zE_if_eq, zE_icmp_eq, zE_if_ne, zE_icmp_ne, zE_if_lt, zE_icmp_lt, zE_if_ge, zE_icmp_ge, zE_if_gt, zE_icmp_gt, zE_if_le, zE_icmp_le, zE_iaload, zE_baload, zE_laload, zE_aaload, zE_iastore, zE_bastore, zE_lastore, zE_aastore, zE_alen, zE_getf0, zE_getf1, zE_getf2, zE_getf3, zE_putf0, zE_putf1, zE_putf2, zE_putf3, zE_new, zE_newa, zE_newq, zE_ireturn, zE_lreturn, zE_areturn, zE_return, zE_athrow, zE_st0, zE_vi0, zE_st1, zE_vi1, zE_st2, zE_vi2, zE_st3, zE_vi3, zE_st4, zE_vi4, zE_st5, zE_vi5, zE_st6, zE_vi6, zE_st7, zE_vi7, zE_st8, zE_vi8, zSt_0, zSL_0, zSt_1n, zSt_1i, zSt_1a, zSt_1l, zSt_2n, zSt_2i, zSt_2a, zSt_2l, zSt_3n, zSt_3i, zSt_3a, zSt_3l, zSt_4n, zSt_4i, zSt_4a, zSt_4l, zSt_5n, zSt_5i, zSt_5a, zSt_5l, zSt_6n, zSt_6i, zSt_6a, zSt_6l, zSt_7n, zSt_7i, zSt_7a, zSt_7l, zSt_8n, zSt_8i, zSt_8a, zSt_8l, zSt_9n, zSt_9i, zSt_9a, zSt_9l, zSt_10n, zSt_10i, zSt_10a, zSt_10l, zSt_11n, zSt_11i, zSt_11a, zSt_11l, zSt_12n, zSt_12i, zSt_12a, zSt_12l, zSt_13n, zSt_13i, zSt_13a, zSt_13l, zSL_1n, zSL_1i, zSL_1a, zSL_1l, zSL_2n, zSL_2i, zSL_2a, zSL_2l, zSL_3n, zSL_3i, zSL_3a, zSL_3l, zSL_4n, zSL_4i, zSL_4a, zSL_4l, zSL_5n, zSL_5i, zSL_5a, zSL_5l, zSL_6n, zSL_6i, zSL_6a, zSL_6l, zSL_7n, zSL_7i, zSL_7a, zSL_7l, zSL_8n, zSL_8i, zSL_8a, zSL_8l, zSL_9n, zSL_9i, zSL_9a, zSL_9l, zSL_10n, zSL_10i, zSL_10a, zSL_10l, zSL_11n, zSL_11i, zSL_11a, zSL_11l, zSL_12n, zSL_12i, zSL_12a, zSL_12l, zLI_0, zLL_0, zLA_0, zLI_1, zLL_1, zLA_1, zLI_2, zLL_2, zLA_2, zLI_3, zLL_3, zLA_3, zLI_4, zLL_4, zLA_4, zLI_5, zLL_5, zLA_5, zLI_6, zLL_6, zLA_6, zLI_7, zLL_7, zLA_7, zLI_8, zLL_8, zLA_8, zLI_9, zLL_9, zLA_9, zLI_10, zLL_10, zLA_10, zLI_11, zLL_11, zLA_11, zLI_12, zLL_12, zLA_12, zLI_13, zLL_13, zLA_13, zst_0, zst_1n, zst_1i, zst_1a, zst_2n, zst_2i, zst_2a, zst_3n, zst_3i, zst_3a, zst_4n, zst_4i, zst_4a, zst_5n, zst_5i, zst_5a, zst_6n, zst_6i, zst_6a, zst_7n, zst_7i, zst_7a, zst_8n, zst_8i, zst_8a, zst_9n, zst_9i, zst_9a, zst_10n, zst_10i, zst_10a, zst_11n, zst_11i, zst_11a, zst_12n, zst_12i, zst_12a, zst_13n, zst_13i, zst_13a, zst_14n, zst_14i, zst_14a, zst_15n, zst_15i, zst_15a, zR1_n, zR1_v, zsum_n, zsum_i, zsum_l, zsum_a, zlen_n, zlen_i, zlen_l, zlen_a, List.not_mem_nil, List.mem_cons, or_false, false_or, or_self, ↓reduceIte, if_false, if_true, Nat.reduceEqDiff, Nat.reduceAdd, Nat.reduceLeDiff, true_and, and_true, reduceCtorEq, ne_eq, Int.toNat_natCast, not_true_eq_false, not_false_eq_true, true_implies, false_implies, implies_true, Int.reduceToNat, Int.toNat_zero, Int.reduceLT, Int.reduceLE, Int.reduceEq, Int.reduceAdd, Int.reduceMul, Int.reduceNeg]
    repeat (first | refine ⟨by unfold zr32; omega, ?_⟩ | refine ⟨by omega, ?_⟩)
    exact ⟨fun h1 => ⟨fun h2 => third h0 h1 h2 _ _, fun h2 => no (fun h3 => h2 (zwib_iff.mp h3.2.2))⟩, fun h1 => no (fun h3 => h1 (zwib_iff.mp h3.2.1))⟩
  refine zW_sound 60 [41] ?_
  simp only [ZF52, ZR52, zwI_I, zwI_2, k1, l1, hC, ZF79.1, ZF79.2.1, ZF79.2.2.1, ZF81.1, ZF81.2.1, ZF81.2.2.1, d79a, d81a, d79b, d81b, zW_succ, zE_iload, zE_aload, zE_lload, zE_iinc, zE_istore, zE_astore, zE_lstore, zE_iconst, zE_ldc2, zE_iadd, zE_isub, zE_imul, zE_idiv, zE_irem, zE_ineg, zE_iand, zE_ior, zE_ixor, zE_ishl, zE_ishr, zE_land, zE_lor, zE_lxor, zE_lshl, zE_lshr, zE_i2l, zE_lcmp, zE_dup_i, zE_dup_a, zE_dup2_ia, zE_pop_i, zE_pop_a, zE_pop2, zE_goto, zE_if_eq, zE_icmp_eq, zE_if_ne, zE_icmp_ne, zE_if_lt, zE_icmp_lt, zE_if_ge, zE_icmp_ge, zE_if_gt, zE_icmp_gt, zE_if_le, zE_icmp_le, zE_iaload, zE_baload, zE_laload, zE_aaload, zE_iastore, zE_bastore, zE_lastore, zE_aastore, zE_alen, zE_getf0, zE_getf1, zE_getf2, zE_getf3, zE_putf0, zE_putf1, zE_putf2, zE_putf3, zE_new, zE_newa, zE_newq, zE_ireturn, zE_lreturn, zE_areturn, zE_return, zE_athrow, zE_st0, zE_vi0, zE_st1, zE_vi1, zE_st2, zE_vi2, zE_st3, zE_vi3, zE_st4, zE_vi4, zE_st5, zE_vi5, zE_st6, zE_vi6, zE_st7, zE_vi7, zE_st8, zE_vi8, zSt_0, zSL_0, zSt_1n, zSt_1i, zSt_1a, zSt_1l, zSt_2n, zSt_2i, zSt_2a, zSt_2l, zSt_3n, zSt_3i, zSt_3a, zSt_3l, zSt_4n, zSt_4i, zSt_4a, zSt_4l, zSt_5n, zSt_5i, zSt_5a, zSt_5l, zSt_6n, zSt_6i, zSt_6a, zSt_6l, zSt_7n, zSt_7i, zSt_7a, zSt_7l, zSt_8n, zSt_8i, zSt_8a, zSt_8l, zSt_9n, zSt_9i, zSt_9a, zSt_9l, zSt_10n, zSt_10i, zSt_10a, zSt_10l, zSt_11n, zSt_11i, zSt_11a, zSt_11l, zSt_12n, zSt_12i, zSt_12a, zSt_12l, zSt_13n, zSt_13i, zSt_13a, zSt_13l, zSL_1n, zSL_1i, zSL_1a, zSL_1l, zSL_2n, zSL_2i, zSL_2a, zSL_2l, zSL_3n, zSL_3i, zSL_3a, zSL_3l, zSL_4n, zSL_4i, zSL_4a, zSL_4l, zSL_5n, zSL_5i, zSL_5a, zSL_5l, zSL_6n, zSL_6i, zSL_6a, zSL_6l, zSL_7n, zSL_7i, zSL_7a, zSL_7l, zSL_8n, zSL_8i, zSL_8a, zSL_8l, zSL_9n, zSL_9i, zSL_9a, zSL_9l, zSL_10n, zSL_10i, zSL_10a, zSL_10l, zSL_11n, zSL_11i, zSL_11a, zSL_11l, zSL_12n, zSL_12i, zSL_12a, zSL_12l, zLI_0, zLL_0, zLA_0, zLI_1, zLL_1, zLA_1, zLI_2, zLL_2, zLA_2, zLI_3, zLL_3, zLA_3, zLI_4, zLL_4, zLA_4, zLI_5, zLL_5, zLA_5, zLI_6, zLL_6, zLA_6, zLI_7, zLL_7, zLA_7, zLI_8, zLL_8, zLA_8, zLI_9, zLL_9, zLA_9, zLI_10, zLL_10, zLA_10, zLI_11, zLL_11, zLA_11, zLI_12, zLL_12, zLA_12, zLI_13, zLL_13, zLA_13, zst_0, zst_1n, zst_1i, zst_1a, zst_2n, zst_2i, zst_2a, zst_3n, zst_3i, zst_3a, zst_4n, zst_4i, zst_4a, zst_5n, zst_5i, zst_5a, zst_6n, zst_6i, zst_6a, zst_7n, zst_7i, zst_7a, zst_8n, zst_8i, zst_8a, zst_9n, zst_9i, zst_9a, zst_10n, zst_10i, zst_10a, zst_11n, zst_11i, zst_11a, zst_12n, zst_12i, zst_12a, zst_13n, zst_13i, zst_13a, zst_14n, zst_14i, zst_14a, zst_15n, zst_15i, zst_15a, zR1_n, zR1_v, zsum_n, zsum_i, zsum_l, zsum_a, zlen_n, zlen_i, zlen_l, zlen_a, List.not_mem_nil, List.mem_cons, or_false, false_or, or_self, ↓reduceIte, if_false, if_true, Nat.reduceEqDiff, Nat.reduceAdd, Nat.reduceLeDiff, true_and, and_true, reduceCtorEq, ne_eq, Int.toNat_natCast, not_true_eq_false, not_false_eq_true, true_implies, false_implies, implies_true, Int.reduceToNat, Int.toNat_zero, Int.reduceLT, Int.reduceLE, Int.reduceEq, Int.reduceAdd, Int.reduceMul, Int.reduceNeg]
  repeat (first | refine ⟨by unfold zr32; omega, ?_⟩ | refine ⟨by omega, ?_⟩)
  exact ⟨fun h => second h _ _ _ _ _ _, fun h => no (fun h3 => h h3.1)⟩
end ZMEET
