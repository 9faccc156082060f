/-! the law: all is sound at the end; its start -/
section ZPSTART
variable {L m : Nat} {C : zM} {s : Nat → zM} {F : Nat → Nat → Int} {G : Nat → Nat → Int64} {R : Nat → Nat → Nat}
/-- all is sound -/
theorem p126 (hw : zpW L m C s) : ∃ M2 : zM, (∀ Q : zO → zM → Prop, zFR (zK L) 126 0 (zcall 126 [.inr (.inr 2)]) [] C Q = Q (.inl (some (.inl 1))) M2) ∧ M2.1 = C.1 := by
  have hR := hw.1
  have rel := hw.2.2.1
  have em : zpEm C.2.1 := hw.2.2.2.2.2
  have z14m := hw.2.2.2.2.1
  have hF := hR.1
  unfold zLayF at hF
  obtain ⟨H, hH⟩ : ∃ H, (s m).2.1 = H := ⟨_, rfl⟩
  rw [hH] at rel
  obtain ⟨F1, hF1⟩ : ∃ F1, zua C.2.1 5 (zord (zclt C.2.1) (zcth C.2.1) (C.2.1 5) 60) = F1 := ⟨_, rfl⟩
  have f1 : ∀ b j, b ≠ 5 → F1 b j = C.2.1 b j := fun b j hb => by
    rw [← hF1]
    exact zua_o hb _ _
  have r1 := zqR_5 rel f1
  obtain ⟨F0, hF0⟩ : ∃ F0, zua F1 5 (zord (zclt F1) (zcth F1) (F1 5) 60) = F0 := ⟨_, rfl⟩
  have f0 : ∀ b j, b ≠ 5 → F0 b j = C.2.1 b j := fun b j hb => by
    rw [← hF0, zua_o hb]
    exact f1 b j hb
  have rl0 := zqR_5 rel f0
  have e2 := fun Q => c2 (L := L) (M := C) (Q := Q) hR (zqWK rel) (fun i hi => zord_sorted (P := zqth2 H) (zclt_tr rel) (zclt_tot rel) 60 (fun v hv tv => ⟨hv, by rw [← zqR_t rel hv]; exact of_decide_eq_true tv⟩) i (i + 1) (by omega) hi)
  rw [hF1] at e2
  have hk := zqR_bk r1
  have e3 := fun Q => c3 (L := L) (M := zwI C F1) (Q := Q) hR (fun i hi => (hk i hi).1) (fun i hi => (hk i hi).2)
  rw [zwI_I, zwI_w, hF0] at e3
  obtain ⟨p1, p2⟩ := zqord r1
  have eo : ∀ j, j < zrct H → F0 5 j = zrod H j := fun j hj => by
    rw [← hF0]
    exact zua_a.trans (p2 j hj)
  have wl : ∀ k, k < zrct H → ∃ v : Nat, (v < 60 ∧ F0 5 k = (v : Int)) ∧ zcWl F0 (14 + 14 * v) ∧ zhsb (F0 (14 + 14 * v) 9) 0 = false := fun k hk => by
    obtain ⟨v, v1, v2⟩ := zqvl (g := H) hk
    obtain ⟨a, b, _⟩ := zpWl rl0 v1.1 v1.2
    exact ⟨v, ⟨v1.1, by rw [eo k hk]; exact v2⟩, a, b⟩
  have em0 : zpEm F0 := ⟨(f0 _ _ (by omega)).trans em.1, (f0 _ _ (by omega)).trans em.2⟩
  have lp := c128_l (L := L) (M := C) (F0 := F0) (o := F0 5) (c := zrct H) hR (zcnt_le _ _) rfl (fun i hi => by
    obtain ⟨v, ⟨v1, v2⟩, v3, _⟩ := wl i hi
    exact ⟨v, v1, v2, v3⟩) (zpEm_w em0) (fun y => by rw [f0 _ _ (by omega)]; exact z14m y)
  have c128 : zFR (zK L) 128 0 (zcall 128 [.inr (.inr 2)]) [] (zwI C F1) (fun r M2 => ∃ v f', r = .inl (some (.inl v)) ∧ M2 = zwI C f' ∧ zsw F0 f' ∧ (∀ y, f' 1114 y = 0) ∧ zV1 v (zcgd F0 (F0 5) (zrct H))) := by
    refine zW_sound 60 [12] ?_
    rw [p1] at e3
    simp only [ZF128, ZR128, zk_2, zk_3, hF, zwI_2, ZF3.1, ZF3.2.1, ZF3.2.2.1, e3, zW_succ, zE_iload, zE_aload, zE_lload, zE_iinc, zE_istore, zE_astore, zE_lstore, zE_iconst, zE_ldc2, zE_iadd, zE_isub, zE_imul, zE_idiv, zE_irem, zE_ineg, zE_iand, zE_ior, zE_ixor, zE_ishl, zE_ishr, zE_land, zE_lor, zE_lxor, zE_lshl, zE_lshr, zE_i2l, zE_lcmp, zE_dup_i, zE_dup_a, zE_dup2_ia, zE_pop_i, zE_pop_a, zE_pop2, zE_goto, zE_if_eq, zE_icmp_eq, zE_if_ne, zE_icmp_ne, zE_if_lt, zE_icmp_lt, zE_if_ge, zE_icmp_ge, zE_if_gt, zE_icmp_gt, zE_if_le, zE_icmp_le, zE_iaload, zE_baload, zE_laload, zE_aaload, zE_iastore, zE_bastore, zE_lastore, zE_aastore, zE_alen, zE_getf0, zE_getf1, zE_getf2, zE_getf3, zE_putf0, zE_putf1, zE_putf2, zE_putf3, zE_new, zE_newa, zE_newq, zE_ireturn, zE_lreturn, zE_areturn, zE_return, zE_athrow, zE_st0, zE_vi0, zE_st1, zE_vi1, zE_st2, zE_vi2, zE_st3, zE_vi3, zE_st4, zE_vi4, zE_st5, zE_vi5, zE_st6, zE_vi6, zE_st7, zE_vi7, zE_st8, zE_vi8, zSt_0, zSL_0, zSt_1n, zSt_1i, zSt_1a, zSt_1l, zSt_2n, zSt_2i, zSt_2a, zSt_2l, zSt_3n, zSt_3i, zSt_3a, zSt_3l, zSt_4n, zSt_4i, zSt_4a, zSt_4l, zSt_5n, zSt_5i, zSt_5a, zSt_5l, zSt_6n, zSt_6i, zSt_6a, zSt_6l, zSt_7n, zSt_7i, zSt_7a, zSt_7l, zSt_8n, zSt_8i, zSt_8a, zSt_8l, zSt_9n, zSt_9i, zSt_9a, zSt_9l, zSt_10n, zSt_10i, zSt_10a, zSt_10l, zSt_11n, zSt_11i, zSt_11a, zSt_11l, zSt_12n, zSt_12i, zSt_12a, zSt_12l, zSt_13n, zSt_13i, zSt_13a, zSt_13l, zSL_1n, zSL_1i, zSL_1a, zSL_1l, zSL_2n, zSL_2i, zSL_2a, zSL_2l, zSL_3n, zSL_3i, zSL_3a, zSL_3l, zSL_4n, zSL_4i, zSL_4a, zSL_4l, zSL_5n, zSL_5i, zSL_5a, zSL_5l, zSL_6n, zSL_6i, zSL_6a, zSL_6l, zSL_7n, zSL_7i, zSL_7a, zSL_7l, zSL_8n, zSL_8i, zSL_8a, zSL_8l, zSL_9n, zSL_9i, zSL_9a, zSL_9l, zSL_10n, zSL_10i, zSL_10a, zSL_10l, zSL_11n, zSL_11i, zSL_11a, zSL_11l, zSL_12n, zSL_12i, zSL_12a, zSL_12l, zLI_0, zLL_0, zLA_0, zLI_1, zLL_1, zLA_1, zLI_2, zLL_2, zLA_2, zLI_3, zLL_3, zLA_3, zLI_4, zLL_4, zLA_4, zLI_5, zLL_5, zLA_5, zLI_6, zLL_6, zLA_6, zLI_7, zLL_7, zLA_7, zLI_8, zLL_8, zLA_8, zLI_9, zLL_9, zLA_9, zLI_10, zLL_10, zLA_10, zLI_11, zLL_11, zLA_11, zLI_12, zLL_12, zLA_12, zLI_13, zLL_13, zLA_13, zst_0, zst_1n, zst_1i, zst_1a, zst_2n, zst_2i, zst_2a, zst_3n, zst_3i, zst_3a, zst_4n, zst_4i, zst_4a, zst_5n, zst_5i, zst_5a, zst_6n, zst_6i, zst_6a, zst_7n, zst_7i, zst_7a, zst_8n, zst_8i, zst_8a, zst_9n, zst_9i, zst_9a, zst_10n, zst_10i, zst_10a, zst_11n, zst_11i, zst_11a, zst_12n, zst_12i, zst_12a, zst_13n, zst_13i, zst_13a, zst_14n, zst_14i, zst_14a, zst_15n, zst_15i, zst_15a, zR1_n, zR1_v, zsum_n, zsum_i, zsum_l, zsum_a, zlen_n, zlen_i, zlen_l, zlen_a, List.not_mem_nil, List.mem_cons, or_false, false_or, or_self, ↓reduceIte, if_false, if_true, Nat.reduceEqDiff, Nat.reduceAdd, Nat.reduceLeDiff, true_and, and_true, reduceCtorEq, ne_eq, Int.toNat_natCast, not_true_eq_false, not_false_eq_true, true_implies, false_implies, implies_true, Int.reduceToNat, Int.toNat_zero, Int.reduceLT, Int.reduceLE, Int.reduceEq, Int.reduceAdd, Int.reduceMul, Int.reduceNeg]
    exact lp
  obtain ⟨r, M2, ⟨v, f', hr, hM, sw, z14, hv⟩, e128⟩ := zFRx c128
  subst hr hM
  have key : ∀ k, k ≤ zrct H → zcgd F0 (F0 5) k := by
    intro k
    induction k with
    | zero => exact fun _ => True.intro
    | succ k ih =>
      intro hk
      refine ⟨ih (by omega), ?_⟩
      by_cases c : k = 0
      · exact Or.inl c
      · obtain ⟨p, ⟨q1, q2⟩, q3, q4⟩ := wl (k - 1) (by omega)
        obtain ⟨u, ⟨u1, u2⟩, u3, u4⟩ := wl k (by omega)
        obtain ⟨a1, a2, _⟩ := zcA_laws em0 q3 u3 q4 u4
        refine Or.inr ?_
        rw [q2, u2, Int.toNat_natCast, Int.toNat_natCast]
        exact ⟨a1, a2⟩
  rcases hv with ⟨v1, _⟩ | ⟨_, no⟩
  · subst v1
    exact ⟨zwI C f', fun Q => c126_g hR e2 e128 (Or.inl rfl), rfl⟩
  · exact absurd (key _ (Nat.le_refl _)) no
theorem zpclR_lay (h : zclR R) : zLay R := by
  obtain ⟨⟨d0, d1, d2, d3, d4, d5, d6, d7, d8, d9⟩, s1, c1, s2, s3, ⟨m0, m1, m2, m3, m4, m5, m6, m7, m8, m9, m10, m11⟩, ⟨p0, p1, p2, p3, p4, p5⟩, ⟨w0, w1, w2, w3, w4, w5, w6, w7, w8⟩, k0, ⟨q0, q1, q2, q3, q4, q5⟩⟩ := h
  refine ⟨⟨m0, m1, m2, m3, m4, m5, m6, m7, m8, m9, m10, m11, d0, d1, d2, d3, d4, d5, d6, d7, d8, d9, p0, p1, p2, p3, p4, p5, w0, w1, w2, w3, w4, w5, w6, w7, w8, k0, q0, q1, q2, q3, q4, q5⟩, fun a ha => ?_, fun s hs => ?_, fun i hi => ?_⟩
  · rcases ha with ⟨s, k, hs, hk, rfl⟩ | ⟨i, hi, rfl⟩ | rfl | rfl
    · rcases hs with ⟨i, hi, rfl⟩ | rfl | rfl
      · exact ((s1 i hi).2.2 k hk).2
      · exact (s2.2 k hk).2
      · exact (s3.2 k hk).2
    · exact ⟨(c1 i hi).2.2.1.trans (by omega), (c1 i hi).2.2.2.trans (by omega)⟩
    · exact ⟨p0, p1⟩
    · exact ⟨p2, p3⟩
  · rcases hs with ⟨i, hi, rfl⟩ | rfl | rfl
    · exact ⟨(s1 i hi).2.1, fun k hk => ((s1 i hi).2.2 k hk).1⟩
    · exact ⟨s2.1, fun k hk => (s2.2 k hk).1⟩
    · exact ⟨s3.1, fun k hk => (s3.2 k hk).1⟩
  · exact ⟨(s1 i hi).1, (c1 i hi).1, (c1 i hi).2.1⟩
/-- references of what is only thought of -/
def zpRn (i : Nat) : Nat := if i < 3 then i + 1153 else if i = 4 then 1156 else if i = 6 then 1157 else if i < 33 then i + 1149 else if i < 36 then i + 1148 else if i = 37 then 1184 else if i < 45 then i + 1146 else if i < 51 then i + 1145 else if i < 56 then i + 1144 else i + 1143
def zpRr (R : Nat → Nat → Nat) (a i : Nat) : Nat := if a = 1153 then zpRn i else R a i
theorem zpRr_o {a : Nat} (h : a ≠ 1153) (i : Nat) : zpRr R a i = R a i := if_neg h
theorem zpclR_N (h : zclR R) : zLayN (zpRr R) := by
  obtain ⟨l1, l2, l3, l4⟩ := zpclR_lay h
  refine ⟨?_, fun a ha => ?_, fun t ht => ?_, fun i hi => ?_⟩
  · obtain ⟨m0, m1, m2, m3, m4, m5, m6, m7, m8, m9, m10, m11, d0, d1, d2, d3, d4, d5, d6, d7, d8, d9, p0, p1, p2, p3, p4, p5, w0, w1, w2, w3, w4, w5, w6, w7, w8, k0, q0, q1, q2, q3, q4, q5⟩ := l1
    exact ⟨m0, m1, m2, m3, m4, m5, m6, m7, m8, m9, m10, m11, d0, d1, d2, d3, d4, d5, d6, d7, d8, d9, p0, p1, p2, p3, p4, p5, w0, w1, w2, w3, w4, w5, w6, w7, w8, k0, q0, q1, q2, q3, q4, q5, rfl, rfl, rfl, rfl, rfl, rfl, rfl, rfl, rfl, rfl, rfl, rfl, rfl, rfl, rfl, rfl, rfl, rfl, rfl, rfl, rfl, rfl, rfl, rfl, rfl, rfl, rfl, rfl, rfl, rfl, rfl, rfl, rfl, rfl, rfl, rfl, rfl, rfl, rfl, rfl, rfl, rfl, rfl, rfl, rfl, rfl, rfl, rfl, rfl, rfl, rfl⟩
  · have b : a ≠ 1153 := by
      rcases ha with ⟨s, k, hs, hk, rfl⟩ | ⟨i, hi, rfl⟩ | rfl | rfl
      · rcases hs with ⟨i, hi, rfl⟩ | rfl | rfl <;> omega
      · omega
      · omega
      · omega
    rw [zpRr_o b, zpRr_o b]
    exact l2 a ha
  · have b : t < 1139 := by
      rcases ht with ⟨i, hi, rfl⟩ | rfl | rfl <;> omega
    refine ⟨(zpRr_o (by omega) _).trans (l3 t ht).1, fun k hk => (zpRr_o (by omega) _).trans ((l3 t ht).2 k hk)⟩
  · exact ⟨(zpRr_o (by omega) _).trans (l4 i hi).1, (zpRr_o (by omega) _).trans (l4 i hi).2.1, (zpRr_o (by omega) _).trans (l4 i hi).2.2⟩
/-- the board thought of, at the start -/
def zpgh (F : Nat → Nat → Int) (R : Nat → Nat → Nat) : zM := ((0, true, 0, 0), zrcl (zcF F), fun _ _ => 0, zpRr R)
theorem zpW_0 (hF : ∀ a, 2 ≤ a → ∀ j, F a j = 0) (cl : zclR R) {n c u : Nat} : zpW L 0 (zmm n c u (zcF F) G R) (fun _ => zpgh F R) := by
  refine ⟨zpclR_lay cl, ⟨by omega, zcF_2 (F := F)⟩, ?_, ⟨fun f hf => ?_, fun _ _ => zpclR_N cl, fun i hi => absurd hi (Nat.not_lt_zero i)⟩, fun j => ?_, ?_, ?_⟩
  · refine zqR_keep3 (f := zrcl (zcF F)) (g := zrcl (zcF F)) (fun b j hb => (zrcl_o (by omega)).symm) (fun j hj => ?_) (fun _ _ _ => rfl) rfl (zqR_i hF)
    rw [zmm_I]
    rw [zcF_o (by omega) (by omega) (fun i _ => by omega) (by omega) (by omega)]
    exact Or.inl (hF 8 (by omega) j)
  · refine zqR_0 (f := f) (g := zcF F) (fun i hi => ?_) hf
    rw [zcF_o (by omega) (by omega) (fun i _ => by omega) (by omega) (by omega), zcF_o (by omega) (by omega) (fun i _ => by omega) (by omega) (by omega), hF 1167 (by omega), hF 1168 (by omega)]
    omega
  · rw [zmm_I]
    rw [zcF_o (by omega) (by omega) (fun i _ => by omega) (by omega) (by omega)]
    exact hF 1114 (by omega) j
  · rw [zmm_I]
    rw [zcF_38 (by omega)]
    exact hF 1138 (by omega) 10
  · rw [zmm_I]
    rw [zcF_38 (by omega)]
    exact hF 1138 (by omega) 9
theorem zcF_6 (hF : ∀ a, 2 ≤ a → ∀ j, F a j = 0) (l : Nat) : zcF F 6 l = 0 := by
  rw [zcF_o (by omega) (by omega) (fun i _ => by omega) (by omega) (by omega)]
  exact hF 6 (by omega) l
theorem zcF_11 (hF : ∀ a, 2 ≤ a → ∀ j, F a j = 0) : zcF F 11 0 = 0 := by
  rw [zcF_o (by omega) (by omega) (fun i _ => by omega) (by omega) (by omega)]
  exact hF 11 (by omega) 0
end ZPSTART
