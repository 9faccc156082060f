/-! a shape on paper: alike -/
section ZPAPERQ
variable {L m : Nat} {M : zM} {cc : Nat → Int}
theorem zqA_188 (hW : zqW m M) (c2 : cc 2 = 1) {i : Int} : zqAg L M 188 [.inr (.inr 2), .inl i] 336 [.inr (.inr 1153), .inl i] cc := by
  have hR := hW.1.1
  have rel := hW.1.2.1
  have h01 := zqR_01 rel
  by_cases k0 : zth M.2.1 i
  · obtain ⟨s, rfl, hs, ts, se, so⟩ := zqsh hW k0
    obtain ⟨c, hc⟩ : ∃ c : Nat, M.2.1 1174 s = (c : Int) := ⟨(M.2.1 1174 s).toNat, by have := so.1; omega⟩
    have c4 : c ≤ 4 := by have := so.1; omega
    obtain ⟨W, hWd⟩ : ∃ W, zppw (fun p => (zN M.2.1 (14 + 14 * s) p).toNat) (zX M.2.1 (14 + 14 * s)) (zY M.2.1 (14 + 14 * s)) (M.2.1 1104, 0) = W := ⟨_, rfl⟩
    have ec := fun Q => c188_g (L := L) (M := M) (Q := Q) (W := W) (c := c) hR h01 hs k0 (zqE_sw se so) (by rw [se.2.1, hc]) hWd
    refine zqAg_ok (m' := m) ec rfl rfl rfl (fun B b1 b2 b3 => ?_)
    have b1' : B.2.1 = ztx M.2.1 1103 (W c).1 (W c).2 := b1
    have ox : ∀ b j, b ≠ 1103 → b ≠ 1104 → B.2.1 b j = M.2.1 b j := fun b j h1 h2 => by
      rw [b1']
      unfold ztx
      rw [if_neg (by omega), if_neg h2]
    have bq : ∀ b, 1104 < b → B.2.1 b = M.2.1 b := fun b hb => funext fun j => ox b j (by omega) (by omega)
    obtain ⟨eN, eX, eY⟩ := zr_view (f := M.2.1) (g := B.2.1) (bq 1176 (by omega)) (bq 1177 (by omega)) (bq 1178 (by omega)) s
    have al : zalk (W c) (zrpp B.2.1 s c) := by
      rw [← hWd]
      unfold zrpp
      rw [eN, eX, eY]
      refine zalk_pp (w := (M.2.1 1104, 0)) (v := (B.2.1 1157, 0)) ⟨rfl, fun j hj => absurd hj (Nat.not_lt_zero j)⟩ c (fun q hq => ?_)
      obtain ⟨q1, q2⟩ := se.2.2.1 q (by omega)
      have n3 := (so.2.2 q (by omega)).1
      refine ⟨by show (zN M.2.1 (14 + 14 * s) q).toNat = (zrN M.2.1 s q).toNat; rw [q1], fun j hj => ?_⟩
      have hj2 : j < (zN M.2.1 (14 + 14 * s) q).toNat := hj
      rw [q1] at hj2
      exact q2 j (by omega)
    have cb : (W c).2 ≤ 57 * c := by
      rw [← hWd]
      have := (zppw_b (fun p => (zN M.2.1 (14 + 14 * s) p).toNat) (zX M.2.1 (14 + 14 * s)) (zY M.2.1 (14 + 14 * s)) (M.2.1 1104, 0) c (fun q hq => by
        obtain ⟨q1, q2⟩ := se.2.2.1 q (by omega)
        have n3 := (so.2.2 q (by omega)).1
        show (zN M.2.1 (14 + 14 * s) q).toNat ≤ 8
        rw [q1]
        omega)).2
      have h0 : ((M.2.1 1104, 0) : (Nat → Int) × Nat).2 = 0 := rfl
      omega
    have h66 : B.2.1 1166 = M.2.1 1166 := bq _ (by omega)
    have sp : zrSp B.2.1 s := by
      have := zqO_sp so
      unfold zrSp at *
      rw [eN, eX, eY, bq 1174 (by omega), bq 1175 (by omega)]
      exact this
    have er := fun Q => c336_g (L := L) (M := B) (Q := Q) (s := s) (by rw [b3]; exact hR) (fun k hk => by rw [h66]; exact zqR_r01 rel k hk) ⟨by omega, by omega, by rw [h66, Int.toNat_natCast]; exact ts⟩ hs sp
    rw [bq 1174 (by omega), hc, Int.toNat_natCast, ← al.1] at er
    have old : ∀ b j, b ≠ 1103 → b ≠ 1104 → b ≠ 1157 → (b ≠ 1153 ∨ (j ≠ 0 ∧ j ≠ 7)) → ztw (zrtw B.2.1 0) (zrpp B.2.1 s c).1 (W c).2 b j = M.2.1 b j := fun b j h1 h2 h3 h4 => by
      rw [ztw_o ⟨h3, by omega⟩]
      unfold zrtw
      rw [zu2_sj (by omega)]
      exact ox b j h1 h2
    refine ⟨zwI B (ztw (zrtw B.2.1 0) (zrpp B.2.1 s c).1 (W c).2), er, rfl, rfl, zqW_y hW b3 (fun b j hb => old b j (by omega) (by omega) (by omega) (by omega)) ⟨?_, ?_, ?_, ?_⟩ b2, ?_⟩
    · exact zqPen_c hW.2.1 (fun b j hb => old b j (by omega) (by omega) (by omega) (by omega))
    · exact zqTap_c hW.2.2.1 (fun b j hb => old b j (by omega) (by omega) (by omega) (by omega))
    · have e7 : ztw (zrtw B.2.1 0) (zrpp B.2.1 s c).1 (W c).2 1153 7 = ((W c).2 : Int) := ztw_c
      have e3 : ztw (zrtw B.2.1 0) (zrpp B.2.1 s c).1 (W c).2 1103 0 = ((W c).2 : Int) := by
        rw [ztw_o ⟨by omega, by omega⟩]
        unfold zrtw
        rw [zu2_sj (by omega), b1', ztx_c]
      have e4 : ∀ j, ztw (zrtw B.2.1 0) (zrpp B.2.1 s c).1 (W c).2 1104 j = (W c).1 j := fun j => by
        rw [ztw_o ⟨by omega, by omega⟩]
        unfold zrtw
        rw [zu2_sj (by omega), b1']
        unfold ztx
        rw [if_neg (by omega), if_pos rfl]
      have e5 : ∀ j, ztw (zrtw B.2.1 0) (zrpp B.2.1 s c).1 (W c).2 1157 j = (zrpp B.2.1 s c).1 j := fun j => by
        unfold ztw
        rw [zu2_sj (by omega)]
        exact zua_a
      show zqShe (ztw (zrtw B.2.1 0) (zrpp B.2.1 s c).1 (W c).2)
      unfold zqShe
      rw [e7, e3]
      refine ⟨by omega, fun j hj => ?_⟩
      rw [e4, e5]
      exact (al.2 j (by omega)).symm
    · exact zqMis_c hW.2.2.2.2 (fun b j hb => old b j (by omega) (by omega) (by omega) (by omega))
    · show ztw (zrtw B.2.1 0) (zrpp B.2.1 s c).1 (W c).2 1153 0 = 0
      rw [ztw_o ⟨by omega, by omega⟩]
      exact zu2_eq _ _ _ _
  · exact zqAg_no (e := 2) (d := 1) hW (by omega) (fun Q => c188_0 hR h01 k0) (.inl 0) (fun B b1 b2 Q => c336_1 (by rw [b2]; exact hR) (by rw [b1]; exact zqR_r01 rel) (fun k => k0 ((zqth_iff hW b1).mpr k))) c2
end ZPAPERQ
