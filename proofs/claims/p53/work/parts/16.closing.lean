section ZFI
variable {K : Nat → Nat × Nat} {sz b L : Nat} {xs : Nat → Int32} {D : va_G} {tc : Nat → ClassId} {l : Launch} {x : zMI}
def zstep : Instr → Bool
  | .ireturn => false
  | .lreturn => false
  | .areturn => false
  | .return_ => false
  | .invokevirtual _ => false
  | .invokestatic _ => false
  | .athrow => false
  | _ => true
theorem zexec_inl {i : Instr} {v : Int} {k c n : Nat} {ls : zLs} {st : List zV} {M : zM} {o : zR} (hi : zstep i = true) (h : zexec K i v k c n ls st M = some o) : ∃ q, o = .inl q := by
  cases i <;> first
    | (exfalso; cases hi; done)
    | (exfalso; cases h; done)
    | (simp only [zexec, z2i, z2l, zil, zai, z1i, z1l, z1a, zall] at h
       repeat' split at h
       all_goals first
         | (cases h; exact ⟨_, rfl⟩)
         | (cases h; done))
def zfin (x : zMI) (pc n : Nat) (i : Instr) (o : zOp) : Prop :=
  (i = .ireturn ∧ ((zxT x = some .int ∧ o = (.ireturn, 0, 0, 0, 0)) ∨ (zxT x = some .boolean ∧ o = (.ireturn, 1, 0, 0, 0)))) ∨
  (i = .lreturn ∧ zxT x = some .long ∧ o = (.lreturn, 0, 0, 0, 0)) ∨
  (i = .return_ ∧ zxT x = none ∧ o = (.return_, 0, 0, 0, 0)) ∨
  (i = .areturn ∧ (∃ rt, zxT x = some rt ∧ ((∃ n, rt = .object n) ∨ ∃ t, rt = .array t)) ∧ o = (.areturn, 0, 0, 0, 0)) ∨
  (∃ k m, i = .invokevirtual k ∧ zlk zmthT x.1 k = some (m, 0) ∧ zxR (zmr m) < zxR x ∧ (zmr m).1 < 11 ∧ o = (.invokevirtual 0, 0, m, zxN (zmr m), pc + n)) ∨
  (∃ k m kind, i = .invokestatic k ∧ (kind = 1 ∨ kind = 4 ∨ kind = 5) ∧ zlk zmthT x.1 k = some (m, kind) ∧ zxR (zmr m) < zxR x ∧ o = (.invokestatic 0, 0, m, zxN (zmr m), pc + n)) ∨
  (∃ k m kind, i = .invokespecial k ∧ (kind = 2 ∨ kind = 3) ∧ zlk zmthT x.1 k = some (m, kind) ∧ zxR (zmr m) < zxR x ∧ (zmr m).1 < 11 ∧ o = (.invokevirtual 0, 0, m, zxN (zmr m), pc + n)) ∨
  (∃ k q, i = .new k ∧ zlk zclsT x.1 k = some q ∧ ¬ q < 11 ∧ x.1 = 10 ∧ zxH x = [] ∧ 4 ≤ zxR x ∧ zthr pc (zxB x) (q - 20) = true ∧ o = (.athrow, 0, q - 20, 0, 0))
theorem zres_cases {pc n : Nat} {i : Instr} {o : zOp} (hres : zres x pc i n = some o) : zstep o.1 = true ∨ zfin x pc n i o := by
  cases i with
  | ireturn =>
    refine Or.inr (Or.inl ⟨rfl, ?_⟩)
    have hres : (if zxT x = some .int then some (.ireturn, 0, 0, 0, 0) else if zxT x = some .boolean then some (.ireturn, 1, 0, 0, 0) else none : Option zOp) = some o := hres
    by_cases h1 : zxT x = some .int
    · rw [if_pos h1] at hres
      cases hres
      exact Or.inl ⟨h1, rfl⟩
    · rw [if_neg h1] at hres
      obtain ⟨h2, e0⟩ := zifo_inv hres
      exact Or.inr ⟨h2, e0.symm⟩
  | lreturn =>
    obtain ⟨h2, e0⟩ := zifo_inv hres
    exact Or.inr (Or.inr (Or.inl ⟨rfl, h2, e0.symm⟩))
  | return_ =>
    obtain ⟨h2, e0⟩ := zifo_inv hres
    exact Or.inr (Or.inr (Or.inr (Or.inl ⟨rfl, h2, e0.symm⟩)))
  | areturn =>
    have hres : (match zxT x with
      | some (.object _) => some (.areturn, 0, 0, 0, 0)
      | some (.array _) => some (.areturn, 0, 0, 0, 0)
      | _ => none : Option zOp) = some o := hres
    refine Or.inr (Or.inr (Or.inr (Or.inr (Or.inl ⟨rfl, ?_⟩))))
    split at hres
    · rename_i h9
      cases hres
      exact ⟨⟨_, h9, Or.inl ⟨_, rfl⟩⟩, rfl⟩
    · rename_i h9
      cases hres
      exact ⟨⟨_, h9, Or.inr ⟨_, rfl⟩⟩, rfl⟩
    · cases hres
  | invokevirtual k =>
    have hres : (match zlk zmthT x.1 k with
      | some (m, 0) => if zxR (zmr m) < zxR x ∧ (zmr m).1 < 11 then some (.invokevirtual 0, 0, m, zxN (zmr m), pc + n) else none
      | _ => none : Option zOp) = some o := hres
    refine Or.inr (Or.inr (Or.inr (Or.inr (Or.inr (Or.inl ?_)))))
    split at hres
    · rename_i h9
      obtain ⟨h2, e0⟩ := zifo_inv hres
      exact ⟨_, _, rfl, h9, h2.1, h2.2, e0.symm⟩
    · cases hres
  | invokestatic k =>
    have hres : (match zlk zmthT x.1 k with
      | some (m, 1) => if zxR (zmr m) < zxR x then some (.invokestatic 0, 0, m, zxN (zmr m), pc + n) else none
      | some (m, 4) => if zxR (zmr m) < zxR x then some (.invokestatic 0, 0, m, zxN (zmr m), pc + n) else none
      | some (m, 5) => if zxR (zmr m) < zxR x then some (.invokestatic 0, 0, m, zxN (zmr m), pc + n) else none
      | _ => none : Option zOp) = some o := hres
    refine Or.inr (Or.inr (Or.inr (Or.inr (Or.inr (Or.inr (Or.inl ?_))))))
    split at hres
    · rename_i h9
      obtain ⟨h2, e0⟩ := zifo_inv hres
      exact ⟨_, _, 1, rfl, by decide, h9, h2, e0.symm⟩
    · rename_i h9
      obtain ⟨h2, e0⟩ := zifo_inv hres
      exact ⟨_, _, 4, rfl, by decide, h9, h2, e0.symm⟩
    · rename_i h9
      obtain ⟨h2, e0⟩ := zifo_inv hres
      exact ⟨_, _, 5, rfl, by decide, h9, h2, e0.symm⟩
    · cases hres
  | invokespecial k =>
    have hres : (match zlk zmthT x.1 k with
      | some (m, 2) => if zxR (zmr m) < zxR x ∧ (zmr m).1 < 11 then some (.invokevirtual 0, 0, m, zxN (zmr m), pc + n) else none
      | some (m, 3) => if zxR (zmr m) < zxR x ∧ (zmr m).1 < 11 then some (.invokevirtual 0, 0, m, zxN (zmr m), pc + n) else none
      | some (_, 6) => some (.pop2, 0, 0, 0, pc + n)
      | _ => none : Option zOp) = some o := hres
    split at hres
    · rename_i h9
      obtain ⟨h2, e0⟩ := zifo_inv hres
      exact Or.inr (Or.inr (Or.inr (Or.inr (Or.inr (Or.inr (Or.inr (Or.inl ⟨_, _, 2, rfl, by decide, h9, h2.1, h2.2, e0.symm⟩)))))))
    · rename_i h9
      obtain ⟨h2, e0⟩ := zifo_inv hres
      exact Or.inr (Or.inr (Or.inr (Or.inr (Or.inr (Or.inr (Or.inr (Or.inl ⟨_, _, 3, rfl, by decide, h9, h2.1, h2.2, e0.symm⟩)))))))
    · cases hres
      exact Or.inl rfl
    · cases hres
  | new k =>
    have hres : (match zlk zclsT x.1 k with
      | some q => if q < 11 then some (.new 0, 0, q, (zcl q).2.2, pc + n) else if x.1 = 10 ∧ zxH x = [] ∧ 4 ≤ zxR x ∧ zthr pc (zxB x) (q - 20) = true then some (.athrow, 0, q - 20, 0, 0) else none
      | none => none : Option zOp) = some o := hres
    cases hq : zlk zclsT x.1 k with
    | none => rw [hq] at hres; cases hres
    | some q =>
      rw [hq] at hres
      have hres : (if q < 11 then some (.new 0, 0, q, (zcl q).2.2, pc + n) else if x.1 = 10 ∧ zxH x = [] ∧ 4 ≤ zxR x ∧ zthr pc (zxB x) (q - 20) = true then some (.athrow, 0, q - 20, 0, 0) else none : Option zOp) = some o := hres
      by_cases h1 : q < 11
      · rw [if_pos h1] at hres
        cases hres
        exact Or.inl rfl
      · rw [if_neg h1] at hres
        obtain ⟨hg, e0⟩ := zifo_inv hres
        exact Or.inr (Or.inr (Or.inr (Or.inr (Or.inr (Or.inr (Or.inr (Or.inr ⟨k, q, rfl, hq, h1, hg.1, hg.2.1, hg.2.2.1, hg.2.2.2, e0.symm⟩)))))))
  | ldc k =>
    obtain ⟨q, hq, rfl⟩ := zmap_inv hres
    exact Or.inl rfl
  | ldc_w k =>
    obtain ⟨q, hq, rfl⟩ := zmap_inv hres
    exact Or.inl rfl
  | ldc2_w k =>
    obtain ⟨q, hq, rfl⟩ := zmap_inv hres
    exact Or.inl rfl
  | getfield k =>
    obtain ⟨q, hq, rfl⟩ := zmap_inv hres
    exact Or.inl rfl
  | putfield k =>
    have hres : (match zlk zfldT x.1 k with
      | some q => if ((zcl q.1).2.1 q.2).2.2.2 = true ∧ ¬ (zxI x = true ∧ x.1 = q.1) then none else some (.putfield (zkind (zty q.1 q.2)), 0, q.2, q.1, pc + n)
      | none => none : Option zOp) = some o := hres
    split at hres
    · split at hres
      · cases hres
      · cases hres
        exact Or.inl rfl
    · cases hres
  | newarray t => cases t <;> first | (cases hres; done) | (cases hres; exact Or.inl rfl)
  | anewarray k =>
    have hres : (match zlk zclsT x.1 k with
      | some 7 => some (.anewarray 0, 0, 23, 0, pc + n)
      | some 6 => some (.anewarray 0, 0, 24, 0, pc + n)
      | some 1 => some (.anewarray 0, 0, 25, 0, pc + n)
      | _ => none : Option zOp) = some o := hres
    split at hres
    · cases hres; exact Or.inl rfl
    · cases hres; exact Or.inl rfl
    · cases hres; exact Or.inl rfl
    · cases hres
  | _ => first
    | (exfalso; cases hres; done)
    | (cases hres; exact Or.inl rfl)
    | (obtain ⟨-, e0⟩ := zifo_inv hres; subst e0; exact Or.inl rfl)
theorem zret_no {pc n : Nat} {i : Instr} {o : zOp} (hi : i = .ireturn ∨ i = .lreturn ∨ i = .areturn ∨ i = .return_ ∨ (∃ k, i = .invokevirtual k) ∨ ∃ k, i = .invokestatic k) (hres : zres x pc i n = some o) : zstep o.1 = false := by
  rcases hi with rfl | rfl | rfl | rfl | ⟨k, rfl⟩ | ⟨k, rfl⟩
  all_goals
    simp only [zres] at hres
    repeat' split at hres
    all_goals first
      | (cases hres; done)
      | (cases hres; rfl)
theorem zn_special {k pc n : Nat} {ls ls' : zLs} {st st' : List zV} {M M' : zM} {pc' : Nat} {o : zOp} (hd : decode (zxB x) pc = .ok (.invokespecial k, n)) (hn : zln (.invokespecial k) n = true) (hres : zres x pc (.invokespecial k) n = some o) (hex : zexec K o.1 o.2.1 o.2.2.1 o.2.2.2.1 o.2.2.2.2 ls st M = some (.inl (pc', ls', st', M'))) : zStp K sz b L xs D tc l x pc ls st M pc' ls' st' M' ∧ M.1.1 ≤ M'.1.1 := by
  have hn1 : n = 3 := by simpa [zln] using hn
  subst hn1
  have hres : (match zlk zmthT x.1 k with
    | some (m, 2) => if zxR (zmr m) < zxR x ∧ (zmr m).1 < 11 then some (.invokevirtual 0, 0, m, zxN (zmr m), pc + 3) else none
    | some (m, 3) => if zxR (zmr m) < zxR x ∧ (zmr m).1 < 11 then some (.invokevirtual 0, 0, m, zxN (zmr m), pc + 3) else none
    | some (_, 6) => some (.pop2, 0, 0, 0, pc + 3)
    | _ => none : Option zOp) = some o := hres
  split at hres
  · obtain ⟨h2, e0⟩ := zifo_inv hres
    subst e0
    obtain ⟨a, r, -, h9⟩ := z1a_inv hex
    obtain ⟨-, h10⟩ := zif_inv h9
    cases h10
  · obtain ⟨h2, e0⟩ := zifo_inv hres
    subst e0
    obtain ⟨a, r, -, h9⟩ := z1a_inv hex
    obtain ⟨-, h10⟩ := zif_inv h9
    cases h10
  · rename_i hq
    cases hres
    obtain ⟨a, r, rfl, h9⟩ := z1a_inv hex
    obtain ⟨hg, h10⟩ := zif_inv h9
    cases h10
    exact ⟨zp_obj hd hq hg, Nat.le_refl _⟩
  · cases hres
theorem zfin_inl {pc n : Nat} {i : Instr} {ls : zLs} {st : List zV} {M : zM} {o : zOp} {q : Nat × zLs × List zV × zM} (hf : zfin x pc n i o) (hex : zexec K o.1 o.2.1 o.2.2.1 o.2.2.2.1 o.2.2.2.2 ls st M = some (.inl q)) : False := by
  rcases hf with ⟨-, ⟨-, rfl⟩ | ⟨-, rfl⟩⟩ | ⟨-, -, rfl⟩ | ⟨-, -, rfl⟩ | ⟨-, -, rfl⟩ | ⟨k, m, -, -, -, -, rfl⟩ | ⟨k, m, kd, -, -, -, -, rfl⟩ | ⟨k, m, kd, -, -, -, -, -, rfl⟩ | ⟨k, q, -, -, -, -, -, -, -, rfl⟩
  · obtain ⟨u, r, -, h9⟩ := z1i_inv hex
    obtain ⟨-, h10⟩ := zif_inv h9
    cases h10
  · obtain ⟨u, r, -, h9⟩ := z1i_inv hex
    obtain ⟨-, h10⟩ := zif_inv h9
    cases h10
  · obtain ⟨u, r, -, h9⟩ := z1l_inv hex
    obtain ⟨-, h10⟩ := zif_inv h9
    cases h10
  · obtain ⟨-, h10⟩ := zif_inv hex
    cases h10
  · obtain ⟨u, r, -, h9⟩ := z1a_inv hex
    obtain ⟨-, h10⟩ := zif_inv h9
    cases h10
  · obtain ⟨u, r, -, h9⟩ := z1a_inv hex
    obtain ⟨-, h10⟩ := zif_inv h9
    cases h10
  · obtain ⟨-, h10⟩ := zif_inv hex
    cases h10
  · obtain ⟨u, r, -, h9⟩ := z1a_inv hex
    obtain ⟨-, h10⟩ := zif_inv h9
    cases h10
  · obtain ⟨-, h10⟩ := zif_inv hex
    cases h10
theorem zNext {pc n : Nat} {i : Instr} {ls ls' : zLs} {st st' : List zV} {M M' : zM} {pc' : Nat} {o : zOp} (hd : decode (zxB x) pc = .ok (i, n)) (hn : zln i n = true) (hres : zres x pc i n = some o) (hex : zexec K o.1 o.2.1 o.2.2.1 o.2.2.2.1 o.2.2.2.2 ls st M = some (.inl (pc', ls', st', M'))) : zStp K sz b L xs D tc l x pc ls st M pc' ls' st' M' ∧ M.1.1 ≤ M'.1.1 := by
  cases i with
  | iadd => exact zn_iadd hd hn hres hex
  | isub => exact zn_isub hd hn hres hex
  | imul => exact zn_imul hd hn hres hex
  | idiv => exact zn_idiv hd hn hres hex
  | irem => exact zn_irem hd hn hres hex
  | iand => exact zn_iand hd hn hres hex
  | ior => exact zn_ior hd hn hres hex
  | ixor => exact zn_ixor hd hn hres hex
  | ishl => exact zn_ishl hd hn hres hex
  | ishr => exact zn_ishr hd hn hres hex
  | ladd => exact zn_ladd hd hn hres hex
  | lmul => exact zn_lmul hd hn hres hex
  | ldiv => exact zn_ldiv hd hn hres hex
  | land => exact zn_land hd hn hres hex
  | lor => exact zn_lor hd hn hres hex
  | lxor => exact zn_lxor hd hn hres hex
  | lcmp => exact zn_lcmp hd hn hres hex
  | lshl => exact zn_lshl hd hn hres hex
  | lshr => exact zn_lshr hd hn hres hex
  | i2l => exact zn_i2l hd hn hres hex
  | ineg => exact zn_ineg hd hn hres hex
  | dup => exact zn_dup hd hn hres hex
  | pop => exact zn_pop hd hn hres hex
  | dup2 => exact zn_dup2 hd hn hres hex
  | iload _ => exact zn_iload hd hn hres hex
  | iload_n _ => exact zn_iload_n hd hn hres hex
  | aload _ => exact zn_aload hd hn hres hex
  | aload_n _ => exact zn_aload_n hd hn hres hex
  | lload _ => exact zn_lload hd hn hres hex
  | lload_n _ => exact zn_lload_n hd hn hres hex
  | istore _ => exact zn_istore hd hn hres hex
  | istore_n _ => exact zn_istore_n hd hn hres hex
  | astore _ => exact zn_astore hd hn hres hex
  | astore_n _ => exact zn_astore_n hd hn hres hex
  | lstore _ => exact zn_lstore hd hn hres hex
  | lstore_n _ => exact zn_lstore_n hd hn hres hex
  | iinc _ _ => exact zn_iinc hd hn hres hex
  | iconst _ => exact zn_iconst hd hn hres hex
  | bipush _ => exact zn_bipush hd hn hres hex
  | sipush _ => exact zn_sipush hd hn hres hex
  | ldc _ => exact zn_ldc hd hn hres hex
  | ldc_w _ => exact zn_ldc_w hd hn hres hex
  | lconst _ => exact zn_lconst hd hn hres hex
  | ldc2_w _ => exact zn_ldc2_w hd hn hres hex
  | goto _ => exact zn_goto hd hn hres hex
  | ifCond _ _ => exact zn_ifCond hd hn hres hex
  | if_icmp _ _ => exact zn_if_icmp hd hn hres hex
  | tableswitch _ _ _ _ => exact zn_tableswitch hd hn hres hex
  | iaload => exact zn_iaload hd hn hres hex
  | baload => exact zn_baload hd hn hres hex
  | laload => exact zn_laload hd hn hres hex
  | aaload => exact zn_aaload hd hn hres hex
  | iastore => exact zn_iastore hd hn hres hex
  | bastore => exact zn_bastore hd hn hres hex
  | lastore => exact zn_lastore hd hn hres hex
  | aastore => exact zn_aastore hd hn hres hex
  | arraylength => exact zn_arraylength hd hn hres hex
  | getfield _ => exact zn_getfield hd hn hres hex
  | putfield _ => exact zn_putfield hd hn hres hex
  | new _ => exact zn_new hd hn hres hex
  | newarray _ => exact zn_newarray hd hn hres hex
  | anewarray _ => exact zn_anewarray hd hn hres hex
  | invokespecial _ => exact zn_special hd hn hres hex
  | ireturn => exact ((zres_cases hres).elim (fun h9 => absurd (zret_no (Or.inl rfl) hres) (by rw [h9]; decide)) fun h9 => (zfin_inl h9 hex).elim)
  | lreturn => exact ((zres_cases hres).elim (fun h9 => absurd (zret_no (Or.inr (Or.inl rfl)) hres) (by rw [h9]; decide)) fun h9 => (zfin_inl h9 hex).elim)
  | areturn => exact ((zres_cases hres).elim (fun h9 => absurd (zret_no (Or.inr (Or.inr (Or.inl rfl))) hres) (by rw [h9]; decide)) fun h9 => (zfin_inl h9 hex).elim)
  | return_ => exact ((zres_cases hres).elim (fun h9 => absurd (zret_no (Or.inr (Or.inr (Or.inr (Or.inl rfl)))) hres) (by rw [h9]; decide)) fun h9 => (zfin_inl h9 hex).elim)
  | invokevirtual k => exact ((zres_cases hres).elim (fun h9 => absurd (zret_no (Or.inr (Or.inr (Or.inr (Or.inr (Or.inl ⟨k, rfl⟩))))) hres) (by rw [h9]; decide)) fun h9 => (zfin_inl h9 hex).elim)
  | invokestatic k => exact ((zres_cases hres).elim (fun h9 => absurd (zret_no (Or.inr (Or.inr (Or.inr (Or.inr (Or.inr ⟨k, rfl⟩))))) hres) (by rw [h9]; decide)) fun h9 => (zfin_inl h9 hex).elim)
  | _ => exact (by cases hres)
end ZFI
