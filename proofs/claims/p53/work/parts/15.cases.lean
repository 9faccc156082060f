/-! every step of the interpreter is the machine's: the closing -/
section ZCL
variable {K : Nat → Nat × Nat} {sz b L : Nat} {xs : Nat → Int32} {D : va_G} {tc : Nat → ClassId} {l : Launch} {x : zMI}
theorem z1i_inv {st : List zV} {f : Int → List zV → Option zR} {o : zR} (h : z1i st f = some o) : ∃ u r, st = .inl u :: r ∧ f u r = some o := by
  unfold z1i at h
  split at h
  · exact ⟨_, _, rfl, h⟩
  · cases h
theorem z1l_inv {st : List zV} {f : Int64 → List zV → Option zR} {o : zR} (h : z1l st f = some o) : ∃ u r, st = .inr (.inl u) :: r ∧ f u r = some o := by
  unfold z1l at h
  split at h
  · exact ⟨_, _, rfl, h⟩
  · cases h
theorem z1a_inv {st : List zV} {f : Nat → List zV → Option zR} {o : zR} (h : z1a st f = some o) : ∃ u r, st = .inr (.inr u) :: r ∧ f u r = some o := by
  unfold z1a at h
  split at h
  · exact ⟨_, _, rfl, h⟩
  · cases h
theorem z2i_inv {st : List zV} {f : Int → Int → List zV → Option zR} {o : zR} (h : z2i st f = some o) : ∃ u v r, st = .inl v :: .inl u :: r ∧ f u v r = some o := by
  obtain ⟨v, r1, rfl, h1⟩ := z1i_inv h
  obtain ⟨u, r, rfl, h2⟩ := z1i_inv h1
  exact ⟨u, v, r, rfl, h2⟩
theorem z2l_inv {st : List zV} {f : Int64 → Int64 → List zV → Option zR} {o : zR} (h : z2l st f = some o) : ∃ u v r, st = .inr (.inl v) :: .inr (.inl u) :: r ∧ f u v r = some o := by
  obtain ⟨v, r1, rfl, h1⟩ := z1l_inv h
  obtain ⟨u, r, rfl, h2⟩ := z1l_inv h1
  exact ⟨u, v, r, rfl, h2⟩
theorem zil_inv {st : List zV} {f : Int64 → Int → List zV → Option zR} {o : zR} (h : zil st f = some o) : ∃ u v r, st = .inl v :: .inr (.inl u) :: r ∧ f u v r = some o := by
  obtain ⟨v, r1, rfl, h1⟩ := z1i_inv h
  obtain ⟨u, r, rfl, h2⟩ := z1l_inv h1
  exact ⟨u, v, r, rfl, h2⟩
theorem zai_inv {st : List zV} {f : Nat → Int → List zV → Option zR} {o : zR} (h : zai st f = some o) : ∃ u v r, st = .inl v :: .inr (.inr u) :: r ∧ f u v r = some o := by
  obtain ⟨v, r1, rfl, h1⟩ := z1i_inv h
  obtain ⟨u, r, rfl, h2⟩ := z1a_inv h1
  exact ⟨u, v, r, rfl, h2⟩
theorem zall_inv {ls : zLs} {k : Nat} {f : zV → Option zR} {o : zR} (h : zall ls k f = some o) : ∃ v, ls[k]? = some (some v) ∧ f v = some o := by
  unfold zall at h
  split at h
  · rename_i v hv
    exact ⟨v, hv, h⟩
  · cases h
theorem zif_inv {c : Prop} [Decidable c] {a o : zR} (h : (if c then some a else none) = some o) : c ∧ a = o := by
  by_cases hc : c
  · rw [if_pos hc] at h
    exact ⟨hc, Option.some.inj h⟩
  · rw [if_neg hc] at h; cases h
theorem zifo_inv {c : Prop} [Decidable c] {a o : zOp} (h : (if c then some a else none) = some o) : c ∧ a = o := by
  by_cases hc : c
  · rw [if_pos hc] at h
    exact ⟨hc, Option.some.inj h⟩
  · rw [if_neg hc] at h; cases h
theorem zmap_inv {α : Type} {t : Option α} {f : α → zOp} {o : zOp} (h : t.map f = some o) : ∃ q, t = some q ∧ f q = o := by
  cases t with
  | none => cases h
  | some q => exact ⟨q, rfl, Option.some.inj h⟩
theorem zn_iadd {pc n : Nat} {ls ls' : zLs} {st st' : List zV} {M M' : zM} {pc' : Nat} {o : zOp} (hd : decode (zxB x) pc = .ok (.iadd, n)) (hn : zln (.iadd) n = true) (hres : zres x pc (.iadd) n = some o) (hex : zexec K o.1 o.2.1 o.2.2.1 o.2.2.2.1 o.2.2.2.2 ls st M = some (.inl (pc', ls', st', M'))) : zStp K sz b L xs D tc l x pc ls st M pc' ls' st' M' ∧ M.1.1 ≤ M'.1.1 := by
  cases hres
  have hn1 : n = 1 := by simpa [zln] using hn
  subst hn1
  obtain ⟨u, v, r, rfl, h9⟩ := z2i_inv hex
  obtain ⟨hg, h10⟩ := zif_inv h9
  cases h10
  exact ⟨zp_iadd hd hg, Nat.le_refl _⟩
theorem zn_isub {pc n : Nat} {ls ls' : zLs} {st st' : List zV} {M M' : zM} {pc' : Nat} {o : zOp} (hd : decode (zxB x) pc = .ok (.isub, n)) (hn : zln (.isub) n = true) (hres : zres x pc (.isub) n = some o) (hex : zexec K o.1 o.2.1 o.2.2.1 o.2.2.2.1 o.2.2.2.2 ls st M = some (.inl (pc', ls', st', M'))) : zStp K sz b L xs D tc l x pc ls st M pc' ls' st' M' ∧ M.1.1 ≤ M'.1.1 := by
  cases hres
  have hn1 : n = 1 := by simpa [zln] using hn
  subst hn1
  obtain ⟨u, v, r, rfl, h9⟩ := z2i_inv hex
  obtain ⟨hg, h10⟩ := zif_inv h9
  cases h10
  exact ⟨zp_isub hd hg, Nat.le_refl _⟩
theorem zn_imul {pc n : Nat} {ls ls' : zLs} {st st' : List zV} {M M' : zM} {pc' : Nat} {o : zOp} (hd : decode (zxB x) pc = .ok (.imul, n)) (hn : zln (.imul) n = true) (hres : zres x pc (.imul) n = some o) (hex : zexec K o.1 o.2.1 o.2.2.1 o.2.2.2.1 o.2.2.2.2 ls st M = some (.inl (pc', ls', st', M'))) : zStp K sz b L xs D tc l x pc ls st M pc' ls' st' M' ∧ M.1.1 ≤ M'.1.1 := by
  cases hres
  have hn1 : n = 1 := by simpa [zln] using hn
  subst hn1
  obtain ⟨u, v, r, rfl, h9⟩ := z2i_inv hex
  obtain ⟨hg, h10⟩ := zif_inv h9
  cases h10
  exact ⟨zp_imul hd hg, Nat.le_refl _⟩
theorem zn_idiv {pc n : Nat} {ls ls' : zLs} {st st' : List zV} {M M' : zM} {pc' : Nat} {o : zOp} (hd : decode (zxB x) pc = .ok (.idiv, n)) (hn : zln (.idiv) n = true) (hres : zres x pc (.idiv) n = some o) (hex : zexec K o.1 o.2.1 o.2.2.1 o.2.2.2.1 o.2.2.2.2 ls st M = some (.inl (pc', ls', st', M'))) : zStp K sz b L xs D tc l x pc ls st M pc' ls' st' M' ∧ M.1.1 ≤ M'.1.1 := by
  cases hres
  have hn1 : n = 1 := by simpa [zln] using hn
  subst hn1
  obtain ⟨u, v, r, rfl, h9⟩ := z2i_inv hex
  obtain ⟨hg, h10⟩ := zif_inv h9
  cases h10
  exact ⟨zp_idiv hd hg, Nat.le_refl _⟩
theorem zn_irem {pc n : Nat} {ls ls' : zLs} {st st' : List zV} {M M' : zM} {pc' : Nat} {o : zOp} (hd : decode (zxB x) pc = .ok (.irem, n)) (hn : zln (.irem) n = true) (hres : zres x pc (.irem) n = some o) (hex : zexec K o.1 o.2.1 o.2.2.1 o.2.2.2.1 o.2.2.2.2 ls st M = some (.inl (pc', ls', st', M'))) : zStp K sz b L xs D tc l x pc ls st M pc' ls' st' M' ∧ M.1.1 ≤ M'.1.1 := by
  cases hres
  have hn1 : n = 1 := by simpa [zln] using hn
  subst hn1
  obtain ⟨u, v, r, rfl, h9⟩ := z2i_inv hex
  obtain ⟨hg, h10⟩ := zif_inv h9
  cases h10
  exact ⟨zp_irem hd hg, Nat.le_refl _⟩
theorem zn_iand {pc n : Nat} {ls ls' : zLs} {st st' : List zV} {M M' : zM} {pc' : Nat} {o : zOp} (hd : decode (zxB x) pc = .ok (.iand, n)) (hn : zln (.iand) n = true) (hres : zres x pc (.iand) n = some o) (hex : zexec K o.1 o.2.1 o.2.2.1 o.2.2.2.1 o.2.2.2.2 ls st M = some (.inl (pc', ls', st', M'))) : zStp K sz b L xs D tc l x pc ls st M pc' ls' st' M' ∧ M.1.1 ≤ M'.1.1 := by
  cases hres
  have hn1 : n = 1 := by simpa [zln] using hn
  subst hn1
  obtain ⟨u, v, r, rfl, h9⟩ := z2i_inv hex
  cases h9
  exact ⟨zp_iand hd, Nat.le_refl _⟩
theorem zn_ior {pc n : Nat} {ls ls' : zLs} {st st' : List zV} {M M' : zM} {pc' : Nat} {o : zOp} (hd : decode (zxB x) pc = .ok (.ior, n)) (hn : zln (.ior) n = true) (hres : zres x pc (.ior) n = some o) (hex : zexec K o.1 o.2.1 o.2.2.1 o.2.2.2.1 o.2.2.2.2 ls st M = some (.inl (pc', ls', st', M'))) : zStp K sz b L xs D tc l x pc ls st M pc' ls' st' M' ∧ M.1.1 ≤ M'.1.1 := by
  cases hres
  have hn1 : n = 1 := by simpa [zln] using hn
  subst hn1
  obtain ⟨u, v, r, rfl, h9⟩ := z2i_inv hex
  cases h9
  exact ⟨zp_ior hd, Nat.le_refl _⟩
theorem zn_ixor {pc n : Nat} {ls ls' : zLs} {st st' : List zV} {M M' : zM} {pc' : Nat} {o : zOp} (hd : decode (zxB x) pc = .ok (.ixor, n)) (hn : zln (.ixor) n = true) (hres : zres x pc (.ixor) n = some o) (hex : zexec K o.1 o.2.1 o.2.2.1 o.2.2.2.1 o.2.2.2.2 ls st M = some (.inl (pc', ls', st', M'))) : zStp K sz b L xs D tc l x pc ls st M pc' ls' st' M' ∧ M.1.1 ≤ M'.1.1 := by
  cases hres
  have hn1 : n = 1 := by simpa [zln] using hn
  subst hn1
  obtain ⟨u, v, r, rfl, h9⟩ := z2i_inv hex
  cases h9
  exact ⟨zp_ixor hd, Nat.le_refl _⟩
theorem zn_ishl {pc n : Nat} {ls ls' : zLs} {st st' : List zV} {M M' : zM} {pc' : Nat} {o : zOp} (hd : decode (zxB x) pc = .ok (.ishl, n)) (hn : zln (.ishl) n = true) (hres : zres x pc (.ishl) n = some o) (hex : zexec K o.1 o.2.1 o.2.2.1 o.2.2.2.1 o.2.2.2.2 ls st M = some (.inl (pc', ls', st', M'))) : zStp K sz b L xs D tc l x pc ls st M pc' ls' st' M' ∧ M.1.1 ≤ M'.1.1 := by
  cases hres
  have hn1 : n = 1 := by simpa [zln] using hn
  subst hn1
  obtain ⟨u, v, r, rfl, h9⟩ := z2i_inv hex
  cases h9
  exact ⟨zp_ishl hd, Nat.le_refl _⟩
theorem zn_ishr {pc n : Nat} {ls ls' : zLs} {st st' : List zV} {M M' : zM} {pc' : Nat} {o : zOp} (hd : decode (zxB x) pc = .ok (.ishr, n)) (hn : zln (.ishr) n = true) (hres : zres x pc (.ishr) n = some o) (hex : zexec K o.1 o.2.1 o.2.2.1 o.2.2.2.1 o.2.2.2.2 ls st M = some (.inl (pc', ls', st', M'))) : zStp K sz b L xs D tc l x pc ls st M pc' ls' st' M' ∧ M.1.1 ≤ M'.1.1 := by
  cases hres
  have hn1 : n = 1 := by simpa [zln] using hn
  subst hn1
  obtain ⟨u, v, r, rfl, h9⟩ := z2i_inv hex
  cases h9
  exact ⟨zp_ishr hd, Nat.le_refl _⟩
theorem zn_ladd {pc n : Nat} {ls ls' : zLs} {st st' : List zV} {M M' : zM} {pc' : Nat} {o : zOp} (hd : decode (zxB x) pc = .ok (.ladd, n)) (hn : zln (.ladd) n = true) (hres : zres x pc (.ladd) n = some o) (hex : zexec K o.1 o.2.1 o.2.2.1 o.2.2.2.1 o.2.2.2.2 ls st M = some (.inl (pc', ls', st', M'))) : zStp K sz b L xs D tc l x pc ls st M pc' ls' st' M' ∧ M.1.1 ≤ M'.1.1 := by
  cases hres
  have hn1 : n = 1 := by simpa [zln] using hn
  subst hn1
  obtain ⟨u, v, r, rfl, h9⟩ := z2l_inv hex
  cases h9
  exact ⟨zp_ladd hd, Nat.le_refl _⟩
theorem zn_lmul {pc n : Nat} {ls ls' : zLs} {st st' : List zV} {M M' : zM} {pc' : Nat} {o : zOp} (hd : decode (zxB x) pc = .ok (.lmul, n)) (hn : zln (.lmul) n = true) (hres : zres x pc (.lmul) n = some o) (hex : zexec K o.1 o.2.1 o.2.2.1 o.2.2.2.1 o.2.2.2.2 ls st M = some (.inl (pc', ls', st', M'))) : zStp K sz b L xs D tc l x pc ls st M pc' ls' st' M' ∧ M.1.1 ≤ M'.1.1 := by
  cases hres
  have hn1 : n = 1 := by simpa [zln] using hn
  subst hn1
  obtain ⟨u, v, r, rfl, h9⟩ := z2l_inv hex
  cases h9
  exact ⟨zp_lmul hd, Nat.le_refl _⟩
theorem zn_ldiv {pc n : Nat} {ls ls' : zLs} {st st' : List zV} {M M' : zM} {pc' : Nat} {o : zOp} (hd : decode (zxB x) pc = .ok (.ldiv, n)) (hn : zln (.ldiv) n = true) (hres : zres x pc (.ldiv) n = some o) (hex : zexec K o.1 o.2.1 o.2.2.1 o.2.2.2.1 o.2.2.2.2 ls st M = some (.inl (pc', ls', st', M'))) : zStp K sz b L xs D tc l x pc ls st M pc' ls' st' M' ∧ M.1.1 ≤ M'.1.1 := by
  cases hres
  have hn1 : n = 1 := by simpa [zln] using hn
  subst hn1
  obtain ⟨u, v, r, rfl, h9⟩ := z2l_inv hex
  obtain ⟨hg, h10⟩ := zif_inv h9
  cases h10
  exact ⟨zp_ldiv hd hg, Nat.le_refl _⟩
theorem zn_land {pc n : Nat} {ls ls' : zLs} {st st' : List zV} {M M' : zM} {pc' : Nat} {o : zOp} (hd : decode (zxB x) pc = .ok (.land, n)) (hn : zln (.land) n = true) (hres : zres x pc (.land) n = some o) (hex : zexec K o.1 o.2.1 o.2.2.1 o.2.2.2.1 o.2.2.2.2 ls st M = some (.inl (pc', ls', st', M'))) : zStp K sz b L xs D tc l x pc ls st M pc' ls' st' M' ∧ M.1.1 ≤ M'.1.1 := by
  cases hres
  have hn1 : n = 1 := by simpa [zln] using hn
  subst hn1
  obtain ⟨u, v, r, rfl, h9⟩ := z2l_inv hex
  cases h9
  exact ⟨zp_land hd, Nat.le_refl _⟩
theorem zn_lor {pc n : Nat} {ls ls' : zLs} {st st' : List zV} {M M' : zM} {pc' : Nat} {o : zOp} (hd : decode (zxB x) pc = .ok (.lor, n)) (hn : zln (.lor) n = true) (hres : zres x pc (.lor) n = some o) (hex : zexec K o.1 o.2.1 o.2.2.1 o.2.2.2.1 o.2.2.2.2 ls st M = some (.inl (pc', ls', st', M'))) : zStp K sz b L xs D tc l x pc ls st M pc' ls' st' M' ∧ M.1.1 ≤ M'.1.1 := by
  cases hres
  have hn1 : n = 1 := by simpa [zln] using hn
  subst hn1
  obtain ⟨u, v, r, rfl, h9⟩ := z2l_inv hex
  cases h9
  exact ⟨zp_lor hd, Nat.le_refl _⟩
theorem zn_lxor {pc n : Nat} {ls ls' : zLs} {st st' : List zV} {M M' : zM} {pc' : Nat} {o : zOp} (hd : decode (zxB x) pc = .ok (.lxor, n)) (hn : zln (.lxor) n = true) (hres : zres x pc (.lxor) n = some o) (hex : zexec K o.1 o.2.1 o.2.2.1 o.2.2.2.1 o.2.2.2.2 ls st M = some (.inl (pc', ls', st', M'))) : zStp K sz b L xs D tc l x pc ls st M pc' ls' st' M' ∧ M.1.1 ≤ M'.1.1 := by
  cases hres
  have hn1 : n = 1 := by simpa [zln] using hn
  subst hn1
  obtain ⟨u, v, r, rfl, h9⟩ := z2l_inv hex
  cases h9
  exact ⟨zp_lxor hd, Nat.le_refl _⟩
theorem zn_lcmp {pc n : Nat} {ls ls' : zLs} {st st' : List zV} {M M' : zM} {pc' : Nat} {o : zOp} (hd : decode (zxB x) pc = .ok (.lcmp, n)) (hn : zln (.lcmp) n = true) (hres : zres x pc (.lcmp) n = some o) (hex : zexec K o.1 o.2.1 o.2.2.1 o.2.2.2.1 o.2.2.2.2 ls st M = some (.inl (pc', ls', st', M'))) : zStp K sz b L xs D tc l x pc ls st M pc' ls' st' M' ∧ M.1.1 ≤ M'.1.1 := by
  cases hres
  have hn1 : n = 1 := by simpa [zln] using hn
  subst hn1
  obtain ⟨u, v, r, rfl, h9⟩ := z2l_inv hex
  cases h9
  exact ⟨zp_lcmp hd, Nat.le_refl _⟩
theorem zn_lshl {pc n : Nat} {ls ls' : zLs} {st st' : List zV} {M M' : zM} {pc' : Nat} {o : zOp} (hd : decode (zxB x) pc = .ok (.lshl, n)) (hn : zln (.lshl) n = true) (hres : zres x pc (.lshl) n = some o) (hex : zexec K o.1 o.2.1 o.2.2.1 o.2.2.2.1 o.2.2.2.2 ls st M = some (.inl (pc', ls', st', M'))) : zStp K sz b L xs D tc l x pc ls st M pc' ls' st' M' ∧ M.1.1 ≤ M'.1.1 := by
  cases hres
  have hn1 : n = 1 := by simpa [zln] using hn
  subst hn1
  obtain ⟨u, v, r, rfl, h9⟩ := zil_inv hex
  cases h9
  exact ⟨zp_lshl hd, Nat.le_refl _⟩
theorem zn_lshr {pc n : Nat} {ls ls' : zLs} {st st' : List zV} {M M' : zM} {pc' : Nat} {o : zOp} (hd : decode (zxB x) pc = .ok (.lshr, n)) (hn : zln (.lshr) n = true) (hres : zres x pc (.lshr) n = some o) (hex : zexec K o.1 o.2.1 o.2.2.1 o.2.2.2.1 o.2.2.2.2 ls st M = some (.inl (pc', ls', st', M'))) : zStp K sz b L xs D tc l x pc ls st M pc' ls' st' M' ∧ M.1.1 ≤ M'.1.1 := by
  cases hres
  have hn1 : n = 1 := by simpa [zln] using hn
  subst hn1
  obtain ⟨u, v, r, rfl, h9⟩ := zil_inv hex
  cases h9
  exact ⟨zp_lshr hd, Nat.le_refl _⟩
theorem zn_i2l {pc n : Nat} {ls ls' : zLs} {st st' : List zV} {M M' : zM} {pc' : Nat} {o : zOp} (hd : decode (zxB x) pc = .ok (.i2l, n)) (hn : zln (.i2l) n = true) (hres : zres x pc (.i2l) n = some o) (hex : zexec K o.1 o.2.1 o.2.2.1 o.2.2.2.1 o.2.2.2.2 ls st M = some (.inl (pc', ls', st', M'))) : zStp K sz b L xs D tc l x pc ls st M pc' ls' st' M' ∧ M.1.1 ≤ M'.1.1 := by
  cases hres
  have hn1 : n = 1 := by simpa [zln] using hn
  subst hn1
  obtain ⟨u, r, rfl, h9⟩ := z1i_inv hex
  cases h9
  exact ⟨zp_i2l hd, Nat.le_refl _⟩
theorem zn_ineg {pc n : Nat} {ls ls' : zLs} {st st' : List zV} {M M' : zM} {pc' : Nat} {o : zOp} (hd : decode (zxB x) pc = .ok (.ineg, n)) (hn : zln (.ineg) n = true) (hres : zres x pc (.ineg) n = some o) (hex : zexec K o.1 o.2.1 o.2.2.1 o.2.2.2.1 o.2.2.2.2 ls st M = some (.inl (pc', ls', st', M'))) : zStp K sz b L xs D tc l x pc ls st M pc' ls' st' M' ∧ M.1.1 ≤ M'.1.1 := by
  cases hres
  have hn1 : n = 1 := by simpa [zln] using hn
  subst hn1
  obtain ⟨u, r, rfl, h9⟩ := z1i_inv hex
  obtain ⟨hg, h10⟩ := zif_inv h9
  cases h10
  exact ⟨zp_ineg hd hg, Nat.le_refl _⟩
theorem zn_dup {pc n : Nat} {ls ls' : zLs} {st st' : List zV} {M M' : zM} {pc' : Nat} {o : zOp} (hd : decode (zxB x) pc = .ok (.dup, n)) (hn : zln (.dup) n = true) (hres : zres x pc (.dup) n = some o) (hex : zexec K o.1 o.2.1 o.2.2.1 o.2.2.2.1 o.2.2.2.2 ls st M = some (.inl (pc', ls', st', M'))) : zStp K sz b L xs D tc l x pc ls st M pc' ls' st' M' ∧ M.1.1 ≤ M'.1.1 := by
  cases hres
  have hn1 : n = 1 := by simpa [zln] using hn
  subst hn1
  match st, hex with
  | v :: r, h9 =>
    obtain ⟨hg, h10⟩ := zif_inv h9
    cases h10
    exact ⟨zp_dup hd hg, Nat.le_refl _⟩
theorem zn_pop {pc n : Nat} {ls ls' : zLs} {st st' : List zV} {M M' : zM} {pc' : Nat} {o : zOp} (hd : decode (zxB x) pc = .ok (.pop, n)) (hn : zln (.pop) n = true) (hres : zres x pc (.pop) n = some o) (hex : zexec K o.1 o.2.1 o.2.2.1 o.2.2.2.1 o.2.2.2.2 ls st M = some (.inl (pc', ls', st', M'))) : zStp K sz b L xs D tc l x pc ls st M pc' ls' st' M' ∧ M.1.1 ≤ M'.1.1 := by
  cases hres
  have hn1 : n = 1 := by simpa [zln] using hn
  subst hn1
  match st, hex with
  | v :: r, h9 =>
    obtain ⟨hg, h10⟩ := zif_inv h9
    cases h10
    exact ⟨zp_pop hd hg, Nat.le_refl _⟩
theorem zn_dup2 {pc n : Nat} {ls ls' : zLs} {st st' : List zV} {M M' : zM} {pc' : Nat} {o : zOp} (hd : decode (zxB x) pc = .ok (.dup2, n)) (hn : zln (.dup2) n = true) (hres : zres x pc (.dup2) n = some o) (hex : zexec K o.1 o.2.1 o.2.2.1 o.2.2.2.1 o.2.2.2.2 ls st M = some (.inl (pc', ls', st', M'))) : zStp K sz b L xs D tc l x pc ls st M pc' ls' st' M' ∧ M.1.1 ≤ M'.1.1 := by
  cases hres
  have hn1 : n = 1 := by simpa [zln] using hn
  subst hn1
  match st, hex with
  | v :: w :: r, h9 =>
    obtain ⟨hg, h10⟩ := zif_inv h9
    cases h10
    exact ⟨zp_dup2 hd hg, Nat.le_refl _⟩
theorem zn_iload {pc n : Nat} {ls ls' : zLs} {st st' : List zV} {M M' : zM} {pc' : Nat} {o : zOp} {k : Nat} (hd : decode (zxB x) pc = .ok (.iload k, n)) (hn : zln (.iload k) n = true) (hres : zres x pc (.iload k) n = some o) (hex : zexec K o.1 o.2.1 o.2.2.1 o.2.2.2.1 o.2.2.2.2 ls st M = some (.inl (pc', ls', st', M'))) : zStp K sz b L xs D tc l x pc ls st M pc' ls' st' M' ∧ M.1.1 ≤ M'.1.1 := by
  cases hres
  have hn1 : n = 2 := by simpa [zln] using hn
  subst hn1
  obtain ⟨v, hv, h8⟩ := zall_inv hex
  obtain ⟨u, r, e1, h9⟩ := z1i_inv h8
  cases e1
  cases h9
  exact ⟨zp_iload hd hv, Nat.le_refl _⟩
theorem zn_iload_n {pc n : Nat} {ls ls' : zLs} {st st' : List zV} {M M' : zM} {pc' : Nat} {o : zOp} {k : Fin 4} (hd : decode (zxB x) pc = .ok (.iload_n k, n)) (hn : zln (.iload_n k) n = true) (hres : zres x pc (.iload_n k) n = some o) (hex : zexec K o.1 o.2.1 o.2.2.1 o.2.2.2.1 o.2.2.2.2 ls st M = some (.inl (pc', ls', st', M'))) : zStp K sz b L xs D tc l x pc ls st M pc' ls' st' M' ∧ M.1.1 ≤ M'.1.1 := by
  cases hres
  have hn1 : n = 1 := by simpa [zln] using hn
  subst hn1
  obtain ⟨v, hv, h8⟩ := zall_inv hex
  obtain ⟨u, r, e1, h9⟩ := z1i_inv h8
  cases e1
  cases h9
  exact ⟨zp_iloadn hd hv, Nat.le_refl _⟩
theorem zn_aload {pc n : Nat} {ls ls' : zLs} {st st' : List zV} {M M' : zM} {pc' : Nat} {o : zOp} {k : Nat} (hd : decode (zxB x) pc = .ok (.aload k, n)) (hn : zln (.aload k) n = true) (hres : zres x pc (.aload k) n = some o) (hex : zexec K o.1 o.2.1 o.2.2.1 o.2.2.2.1 o.2.2.2.2 ls st M = some (.inl (pc', ls', st', M'))) : zStp K sz b L xs D tc l x pc ls st M pc' ls' st' M' ∧ M.1.1 ≤ M'.1.1 := by
  cases hres
  have hn1 : n = 2 := by simpa [zln] using hn
  subst hn1
  obtain ⟨v, hv, h8⟩ := zall_inv hex
  obtain ⟨u, r, e1, h9⟩ := z1a_inv h8
  cases e1
  cases h9
  exact ⟨zp_aload hd hv, Nat.le_refl _⟩
theorem zn_aload_n {pc n : Nat} {ls ls' : zLs} {st st' : List zV} {M M' : zM} {pc' : Nat} {o : zOp} {k : Fin 4} (hd : decode (zxB x) pc = .ok (.aload_n k, n)) (hn : zln (.aload_n k) n = true) (hres : zres x pc (.aload_n k) n = some o) (hex : zexec K o.1 o.2.1 o.2.2.1 o.2.2.2.1 o.2.2.2.2 ls st M = some (.inl (pc', ls', st', M'))) : zStp K sz b L xs D tc l x pc ls st M pc' ls' st' M' ∧ M.1.1 ≤ M'.1.1 := by
  cases hres
  have hn1 : n = 1 := by simpa [zln] using hn
  subst hn1
  obtain ⟨v, hv, h8⟩ := zall_inv hex
  obtain ⟨u, r, e1, h9⟩ := z1a_inv h8
  cases e1
  cases h9
  exact ⟨zp_aloadn hd hv, Nat.le_refl _⟩
theorem zn_lload {pc n : Nat} {ls ls' : zLs} {st st' : List zV} {M M' : zM} {pc' : Nat} {o : zOp} {k : Nat} (hd : decode (zxB x) pc = .ok (.lload k, n)) (hn : zln (.lload k) n = true) (hres : zres x pc (.lload k) n = some o) (hex : zexec K o.1 o.2.1 o.2.2.1 o.2.2.2.1 o.2.2.2.2 ls st M = some (.inl (pc', ls', st', M'))) : zStp K sz b L xs D tc l x pc ls st M pc' ls' st' M' ∧ M.1.1 ≤ M'.1.1 := by
  cases hres
  have hn1 : n = 2 := by simpa [zln] using hn
  subst hn1
  obtain ⟨v, hv, h8⟩ := zall_inv hex
  obtain ⟨u, r, e1, h9⟩ := z1l_inv h8
  cases e1
  cases h9
  exact ⟨zp_lload hd hv, Nat.le_refl _⟩
theorem zn_lload_n {pc n : Nat} {ls ls' : zLs} {st st' : List zV} {M M' : zM} {pc' : Nat} {o : zOp} {k : Fin 4} (hd : decode (zxB x) pc = .ok (.lload_n k, n)) (hn : zln (.lload_n k) n = true) (hres : zres x pc (.lload_n k) n = some o) (hex : zexec K o.1 o.2.1 o.2.2.1 o.2.2.2.1 o.2.2.2.2 ls st M = some (.inl (pc', ls', st', M'))) : zStp K sz b L xs D tc l x pc ls st M pc' ls' st' M' ∧ M.1.1 ≤ M'.1.1 := by
  cases hres
  have hn1 : n = 1 := by simpa [zln] using hn
  subst hn1
  obtain ⟨v, hv, h8⟩ := zall_inv hex
  obtain ⟨u, r, e1, h9⟩ := z1l_inv h8
  cases e1
  cases h9
  exact ⟨zp_lloadn hd hv, Nat.le_refl _⟩
theorem zn_istore {pc n : Nat} {ls ls' : zLs} {st st' : List zV} {M M' : zM} {pc' : Nat} {o : zOp} {k : Nat} (hd : decode (zxB x) pc = .ok (.istore k, n)) (hn : zln (.istore k) n = true) (hres : zres x pc (.istore k) n = some o) (hex : zexec K o.1 o.2.1 o.2.2.1 o.2.2.2.1 o.2.2.2.2 ls st M = some (.inl (pc', ls', st', M'))) : zStp K sz b L xs D tc l x pc ls st M pc' ls' st' M' ∧ M.1.1 ≤ M'.1.1 := by
  cases hres
  have hn1 : n = 2 := by simpa [zln] using hn
  subst hn1
  obtain ⟨u, r, rfl, h9⟩ := z1i_inv hex
  obtain ⟨hg, h10⟩ := zif_inv h9
  cases h10
  exact ⟨zp_istore hd hg, Nat.le_refl _⟩
theorem zn_istore_n {pc n : Nat} {ls ls' : zLs} {st st' : List zV} {M M' : zM} {pc' : Nat} {o : zOp} {k : Fin 4} (hd : decode (zxB x) pc = .ok (.istore_n k, n)) (hn : zln (.istore_n k) n = true) (hres : zres x pc (.istore_n k) n = some o) (hex : zexec K o.1 o.2.1 o.2.2.1 o.2.2.2.1 o.2.2.2.2 ls st M = some (.inl (pc', ls', st', M'))) : zStp K sz b L xs D tc l x pc ls st M pc' ls' st' M' ∧ M.1.1 ≤ M'.1.1 := by
  cases hres
  have hn1 : n = 1 := by simpa [zln] using hn
  subst hn1
  obtain ⟨u, r, rfl, h9⟩ := z1i_inv hex
  obtain ⟨hg, h10⟩ := zif_inv h9
  cases h10
  exact ⟨zp_istoren hd hg, Nat.le_refl _⟩
theorem zn_astore {pc n : Nat} {ls ls' : zLs} {st st' : List zV} {M M' : zM} {pc' : Nat} {o : zOp} {k : Nat} (hd : decode (zxB x) pc = .ok (.astore k, n)) (hn : zln (.astore k) n = true) (hres : zres x pc (.astore k) n = some o) (hex : zexec K o.1 o.2.1 o.2.2.1 o.2.2.2.1 o.2.2.2.2 ls st M = some (.inl (pc', ls', st', M'))) : zStp K sz b L xs D tc l x pc ls st M pc' ls' st' M' ∧ M.1.1 ≤ M'.1.1 := by
  cases hres
  have hn1 : n = 2 := by simpa [zln] using hn
  subst hn1
  obtain ⟨u, r, rfl, h9⟩ := z1a_inv hex
  obtain ⟨hg, h10⟩ := zif_inv h9
  cases h10
  exact ⟨zp_astore hd hg, Nat.le_refl _⟩
theorem zn_astore_n {pc n : Nat} {ls ls' : zLs} {st st' : List zV} {M M' : zM} {pc' : Nat} {o : zOp} {k : Fin 4} (hd : decode (zxB x) pc = .ok (.astore_n k, n)) (hn : zln (.astore_n k) n = true) (hres : zres x pc (.astore_n k) n = some o) (hex : zexec K o.1 o.2.1 o.2.2.1 o.2.2.2.1 o.2.2.2.2 ls st M = some (.inl (pc', ls', st', M'))) : zStp K sz b L xs D tc l x pc ls st M pc' ls' st' M' ∧ M.1.1 ≤ M'.1.1 := by
  cases hres
  have hn1 : n = 1 := by simpa [zln] using hn
  subst hn1
  obtain ⟨u, r, rfl, h9⟩ := z1a_inv hex
  obtain ⟨hg, h10⟩ := zif_inv h9
  cases h10
  exact ⟨zp_astoren hd hg, Nat.le_refl _⟩
theorem zn_lstore {pc n : Nat} {ls ls' : zLs} {st st' : List zV} {M M' : zM} {pc' : Nat} {o : zOp} {k : Nat} (hd : decode (zxB x) pc = .ok (.lstore k, n)) (hn : zln (.lstore k) n = true) (hres : zres x pc (.lstore k) n = some o) (hex : zexec K o.1 o.2.1 o.2.2.1 o.2.2.2.1 o.2.2.2.2 ls st M = some (.inl (pc', ls', st', M'))) : zStp K sz b L xs D tc l x pc ls st M pc' ls' st' M' ∧ M.1.1 ≤ M'.1.1 := by
  cases hres
  have hn1 : n = 2 := by simpa [zln] using hn
  subst hn1
  obtain ⟨u, r, rfl, h9⟩ := z1l_inv hex
  obtain ⟨hg, h10⟩ := zif_inv h9
  cases h10
  exact ⟨zp_lstore hd hg, Nat.le_refl _⟩
theorem zn_lstore_n {pc n : Nat} {ls ls' : zLs} {st st' : List zV} {M M' : zM} {pc' : Nat} {o : zOp} {k : Fin 4} (hd : decode (zxB x) pc = .ok (.lstore_n k, n)) (hn : zln (.lstore_n k) n = true) (hres : zres x pc (.lstore_n k) n = some o) (hex : zexec K o.1 o.2.1 o.2.2.1 o.2.2.2.1 o.2.2.2.2 ls st M = some (.inl (pc', ls', st', M'))) : zStp K sz b L xs D tc l x pc ls st M pc' ls' st' M' ∧ M.1.1 ≤ M'.1.1 := by
  cases hres
  have hn1 : n = 1 := by simpa [zln] using hn
  subst hn1
  obtain ⟨u, r, rfl, h9⟩ := z1l_inv hex
  obtain ⟨hg, h10⟩ := zif_inv h9
  cases h10
  exact ⟨zp_lstoren hd hg, Nat.le_refl _⟩
theorem zn_iinc {pc n : Nat} {ls ls' : zLs} {st st' : List zV} {M M' : zM} {pc' : Nat} {o : zOp} {k : Nat} {v : Int} (hd : decode (zxB x) pc = .ok (.iinc k v, n)) (hn : zln (.iinc k v) n = true) (hres : zres x pc (.iinc k v) n = some o) (hex : zexec K o.1 o.2.1 o.2.2.1 o.2.2.2.1 o.2.2.2.2 ls st M = some (.inl (pc', ls', st', M'))) : zStp K sz b L xs D tc l x pc ls st M pc' ls' st' M' ∧ M.1.1 ≤ M'.1.1 := by
  obtain ⟨hv0, e0⟩ := zifo_inv hres
  subst e0
  have hn1 : n = 3 := by simpa [zln] using hn
  subst hn1
  obtain ⟨w, hv, h8⟩ := zall_inv hex
  obtain ⟨u, r, e1, h9⟩ := z1i_inv h8
  cases e1
  obtain ⟨hg, h10⟩ := zif_inv h9
  cases h10
  exact ⟨zp_iinc hd hv hg, Nat.le_refl _⟩
theorem zn_iconst {pc n : Nat} {ls ls' : zLs} {st st' : List zV} {M M' : zM} {pc' : Nat} {o : zOp} {v : Int} (hd : decode (zxB x) pc = .ok (.iconst v, n)) (hn : zln (.iconst v) n = true) (hres : zres x pc (.iconst v) n = some o) (hex : zexec K o.1 o.2.1 o.2.2.1 o.2.2.2.1 o.2.2.2.2 ls st M = some (.inl (pc', ls', st', M'))) : zStp K sz b L xs D tc l x pc ls st M pc' ls' st' M' ∧ M.1.1 ≤ M'.1.1 := by
  obtain ⟨hv0, e0⟩ := zifo_inv hres
  subst e0
  have hn1 : n = 1 := by simpa [zln] using hn
  subst hn1
  have hr9 : zr32 v := ⟨by omega, by omega⟩
  cases hex
  exact ⟨zp_iconst hd hr9, Nat.le_refl _⟩
theorem zn_bipush {pc n : Nat} {ls ls' : zLs} {st st' : List zV} {M M' : zM} {pc' : Nat} {o : zOp} {v : Int} (hd : decode (zxB x) pc = .ok (.bipush v, n)) (hn : zln (.bipush v) n = true) (hres : zres x pc (.bipush v) n = some o) (hex : zexec K o.1 o.2.1 o.2.2.1 o.2.2.2.1 o.2.2.2.2 ls st M = some (.inl (pc', ls', st', M'))) : zStp K sz b L xs D tc l x pc ls st M pc' ls' st' M' ∧ M.1.1 ≤ M'.1.1 := by
  obtain ⟨hv0, e0⟩ := zifo_inv hres
  subst e0
  have hn1 : n = 2 := by simpa [zln] using hn
  subst hn1
  cases hex
  exact ⟨zp_bipush hd hv0, Nat.le_refl _⟩
theorem zn_sipush {pc n : Nat} {ls ls' : zLs} {st st' : List zV} {M M' : zM} {pc' : Nat} {o : zOp} {v : Int} (hd : decode (zxB x) pc = .ok (.sipush v, n)) (hn : zln (.sipush v) n = true) (hres : zres x pc (.sipush v) n = some o) (hex : zexec K o.1 o.2.1 o.2.2.1 o.2.2.2.1 o.2.2.2.2 ls st M = some (.inl (pc', ls', st', M'))) : zStp K sz b L xs D tc l x pc ls st M pc' ls' st' M' ∧ M.1.1 ≤ M'.1.1 := by
  obtain ⟨hv0, e0⟩ := zifo_inv hres
  subst e0
  have hn1 : n = 3 := by simpa [zln] using hn
  subst hn1
  cases hex
  exact ⟨zp_sipush hd hv0, Nat.le_refl _⟩
theorem zn_ldc {pc n : Nat} {ls ls' : zLs} {st st' : List zV} {M M' : zM} {pc' : Nat} {o : zOp} {k : Nat} (hd : decode (zxB x) pc = .ok (.ldc k, n)) (hn : zln (.ldc k) n = true) (hres : zres x pc (.ldc k) n = some o) (hex : zexec K o.1 o.2.1 o.2.2.1 o.2.2.2.1 o.2.2.2.2 ls st M = some (.inl (pc', ls', st', M'))) : zStp K sz b L xs D tc l x pc ls st M pc' ls' st' M' ∧ M.1.1 ≤ M'.1.1 := by
  obtain ⟨q, hq, rfl⟩ := zmap_inv hres
  have hn1 : n = 2 := by simpa [zln] using hn
  subst hn1
  cases hex
  exact ⟨zp_ldc hd hq, Nat.le_refl _⟩
theorem zn_ldc_w {pc n : Nat} {ls ls' : zLs} {st st' : List zV} {M M' : zM} {pc' : Nat} {o : zOp} {k : Nat} (hd : decode (zxB x) pc = .ok (.ldc_w k, n)) (hn : zln (.ldc_w k) n = true) (hres : zres x pc (.ldc_w k) n = some o) (hex : zexec K o.1 o.2.1 o.2.2.1 o.2.2.2.1 o.2.2.2.2 ls st M = some (.inl (pc', ls', st', M'))) : zStp K sz b L xs D tc l x pc ls st M pc' ls' st' M' ∧ M.1.1 ≤ M'.1.1 := by
  obtain ⟨q, hq, rfl⟩ := zmap_inv hres
  have hn1 : n = 3 := by simpa [zln] using hn
  subst hn1
  cases hex
  exact ⟨zp_ldcw hd hq, Nat.le_refl _⟩
theorem zn_lconst {pc n : Nat} {ls ls' : zLs} {st st' : List zV} {M M' : zM} {pc' : Nat} {o : zOp} {k : Fin 2} (hd : decode (zxB x) pc = .ok (.lconst k, n)) (hn : zln (.lconst k) n = true) (hres : zres x pc (.lconst k) n = some o) (hex : zexec K o.1 o.2.1 o.2.2.1 o.2.2.2.1 o.2.2.2.2 ls st M = some (.inl (pc', ls', st', M'))) : zStp K sz b L xs D tc l x pc ls st M pc' ls' st' M' ∧ M.1.1 ≤ M'.1.1 := by
  cases hres
  have hn1 : n = 1 := by simpa [zln] using hn
  subst hn1
  cases hex
  exact ⟨zp_lconst hd, Nat.le_refl _⟩
theorem zn_ldc2_w {pc n : Nat} {ls ls' : zLs} {st st' : List zV} {M M' : zM} {pc' : Nat} {o : zOp} {k : Nat} (hd : decode (zxB x) pc = .ok (.ldc2_w k, n)) (hn : zln (.ldc2_w k) n = true) (hres : zres x pc (.ldc2_w k) n = some o) (hex : zexec K o.1 o.2.1 o.2.2.1 o.2.2.2.1 o.2.2.2.2 ls st M = some (.inl (pc', ls', st', M'))) : zStp K sz b L xs D tc l x pc ls st M pc' ls' st' M' ∧ M.1.1 ≤ M'.1.1 := by
  obtain ⟨q, hq, rfl⟩ := zmap_inv hres
  have hn1 : n = 3 := by simpa [zln] using hn
  subst hn1
  cases hex
  exact ⟨zp_ldc2 hd hq, Nat.le_refl _⟩
theorem zn_goto {pc n : Nat} {ls ls' : zLs} {st st' : List zV} {M M' : zM} {pc' : Nat} {o : zOp} {off : Int} (hd : decode (zxB x) pc = .ok (.goto off, n)) (hn : zln (.goto off) n = true) (hres : zres x pc (.goto off) n = some o) (hex : zexec K o.1 o.2.1 o.2.2.1 o.2.2.2.1 o.2.2.2.2 ls st M = some (.inl (pc', ls', st', M'))) : zStp K sz b L xs D tc l x pc ls st M pc' ls' st' M' ∧ M.1.1 ≤ M'.1.1 := by
  obtain ⟨ho, e0⟩ := zifo_inv hres
  subst e0
  have hn1 : n = 3 := by simpa [zln] using hn
  subst hn1
  cases hex
  exact ⟨zp_goto hd ho, Nat.le_refl _⟩
theorem zn_ifCond {pc n : Nat} {ls ls' : zLs} {st st' : List zV} {M M' : zM} {pc' : Nat} {o : zOp} {q : ClassFile.Cond} {off : Int} (hd : decode (zxB x) pc = .ok (.ifCond q off, n)) (hn : zln (.ifCond q off) n = true) (hres : zres x pc (.ifCond q off) n = some o) (hex : zexec K o.1 o.2.1 o.2.2.1 o.2.2.2.1 o.2.2.2.2 ls st M = some (.inl (pc', ls', st', M'))) : zStp K sz b L xs D tc l x pc ls st M pc' ls' st' M' ∧ M.1.1 ≤ M'.1.1 := by
  obtain ⟨ho, e0⟩ := zifo_inv hres
  subst e0
  have hn1 : n = 3 := by simpa [zln] using hn
  subst hn1
  obtain ⟨u, r, rfl, h9⟩ := z1i_inv hex
  have h8 := zp_if (K := K) (sz := sz) (b := b) (L := L) (xs := xs) (D := D) (tc := tc) (l := l) (ls := ls) (st := r) (M := M) (u := u) hd ho
  by_cases hc : zcond q u 0 = true
  · rw [if_pos hc] at h9 h8
    cases h9
    exact ⟨h8, Nat.le_refl _⟩
  · rw [if_neg hc] at h9 h8
    cases h9
    exact ⟨h8, Nat.le_refl _⟩
theorem zn_if_icmp {pc n : Nat} {ls ls' : zLs} {st st' : List zV} {M M' : zM} {pc' : Nat} {o : zOp} {q : ClassFile.Cond} {off : Int} (hd : decode (zxB x) pc = .ok (.if_icmp q off, n)) (hn : zln (.if_icmp q off) n = true) (hres : zres x pc (.if_icmp q off) n = some o) (hex : zexec K o.1 o.2.1 o.2.2.1 o.2.2.2.1 o.2.2.2.2 ls st M = some (.inl (pc', ls', st', M'))) : zStp K sz b L xs D tc l x pc ls st M pc' ls' st' M' ∧ M.1.1 ≤ M'.1.1 := by
  obtain ⟨ho, e0⟩ := zifo_inv hres
  subst e0
  have hn1 : n = 3 := by simpa [zln] using hn
  subst hn1
  obtain ⟨u, v, r, rfl, h9⟩ := z2i_inv hex
  have h8 := zp_icmp (K := K) (sz := sz) (b := b) (L := L) (xs := xs) (D := D) (tc := tc) (l := l) (ls := ls) (st := r) (M := M) (u := u) (v := v) hd ho
  by_cases hc : zcond q u v = true
  · rw [if_pos hc] at h9 h8
    cases h9
    exact ⟨h8, Nat.le_refl _⟩
  · rw [if_neg hc] at h9 h8
    cases h9
    exact ⟨h8, Nat.le_refl _⟩
theorem zn_tableswitch {pc n : Nat} {ls ls' : zLs} {st st' : List zV} {M M' : zM} {pc' : Nat} {o : zOp} {d lo hi : Int} {offs : Array Int} (hd : decode (zxB x) pc = .ok (.tableswitch d lo hi offs, n)) (hn : zln (.tableswitch d lo hi offs) n = true) (hres : zres x pc (.tableswitch d lo hi offs) n = some o) (hex : zexec K o.1 o.2.1 o.2.2.1 o.2.2.2.1 o.2.2.2.2 ls st M = some (.inl (pc', ls', st', M'))) : zStp K sz b L xs D tc l x pc ls st M pc' ls' st' M' ∧ M.1.1 ≤ M'.1.1 := by
  obtain ⟨ho, e0⟩ := zifo_inv hres
  subst e0
  obtain ⟨u, r, rfl, h9⟩ := z1i_inv hex
  by_cases hc : u < lo ∨ hi < u
  · rw [if_pos hc] at h9
    cases h9
    exact ⟨zp_tblOut hd ho.2 hc, Nat.le_refl _⟩
  · rw [if_neg hc] at h9
    rw [Array.getElem?_map] at h9
    cases hoff : offs[(u - lo).toNat]? with
    | none => rw [hoff] at h9; cases h9
    | some t =>
      rw [hoff] at h9
      cases h9
      have ht : 0 ≤ (pc : Int) + t := of_decide_eq_true (Array.all_eq_true'.mp ho.1 t (Array.mem_of_getElem? hoff))
      exact ⟨zp_tblIn hd ht hc hoff, Nat.le_refl _⟩
theorem zn_iaload {pc n : Nat} {ls ls' : zLs} {st st' : List zV} {M M' : zM} {pc' : Nat} {o : zOp} (hd : decode (zxB x) pc = .ok (.iaload, n)) (hn : zln (.iaload) n = true) (hres : zres x pc (.iaload) n = some o) (hex : zexec K o.1 o.2.1 o.2.2.1 o.2.2.2.1 o.2.2.2.2 ls st M = some (.inl (pc', ls', st', M'))) : zStp K sz b L xs D tc l x pc ls st M pc' ls' st' M' ∧ M.1.1 ≤ M'.1.1 := by
  cases hres
  have hn1 : n = 1 := by simpa [zln] using hn
  subst hn1
  obtain ⟨a, j, r, rfl, h9⟩ := zai_inv hex
  obtain ⟨hg, h10⟩ := zif_inv h9
  cases h10
  exact ⟨zp_iald hd hg.1 hg.2.1 hg.2.2, Nat.le_refl _⟩
theorem zn_baload {pc n : Nat} {ls ls' : zLs} {st st' : List zV} {M M' : zM} {pc' : Nat} {o : zOp} (hd : decode (zxB x) pc = .ok (.baload, n)) (hn : zln (.baload) n = true) (hres : zres x pc (.baload) n = some o) (hex : zexec K o.1 o.2.1 o.2.2.1 o.2.2.2.1 o.2.2.2.2 ls st M = some (.inl (pc', ls', st', M'))) : zStp K sz b L xs D tc l x pc ls st M pc' ls' st' M' ∧ M.1.1 ≤ M'.1.1 := by
  cases hres
  have hn1 : n = 1 := by simpa [zln] using hn
  subst hn1
  obtain ⟨a, j, r, rfl, h9⟩ := zai_inv hex
  obtain ⟨hg, h10⟩ := zif_inv h9
  cases h10
  exact ⟨zp_zald hd hg.1 hg.2.1 hg.2.2, Nat.le_refl _⟩
theorem zn_laload {pc n : Nat} {ls ls' : zLs} {st st' : List zV} {M M' : zM} {pc' : Nat} {o : zOp} (hd : decode (zxB x) pc = .ok (.laload, n)) (hn : zln (.laload) n = true) (hres : zres x pc (.laload) n = some o) (hex : zexec K o.1 o.2.1 o.2.2.1 o.2.2.2.1 o.2.2.2.2 ls st M = some (.inl (pc', ls', st', M'))) : zStp K sz b L xs D tc l x pc ls st M pc' ls' st' M' ∧ M.1.1 ≤ M'.1.1 := by cases hres
theorem zn_aaload {pc n : Nat} {ls ls' : zLs} {st st' : List zV} {M M' : zM} {pc' : Nat} {o : zOp} (hd : decode (zxB x) pc = .ok (.aaload, n)) (hn : zln (.aaload) n = true) (hres : zres x pc (.aaload) n = some o) (hex : zexec K o.1 o.2.1 o.2.2.1 o.2.2.2.1 o.2.2.2.2 ls st M = some (.inl (pc', ls', st', M'))) : zStp K sz b L xs D tc l x pc ls st M pc' ls' st' M' ∧ M.1.1 ≤ M'.1.1 := by
  cases hres
  have hn1 : n = 1 := by simpa [zln] using hn
  subst hn1
  obtain ⟨a, j, r, rfl, h9⟩ := zai_inv hex
  obtain ⟨hg, h10⟩ := zif_inv h9
  cases h10
  exact ⟨zp_aald hd hg.1.1 hg.1.2 hg.2.1 hg.2.2.1 hg.2.2.2, Nat.le_refl _⟩
theorem zn_iastore {pc n : Nat} {ls ls' : zLs} {st st' : List zV} {M M' : zM} {pc' : Nat} {o : zOp} (hd : decode (zxB x) pc = .ok (.iastore, n)) (hn : zln (.iastore) n = true) (hres : zres x pc (.iastore) n = some o) (hex : zexec K o.1 o.2.1 o.2.2.1 o.2.2.2.1 o.2.2.2.2 ls st M = some (.inl (pc', ls', st', M'))) : zStp K sz b L xs D tc l x pc ls st M pc' ls' st' M' ∧ M.1.1 ≤ M'.1.1 := by
  cases hres
  have hn1 : n = 1 := by simpa [zln] using hn
  subst hn1
  obtain ⟨w, r1, rfl, h8⟩ := z1i_inv hex
  obtain ⟨a, j, r, rfl, h9⟩ := zai_inv h8
  obtain ⟨hg, h10⟩ := zif_inv h9
  cases h10
  exact ⟨zp_iast hd hg.1 hg.2.1 hg.2.2.1 hg.2.2.2, Nat.le_refl _⟩
theorem zn_bastore {pc n : Nat} {ls ls' : zLs} {st st' : List zV} {M M' : zM} {pc' : Nat} {o : zOp} (hd : decode (zxB x) pc = .ok (.bastore, n)) (hn : zln (.bastore) n = true) (hres : zres x pc (.bastore) n = some o) (hex : zexec K o.1 o.2.1 o.2.2.1 o.2.2.2.1 o.2.2.2.2 ls st M = some (.inl (pc', ls', st', M'))) : zStp K sz b L xs D tc l x pc ls st M pc' ls' st' M' ∧ M.1.1 ≤ M'.1.1 := by
  cases hres
  have hn1 : n = 1 := by simpa [zln] using hn
  subst hn1
  obtain ⟨w, r1, rfl, h8⟩ := z1i_inv hex
  obtain ⟨a, j, r, rfl, h9⟩ := zai_inv h8
  obtain ⟨hg, h10⟩ := zif_inv h9
  cases h10
  exact ⟨zp_zast hd hg.1 hg.2.1 hg.2.2.1 hg.2.2.2.1 hg.2.2.2.2, Nat.le_refl _⟩
theorem zn_lastore {pc n : Nat} {ls ls' : zLs} {st st' : List zV} {M M' : zM} {pc' : Nat} {o : zOp} (hd : decode (zxB x) pc = .ok (.lastore, n)) (hn : zln (.lastore) n = true) (hres : zres x pc (.lastore) n = some o) (hex : zexec K o.1 o.2.1 o.2.2.1 o.2.2.2.1 o.2.2.2.2 ls st M = some (.inl (pc', ls', st', M'))) : zStp K sz b L xs D tc l x pc ls st M pc' ls' st' M' ∧ M.1.1 ≤ M'.1.1 := by cases hres
theorem zn_aastore {pc n : Nat} {ls ls' : zLs} {st st' : List zV} {M M' : zM} {pc' : Nat} {o : zOp} (hd : decode (zxB x) pc = .ok (.aastore, n)) (hn : zln (.aastore) n = true) (hres : zres x pc (.aastore) n = some o) (hex : zexec K o.1 o.2.1 o.2.2.1 o.2.2.2.1 o.2.2.2.2 ls st M = some (.inl (pc', ls', st', M'))) : zStp K sz b L xs D tc l x pc ls st M pc' ls' st' M' ∧ M.1.1 ≤ M'.1.1 := by
  cases hres
  have hn1 : n = 1 := by simpa [zln] using hn
  subst hn1
  obtain ⟨w, r1, rfl, h8⟩ := z1a_inv hex
  obtain ⟨a, j, r, rfl, h9⟩ := zai_inv h8
  obtain ⟨hg, h10⟩ := zif_inv h9
  cases h10
  exact ⟨zp_aast hd hg.1 hg.2.1 hg.2.2.1 hg.2.2.2.1 hg.2.2.2.2, Nat.le_refl _⟩
theorem zn_arraylength {pc n : Nat} {ls ls' : zLs} {st st' : List zV} {M M' : zM} {pc' : Nat} {o : zOp} (hd : decode (zxB x) pc = .ok (.arraylength, n)) (hn : zln (.arraylength) n = true) (hres : zres x pc (.arraylength) n = some o) (hex : zexec K o.1 o.2.1 o.2.2.1 o.2.2.2.1 o.2.2.2.2 ls st M = some (.inl (pc', ls', st', M'))) : zStp K sz b L xs D tc l x pc ls st M pc' ls' st' M' ∧ M.1.1 ≤ M'.1.1 := by
  cases hres
  have hn1 : n = 1 := by simpa [zln] using hn
  subst hn1
  obtain ⟨a, r, rfl, h9⟩ := z1a_inv hex
  obtain ⟨hg, h10⟩ := zif_inv h9
  cases h10
  exact ⟨zp_alen hd hg.1.1 hg.1.2 hg.2, Nat.le_refl _⟩
theorem zn_getfield {pc n : Nat} {ls ls' : zLs} {st st' : List zV} {M M' : zM} {pc' : Nat} {o : zOp} {k : Nat} (hd : decode (zxB x) pc = .ok (.getfield k, n)) (hn : zln (.getfield k) n = true) (hres : zres x pc (.getfield k) n = some o) (hex : zexec K o.1 o.2.1 o.2.2.1 o.2.2.2.1 o.2.2.2.2 ls st M = some (.inl (pc', ls', st', M'))) : zStp K sz b L xs D tc l x pc ls st M pc' ls' st' M' ∧ M.1.1 ≤ M'.1.1 := by
  obtain ⟨q, hq, rfl⟩ := zmap_inv hres
  have hn1 : n = 3 := by simpa [zln] using hn
  subst hn1
  obtain ⟨a, r, rfl, h9⟩ := z1a_inv hex
  by_cases hK : (K a).1 = q.1
  · have h9 : (if (K a).1 = q.1 then (if zkind (zty q.1 q.2) ≤ 1 then znx (pc + 3) ls (.inl (M.2.1 a q.2) :: r) M else if zkind (zty q.1 q.2) = 2 then znx (pc + 3) ls (.inr (.inl (M.2.2.1 a q.2)) :: r) M else if M.2.2.2 a q.2 ≠ 0 then znx (pc + 3) ls (.inr (.inr (M.2.2.2 a q.2)) :: r) M else none) else none) = some (.inl (pc', ls', st', M')) := h9
    rw [if_pos hK] at h9
    by_cases h1 : zkind (zty q.1 q.2) ≤ 1
    · rw [if_pos h1] at h9
      cases h9
      exact ⟨zp_getf (n := 0) hd hq hK (by unfold zfv; rw [if_pos h1]; rfl) (fun h _ => h _ _), Nat.le_refl _⟩
    · rw [if_neg h1] at h9
      by_cases h2 : zkind (zty q.1 q.2) = 2
      · rw [if_pos h2] at h9
        cases h9
        exact ⟨zp_getf (n := 0) hd hq hK (by unfold zfv; rw [if_neg h1, if_pos h2]; rfl) (fun _ _ => trivial), Nat.le_refl _⟩
      · rw [if_neg h2] at h9
        obtain ⟨hg, h10⟩ := zif_inv h9
        cases h10
        exact ⟨zp_getf (n := 0) hd hq hK (by unfold zfv; rw [if_neg h1, if_neg h2]; rfl) (fun _ h => ⟨Nat.pos_of_ne_zero hg, h _ _⟩), Nat.le_refl _⟩
  · have h9 : (if (K a).1 = q.1 then (if zkind (zty q.1 q.2) ≤ 1 then znx (pc + 3) ls (.inl (M.2.1 a q.2) :: r) M else if zkind (zty q.1 q.2) = 2 then znx (pc + 3) ls (.inr (.inl (M.2.2.1 a q.2)) :: r) M else if M.2.2.2 a q.2 ≠ 0 then znx (pc + 3) ls (.inr (.inr (M.2.2.2 a q.2)) :: r) M else none) else none) = some (.inl (pc', ls', st', M')) := h9
    rw [if_neg hK] at h9
    cases h9
theorem zn_putfield {pc n : Nat} {ls ls' : zLs} {st st' : List zV} {M M' : zM} {pc' : Nat} {o : zOp} {k : Nat} (hd : decode (zxB x) pc = .ok (.putfield k, n)) (hn : zln (.putfield k) n = true) (hres : zres x pc (.putfield k) n = some o) (hex : zexec K o.1 o.2.1 o.2.2.1 o.2.2.2.1 o.2.2.2.2 ls st M = some (.inl (pc', ls', st', M'))) : zStp K sz b L xs D tc l x pc ls st M pc' ls' st' M' ∧ M.1.1 ≤ M'.1.1 := by
  have hn1 : n = 3 := by simpa [zln] using hn
  subst hn1
  have hres : (match zlk zfldT x.1 k with
    | some q => if ((zcl q.1).2.1 q.2).2.2.2 = true ∧ ¬ (zxI x = true ∧ x.1 = q.1) then none else some (.putfield (zkind (zty q.1 q.2)), 0, q.2, q.1, pc + 3)
    | none => none : Option zOp) = some o := hres
  cases hq : zlk zfldT x.1 k with
  | none => rw [hq] at hres; cases hres
  | some q =>
    rw [hq] at hres
    have hres : (if ((zcl q.1).2.1 q.2).2.2.2 = true ∧ ¬ (zxI x = true ∧ x.1 = q.1) then none else some (.putfield (zkind (zty q.1 q.2)), 0, q.2, q.1, pc + 3) : Option zOp) = some o := hres
    by_cases hf : ((zcl q.1).2.1 q.2).2.2.2 = true ∧ ¬ (zxI x = true ∧ x.1 = q.1)
    · rw [if_pos hf] at hres; cases hres
    · rw [if_neg hf] at hres
      cases hres
      have hex : (if zkind (zty q.1 q.2) ≤ 1 then (z1i st fun w r => z1a r fun a r => if (K a).1 = q.1 ∧ (zkind (zty q.1 q.2) = 1 → (w = 0 ∨ w = 1)) then znx (pc + 3) ls r (zsI M a q.2 w) else none) else if zkind (zty q.1 q.2) = 2 then (z1l st fun w r => z1a r fun a r => if (K a).1 = q.1 then znx (pc + 3) ls r (zsL M a q.2 w) else none) else (z1a st fun w r => z1a r fun a r => if (K a).1 = q.1 ∧ 0 < w then znx (pc + 3) ls r (zsR M a q.2 w) else none)) = some (.inl (pc', ls', st', M')) := hex
      by_cases h1 : zkind (zty q.1 q.2) ≤ 1
      · rw [if_pos h1] at hex
        obtain ⟨w, r1, rfl, h8⟩ := z1i_inv hex
        obtain ⟨a, r, rfl, h9⟩ := z1a_inv h8
        obtain ⟨hg, h10⟩ := zif_inv h9
        cases h10
        exact ⟨zp_putI hd hq hf hg.1 h1 hg.2, Nat.le_refl _⟩
      · rw [if_neg h1] at hex
        by_cases h2 : zkind (zty q.1 q.2) = 2
        · rw [if_pos h2] at hex
          obtain ⟨w, r1, rfl, h8⟩ := z1l_inv hex
          obtain ⟨a, r, rfl, h9⟩ := z1a_inv h8
          obtain ⟨hg, h10⟩ := zif_inv h9
          cases h10
          exact ⟨zp_putL hd hq hf hg h2, Nat.le_refl _⟩
        · rw [if_neg h2] at hex
          obtain ⟨w, r1, rfl, h8⟩ := z1a_inv hex
          obtain ⟨a, r, rfl, h9⟩ := z1a_inv h8
          obtain ⟨hg, h10⟩ := zif_inv h9
          cases h10
          have h3 : zkind (zty q.1 q.2) = 3 := by
            revert h1 h2
            cases zty q.1 q.2 <;> first | (intro h1 h2; rfl) | (intro h1 h2; exact absurd (by decide) h1) | (intro h1 h2; exact absurd rfl h2)
          obtain ⟨f1, f2, f3, f4, f5⟩ := zfld_of hq
          exact ⟨zp_putR hd hq hf hg.1 h3 (zty_ref q.1 f2 q.2 f3 h3).2 hg.2, Nat.le_refl _⟩
theorem zn_new {pc n : Nat} {ls ls' : zLs} {st st' : List zV} {M M' : zM} {pc' : Nat} {o : zOp} {k : Nat} (hd : decode (zxB x) pc = .ok (.new k, n)) (hn : zln (.new k) n = true) (hres : zres x pc (.new k) n = some o) (hex : zexec K o.1 o.2.1 o.2.2.1 o.2.2.2.1 o.2.2.2.2 ls st M = some (.inl (pc', ls', st', M'))) : zStp K sz b L xs D tc l x pc ls st M pc' ls' st' M' ∧ M.1.1 ≤ M'.1.1 := by
  have hn1 : n = 3 := by simpa [zln] using hn
  subst hn1
  have hres : (match zlk zclsT x.1 k with
    | some q => if q < 11 then some (.new 0, 0, q, (zcl q).2.2, pc + 3) else if x.1 = 10 ∧ zxH x = [] ∧ 4 ≤ zxR x ∧ zthr pc (zxB x) (q - 20) = true then some (.athrow, 0, q - 20, 0, 0) else none
    | none => none : Option zOp) = some o := hres
  cases hq : zlk zclsT x.1 k with
  | none => rw [hq] at hres; cases hres
  | some q =>
    rw [hq] at hres
    have hres : (if q < 11 then some (.new 0, 0, q, (zcl q).2.2, pc + 3) else if x.1 = 10 ∧ zxH x = [] ∧ 4 ≤ zxR x ∧ zthr pc (zxB x) (q - 20) = true then some (.athrow, 0, q - 20, 0, 0) else none : Option zOp) = some o := hres
    by_cases h1 : q < 11
    · rw [if_pos h1] at hres
      cases hres
      obtain ⟨hg, h10⟩ := zif_inv hex
      cases h10
      exact ⟨zp_new hd hq h1 hg.1 hg.2, Nat.le_succ _⟩
    · rw [if_neg h1] at hres
      obtain ⟨hg, e0⟩ := zifo_inv hres
      subst e0
      have hex : (if (st.map zcat).sum ≤ 8 then some (.inr (.inr (.inr (q - 20)))) else none : Option zR) = some (.inl (pc', ls', st', M')) := hex
      obtain ⟨-, h10⟩ := zif_inv hex
      cases h10
theorem zn_newarray {pc n : Nat} {ls ls' : zLs} {st st' : List zV} {M M' : zM} {pc' : Nat} {o : zOp} {t : ArrayType} (hd : decode (zxB x) pc = .ok (.newarray t, n)) (hn : zln (.newarray t) n = true) (hres : zres x pc (.newarray t) n = some o) (hex : zexec K o.1 o.2.1 o.2.2.1 o.2.2.2.1 o.2.2.2.2 ls st M = some (.inl (pc', ls', st', M'))) : zStp K sz b L xs D tc l x pc ls st M pc' ls' st' M' ∧ M.1.1 ≤ M'.1.1 := by
  have hn1 : n = 2 := by simpa [zln] using hn
  subst hn1
  cases t <;> first | (cases hres; done) | skip
  all_goals
    cases hres
    obtain ⟨u, r, rfl, h9⟩ := z1i_inv hex
    obtain ⟨hg, h10⟩ := zif_inv h9
    cases h10
    first
      | exact ⟨zp_newa (w := 4) hd rfl (Or.inl ⟨rfl, rfl, rfl⟩) hg.1 hg.2.1 hg.2.2.1 hg.2.2.2, Nat.le_succ _⟩
      | exact ⟨zp_newa (w := 1) hd rfl (Or.inr ⟨rfl, rfl, rfl⟩) hg.1 hg.2.1 hg.2.2.1 hg.2.2.2, Nat.le_succ _⟩
theorem zn_anewarray {pc n : Nat} {ls ls' : zLs} {st st' : List zV} {M M' : zM} {pc' : Nat} {o : zOp} {k : Nat} (hd : decode (zxB x) pc = .ok (.anewarray k, n)) (hn : zln (.anewarray k) n = true) (hres : zres x pc (.anewarray k) n = some o) (hex : zexec K o.1 o.2.1 o.2.2.1 o.2.2.2.1 o.2.2.2.2 ls st M = some (.inl (pc', ls', st', M'))) : zStp K sz b L xs D tc l x pc ls st M pc' ls' st' M' ∧ M.1.1 ≤ M'.1.1 := by
  have hn1 : n = 3 := by simpa [zln] using hn
  subst hn1
  have hres : (match zlk zclsT x.1 k with
    | some 7 => some (.anewarray 0, 0, 23, 0, pc + 3)
    | some 6 => some (.anewarray 0, 0, 24, 0, pc + 3)
    | some 1 => some (.anewarray 0, 0, 25, 0, pc + 3)
    | _ => none : Option zOp) = some o := hres
  split at hres
  · rename_i hq
    cases hres
    obtain ⟨u, r, rfl, h9⟩ := z1i_inv hex
    obtain ⟨hg, h10⟩ := zif_inv h9
    cases h10
    exact ⟨zp_newq hd hq (Or.inl ⟨rfl, rfl⟩) hg.1 hg.2.1 hg.2.2.1 hg.2.2.2, Nat.le_succ _⟩
  · rename_i hq
    cases hres
    obtain ⟨u, r, rfl, h9⟩ := z1i_inv hex
    obtain ⟨hg, h10⟩ := zif_inv h9
    cases h10
    exact ⟨zp_newq hd hq (Or.inr (Or.inl ⟨rfl, rfl⟩)) hg.1 hg.2.1 hg.2.2.1 hg.2.2.2, Nat.le_succ _⟩
  · rename_i hq
    cases hres
    obtain ⟨u, r, rfl, h9⟩ := z1i_inv hex
    obtain ⟨hg, h10⟩ := zif_inv h9
    cases h10
    exact ⟨zp_newq hd hq (Or.inr (Or.inr ⟨rfl, rfl⟩)) hg.1 hg.2.1 hg.2.2.1 hg.2.2.2, Nat.le_succ _⟩
  · cases hres
end ZCL
