/-! what the interpreter does, the machine does -/
section ZSI
variable {K : Nat → Nat × Nat} {sz b L : Nat} {xs : Nat → Int32} {D : va_G} {tc : Nat → ClassId} {l : Launch} {x : zMI}
def zSIM (K : Nat → Nat × Nat) (sz b L : Nat) (xs : Nat → Int32) (D : va_G) (tc : Nat → ClassId) (l : Launch) (c : zC) (r : zO) (M2 : zM) : Prop :=
  zliv c.1 = true → ∀ x : zMI, zmtab[c.1]? = some x → c.2.2.1.length = zxL x → zGoal K sz b L xs D tc l x c.2.1 c.2.2.1 c.2.2.2.1 c.2.2.2.2 r M2
theorem zop_spec {mi pc : Nat} {o : zOp} (hlv : zliv mi = true) (h : zop mi pc = some o) : ∃ (x : zMI) (i : Instr) (n : Nat), zmtab[mi]? = some x ∧ decode (zxB x) pc = .ok (i, n) ∧ zln i n = true ∧ zres x pc i n = some o := by
  unfold zop at h
  rw [if_pos hlv] at h
  cases hx : zmtab[mi]? with
  | none => rw [hx] at h; cases h
  | some x =>
    rw [hx] at h
    have h : (match decode (zxB x) pc with
      | .ok (i, n) => if zln i n = true then zres x pc i n else none
      | .error _ => none) = some o := h
    cases hd : decode (zxB x) pc with
    | error e => rw [hd] at h; cases h
    | ok q =>
      obtain ⟨i, n⟩ := q
      rw [hd] at h
      have h : (if zln i n = true then zres x pc i n else none) = some o := h
      by_cases hn : zln i n = true
      · rw [if_pos hn] at h
        exact ⟨x, i, n, rfl, hd, hn, h⟩
      · rw [if_neg hn] at h; cases h
theorem zmr_of {mi : Nat} {x : zMI} (h : zmtab[mi]? = some x) : zmr mi = x := by
  unfold zmr
  rw [h]
theorem zthr_spec {pc e9 : Nat} {bs : ByteArray} (h : zthr pc bs e9 = true) : ∃ is ic, (ic, e9) ∈ zexcT ∧ is ∈ zstrK ∧ decode bs (pc + 3) = .ok (.dup, 1) ∧
    ((decode bs (pc + 4) = .ok (.ldc is, 2) ∧ decode bs (pc + 6) = .ok (.invokespecial ic, 3) ∧ decode bs (pc + 9) = .ok (.athrow, 1)) ∨ (decode bs (pc + 4) = .ok (.ldc_w is, 3) ∧ decode bs (pc + 7) = .ok (.invokespecial ic, 3) ∧ decode bs (pc + 10) = .ok (.athrow, 1))) := by
  unfold zthr at h
  split at h
  · rename_i is h3 h4
    split at h
    · rename_i ic h6 h9
      rw [Bool.and_eq_true] at h
      exact ⟨is, ic, List.contains_iff_mem.mp h.1, List.contains_iff_mem.mp h.2, h3, Or.inl ⟨h4, h6, h9⟩⟩
    · cases h
  · rename_i is h3 h4
    split at h
    · rename_i ic h6 h9
      rw [Bool.and_eq_true] at h
      exact ⟨is, ic, List.contains_iff_mem.mp h.1, List.contains_iff_mem.mp h.2, h3, Or.inr ⟨h4, h6, h9⟩⟩
    · cases h
  · cases h
theorem zfin_ret {pc n : Nat} {i : Instr} {ls : zLs} {st : List zV} {M : zM} {o : zOp} {v : Option zV} (hd : decode (zxB x) pc = .ok (i, n)) (hn : zln i n = true) (hf : zfin x pc n i o) (hex : zexec K o.1 o.2.1 o.2.2.1 o.2.2.2.1 o.2.2.2.2 ls st M = some (.inr (.inl v))) : zGoal K sz b L xs D tc l x pc ls st M (.inl v) M := by
  rcases hf with ⟨rfl, ⟨ht, rfl⟩ | ⟨ht, rfl⟩⟩ | ⟨rfl, ht, rfl⟩ | ⟨rfl, ht, rfl⟩ | ⟨rfl, ⟨rt, ht, hrt⟩, rfl⟩ | ⟨k, m, -, -, -, -, rfl⟩ | ⟨k, m, kd, -, -, -, -, rfl⟩ | ⟨k, m, kd, -, -, -, -, -, rfl⟩ | ⟨k, q, -, -, -, -, -, -, -, rfl⟩
  · have hn1 : n = 1 := by simpa [zln] using hn
    subst hn1
    obtain ⟨u, r, rfl, h9⟩ := z1i_inv hex
    obtain ⟨hg, h10⟩ := zif_inv h9
    cases h10
    obtain ⟨rfl, -⟩ := hg
    exact zGoal_iret hd (Or.inl ht)
  · have hn1 : n = 1 := by simpa [zln] using hn
    subst hn1
    obtain ⟨u, r, rfl, h9⟩ := z1i_inv hex
    obtain ⟨hg, h10⟩ := zif_inv h9
    cases h10
    obtain ⟨rfl, hv⟩ := hg
    exact zGoal_iret hd (Or.inr ⟨ht, hv rfl⟩)
  · have hn1 : n = 1 := by simpa [zln] using hn
    subst hn1
    obtain ⟨u, r, rfl, h9⟩ := z1l_inv hex
    obtain ⟨hg, h10⟩ := zif_inv h9
    cases h10
    subst hg
    exact zGoal_lret hd ht
  · have hn1 : n = 1 := by simpa [zln] using hn
    subst hn1
    obtain ⟨hg, h10⟩ := zif_inv hex
    cases h10
    subst hg
    exact zGoal_vret hd ht
  · have hn1 : n = 1 := by simpa [zln] using hn
    subst hn1
    obtain ⟨u, r, rfl, h9⟩ := z1a_inv hex
    obtain ⟨hg, h10⟩ := zif_inv h9
    cases h10
    subst hg
    exact zGoal_aret hd ht hrt
  · obtain ⟨u, r, -, h9⟩ := z1a_inv hex
    obtain ⟨-, h10⟩ := zif_inv h9
    cases h10
  · obtain ⟨-, h10⟩ := zif_inv hex
    cases h10
  · obtain ⟨u, r, -, h9⟩ := z1a_inv hex
    obtain ⟨-, h10⟩ := zif_inv h9
    cases h10
  · obtain ⟨-, h10⟩ := zif_inv hex
    cases h10
theorem zfin_call {pc n m' pc' : Nat} {i : Instr} {ls : zLs} {st st' as : List zV} {M M1 : zM} {o : zOp} {r1 : zO} (hl : l.stackTraces = false) (hd : decode (zxB x) pc = .ok (i, n)) (hn : zln i n = true) (hf : zfin x pc n i o) (hex : zexec K o.1 o.2.1 o.2.2.1 o.2.2.2.1 o.2.2.2.2 ls st M = some (.inr (.inr (.inl (m', as, pc', st')))))
    (g : zSIM K sz b L xs D tc l (m', 0, zcall m' as, [], M) r1 M1) : pc' = pc + 3 ∧ zRunP K sz b L xs D tc l x pc ls st st' M r1 M1 ∧ (zoks M.1.1 st → zoks M.1.1 st') ∧ M.1.2.2.1 ≤ M1.1.2.2.1 ∧ M.1.2.2.2 ≤ M1.1.2.2.2 ∧ M.1.1 ≤ M1.1.1 := by
  rcases hf with ⟨rfl, ⟨ht, rfl⟩ | ⟨ht, rfl⟩⟩ | ⟨rfl, ht, rfl⟩ | ⟨rfl, ht, rfl⟩ | ⟨rfl, ⟨rt, ht, hrt⟩, rfl⟩ | ⟨k, m, rfl, hq, hrk, h12, rfl⟩ | ⟨k, m, kd, rfl, hkd, hq, hrk, rfl⟩ | ⟨k, m, kd, rfl, hkd, hq, hrk, h12, rfl⟩ | ⟨k, q, -, -, -, -, -, -, -, rfl⟩
  · obtain ⟨u, r, -, h9⟩ := z1i_inv hex
    obtain ⟨-, h10⟩ := zif_inv h9
    cases h10
  · obtain ⟨u, r, -, h9⟩ := z1i_inv hex
    obtain ⟨-, h10⟩ := zif_inv h9
    cases h10
  · obtain ⟨u, r, -, h9⟩ := z1l_inv hex
    obtain ⟨-, h10⟩ := zif_inv h9
    cases h10
  · obtain ⟨-, h10⟩ := zif_inv hex
    cases h10
  · obtain ⟨u, r, -, h9⟩ := z1a_inv hex
    obtain ⟨-, h10⟩ := zif_inv h9
    cases h10
  · have hn1 : n = 3 := by simpa [zln] using hn
    subst hn1
    obtain ⟨a, r, hst, h9⟩ := z1a_inv hex
    obtain ⟨⟨hK, hcat, hlen⟩, h10⟩ := zif_inv h9
    cases h10
    obtain ⟨x', hm, -⟩ := zmth_ok _ (zlk_mem hq)
    have hm : zmtab[m]? = some x' := hm
    have he := zmr_of hm
    unfold zcall at g
    rw [he] at hst hK hlen hrk h12 g
    have g2 := g (zmth_liv _ (zlk_mem hq)) x' hm (zent_len hlen)
    rw [he]
    refine ⟨rfl, zRunV hl hq hm hd hrk h12 hst hK hcat hlen fun _ => g2, fun hs v hv => hs v ?_, g2.1, g2.2.1, g2.2.2.1⟩
    rw [(zsplit hst).1]
    exact List.mem_append_right _ (List.mem_cons_of_mem _ hv)
  · have hn1 : n = 3 := by simpa [zln] using hn
    subst hn1
    obtain ⟨⟨hle, hcat, hlen⟩, h10⟩ := zif_inv hex
    cases h10
    obtain ⟨x', hm, -⟩ := zmth_ok _ (zlk_mem hq)
    have hm : zmtab[m]? = some x' := hm
    have he := zmr_of hm
    unfold zcall at g
    have hle : zxN (zmr m) ≤ st.length := hle
    have hcat : ((st.drop (zxN (zmr m))).map zcat).sum ≤ 8 := hcat
    have hlen : (zargs (st.take (zxN (zmr m))).reverse).length ≤ zxL (zmr m) := hlen
    have g : zSIM K sz b L xs D tc l (m, 0, zent (zmr m) (st.take (zxN (zmr m))).reverse, [], M) r1 M1 := g
    rw [he] at hle hcat hlen hrk g
    have g2 := g (zmth_liv _ (zlk_mem hq)) x' hm (zent_len hlen)
    show _ ∧ zRunP K sz b L xs D tc l x pc ls st (st.drop (zxN (zmr m))) M r1 M1 ∧ (_ → zoks _ (st.drop (zxN (zmr m)))) ∧ _
    rw [he]
    exact ⟨rfl, zRunS hl hkd hq hm hd hrk hle hcat hlen fun _ => g2, fun hs v hv => hs v (List.mem_of_mem_drop hv), g2.1, g2.2.1, g2.2.2.1⟩
  · have hn1 : n = 3 := by simpa [zln] using hn
    subst hn1
    obtain ⟨a, r, hst, h9⟩ := z1a_inv hex
    obtain ⟨⟨hK, hcat, hlen⟩, h10⟩ := zif_inv h9
    cases h10
    obtain ⟨x', hm, -⟩ := zmth_ok _ (zlk_mem hq)
    have hm : zmtab[m]? = some x' := hm
    have he := zmr_of hm
    unfold zcall at g
    rw [he] at hst hK hlen hrk h12 g
    have g2 := g (zmth_liv _ (zlk_mem hq)) x' hm (zent_len hlen)
    rw [he]
    refine ⟨rfl, zRunI hl hkd hq hm hd hrk hst hcat hlen fun _ => g2, fun hs v hv => hs v ?_, g2.1, g2.2.1, g2.2.2.1⟩
    rw [(zsplit hst).1]
    exact List.mem_append_right _ (List.mem_cons_of_mem _ hv)
  · obtain ⟨-, h10⟩ := zif_inv hex
    cases h10
theorem zfin_thr {pc n e9 : Nat} {i : Instr} {ls : zLs} {st : List zV} {M : zM} {o : zOp} (hl : l.stackTraces = false) (hd : decode (zxB x) pc = .ok (i, n)) (hn : zln i n = true) (hf : zfin x pc n i o) (hex : zexec K o.1 o.2.1 o.2.2.1 o.2.2.2.1 o.2.2.2.2 ls st M = some (.inr (.inr (.inr e9)))) : zGoal K sz b L xs D tc l x pc ls st M (.inr e9) (zthrown M) := by
  rcases hf with ⟨rfl, ⟨ht, rfl⟩ | ⟨ht, rfl⟩⟩ | ⟨rfl, ht, rfl⟩ | ⟨rfl, ht, rfl⟩ | ⟨rfl, ⟨rt, ht, hrt⟩, rfl⟩ | ⟨k, m, rfl, hq, hrk, h12, rfl⟩ | ⟨k, m, kd, rfl, hkd, hq, hrk, rfl⟩ | ⟨k, m, kd, rfl, hkd, hq, hrk, h12, rfl⟩ | ⟨k, q, rfl, hq, h12, h10x, hh, hrk, hthr, rfl⟩
  · obtain ⟨u, r, -, h9⟩ := z1i_inv hex
    obtain ⟨-, h10⟩ := zif_inv h9
    cases h10
  · obtain ⟨u, r, -, h9⟩ := z1i_inv hex
    obtain ⟨-, h10⟩ := zif_inv h9
    cases h10
  · obtain ⟨u, r, -, h9⟩ := z1l_inv hex
    obtain ⟨-, h10⟩ := zif_inv h9
    cases h10
  · obtain ⟨-, h10⟩ := zif_inv hex
    cases h10
  · obtain ⟨u, r, -, h9⟩ := z1a_inv hex
    obtain ⟨-, h10⟩ := zif_inv h9
    cases h10
  · obtain ⟨a, r, hst, h9⟩ := z1a_inv hex
    obtain ⟨-, h10⟩ := zif_inv h9
    cases h10
  · obtain ⟨-, h10⟩ := zif_inv hex
    cases h10
  · obtain ⟨a, r, hst, h9⟩ := z1a_inv hex
    obtain ⟨-, h10⟩ := zif_inv h9
    cases h10
  · have hn1 : n = 3 := by simpa [zln] using hn
    subst hn1
    obtain ⟨hcat, h10⟩ := zif_inv hex
    cases h10
    obtain ⟨is, ic, t1, t2, t3, t4⟩ := zthr_spec hthr
    have hcl : zclsP ((x.1, k), q) := zcls_ok _ (zlk_mem hq)
    have h20 : 20 ≤ q := by
      rcases hcl.1 with h | h
      · exact absurd h h12
      · exact h.1
    exact zGoal_thr h10x hh hrk hl hcat (by rw [hq]; congr 1; show q = 20 + (q - 20); omega) t1 t2 hd t3 t4
theorem zSIM_closed (hl : l.stackTraces = false) : zclosed K (zSIM K sz b L xs D tc l) := by
  intro mi pc ls st M o ho
  by_cases hlv : zliv mi = true
  case neg => exact ⟨fun _ _ _ _ _ _ _ _ h => absurd h hlv, fun _ _ h => absurd h hlv, fun _ _ _ _ _ _ _ _ => ⟨fun _ _ _ _ _ h => absurd h hlv, fun _ _ => ⟨fun _ _ _ _ _ _ _ h => absurd h hlv, fun _ h => absurd h hlv⟩⟩, fun _ _ h => absurd h hlv⟩
  obtain ⟨x, i, n, hx, hd, hn, hres⟩ := zop_spec hlv ho
  have hxx : ∀ {x2 : zMI}, zmtab[mi]? = some x2 → x2 = x := fun h => Option.some.inj (h.symm.trans hx)
  have hin : ∀ {R9 : zR}, zexec K o.1 o.2.1 o.2.2.1 o.2.2.2.1 o.2.2.2.2 ls st M = some R9 → (∀ q, R9 ≠ .inl q) → zfin x pc n i o := fun {R9} h hne => by
    rcases zres_cases hres with h1 | h1
    · obtain ⟨q, hq⟩ := zexec_inl h1 h
      exact absurd hq (hne q)
    · exact h1
  refine ⟨?_, ?_, ?_, ?_⟩
  · intro pc' ls' st' M' hex r M2 hP _ x2 hx2 hlen
    cases hxx hx2
    obtain ⟨h1, h2⟩ := zNext (K := K) (sz := sz) (b := b) (L := L) (xs := xs) (D := D) (tc := tc) (l := l) hd hn hres hex
    exact zGoal_step h2 h1 hlen (hP hlv x hx (h1.2.2.1 hlen))
  · intro v hex _ x2 hx2 hlen
    cases hxx hx2
    exact zfin_ret hd hn (hin hex fun q h => by cases h) hex
  · intro m' as pc' st' hex r1 M1 hP1
    have hf := hin hex fun q h => by cases h
    obtain ⟨rfl, hrun, hsub, c1, c2, c3⟩ := zfin_call hl hd hn hf hex hP1
    refine ⟨?_, ?_⟩
    · intro v hv r M2 hP _ x2 hx2 hlen
      cases hxx hx2
      subst hv
      exact zGoal_ret hrun c1 c2 c3 hsub hlen (hP hlv x hx hlen)
    · intro e he
      subst he
      refine ⟨?_, ?_⟩
      · intro h k hc hk r M2 hP _ x2 hx2 hlen
        cases hxx hx2
        unfold zcatch at hc
        rw [zmr_of hx] at hc
        exact zGoal_catch hrun c1 c2 c3 hlen hc hk (hP hlv x hx (by rw [List.length_set, zst_len]; exact hlen))
      · intro hh _ x2 hx2 hlen
        cases hxx hx2
        rw [zmr_of hx] at hh
        exact zGoal_out hrun c1 c2 c3 hh
  · intro e hex _ x2 hx2 hlen
    cases hxx hx2
    exact zfin_thr hl hd hn (hin hex fun q h => by cases h) hex
/-- THE SIMULATION -/
theorem zBS_goal (hl : l.stackTraces = false) {mi pc : Nat} {ls : zLs} {st : List zV} {M M2 : zM} {r : zO} (h : zBS K (mi, pc, ls, st, M) r M2) {x : zMI} (hlv : zliv mi = true) (hx : zmtab[mi]? = some x) (hlen : ls.length = zxL x) : zGoal K sz b L xs D tc l x pc ls st M r M2 := h _ (zSIM_closed hl) hlv x hx hlen
end ZSI
