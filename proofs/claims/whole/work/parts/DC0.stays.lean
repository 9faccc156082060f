/-! the script stays as it is; what a method gives back -/
section ZSTAYQ
variable {L : Nat} {K : Nat → Nat × Nat}
def zrsP (x : zMI) (o : zOp) : Prop := (∀ f, o.1 = .putfield f → o.2.2.2.1 < 12) ∧ (o.1 = .ireturn → (zxT x = some .int ∧ o.2.1 = 0) ∨ (zxT x = some .boolean ∧ o.2.1 = 1)) ∧ (o.1 = .lreturn → zxT x = some .long) ∧ (o.1 = .return_ → zxT x = none) ∧ (o.1 = .areturn → ∃ t, zxT x = some t ∧ t ≠ .int ∧ t ≠ .boolean ∧ t ≠ .long)
set_option maxHeartbeats 4000000 in
theorem zres_put {x : zMI} {pc n : Nat} {i : Instr} {o : zOp} (h : zres x pc i n = some o) : zrsP x o := by
  unfold zrsP
  unfold zres at h
  split at h
  all_goals (try (cases h; refine ⟨fun f hf => ?_, fun hf => ?_, fun hf => ?_, fun hf => ?_, fun hf => ?_⟩ <;> cases hf <;> done))
  all_goals (try (obtain ⟨q, hq, e⟩ := Option.map_eq_some_iff.mp h; subst e; refine ⟨fun f hf => ?_, fun hf => ?_, fun hf => ?_, fun hf => ?_, fun hf => ?_⟩ <;> cases hf <;> done))
  all_goals (try ((repeat' split at h) <;> first | (cases h; done) | (cases h; refine ⟨fun f hf => ?_, fun hf => ?_, fun hf => ?_, fun hf => ?_, fun hf => ?_⟩ <;> cases hf <;> done)))
  · split at h
    · next q hq =>
      have hp := zfld_ok _ (zlk_mem hq)
      split at h
      · cases h
      · cases h
        exact ⟨fun f hf => hp.2.1, fun hf => (by cases hf), fun hf => (by cases hf), fun hf => (by cases hf), fun hf => (by cases hf)⟩
    · cases h
  · split at h
    · next ht =>
      cases h
      exact ⟨fun f hf => (by cases hf), fun hf => Or.inl ⟨ht, rfl⟩, fun hf => (by cases hf), fun hf => (by cases hf), fun hf => (by cases hf)⟩
    · split at h
      · next ht =>
        cases h
        exact ⟨fun f hf => (by cases hf), fun hf => Or.inr ⟨ht, rfl⟩, fun hf => (by cases hf), fun hf => (by cases hf), fun hf => (by cases hf)⟩
      · cases h
  · split at h
    · next ht =>
      cases h
      exact ⟨fun f hf => (by cases hf), fun hf => (by cases hf), fun hf => ht, fun hf => (by cases hf), fun hf => (by cases hf)⟩
    · cases h
  · split at h
    · next ht =>
      cases h
      exact ⟨fun f hf => (by cases hf), fun hf => (by cases hf), fun hf => (by cases hf), fun hf => ht, fun hf => (by cases hf)⟩
    · cases h
  · split at h
    · next ht =>
      cases h
      exact ⟨fun f hf => (by cases hf), fun hf => (by cases hf), fun hf => (by cases hf), fun hf => (by cases hf), fun hf => ⟨_, ht, (fun e => nomatch e), (fun e => nomatch e), (fun e => nomatch e)⟩⟩
    · next ht =>
      cases h
      exact ⟨fun f hf => (by cases hf), fun hf => (by cases hf), fun hf => (by cases hf), fun hf => (by cases hf), fun hf => ⟨_, ht, (fun e => nomatch e), (fun e => nomatch e), (fun e => nomatch e)⟩⟩
    · cases h
theorem zop_P {mi pc : Nat} {o : zOp} (h : zop mi pc = some o) : zrsP (zmr mi) o := by
  unfold zop at h
  split at h
  · next x hx =>
    rw [zmr_of hx]
    split at h
    · split at h
      · exact zres_put h
      · cases h
    · cases h
  · cases h
set_option maxHeartbeats 4000000 in
theorem zexec_1 (hK : (K 1).1 = 20) {o : zOp} (hp : ∀ f, o.1 = .putfield f → o.2.2.2.1 < 12) {ls : zLs} {st : List zV} {M : zM} {pc' : Nat} {ls' : zLs} {st' : List zV} {M' : zM} (h : zexec K o.1 o.2.1 o.2.2.1 o.2.2.2.1 o.2.2.2.2 ls st M = some (.inl (pc', ls', st', M'))) : M'.2.1 1 = M.2.1 1 := by
  obtain ⟨i, v, k, c, n⟩ := o
  dsimp only at h hp
  unfold zexec at h
  split at h
  all_goals (try simp only [zall, z1i, z1a, z1l, z2i, z2l, zil, zai, znx] at h)
  all_goals (try (repeat' split at h))
  all_goals (try (cases h; rfl))
  all_goals (try (cases h; done))
  all_goals (try (cases h; exact if_neg (by omega)))
  · next a _ hc =>
    cases h
    have hc12 := hp _ rfl
    refine if_neg (fun e => ?_)
    rw [← e, hK] at hc
    omega
theorem zBS_1 (hK : (K 1).1 = 20) {c : zC} {r : zO} {M2 : zM} (h : zBS K c r M2) : M2.2.1 1 = c.2.2.2.2.2.1 1 := by
  refine h (fun c r M2 => M2.2.1 1 = c.2.2.2.2.2.1 1) (fun mi pc ls st M o ho => ⟨fun pc' ls' st' M' hex r M2 hP => ?_, fun v hex => rfl, fun m' as pc' st' hex r1 M1 hP1 => ⟨fun v hv r M2 hP => ?_, fun e he => ⟨fun h k hc hk r M2 hP => ?_, fun hn => ?_⟩⟩, fun e hex => rfl⟩)
  · exact Eq.trans hP (zexec_1 hK (zop_P ho).1 hex)
  · exact Eq.trans hP hP1
  · exact Eq.trans hP hP1
  · exact hP1
/-- the script stays -/
theorem zFR_1 (hK : (K 1).1 = 20) {mi pc : Nat} {ls : zLs} {st : List zV} {M M2 : zM} {r : zO} (h : ∀ Q : zO → zM → Prop, zFR K mi pc ls st M Q = Q r M2) : M2.2.1 1 = M.2.1 1 := by
  have hh := (h (fun r' M' => r' = r ∧ M' = M2)).mpr ⟨rfl, rfl⟩
  obtain ⟨r', M', hb, h1, h2⟩ := hh
  subst h1 h2
  exact zBS_1 hK hb
/-- what a method gives back is of its kind -/
def zrtP (t : Option FieldType) (r : zO) : Prop := ∀ w, r = .inl w → (t = some .int → ∃ v, w = some (.inl v)) ∧ (t = some .boolean → w = some (.inl 0) ∨ w = some (.inl 1)) ∧ (t = some .long → ∃ v, w = some (.inr (.inl v)))
set_option maxHeartbeats 4000000 in
theorem zexec_v {t : Option FieldType} {o : zOp} (hp : (o.1 = .ireturn → (t = some .int ∧ o.2.1 = 0) ∨ (t = some .boolean ∧ o.2.1 = 1)) ∧ (o.1 = .lreturn → t = some .long) ∧ (o.1 = .return_ → t = none) ∧ (o.1 = .areturn → ∃ t', t = some t' ∧ t' ≠ .int ∧ t' ≠ .boolean ∧ t' ≠ .long)) {ls : zLs} {st : List zV} {M : zM} {w : Option zV} (h : zexec K o.1 o.2.1 o.2.2.1 o.2.2.2.1 o.2.2.2.2 ls st M = some (.inr (.inl w))) : zrtP t (.inl w) := by
  obtain ⟨i, v, k, c, n⟩ := o
  dsimp only at h hp
  unfold zexec at h
  split at h
  all_goals (try simp only [zall, z1i, z1a, z1l, z2i, z2l, zil, zai, znx] at h)
  all_goals (try (repeat' split at h))
  all_goals (try (cases h; done))
  all_goals (cases h; intro w' hw'; cases hw')
  · next x r hr =>
    rcases hp.1 rfl with ⟨e1, e2⟩ | ⟨e1, e2⟩
    · rw [e1]
      exact ⟨fun _ => ⟨x, rfl⟩, (fun e => nomatch e), (fun e => nomatch e)⟩
    · rw [e1]
      refine ⟨(fun e => nomatch e), fun _ => ?_, (fun e => nomatch e)⟩
      rcases hr.2 e2 with e | e
      · exact Or.inl (by rw [e])
      · exact Or.inr (by rw [e])
  · next x r hr =>
    rw [hp.2.1 rfl]
    exact ⟨(fun e => nomatch e), (fun e => nomatch e), fun _ => ⟨x, rfl⟩⟩
  · obtain ⟨t', e1, e2, e3, e4⟩ := hp.2.2.2 rfl
    rw [e1]
    exact ⟨fun e => absurd (Option.some.inj e) e2, fun e => absurd (Option.some.inj e) e3, fun e => absurd (Option.some.inj e) e4⟩
  · rw [hp.2.2.1 rfl]
    exact ⟨(fun e => nomatch e), (fun e => nomatch e), (fun e => nomatch e)⟩
theorem zBS_v {c : zC} {r : zO} {M2 : zM} (h : zBS K c r M2) : zrtP (zxT (zmr c.1)) r := by
  refine h (fun c r M2 => zrtP (zxT (zmr c.1)) r) (fun mi pc ls st M o ho => ⟨fun pc' ls' st' M' hex r M2 hP => hP, fun v hex => ?_, fun m' as pc' st' hex r1 M1 hP1 => ⟨fun v hv r M2 hP => hP, fun e he => ⟨fun h k hc hk r M2 hP => hP, fun hn => ?_⟩⟩, fun e hex => ?_⟩)
  · exact zexec_v (zop_P ho).2 hex
  · intro w hw
    cases hw
  · intro w hw
    cases hw
theorem zFR_v {mi pc : Nat} {ls : zLs} {st : List zV} {M M2 : zM} {r : zO} (h : ∀ Q : zO → zM → Prop, zFR K mi pc ls st M Q = Q r M2) : zrtP (zxT (zmr mi)) r := by
  have hh := (h (fun r' M' => r' = r ∧ M' = M2)).mpr ⟨rfl, rfl⟩
  obtain ⟨r', M', hb, h1, h2⟩ := hh
  subst h1 h2
  exact zBS_v hb
end ZSTAYQ
