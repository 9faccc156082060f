/-! the interpreter's runs, backwards: from what is wanted at the end -/
section ZWP
variable {K : Nat → Nat × Nat}
/-- one step, by cases -/
def zStepR (K : Nat → Nat × Nat) (P : zC → zO → zM → Prop) (mi pc : Nat) (ls : zLs) (M : zM) (r : zO) (M2 : zM) : Option zR → Prop
  | some (.inl (pc', ls', st', M')) => P (mi, pc', ls', st', M') r M2
  | some (.inr (.inl v)) => r = .inl v ∧ M2 = M
  | some (.inr (.inr (.inl (m', as, pc', st')))) => ∃ r1 M1, P (m', 0, zcall m' as, [], M) r1 M1 ∧
      ((∃ v, r1 = .inl v ∧ P (mi, pc', ls, zpush v st', M1) r M2) ∨
       (∃ e h k, r1 = .inr e ∧ zcatch mi pc e = some (h, k) ∧ k < ls.length ∧ P (mi, h, (zst ls k (.inl 0)).set k none, [], M1) r M2) ∨
       (∃ e, r1 = .inr e ∧ zxH (zmr mi) = [] ∧ r = .inr e ∧ M2 = M1))
  | some (.inr (.inr (.inr e))) => r = .inr e ∧ M2 = zthrown M
  | none => False
def zStepC (K : Nat → Nat × Nat) (P : zC → zO → zM → Prop) (c : zC) (r : zO) (M2 : zM) : Prop := ∃ o : zOp, zop c.1 c.2.1 = some o ∧ zStepR K P c.1 c.2.1 c.2.2.1 c.2.2.2.2 r M2 (zexec K o.1 o.2.1 o.2.2.1 o.2.2.2.1 o.2.2.2.2 c.2.2.1 c.2.2.2.1 c.2.2.2.2)
theorem zBS_inv {c : zC} {r : zO} {M2 : zM} (h : zBS K c r M2) : zStepC K (zBS K) c r M2 := by
  have hc : zclosed K (fun c r M2 => zBS K c r M2 ∧ zStepC K (zBS K) c r M2) := by
    intro mi pc ls st M o ho
    obtain ⟨b1, b2, b3, b4⟩ := zBS_closed K mi pc ls st M o ho
    refine ⟨?_, ?_, ?_, ?_⟩
    · intro pc' ls' st' M' hex r M2 hP
      exact ⟨b1 pc' ls' st' M' hex r M2 hP.1, o, ho, by show zStepR K (zBS K) mi pc ls M r M2 (zexec K _ _ _ _ _ ls st M); rw [hex]; exact hP.1⟩
    · intro v hex
      exact ⟨b2 v hex, o, ho, by show zStepR K (zBS K) mi pc ls M _ M (zexec K _ _ _ _ _ ls st M); rw [hex]; exact ⟨rfl, rfl⟩⟩
    · intro m' as pc' st' hex r1 M1 hP1
      obtain ⟨c1, c2⟩ := b3 m' as pc' st' hex r1 M1 hP1.1
      refine ⟨?_, ?_⟩
      · intro v hv r M2 hP
        exact ⟨c1 v hv r M2 hP.1, o, ho, by show zStepR K (zBS K) mi pc ls M r M2 (zexec K _ _ _ _ _ ls st M); rw [hex]; exact ⟨r1, M1, hP1.1, Or.inl ⟨v, hv, hP.1⟩⟩⟩
      · intro e he
        obtain ⟨d1, d2⟩ := c2 e he
        refine ⟨?_, ?_⟩
        · intro h' k hk hlt r M2 hP
          exact ⟨d1 h' k hk hlt r M2 hP.1, o, ho, by show zStepR K (zBS K) mi pc ls M r M2 (zexec K _ _ _ _ _ ls st M); rw [hex]; exact ⟨r1, M1, hP1.1, Or.inr (Or.inl ⟨e, h', k, he, hk, hlt, hP.1⟩)⟩⟩
        · intro hn
          exact ⟨d2 hn, o, ho, by show zStepR K (zBS K) mi pc ls M _ M1 (zexec K _ _ _ _ _ ls st M); rw [hex]; exact ⟨r1, M1, hP1.1, Or.inr (Or.inr ⟨e, he, hn, rfl, rfl⟩)⟩⟩
    · intro e hex
      exact ⟨b4 e hex, o, ho, by show zStepR K (zBS K) mi pc ls M _ (zthrown M) (zexec K _ _ _ _ _ ls st M); rw [hex]; exact ⟨rfl, rfl⟩⟩
  exact (h _ hc).2
theorem zBS_det {c : zC} {r : zO} {M2 : zM} (h : zBS K c r M2) : ∀ r' M2', zBS K c r' M2' → r' = r ∧ M2' = M2 := by
  refine h (fun c r M2 => ∀ r' M2', zBS K c r' M2' → r' = r ∧ M2' = M2) ?_
  intro mi pc ls st M o ho
  have inv : ∀ {r' M2'}, zBS K (mi, pc, ls, st, M) r' M2' → zStepR K (zBS K) mi pc ls M r' M2' (zexec K o.1 o.2.1 o.2.2.1 o.2.2.2.1 o.2.2.2.2 ls st M) := fun {r' M2'} hb => by
    obtain ⟨o', ho', hs⟩ := zBS_inv hb
    have e1 : o' = o := Option.some.inj (ho'.symm.trans ho)
    subst e1
    exact hs
  refine ⟨?_, ?_, ?_, ?_⟩
  · intro pc' ls' st' M' hex r M2 hP r' M2' hb
    have h1 := inv hb
    rw [hex] at h1
    exact hP r' M2' h1
  · intro v hex r' M2' hb
    have h1 := inv hb
    rw [hex] at h1
    exact h1
  · intro m' as pc' st' hex r1 M1 hP1
    have hinv : ∀ {r' M2'}, zBS K (mi, pc, ls, st, M) r' M2' → ((∃ v, r1 = .inl v ∧ zBS K (mi, pc', ls, zpush v st', M1) r' M2') ∨ (∃ e h k, r1 = .inr e ∧ zcatch mi pc e = some (h, k) ∧ k < ls.length ∧ zBS K (mi, h, (zst ls k (.inl 0)).set k none, [], M1) r' M2') ∨ (∃ e, r1 = .inr e ∧ zxH (zmr mi) = [] ∧ r' = .inr e ∧ M2' = M1)) := fun {r' M2'} hb => by
      have h1 := inv hb
      rw [hex] at h1
      obtain ⟨r2, M3, hb2, hrest⟩ := h1
      obtain ⟨e1, e2⟩ := hP1 r2 M3 hb2
      rw [e1, e2] at hrest
      exact hrest
    refine ⟨?_, ?_⟩
    · intro v hv r M2 hP r' M2' hb
      rcases hinv hb with ⟨v', hv', hb'⟩ | ⟨e, h, k, he, -⟩ | ⟨e, he, -⟩
      · rw [hv] at hv'
        cases hv'
        exact hP r' M2' hb'
      · rw [hv] at he; cases he
      · rw [hv] at he; cases he
    · intro e he
      refine ⟨?_, ?_⟩
      · intro h k hk hlt r M2 hP r' M2' hb
        rcases hinv hb with ⟨v', hv', hb'⟩ | ⟨e', h', k', he', hk', hlt', hb'⟩ | ⟨e', he', hn', -⟩
        · rw [he] at hv'; cases hv'
        · rw [he] at he'
          cases he'
          rw [hk] at hk'
          cases hk'
          exact hP r' M2' hb'
        · unfold zcatch at hk
          rw [hn'] at hk
          cases hk
      · intro hn r' M2' hb
        rcases hinv hb with ⟨v', hv', hb'⟩ | ⟨e', h', k', he', hk', hlt', hb'⟩ | ⟨e', he', hn', h1, h2⟩
        · rw [he] at hv'; cases hv'
        · unfold zcatch at hk'
          rw [hn] at hk'
          cases hk'
        · rw [he] at he'
          cases he'
          exact ⟨h1, h2⟩
  · intro e hex r' M2' hb
    have h1 := inv hb
    rw [hex] at h1
    exact h1
/-- from here a result that satisfies Q is reached -/
def zFR (K : Nat → Nat × Nat) (mi pc : Nat) (ls : zLs) (st : List zV) (M : zM) (Q : zO → zM → Prop) : Prop := ∃ r M2, zBS K (mi, pc, ls, st, M) r M2 ∧ Q r M2
theorem zFR_mono {mi pc : Nat} {ls : zLs} {st : List zV} {M : zM} {Q Q' : zO → zM → Prop} (h : zFR K mi pc ls st M Q) (hq : ∀ r M2, Q r M2 → Q' r M2) : zFR K mi pc ls st M Q' := by
  obtain ⟨r, M2, h1, h2⟩ := h
  exact ⟨r, M2, h1, hq r M2 h2⟩
theorem zFR_eq {mi pc : Nat} {ls : zLs} {st : List zV} {M M2 : zM} {r : zO} {Q : zO → zM → Prop} (h : zBS K (mi, pc, ls, st, M) r M2) : zFR K mi pc ls st M Q = Q r M2 := by
  apply propext
  constructor
  · rintro ⟨r', M2', h1, h2⟩
    obtain ⟨e1, e2⟩ := zBS_det h r' M2' h1
    rw [← e1, ← e2]
    exact h2
  · exact fun hq => ⟨r, M2, h, hq⟩
/-- behind a call -/
def zR1 (mi pc : Nat) (ls : zLs) (Q : zO → zM → Prop) (kk : Nat → zLs → List zV → zM → Prop) (pc' : Nat) (st' : List zV) : zO → zM → Prop
  | .inl v, M1 => kk pc' ls (zpush v st') M1
  | .inr e, M1 => (match zcatch mi pc e with
    | some (h, k) => k < ls.length ∧ kk h ((zst ls k (.inl 0)).set k none) [] M1
    | none => zxH (zmr mi) = [] ∧ Q (.inr e) M1)
/-- behind a step -/
def zT (K : Nat → Nat × Nat) (mi pc : Nat) (ls : zLs) (M : zM) (Q : zO → zM → Prop) (kk : Nat → zLs → List zV → zM → Prop) : Option zR → Prop
  | none => False
  | some (.inl (pc', ls', st', M')) => kk pc' ls' st' M'
  | some (.inr (.inl v)) => Q (.inl v) M
  | some (.inr (.inr (.inl (m', as, pc', st')))) => zFR K m' 0 (zcall m' as) [] M (zR1 mi pc ls Q kk pc' st')
  | some (.inr (.inr (.inr e))) => Q (.inr e) (zthrown M)
def zE (K : Nat → Nat × Nat) (mi pc : Nat) (ls : zLs) (st : List zV) (M : zM) (Q : zO → zM → Prop) (kk : Nat → zLs → List zV → zM → Prop) : Option zOp → Prop
  | none => False
  | some o => zT K mi pc ls M Q kk (zexec K o.1 o.2.1 o.2.2.1 o.2.2.2.1 o.2.2.2.2 ls st M)
theorem zFR_step {mi pc : Nat} {ls : zLs} {st : List zV} {M : zM} {Q : zO → zM → Prop} : zFR K mi pc ls st M Q ↔ zE K mi pc ls st M Q (fun pc' ls' st' M' => zFR K mi pc' ls' st' M' Q) (zop mi pc) := by
  constructor
  · rintro ⟨r, M2, hb, hQ⟩
    obtain ⟨o, ho, hs⟩ := zBS_inv hb
    have ho : zop mi pc = some o := ho
    rw [ho]
    show zT K mi pc ls M Q _ (zexec K o.1 o.2.1 o.2.2.1 o.2.2.2.1 o.2.2.2.2 ls st M)
    have hs : zStepR K (zBS K) mi pc ls M r M2 (zexec K o.1 o.2.1 o.2.2.1 o.2.2.2.1 o.2.2.2.2 ls st M) := hs
    generalize zexec K o.1 o.2.1 o.2.2.1 o.2.2.2.1 o.2.2.2.2 ls st M = R9 at hs
    match R9, hs with
    | some (.inl (pc', ls', st', M')), hs => exact ⟨r, M2, hs, hQ⟩
    | some (.inr (.inl v)), hs =>
      obtain ⟨rfl, rfl⟩ := hs
      exact hQ
    | some (.inr (.inr (.inl (m', as, pc', st')))), hs =>
      obtain ⟨r1, M1, hb1, hrest⟩ := hs
      refine ⟨r1, M1, hb1, ?_⟩
      rcases hrest with ⟨v, rfl, hb2⟩ | ⟨e, h, k, rfl, hk, hlt, hb2⟩ | ⟨e, rfl, hn, rfl, rfl⟩
      · exact ⟨r, M2, hb2, hQ⟩
      · show (match zcatch mi pc e with
          | some (h, k) => k < ls.length ∧ zFR K mi h ((zst ls k (.inl 0)).set k none) [] M1 Q
          | none => zxH (zmr mi) = [] ∧ Q (.inr e) M1)
        rw [hk]
        exact ⟨hlt, r, M2, hb2, hQ⟩
      · show (match zcatch mi pc e with
          | some (h, k) => k < ls.length ∧ zFR K mi h ((zst ls k (.inl 0)).set k none) [] M2 Q
          | none => zxH (zmr mi) = [] ∧ Q (.inr e) M2)
        have h0 : zcatch mi pc e = none := by unfold zcatch; rw [hn]; rfl
        rw [h0]
        exact ⟨hn, hQ⟩
    | some (.inr (.inr (.inr e))), hs =>
      obtain ⟨rfl, rfl⟩ := hs
      exact hQ
    | none, hs => exact hs.elim
  · intro h
    cases ho : zop mi pc with
    | none => rw [ho] at h; exact h.elim
    | some o =>
      rw [ho] at h
      have h : zT K mi pc ls M Q (fun pc' ls' st' M' => zFR K mi pc' ls' st' M' Q) (zexec K o.1 o.2.1 o.2.2.1 o.2.2.2.1 o.2.2.2.2 ls st M) := h
      obtain ⟨b1, b2, b3, b4⟩ := zBS_closed K mi pc ls st M o ho
      generalize hR : zexec K o.1 o.2.1 o.2.2.1 o.2.2.2.1 o.2.2.2.2 ls st M = R9 at h b1 b2 b3 b4
      match R9, h with
      | some (.inl (pc', ls', st', M')), h =>
        obtain ⟨r, M2, hb, hQ⟩ := h
        exact ⟨r, M2, b1 pc' ls' st' M' rfl r M2 hb, hQ⟩
      | some (.inr (.inl v)), h => exact ⟨.inl v, M, b2 v rfl, h⟩
      | some (.inr (.inr (.inl (m', as, pc', st')))), h =>
        obtain ⟨r1, M1, hb1, hrest⟩ := h
        obtain ⟨c1, c2⟩ := b3 m' as pc' st' rfl r1 M1 hb1
        match r1, hrest with
        | .inl v, hrest =>
          obtain ⟨r, M2, hb, hQ⟩ := hrest
          exact ⟨r, M2, c1 v rfl r M2 hb, hQ⟩
        | .inr e, hrest =>
          have hrest : (match zcatch mi pc e with
            | some (h, k) => k < ls.length ∧ zFR K mi h ((zst ls k (.inl 0)).set k none) [] M1 Q
            | none => zxH (zmr mi) = [] ∧ Q (.inr e) M1) := hrest
          obtain ⟨d1, d2⟩ := c2 e rfl
          cases hk : zcatch mi pc e with
          | none =>
            rw [hk] at hrest
            exact ⟨.inr e, M1, d2 hrest.1, hrest.2⟩
          | some q =>
            obtain ⟨h, k⟩ := q
            rw [hk] at hrest
            obtain ⟨hlt, r, M2, hb, hQ⟩ := hrest
            exact ⟨r, M2, d1 h k hk hlt r M2 hb, hQ⟩
      | some (.inr (.inr (.inr e))), h => exact ⟨.inr e, zthrown M, b4 e rfl, h⟩
      | none, h => exact h.elim
/-- n steps from pc on, but not past a place of cut -/
def zW (K : Nat → Nat × Nat) (cut : List Nat) (mi : Nat) (Q : zO → zM → Prop) : Nat → Nat → zLs → List zV → zM → Prop
  | 0, pc, ls, st, M => zFR K mi pc ls st M Q
  | n + 1, pc, ls, st, M => zE K mi pc ls st M Q (fun pc' ls' st' M' => if pc' ∈ cut then zFR K mi pc' ls' st' M' Q else zW K cut mi Q n pc' ls' st' M') (zop mi pc)
theorem zT_congr {mi pc : Nat} {ls : zLs} {M : zM} {Q : zO → zM → Prop} {k1 k2 : Nat → zLs → List zV → zM → Prop} (h : ∀ a b c d, k1 a b c d ↔ k2 a b c d) (o : Option zR) : zT K mi pc ls M Q k1 o ↔ zT K mi pc ls M Q k2 o := by
  have e : k1 = k2 := by
    funext a b c d
    exact propext (h a b c d)
  rw [e]
theorem zW_iff (cut : List Nat) (mi : Nat) (Q : zO → zM → Prop) : ∀ (n pc : Nat) (ls : zLs) (st : List zV) (M : zM), zW K cut mi Q n pc ls st M ↔ zFR K mi pc ls st M Q
  | 0, _, _, _, _ => Iff.rfl
  | n + 1, pc, ls, st, M => by
    rw [zFR_step]
    show zE K mi pc ls st M Q (fun pc' ls' st' M' => if pc' ∈ cut then zFR K mi pc' ls' st' M' Q else zW K cut mi Q n pc' ls' st' M') (zop mi pc) ↔ _
    have e : (fun pc' ls' st' M' => if pc' ∈ cut then zFR K mi pc' ls' st' M' Q else zW K cut mi Q n pc' ls' st' M') = (fun pc' ls' st' M' => zFR K mi pc' ls' st' M' Q) := by
      funext a b c d
      split
      · rfl
      · exact propext (zW_iff cut mi Q n a b c d)
    rw [e]
theorem zW_sound (n : Nat) (cut : List Nat) {mi pc : Nat} {ls : zLs} {st : List zV} {M : zM} {Q : zO → zM → Prop} (h : zW K cut mi Q n pc ls st M) : zFR K mi pc ls st M Q := (zW_iff cut mi Q n pc ls st M).mp h
theorem zW_succ (cut : List Nat) (mi : Nat) (Q : zO → zM → Prop) (n pc : Nat) (ls : zLs) (st : List zV) (M : zM) : zW K cut mi Q (n + 1) pc ls st M = zE K mi pc ls st M Q (fun pc' ls' st' M' => if pc' ∈ cut then zFR K mi pc' ls' st' M' Q else zW K cut mi Q n pc' ls' st' M') (zop mi pc) := rfl
end ZWP
