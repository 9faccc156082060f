/-! ===== BEGIN a constructor that throws (launches without stack traces) ===== -/
section VXIA
variable {p : Program} {l : Launch} {e : Env} {R : Room} {s : State} {m : MethodId} {args : Array Value} {below : List Frame} {meth : Method} {c : Code} {T : State} {locs : List Loc} {cells slots : Nat}
theorem vx_callI (X : Stand p l e R s m args below meth c T locs cells slots) (hexec : p.tables.exec = Jvm.exec) {own : String} {index : Nat} {y : MethodName} {bytes : ByteArray} {maxL : Nat}
    (hown : s.vm.findClass own = some m.cls) (hy1 : y.name = "<init>") (hlink : (Cond.methodLink own index y).before args s = true) (hinst : (Cond.instanceMethod y).before args s = true)
    (hcode : (Cond.code y bytes maxL none).before args s = true) (hy : y.cls ≠ "java/lang/invoke/MethodHandle" ∧ y.cls ≠ "java/lang/invoke/VarHandle")
    {W9 : Nat} {Pre : Pt → Array Value → Prop} {Post : Pt → Array Value → Option Value → Pt → Prop} {PostX : Pt → Array Value → Addr → Pt → Prop} (hK : vx_Back l R p e below s args y 3 W9 Pre Post PostX)
    {g : JFrame} (hg : g.method = m) (hsize : g.locals.size = c.maxLocals) {a : Addr} {argsL rest : List Value} (hlen : ∀ sig, parseMethodDescriptor y.desc = some sig → argsL.length = sig.parameters.length)
    (hstack : g.stack = argsL.reverse ++ .ref a :: rest) (hW : 2 * g.monitorRoom + (rest.map fun v => v.category).sum ≤ W9) (hdg : decode c.code g.pc = .ok (.invokespecial index, 3))
    (hpre : ∀ vm₁, s.WarmedH vm₁ → Pre ⟨T.setVm vm₁, locs, cells, slots⟩ (Value.ref a :: argsL).toArray) :
    (∃ (v : Option Value) (vm₁ : Vm) (B : Pt), s.WarmedH vm₁ ∧ Stand p l e R s m args below meth c B.U B.locs B.cells B.slots ∧ Post ⟨T.setVm vm₁, locs, cells, slots⟩ (Value.ref a :: argsL).toArray v B ∧
      ∀ target, Steps p.tables e below (B.U.setTop { g with pc := g.pc + 3, stack := v.toList ++ rest }) target → Steps p.tables e below (T.setTop g) target) ∨
    (∃ (q : Addr) (vm₁ : Vm) (B : Pt), s.WarmedH vm₁ ∧ Stand p l e R s m args below meth c B.U B.locs B.cells B.slots ∧ PostX ⟨T.setVm vm₁, locs, cells, slots⟩ (Value.ref a :: argsL).toArray q B ∧
      Steps p.tables e below (T.setTop g) ((B.U.setTop { g with stack := rest }).pushFrame (.throwing q))) := by
  subst hg
  have hpl : e.platform.magicAccessors = ({} : Platform).magicAccessors := by rw [X.admits.platform]
  obtain ⟨mk, methM, cM, kP, vm₁, hnamed, hmethM, hcodeM, -, hlocalsM, -, hkP, -, hW₁, hstep₁⟩ := Steps.initColdArgs (e := e) X.here hexec X.warmed hpl hown hy1 hy hlink hinst hcode (f := g) rfl hlen hstack hdg
  have X₁ := X.noted hW₁
  rcases hK g.method meth c ⟨T.setVm vm₁, locs, cells, slots⟩ { g with stack := rest } (.invokespecial index) mk (Value.ref a :: argsL).toArray X₁ rfl hsize hdg hW (X₁.named hnamed) (hpre vm₁ X₁.warmed) with ⟨v, B, X', hpost, hsteps⟩ | ⟨q, B, X', hpost, hsteps⟩
  · exact Or.inl ⟨v, vm₁, B, X₁.warmed, X', hpost, fun target h => hstep₁ _ fun acts => by rw [doInvoke_state]; exact hsteps.trans h⟩
  · exact Or.inr ⟨q, vm₁, B, X₁.warmed, X', hpost, hstep₁ _ fun acts => by rw [doInvoke_state]; exact hsteps⟩
end VXIA
section VXIB
variable {p : Program} {l : Launch} {e : Env} {R : Room} {s : State} {m : MethodId} {args : Array Value} {below : List Frame} {meth : Method} {c : Code} {H : Heap} {locs : List Loc} {cells slots : Nat}
variable {y : MethodName} {bytes cc : ByteArray} {maxL nL mc ms n index : Nat} {ret : Option FieldType} {ws : List Cond} {rm : Room} {Pc : Array Value → State → Prop} {Qc : Array Value → State → Outcome → State → Prop} {XC : String → State → State → Prop} {free : Addr → Prop} {Ts : List Cond} {own C : String} {b : Addr} {As rest : List Value} {g : JFrame}
theorem vx_runI (S : CallFix p m c cc nL s args Ts own) (hM : vx_Met l y ws rm Pc Qc XC mc ms free) (cw : CallB R s args own index y bytes maxL none ws rm mc ms n ∧ y.name = "<init>" ∧ (Cond.instanceMethod y).before args s = true) (hp : PreS s H Pc (.ref b :: As))
    (hg : g.method = m) (hn : As.length = n) (hsize : g.locals.size = nL) (hstack : g.stack = As.reverse ++ .ref b :: rest) (hW : 2 * g.monitorRoom + (rest.map fun v => v.category).sum ≤ 8) (hdg : decode cc g.pc = .ok (.invokespecial index, 3)) (hf : cells + mc ≤ R.cells ∧ slots + ms ≤ R.slots) :
    vx_Run p l e R s m args below meth c H locs cells slots mc ms g rest (Qc (Value.ref b :: As).toArray) XC free := by
  have hK : vx_Back l R p e below s args y 3 8 (PreOf R mc ms Pc) (PostOf Qc mc ms free) (vx_Post XC mc ms free) := vx_callBack cw.1 hM hp.1
  obtain ⟨⟨-, -, -, -, -, -, hcode, -, hy, hlen, hl⟩, hy1, hin⟩ := cw
  obtain ⟨hx, hb, hml, ho, -⟩ := S
  have hPc := hp.2
  intro T hT X
  rcases vx_callI X hx (bytes := bytes) (maxL := maxL) ho hy1 hl hin hcode hy hK hg (hsize.trans hml.symm) (a := b) (argsL := As) (rest := rest) (fun sig h => hn.trans (hlen sig h)) hstack hW (by rw [hb]; exact hdg)
    (fun vm₁ hW₁ => ⟨hf.1, hf.2, hPc (T.setVm vm₁) hT hW₁⟩) with ⟨v, vm₁, ⟨U', l2, c2, s2⟩, hW₁, X', ⟨g', mk, t, L, e1, e2, hq, h1, hL, h2, h3⟩, st⟩ | ⟨q, vm₁, ⟨U', l2, c2, s2⟩, hW₁, X', ⟨g', mk, t, L, E, ce, e1, e2, hq, hce, hcv, hcl, h1, hL, h2, h3⟩, st⟩
  · dsimp only [Pt.U, Pt.locs, Pt.cells, Pt.slots] at X' e1 e2 h1 h2 h3 st
    subst h1; subst h2; subst h3
    exact Or.inl ⟨v, (T.setVm vm₁).calling g' mk (Value.ref b :: As).toArray, t, U', L, hT, X', hL, e1, e2, hq, st⟩
  · dsimp only [Pt.U, Pt.locs, Pt.cells, Pt.slots] at X' e1 e2 h1 h2 h3 st hcl
    subst h1; subst h2; subst h3
    exact Or.inr ⟨q, (T.setVm vm₁).calling g' mk (Value.ref b :: As).toArray, t, U', L, E, ce, hT, X', hL, e1, e2, hq, hce, hcv, vx_cls hW₁ hcl, st⟩
end VXIB
/-! ===== END ===== -/
/-! ===== BEGIN a private constructor of a nest mate that throws ===== -/
section VXIC
variable {p : Program} {l : Launch} {e : Env} {R : Room} {s : State} {m : MethodId} {args : Array Value} {below : List Frame} {meth : Method} {c : Code} {T : State} {locs : List Loc} {cells slots : Nat}
theorem vx_callIN (X : Stand p l e R s m args below meth c T locs cells slots) (hexec : p.tables.exec = Jvm.exec) {own : String} {index : Nat} {host : String} {y : MethodName} {bytes : ByteArray} {maxL : Nat}
    (hown : s.vm.findClass own = some m.cls) (hy1 : y.name = "<init>") (hlink : (Cond.methodLinkNest own index y host).before args s = true) (hinst : (Cond.instanceMethod y).before args s = true)
    (hcode : (Cond.code y bytes maxL none).before args s = true) (hy : y.cls ≠ "java/lang/invoke/MethodHandle" ∧ y.cls ≠ "java/lang/invoke/VarHandle")
    {W9 : Nat} {Pre : Pt → Array Value → Prop} {Post : Pt → Array Value → Option Value → Pt → Prop} {PostX : Pt → Array Value → Addr → Pt → Prop} (hK : vx_Back l R p e below s args y 3 W9 Pre Post PostX)
    {g : JFrame} (hg : g.method = m) (hsize : g.locals.size = c.maxLocals) {a : Addr} {argsL rest : List Value} (hlen : ∀ sig, parseMethodDescriptor y.desc = some sig → argsL.length = sig.parameters.length)
    (hstack : g.stack = argsL.reverse ++ .ref a :: rest) (hW : 2 * g.monitorRoom + (rest.map fun v => v.category).sum ≤ W9) (hdg : decode c.code g.pc = .ok (.invokespecial index, 3))
    (hpre : ∀ vm₁, s.WarmedH vm₁ → Pre ⟨T.setVm vm₁, locs, cells, slots⟩ (Value.ref a :: argsL).toArray) :
    (∃ (v : Option Value) (vm₁ : Vm) (B : Pt), s.WarmedH vm₁ ∧ Stand p l e R s m args below meth c B.U B.locs B.cells B.slots ∧ Post ⟨T.setVm vm₁, locs, cells, slots⟩ (Value.ref a :: argsL).toArray v B ∧
      ∀ target, Steps p.tables e below (B.U.setTop { g with pc := g.pc + 3, stack := v.toList ++ rest }) target → Steps p.tables e below (T.setTop g) target) ∨
    (∃ (q : Addr) (vm₁ : Vm) (B : Pt), s.WarmedH vm₁ ∧ Stand p l e R s m args below meth c B.U B.locs B.cells B.slots ∧ PostX ⟨T.setVm vm₁, locs, cells, slots⟩ (Value.ref a :: argsL).toArray q B ∧
      Steps p.tables e below (T.setTop g) ((B.U.setTop { g with stack := rest }).pushFrame (.throwing q))) := by
  subst hg
  have hpl : e.platform.magicAccessors = ({} : Platform).magicAccessors := by rw [X.admits.platform]
  obtain ⟨mk, methM, cM, kP, vm₁, hnamed, hmethM, hcodeM, -, hlocalsM, -, hkP, -, hW₁, hstep₁⟩ := Steps.initColdArgsNest (e := e) X.here hexec X.warmed hpl hown hy1 hy hlink hinst hcode (f := g) rfl hlen hstack hdg
  have X₁ := X.noted hW₁
  rcases hK g.method meth c ⟨T.setVm vm₁, locs, cells, slots⟩ { g with stack := rest } (.invokespecial index) mk (Value.ref a :: argsL).toArray X₁ rfl hsize hdg hW (X₁.named hnamed) (hpre vm₁ X₁.warmed) with ⟨v, B, X', hpost, hsteps⟩ | ⟨q, B, X', hpost, hsteps⟩
  · exact Or.inl ⟨v, vm₁, B, X₁.warmed, X', hpost, fun target h => hstep₁ _ fun acts => by rw [doInvoke_state]; exact hsteps.trans h⟩
  · exact Or.inr ⟨q, vm₁, B, X₁.warmed, X', hpost, hstep₁ _ fun acts => by rw [doInvoke_state]; exact hsteps⟩
end VXIC
section VXID
variable {p : Program} {l : Launch} {e : Env} {R : Room} {s : State} {m : MethodId} {args : Array Value} {below : List Frame} {meth : Method} {c : Code} {H : Heap} {locs : List Loc} {cells slots : Nat}
theorem vx_runIN {y : MethodName} {bytes cc : ByteArray} {maxL nL mc ms n index : Nat} {ws : List Cond} {rm : Room} {Pc : Array Value → State → Prop} {Qc : Array Value → State → Outcome → State → Prop} {XC : String → State → State → Prop} {free : Addr → Prop} {Ts : List Cond} {own host : String} {b : Addr} {As rest : List Value} {g : JFrame}
    (S : CallFix p m c cc nL s args Ts own) (hM : vx_Met l y ws rm Pc Qc XC mc ms free) (cw : va_CN R s args own index y host bytes maxL none ws rm mc ms n ∧ y.name = "<init>" ∧ (Cond.instanceMethod y).before args s = true) (hp : PreS s H Pc (.ref b :: As))
    (hg : g.method = m) (hn : As.length = n) (hsize : g.locals.size = nL) (hstack : g.stack = As.reverse ++ .ref b :: rest) (hW : 2 * g.monitorRoom + (rest.map fun v => v.category).sum ≤ 8) (hdg : decode cc g.pc = .ok (.invokespecial index, 3)) (hf : cells + mc ≤ R.cells ∧ slots + ms ≤ R.slots) :
    vx_Run p l e R s m args below meth c H locs cells slots mc ms g rest (Qc (Value.ref b :: As).toArray) XC free := by
  obtain ⟨⟨⟨hrc, hrs, hfr, hlo, hws, hcw⟩, hcode, hini, hy, hlen, hl⟩, hx1, hx2⟩ := cw
  have hK : vx_Back l R p e below s args y 3 8 (PreOf R mc ms Pc) (PostOf Qc mc ms free) (vx_Post XC mc ms free) := vx_back (bytes := bytes) (maxL := maxL) (ret := none) hM hp.1 hrc hrs hfr hlo hws hcw (fun a' U hW => word_at hW (Or.inl (by first | rfl | simp [Cond.onTables, Cond.keeps, Cond.steady])) hini)
  obtain ⟨hx, hb, hml, ho, -⟩ := S
  have hPc := hp.2
  intro T hT X
  rcases vx_callIN X hx (bytes := bytes) (maxL := maxL) ho hx1 hl hx2 hcode hy hK hg (hsize.trans hml.symm) (a := b) (argsL := As) (rest := rest) (fun sig h => hn.trans (hlen sig h)) hstack hW (by rw [hb]; exact hdg)
    (fun vm₁ hW₁ => ⟨hf.1, hf.2, hPc (T.setVm vm₁) hT hW₁⟩) with ⟨v, vm₁, ⟨U', l2, c2, s2⟩, hW₁, X', ⟨g', mk, t, L, e1, e2, hq, h1, hL, h2, h3⟩, st⟩ | ⟨q, vm₁, ⟨U', l2, c2, s2⟩, hW₁, X', ⟨g', mk, t, L, E, ce, e1, e2, hq, hce, hcv, hcl, h1, hL, h2, h3⟩, st⟩
  · dsimp only [Pt.U, Pt.locs, Pt.cells, Pt.slots] at X' e1 e2 h1 h2 h3 st
    subst h1; subst h2; subst h3
    exact Or.inl ⟨v, (T.setVm vm₁).calling g' mk (Value.ref b :: As).toArray, t, U', L, hT, X', hL, e1, e2, hq, st⟩
  · dsimp only [Pt.U, Pt.locs, Pt.cells, Pt.slots] at X' e1 e2 h1 h2 h3 st hcl
    subst h1; subst h2; subst h3
    exact Or.inr ⟨q, (T.setVm vm₁).calling g' mk (Value.ref b :: As).toArray, t, U', L, E, ce, hT, X', hL, e1, e2, hq, hce, hcv, vx_cls hW₁ hcl, st⟩
end VXID
/-! ===== END ===== -/
/-! ===== BEGIN a private method of a nest mate that may throw (follows va_callVN, va_callSN, va_runVN, va_runSN) ===== -/
section
variable {p : Program} {l : Launch} {e : Env} {R : Room} {s : State} {m : MethodId} {args : Array Value} {below : List Frame} {meth : Method} {c : Code} {H : Heap} {locs : List Loc} {cells slots : Nat}
variable {T : State}
theorem vx_callVN (X : Stand p l e R s m args below meth c T locs cells slots) (hexec : p.tables.exec = Jvm.exec) {own C : String} {index : Nat} {host : String} {y : MethodName} {bytes : ByteArray} {maxL : Nat} {ret : Option FieldType}
    (hown : s.vm.findClass own = some m.cls) (hlink : (Cond.methodLinkNest own index y host).before args s = true) (hinst : (Cond.instanceMethod y).before args s = true) (hsel : (Cond.selects C y y).before args s = true)
    (hcode : (Cond.code y bytes maxL ret).before args s = true) (hy : y.cls ≠ "java/lang/invoke/MethodHandle" ∧ y.cls ≠ "java/lang/invoke/VarHandle")
    {W : Nat} {Pre : Pt → Array Value → Prop} {Post : Pt → Array Value → Option Value → Pt → Prop} {PostX : Pt → Array Value → Addr → Pt → Prop} (hK : vx_Back l R p e below s args y 3 W Pre Post PostX)
    {b : Addr} {cellB : Cell} (hcell : T.heap[b]? = some cellB) (hobj : cellB.vm.isStatics = false) (hcls : s.vm.findClass C = some cellB.cls)
    {g : JFrame} (hg : g.method = m) (hsize : g.locals.size = c.maxLocals) {argsL rest : List Value} (hlen : ∀ sig, parseMethodDescriptor y.desc = some sig → argsL.length = sig.parameters.length)
    (hstack : g.stack = argsL.reverse ++ .ref b :: rest) (hW : 2 * g.monitorRoom + (rest.map fun v => v.category).sum ≤ W) (hdg : decode c.code g.pc = .ok (.invokevirtual index, 3))
    (hpre : ∀ vm₁, s.WarmedH vm₁ → Pre ⟨T.setVm vm₁, locs, cells, slots⟩ (Value.ref b :: argsL).toArray) :
    (∃ (v : Option Value) (vm₁ : Vm) (B : Pt), s.WarmedH vm₁ ∧ Stand p l e R s m args below meth c B.U B.locs B.cells B.slots ∧ Post ⟨T.setVm vm₁, locs, cells, slots⟩ (Value.ref b :: argsL).toArray v B ∧
      ∀ target, Steps p.tables e below (B.U.setTop { g with pc := g.pc + 3, stack := v.toList ++ rest }) target → Steps p.tables e below (T.setTop g) target) ∨
    (∃ (q : Addr) (vm₁ : Vm) (B : Pt), s.WarmedH vm₁ ∧ Stand p l e R s m args below meth c B.U B.locs B.cells B.slots ∧ PostX ⟨T.setVm vm₁, locs, cells, slots⟩ (Value.ref b :: argsL).toArray q B ∧
      Steps p.tables e below (T.setTop g) ((B.U.setTop { g with stack := rest }).pushFrame (.throwing q))) := by
  obtain ⟨mk, methM, hnamed, hmethM, hstM, habM⟩ := Cond.instanceMethod_spec hinst
  obtain ⟨methM', cM, hmethM', -, -, -, -, -, -, hsigM⟩ := Cond.code_spec hnamed hcode
  cases hmethM.symm.trans hmethM'
  obtain ⟨c2, r2, m2, q1, q2, q3, q4, kP, hkP, hkPi⟩ := Cond.selects_spec hsel
  cases hcls.symm.trans q1
  cases (State.methodFound?_of_named hnamed hy).symm.trans q2
  cases hnamed.symm.trans q3
  have hselP : selectMethod e.platform s.vm cellB.cls mk = .method mk := by rw [Launch.admits_selectMethod X.admits]; exact q4
  obtain ⟨vm₁, X₁, hstep₁⟩ := X.invokevirtualNest hexec hown hlink hnamed hmethM hstM hkP hkPi hy (a := b) (cell := cellB) hcell
    (fun z h => by rw [h] at hobj; cases hobj) hselP hmethM habM hkP hkPi (g := g) hg (argsL := argsL) (rest := rest) (hlen _ hsigM) hstack hdg
  rcases hK m meth c ⟨T.setVm vm₁, locs, cells, slots⟩ { g with stack := rest } (.invokevirtual index) mk (Value.ref b :: argsL).toArray X₁ hg hsize hdg hW (X₁.named hnamed) (hpre vm₁ X₁.warmed) with ⟨v, B, X', hpost, hsteps⟩ | ⟨q, B, X', hpost, hsteps⟩
  · exact Or.inl ⟨v, vm₁, B, X₁.warmed, X', hpost, fun target h => hstep₁ _ fun acts => by rw [doInvoke_state]; exact hsteps.trans h⟩
  · exact Or.inr ⟨q, vm₁, B, X₁.warmed, X', hpost, hstep₁ _ fun acts => by rw [doInvoke_state]; exact hsteps⟩
theorem vx_callSN (X : Stand p l e R s m args below meth c T locs cells slots) (hexec : p.tables.exec = Jvm.exec) {own : String} {index : Nat} {host : String} {y : MethodName} {bytes : ByteArray} {maxL : Nat} {ret : Option FieldType}
    (hown : s.vm.findClass own = some m.cls) (hlink : (Cond.methodLinkNest own index y host).before args s = true) (hstat : (Cond.static y).before args s = true) (hinit : (Cond.initialized y.cls).before args s = true)
    (hcode : (Cond.code y bytes maxL ret).before args s = true) (hy : y.cls ≠ "java/lang/invoke/MethodHandle" ∧ y.cls ≠ "java/lang/invoke/VarHandle")
    {W : Nat} {Pre : Pt → Array Value → Prop} {Post : Pt → Array Value → Option Value → Pt → Prop} {PostX : Pt → Array Value → Addr → Pt → Prop} (hK : vx_Back l R p e below s args y 3 W Pre Post PostX)
    {g : JFrame} (hg : g.method = m) (hsize : g.locals.size = c.maxLocals) {argsL rest : List Value} (hlen : ∀ sig, parseMethodDescriptor y.desc = some sig → argsL.length = sig.parameters.length)
    (hstack : g.stack = argsL.reverse ++ rest) (hW : 2 * g.monitorRoom + (rest.map fun v => v.category).sum ≤ W) (hdg : decode c.code g.pc = .ok (.invokestatic index, 3))
    (hpre : ∀ vm₁, s.WarmedH vm₁ → Pre ⟨T.setVm vm₁, locs, cells, slots⟩ argsL.toArray) :
    (∃ (v : Option Value) (vm₁ : Vm) (B : Pt), s.WarmedH vm₁ ∧ Stand p l e R s m args below meth c B.U B.locs B.cells B.slots ∧ Post ⟨T.setVm vm₁, locs, cells, slots⟩ argsL.toArray v B ∧
      ∀ target, Steps p.tables e below (B.U.setTop { g with pc := g.pc + 3, stack := v.toList ++ rest }) target → Steps p.tables e below (T.setTop g) target) ∨
    (∃ (q : Addr) (vm₁ : Vm) (B : Pt), s.WarmedH vm₁ ∧ Stand p l e R s m args below meth c B.U B.locs B.cells B.slots ∧ PostX ⟨T.setVm vm₁, locs, cells, slots⟩ argsL.toArray q B ∧
      Steps p.tables e below (T.setTop g) ((B.U.setTop { g with stack := rest }).pushFrame (.throwing q))) := by
  obtain ⟨mk, hnamed⟩ := Cond.code_named hcode
  obtain ⟨methM, cM, hmethM, -, -, -, -, -, -, hsigM⟩ := Cond.code_spec hnamed hcode
  have hstatic : methM.isStatic = true := Cond.static_spec hnamed hmethM hstat
  obtain ⟨kP, hkP, -⟩ := className_of_methodNamed hnamed
  have hinitP : kP.init = .initialized := Cond.initialized_spec (findClass_of_methodNamed hnamed) hkP hinit
  obtain ⟨vm₁, X₁, hstep₁⟩ := X.invokestaticNest hexec hown hlink hnamed hmethM hstatic hkP hinitP hy (g := g) hg (argsL := argsL) (rest := rest) (hlen _ hsigM) hstack hdg
  rcases hK m meth c ⟨T.setVm vm₁, locs, cells, slots⟩ { g with stack := rest } (.invokestatic index) mk argsL.toArray X₁ hg hsize hdg hW (X₁.named hnamed) (hpre vm₁ X₁.warmed) with ⟨v, B, X', hpost, hsteps⟩ | ⟨q, B, X', hpost, hsteps⟩
  · exact Or.inl ⟨v, vm₁, B, X₁.warmed, X', hpost, fun target h => hstep₁ _ fun acts => by rw [doInvoke_state]; exact hsteps.trans h⟩
  · exact Or.inr ⟨q, vm₁, B, X₁.warmed, X', hpost, hstep₁ _ fun acts => by rw [doInvoke_state]; exact hsteps⟩
theorem vx_runVN {y : MethodName} {bytes cc : ByteArray} {maxL nL mc ms n index : Nat} {ret : Option FieldType} {ws : List Cond} {rm : Room} {Pc : Array Value → State → Prop} {Qc : Array Value → State → Outcome → State → Prop} {XC : String → State → State → Prop} {free : Addr → Prop} {Ts : List Cond} {own C host : String} {b : Addr} {As rest : List Value} {g : JFrame}
    (S : CallFix p m c cc nL s args Ts own) (hM : vx_Met l y ws rm Pc Qc XC mc ms free) (cw : va_CN R s args own index y host bytes maxL ret ws rm mc ms n ∧ (Cond.instanceMethod y).before args s = true ∧ (Cond.selects C y y).before args s = true) (hp : PreV s H C b Pc As)
    (hg : g.method = m) (hn : As.length = n) (hsize : g.locals.size = nL) (hstack : g.stack = As.reverse ++ .ref b :: rest) (hW : 2 * g.monitorRoom + (rest.map fun v => v.category).sum ≤ 8) (hdg : decode cc g.pc = .ok (.invokevirtual index, 3)) (hf : cells + mc ≤ R.cells ∧ slots + ms ≤ R.slots) :
    vx_Run p l e R s m args below meth c H locs cells slots mc ms g rest (Qc (Value.ref b :: As).toArray) XC free := by
  obtain ⟨⟨⟨hrc, hrs, hfr, hlo, hws, hcw⟩, hcode, hini, hy, hlen, hl⟩, hx1, hx2⟩ := cw
  have hK : vx_Back l R p e below s args y 3 8 (PreOf R mc ms Pc) (PostOf Qc mc ms free) (vx_Post XC mc ms free) := vx_back (bytes := bytes) (maxL := maxL) (ret := ret) hM hp.1 hrc hrs hfr hlo hws hcw (fun a' U hW => word_at hW (Or.inl (by first | rfl | simp [Cond.onTables, Cond.keeps, Cond.steady])) hini)
  obtain ⟨hx, hb, hml, ho, -⟩ := S
  obtain ⟨-, ⟨cellB, hcB, hoB, hclB⟩, hPc⟩ := hp
  intro T hT X
  rcases vx_callVN X hx (C := C) (bytes := bytes) (maxL := maxL) (ret := ret) ho hl hx1 hx2 hcode hy hK (by rw [hT]; exact hcB) hoB hclB hg (hsize.trans hml.symm) (argsL := As) (rest := rest) (fun sig h => hn.trans (hlen sig h)) hstack hW (by rw [hb]; exact hdg)
    (fun vm₁ hW₁ => ⟨hf.1, hf.2, hPc (T.setVm vm₁) hT hW₁⟩) with ⟨v, vm₁, ⟨U', l2, c2, s2⟩, hW₁, X', ⟨g', mk, t, L, e1, e2, hq, h1, hL, h2, h3⟩, st⟩ | ⟨q, vm₁, ⟨U', l2, c2, s2⟩, hW₁, X', ⟨g', mk, t, L, E, ce, e1, e2, hq, hce, hcv, hcl, h1, hL, h2, h3⟩, st⟩
  · dsimp only [Pt.U, Pt.locs, Pt.cells, Pt.slots] at X' e1 e2 h1 h2 h3 st
    subst h1; subst h2; subst h3
    exact Or.inl ⟨v, (T.setVm vm₁).calling g' mk (Value.ref b :: As).toArray, t, U', L, hT, X', hL, e1, e2, hq, st⟩
  · dsimp only [Pt.U, Pt.locs, Pt.cells, Pt.slots] at X' e1 e2 h1 h2 h3 st hcl
    subst h1; subst h2; subst h3
    exact Or.inr ⟨q, (T.setVm vm₁).calling g' mk (Value.ref b :: As).toArray, t, U', L, E, ce, hT, X', hL, e1, e2, hq, hce, hcv, vx_cls hW₁ hcl, st⟩
theorem vx_runSN {y : MethodName} {bytes cc : ByteArray} {maxL nL mc ms n index : Nat} {ret : Option FieldType} {ws : List Cond} {rm : Room} {Pc : Array Value → State → Prop} {Qc : Array Value → State → Outcome → State → Prop} {XC : String → State → State → Prop} {free : Addr → Prop} {Ts : List Cond} {own host : String} {As rest : List Value} {g : JFrame}
    (S : CallFix p m c cc nL s args Ts own) (hM : vx_Met l y ws rm Pc Qc XC mc ms free) (cw : va_CN R s args own index y host bytes maxL ret ws rm mc ms n ∧ (Cond.static y).before args s = true ∧ True) (hp : PreS s H Pc As)
    (hg : g.method = m) (hn : As.length = n) (hsize : g.locals.size = nL) (hstack : g.stack = As.reverse ++ rest) (hW : 2 * g.monitorRoom + (rest.map fun v => v.category).sum ≤ 8) (hdg : decode cc g.pc = .ok (.invokestatic index, 3)) (hf : cells + mc ≤ R.cells ∧ slots + ms ≤ R.slots) :
    vx_Run p l e R s m args below meth c H locs cells slots mc ms g rest (Qc As.toArray) XC free := by
  obtain ⟨⟨⟨hrc, hrs, hfr, hlo, hws, hcw⟩, hcode, hini, hy, hlen, hl⟩, hx1, hx2⟩ := cw
  have hK : vx_Back l R p e below s args y 3 8 (PreOf R mc ms Pc) (PostOf Qc mc ms free) (vx_Post XC mc ms free) := vx_back (bytes := bytes) (maxL := maxL) (ret := ret) hM hp.1 hrc hrs hfr hlo hws hcw (fun a' U hW => word_at hW (Or.inl (by first | rfl | simp [Cond.onTables, Cond.keeps, Cond.steady])) hini)
  obtain ⟨hx, hb, hml, ho, -⟩ := S
  have hPc := hp.2
  intro T hT X
  rcases vx_callSN X hx (bytes := bytes) (maxL := maxL) (ret := ret) ho hl hx1 hini hcode hy hK hg (hsize.trans hml.symm) (argsL := As) (rest := rest) (fun sig h => hn.trans (hlen sig h)) hstack hW (by rw [hb]; exact hdg)
    (fun vm₁ hW₁ => ⟨hf.1, hf.2, hPc (T.setVm vm₁) hT hW₁⟩) with ⟨v, vm₁, ⟨U', l2, c2, s2⟩, hW₁, X', ⟨g', mk, t, L, e1, e2, hq, h1, hL, h2, h3⟩, st⟩ | ⟨q, vm₁, ⟨U', l2, c2, s2⟩, hW₁, X', ⟨g', mk, t, L, E, ce, e1, e2, hq, hce, hcv, hcl, h1, hL, h2, h3⟩, st⟩
  · dsimp only [Pt.U, Pt.locs, Pt.cells, Pt.slots] at X' e1 e2 h1 h2 h3 st
    subst h1; subst h2; subst h3
    exact Or.inl ⟨v, (T.setVm vm₁).calling g' mk As.toArray, t, U', L, hT, X', hL, e1, e2, hq, st⟩
  · dsimp only [Pt.U, Pt.locs, Pt.cells, Pt.slots] at X' e1 e2 h1 h2 h3 st hcl
    subst h1; subst h2; subst h3
    exact Or.inr ⟨q, (T.setVm vm₁).calling g' mk As.toArray, t, U', L, E, ce, hT, X', hL, e1, e2, hq, hce, hcv, vx_cls hW₁ hcl, st⟩
end
/-! ===== END ===== -/
/-! the calls -/
section ZCB
variable {p : Program} {l : Launch} {e : Env} {R : Room} {s : State} {m : MethodId} {args : Array Value} {below : List Frame} {meth : Method} {c : Code} {H : Heap} {locs : List Loc} {cells slots : Nat} {Q : State → Prop}
variable {K : Nat → Nat × Nat} {sz b L : Nat} {xs : Nat → Int32} {D : va_G} {tc : Nat → ClassId} {x : zMI}
theorem zcallee {k m' kind : Nat} {x' : zMI} (hq : zlk zmthT x.1 k = some (m', kind)) (hm : zmtab[m']? = some x') : zmP x' ∧ plainFor x'.2.1 = true ∧ (∀ w ∈ zcw (zcn x.1) k x' kind, w ∈ lw_tbl) ∧ ((kind = 2 ∨ kind = 3) → zxI x' = true) ∧ (kind = 5 ↔ zxH x' ≠ []) := by
  obtain ⟨x2, h1, h2, h3, h4, -⟩ := zmth_ok _ (zlk_mem hq)
  have e1 : x2 = x' := Option.some.inj (h1.symm.trans hm)
  subst e1
  have hmem : x2 ∈ zmtab := List.mem_of_getElem? hm
  exact ⟨zm_ok _ hmem, zpf_ok _ hmem, h2, h3, h4⟩
theorem zmcode_nil (h : zxH x = []) : zmcode x = .code x.2.1 (zxB x) (zxL x) (zxT x) := by
  unfold zmcode
  have h9 : x.2.2.2.2.2.1 = [] := h
  rw [h9]
theorem zmcode_cons (h : zxH x ≠ []) : zmcode x = .codeWith x.2.1 (zxB x) (zxL x) (zxT x) (zxH x) := by
  unfold zmcode
  have h9 : x.2.2.2.2.2.1 ≠ [] := h
  cases h10 : x.2.2.2.2.2.1 with
  | nil => exact absurd h10 h9
  | cons h0 t0 => show _ = Jvm.Cond.codeWith _ _ _ _ x.2.2.2.2.2.1; rw [h10]
theorem zmcode_good : zgood (zmcode x) = true ∧ goodWord (zmcode x) = true := by
  by_cases h : zxH x = []
  · rw [zmcode_nil h]; exact ⟨rfl, rfl⟩
  · rw [zmcode_cons h]; exact ⟨rfl, rfl⟩
theorem zhd {y : zMI} (h : zmP y) : y.2.1.cls ≠ "java/lang/invoke/MethodHandle" ∧ y.2.1.cls ≠ "java/lang/invoke/VarHandle" ∧ (parseMethodDescriptor y.2.1.desc).map (fun d => d.parameters.length) = some (zxN y) := by
  have h1 := zplain y.1 h.2.1
  rw [← h.1] at h1
  exact ⟨h1.1, h1.2, h.2.2.2.1⟩
/-- a call as the kit runs it -/
def zRunP (K : Nat → Nat × Nat) (sz b L : Nat) (xs : Nat → Int32) (D : va_G) (tc : Nat → ClassId) (l : Launch) (x : zMI) (pc : Nat) (ls : zLs) (st st' : List zV) (M : zM) (r1 : zO) (M1 : zM) : Prop :=
  ∀ (p : Program) (e : Env) (R : Room) (s : State) (m : MethodId) (args : Array Value) (below : List Frame) (meth : Method) (c : Code) (H : Heap) (locs : List Loc) (cells slots : Nat) (lsr : Array Slot),
    zCtx sz b L xs D tc x p l R s m meth c → zHeap K sz b L xs D tc M H → va_S (zA sz) s.heap H locs → ls.length = zxL x → zLR sz b ls lsr → zoks M.1.1 st →
    cells + (M1.1.2.2.1 - M.1.2.2.1) ≤ R.cells → slots + (M1.1.2.2.2 - M.1.2.2.2) ≤ R.slots →
    vx_Run p l e R s m args below meth c H locs cells slots (M1.1.2.2.1 - M.1.2.2.1) (M1.1.2.2.2 - M.1.2.2.2) (F0 m pc lsr (st.map (zrv sz b))) (st'.map (zrv sz b)) (zQc K sz b L xs D tc r1 M1 #[]) (zXc K sz b L xs D tc r1 M1) (zA sz)
theorem zpre {M : zM} {as : List zV} (hW : zWLD sz b L xs D tc s) (hH : zHeap K sz b L xs D tc M H) (hS : va_S (zA sz) s.heap H locs) : ∀ U : State, U.heap = H → s.WarmedH U.vm → zPc K sz b L xs D tc M as ((as.map (zrv sz b)).toArray) U := fun U hU hWm =>
  ⟨rfl, by rw [hU]; exact hH, zWLD_move hW hWm (by rw [hU]; exact hS.1) (fun q h1 h2 => by rw [hU]; exact hS.2.1 q h1 h2)⟩
theorem zsplit {st rr : List zV} {n a : Nat} (h : st.drop n = .inr (.inr a) :: rr) : st = st.take n ++ .inr (.inr a) :: rr ∧ (st.take n).length = n := by
  refine ⟨by rw [← h, List.take_append_drop], ?_⟩
  rw [List.length_take]
  have h1 : (st.drop n).length = rr.length + 1 := by rw [h]; rfl
  rw [List.length_drop] at h1
  omega
theorem zRunV {pc k m' a : Nat} {x' : zMI} {ls : zLs} {st rr : List zV} {M M1 : zM} {r1 : zO} (hl : l.stackTraces = false) (hq : zlk zmthT x.1 k = some (m', 0)) (hm : zmtab[m']? = some x') (hd : decode (zxB x) pc = .ok (.invokevirtual k, 3)) (hrk : zxR x' < zxR x) (h12 : x'.1 < 11)
    (hst : st.drop (zxN x') = .inr (.inr a) :: rr) (hK : (K a).1 = x'.1) (hcat : (rr.map zcat).sum ≤ 8) (hlen : (zargs (.inr (.inr a) :: (st.take (zxN x')).reverse)).length ≤ zxL x')
    (g : zoks M.1.1 st → zGoal K sz b L xs D tc l x' 0 (zent x' (.inr (.inr a) :: (st.take (zxN x')).reverse)) [] M r1 M1) : zRunP K sz b L xs D tc l x pc ls st rr M r1 M1 := by
  intro p e R s m args below meth c H locs cells slots lsr hC hH hS hL hR hs h1 h2
  obtain ⟨hP, hpf, hin, -, hk5⟩ := zcallee hq hm
  have hnil : zxH x' = [] := by
    by_cases h9 : zxH x' = []
    · exact h9
    · exact absurd (hk5.mpr h9) (by decide)
  have hW := hC.2.2.2.2.2.2.2.2.1
  obtain ⟨hsp, hln⟩ := zsplit hst
  have ha : zok M.1.1 (.inr (.inr a)) := hs _ (by rw [hsp]; exact List.mem_append_right _ List.mem_cons_self)
  have hokas : zoks M.1.1 (.inr (.inr a) :: (st.take (zxN x')).reverse) := zoks_cons ha fun v hv => hs v (List.mem_of_mem_take (List.mem_reverse.mp hv))
  have hM := zMet hl hP hpf hlen hokas (g hs)
  have hfr := hC.2.2.2.2.2.2.2.2.2.1
  have hlo := hC.2.2.2.2.2.2.2.2.2.2.1
  have hts : ∀ w ∈ wsV (zcn x.1) k x'.2.1.cls x'.2.1 [zmcode x'], w.before args s = true := fun w hw => by
    refine zword hW (hin w hw) ?_ args
    have hw : w ∈ [Jvm.Cond.methodLink (zcn x.1) k x'.2.1, .instanceMethod x'.2.1, .selects x'.2.1.cls x'.2.1 x'.2.1, .initialized x'.2.1.cls, zmcode x'] := hw
    simp only [List.mem_cons, List.not_mem_nil, or_false] at hw
    rcases hw with rfl | rfl | rfl | rfl | rfl
    · rfl
    · rfl
    · rfl
    · rfl
    · exact zmcode_good.1
  have hG : GoodIn (wsV (zcn x.1) k x'.2.1.cls x'.2.1 [zmcode x']) (wsV (zcn x.1) k x'.2.1.cls x'.2.1 [zmcode x']) := goodIn_sub (fun w h => h) (by
    show (true && (true && (true && (true && (goodWord (zmcode x') && true))))) = true
    rw [zmcode_good.2]; rfl)
  have hmaxL := hP.2.2.1
  have cw := cwV (R := R) (s := s) (args := args) (rm := zRm x' (M1.1.2.2.1 - M.1.2.2.1) (M1.1.2.2.2 - M.1.2.2.2)) (ws' := []) (zxN x') hts hG (by rw [zmcode_nil hnil]) rfl rfl ⟨rfl, zhd hP⟩ ⟨by show zxR x' + 2 + 1 ≤ R.frames; omega, by show 8 + (zxL x' + 11) + (33 * zxR x' + 60) ≤ R.locals; have : zxL x' ≤ 14 := hmaxL; omega⟩
  have hnot1 := zK1 hH (show (K a).1 < 20 by omega)
  obtain ⟨g1, g2⟩ := zad_ok ha hnot1
  have hrecv := va_recv hW.1 hH.1 (zcl_get x'.1 h12) (by rw [zws_get g1 g2, zcell_obj hK h12])
  rw [(zcl_inst x'.1 h12).2.2, ← hP.1] at hrecv
  have hpre := zpre (as := .inr (.inr a) :: (st.take (zxN x')).reverse) hW hH hS
  rw [List.map_cons, zrv_ref ha] at hpre
  exact vx_runV (As := ((st.take (zxN x')).reverse).map (zrv sz b)) ⟨hC.1, hC.2.1, hC.2.2.1, hC.2.2.2.2.2.2.1, hts⟩ hM cw ⟨zPc_blind, hrecv, hpre⟩ rfl (by rw [List.length_map, List.length_reverse]; exact hln) (by show lsr.size = _; rw [hR.1, hL])
    (by show st.map (zrv sz b) = _
        rw [← List.map_reverse, List.reverse_reverse]
        conv => lhs; rw [hsp]
        rw [List.map_append, List.map_cons, zrv_ref ha]) (lv_room (pc := pc) (ls := lsr) (rest := st.map (zrv sz b)) (m := m) (by rw [zcats_rv]; exact hcat)) hd ⟨h1, h2⟩
theorem zRunS {pc k m' kind : Nat} {x' : zMI} {ls : zLs} {st : List zV} {M M1 : zM} {r1 : zO} (hl : l.stackTraces = false) (hkind : kind = 1 ∨ kind = 4 ∨ kind = 5) (hq : zlk zmthT x.1 k = some (m', kind)) (hm : zmtab[m']? = some x') (hd : decode (zxB x) pc = .ok (.invokestatic k, 3)) (hrk : zxR x' < zxR x)
    (hst : zxN x' ≤ st.length) (hcat : ((st.drop (zxN x')).map zcat).sum ≤ 8) (hlen : (zargs (st.take (zxN x')).reverse).length ≤ zxL x')
    (g : zoks M.1.1 st → zGoal K sz b L xs D tc l x' 0 (zent x' (st.take (zxN x')).reverse) [] M r1 M1) : zRunP K sz b L xs D tc l x pc ls st (st.drop (zxN x')) M r1 M1 := by
  intro p e R s m args below meth c H locs cells slots lsr hC hH hS hL hR hs h1 h2
  obtain ⟨hP, hpf, hin, -, hk5⟩ := zcallee hq hm
  have hW := hC.2.2.2.2.2.2.2.2.1
  have hln : (st.take (zxN x')).length = zxN x' := by rw [List.length_take]; omega
  have hokas : zoks M.1.1 (st.take (zxN x')).reverse := fun v hv => hs v (List.mem_of_mem_take (List.mem_reverse.mp hv))
  have hM := zMet hl hP hpf hlen hokas (g hs)
  have hfr := hC.2.2.2.2.2.2.2.2.2.1
  have hlo := hC.2.2.2.2.2.2.2.2.2.2.1
  have hmaxL := hP.2.2.1
  have hR9 : (zRm x' (M1.1.2.2.1 - M.1.2.2.1) (M1.1.2.2.2 - M.1.2.2.2)).frames + 1 ≤ R.frames ∧ 8 + (zxL x' + 11) + (zRm x' (M1.1.2.2.1 - M.1.2.2.1) (M1.1.2.2.2 - M.1.2.2.2)).locals ≤ R.locals := ⟨by show zxR x' + 2 + 1 ≤ R.frames; omega, by show 8 + (zxL x' + 11) + (33 * zxR x' + 60) ≤ R.locals; have : zxL x' ≤ 14 := hmaxL; omega⟩
  have hpre := zpre (as := (st.take (zxN x')).reverse) hW hH hS
  have hstk : (F0 m pc lsr (st.map (zrv sz b))).stack = (((st.take (zxN x')).reverse).map (zrv sz b)).reverse ++ (st.drop (zxN x')).map (zrv sz b) := by
    show st.map (zrv sz b) = _
    rw [← List.map_reverse, List.reverse_reverse, ← List.map_append, List.take_append_drop]
  have hrm := lv_room (pc := pc) (ls := lsr) (rest := st.map (zrv sz b)) (m := m) (st := (st.drop (zxN x')).map (zrv sz b)) (by rw [zcats_rv]; exact hcat)
  have hAs : (((st.take (zxN x')).reverse).map (zrv sz b)).length = zxN x' := by rw [List.length_map, List.length_reverse]; exact hln
  have hsz : (F0 m pc lsr (st.map (zrv sz b))).locals.size = zxL x := by show lsr.size = _; rw [hR.1, hL]
  have hts : ∀ w ∈ [zmcode x'], zmcode x' ∈ lw_tbl → w.before args s = true := fun w hw h => by
    rw [List.mem_singleton.mp hw]
    exact zword hW h zmcode_good.1 args
  have hG : GoodIn [zmcode x'] [zmcode x'] := goodIn_sub (fun w h => h) (by
    show (goodWord (zmcode x') && true) = true
    rw [zmcode_good.2]; rfl)
  rcases hkind with rfl | rfl | rfl
  · have hnil : zxH x' = [] := by
      by_cases h9 : zxH x' = []
      · exact h9
      · exact absurd (hk5.mpr h9) (by decide)
    have w0 : Jvm.Cond.methodLink (zcn x.1) k x'.2.1 ∈ lw_tbl := hin _ List.mem_cons_self
    have w1 : Jvm.Cond.static x'.2.1 ∈ lw_tbl := hin _ (List.mem_cons_of_mem _ List.mem_cons_self)
    have w2 : Jvm.Cond.initialized x'.2.1.cls ∈ lw_tbl := hin _ (List.mem_cons_of_mem _ (List.mem_cons_of_mem _ List.mem_cons_self))
    have w3 : zmcode x' ∈ lw_tbl := hin _ (List.mem_cons_of_mem _ (List.mem_cons_of_mem _ (List.mem_cons_of_mem _ List.mem_cons_self)))
    have ht9 : ∀ w ∈ [zmcode x'], w.before args s = true := fun w hw => hts w hw w3
    have cw := callB_of (R := R) (s := s) (args := args) (rm := zRm x' (M1.1.2.2.1 - M.1.2.2.1) (M1.1.2.2.2 - M.1.2.2.2)) (ws' := []) (own := zcn x.1) (index := k) (y := x'.2.1) (zxN x') ht9 hG (by rw [zmcode_nil hnil]) rfl rfl (zword hW w2 rfl args) (zword hW w0 rfl args) (zhd hP) hR9
    exact vx_runS (As := ((st.take (zxN x')).reverse).map (zrv sz b)) ⟨hC.1, hC.2.1, hC.2.2.1, hC.2.2.2.2.2.2.1, ht9⟩ hM ⟨cw, zword hW w1 rfl args⟩ ⟨zPc_blind, hpre⟩ rfl hAs hsz hstk hrm hd ⟨h1, h2⟩
  · have hnil : zxH x' = [] := by
      by_cases h9 : zxH x' = []
      · exact h9
      · exact absurd (hk5.mpr h9) (by decide)
    have w0 : Jvm.Cond.methodLinkNest (zcn x.1) k x'.2.1 "Layerboard" ∈ lw_tbl := hin _ List.mem_cons_self
    have w1 : Jvm.Cond.static x'.2.1 ∈ lw_tbl := hin _ (List.mem_cons_of_mem _ List.mem_cons_self)
    have w2 : Jvm.Cond.initialized x'.2.1.cls ∈ lw_tbl := hin _ (List.mem_cons_of_mem _ (List.mem_cons_of_mem _ List.mem_cons_self))
    have w3 : zmcode x' ∈ lw_tbl := hin _ (List.mem_cons_of_mem _ (List.mem_cons_of_mem _ (List.mem_cons_of_mem _ List.mem_cons_self)))
    have ht9 : ∀ w ∈ [zmcode x'], w.before args s = true := fun w hw => hts w hw w3
    have cw := va_cnB (R := R) (s := s) (args := args) (rm := zRm x' (M1.1.2.2.1 - M.1.2.2.1) (M1.1.2.2.2 - M.1.2.2.2)) (ws' := []) (own := zcn x.1) (index := k) (y := x'.2.1) (zxN x') ht9 hG (by rw [zmcode_nil hnil]) rfl rfl (zword hW w0 rfl #[]) (zword hW w2 rfl args) (zhd hP) hR9
    exact vx_runSN (As := ((st.take (zxN x')).reverse).map (zrv sz b)) ⟨hC.1, hC.2.1, hC.2.2.1, hC.2.2.2.2.2.2.1, ht9⟩ hM ⟨cw, zword hW w1 rfl args, trivial⟩ ⟨zPc_blind, hpre⟩ rfl hAs hsz hstk hrm hd ⟨h1, h2⟩
  · have hcons : zxH x' ≠ [] := hk5.mp rfl
    have ht9 : ∀ w ∈ va_wsS (zcn x.1) k x'.2.1 [zmcode x'], w.before args s = true := fun w hw => by
      refine zword hW (hin w hw) ?_ args
      have hw : w ∈ [Jvm.Cond.methodLink (zcn x.1) k x'.2.1, .static x'.2.1, .initialized x'.2.1.cls, zmcode x'] := hw
      simp only [List.mem_cons, List.not_mem_nil, or_false] at hw
      rcases hw with rfl | rfl | rfl | rfl
      · rfl
      · rfl
      · rfl
      · exact zmcode_good.1
    have hG9 : GoodIn (va_wsS (zcn x.1) k x'.2.1 [zmcode x']) (va_wsS (zcn x.1) k x'.2.1 [zmcode x']) := goodIn_sub (fun w h => h) (by
      show (true && (true && (true && (goodWord (zmcode x') && true)))) = true
      rw [zmcode_good.2]; rfl)
    have cw := vx_cwSW (R := R) (s := s) (args := args) (rm := zRm x' (M1.1.2.2.1 - M.1.2.2.1) (M1.1.2.2.2 - M.1.2.2.2)) (ws' := []) (own := zcn x.1) (index := k) (y := x'.2.1) (zxN x') ht9 hG9 (by rw [zmcode_cons hcons]) rfl rfl (zhd hP) hR9
    exact vx_runSX (As := ((st.take (zxN x')).reverse).map (zrv sz b)) ⟨hC.1, hC.2.1, hC.2.2.1, hC.2.2.2.2.2.2.1, ht9⟩ hM cw ⟨zPc_blind, hpre⟩ rfl hAs hsz hstk hrm hd ⟨h1, h2⟩
theorem zRunI {pc k m' a kind : Nat} {x' : zMI} {ls : zLs} {st rr : List zV} {M M1 : zM} {r1 : zO} (hl : l.stackTraces = false) (hkind : kind = 2 ∨ kind = 3) (hq : zlk zmthT x.1 k = some (m', kind)) (hm : zmtab[m']? = some x') (hd : decode (zxB x) pc = .ok (.invokespecial k, 3)) (hrk : zxR x' < zxR x)
    (hst : st.drop (zxN x') = .inr (.inr a) :: rr) (hcat : (rr.map zcat).sum ≤ 8) (hlen : (zargs (.inr (.inr a) :: (st.take (zxN x')).reverse)).length ≤ zxL x')
    (g : zoks M.1.1 st → zGoal K sz b L xs D tc l x' 0 (zent x' (.inr (.inr a) :: (st.take (zxN x')).reverse)) [] M r1 M1) : zRunP K sz b L xs D tc l x pc ls st rr M r1 M1 := by
  intro p e R s m args below meth c H locs cells slots lsr hC hH hS hL hR hs h1 h2
  obtain ⟨hP, hpf, hin, hini, hk5⟩ := zcallee hq hm
  have hI := hini hkind
  have hname := (hP.2.2.2.2 hI).1
  have hret : zxT x' = none := (hP.2.2.2.2 hI).2
  have hnil : zxH x' = [] := by
    by_cases h9 : zxH x' = []
    · exact h9
    · have h10 := hk5.mpr h9
      omega
  have hW := hC.2.2.2.2.2.2.2.2.1
  obtain ⟨hsp, hln⟩ := zsplit hst
  have ha : zok M.1.1 (.inr (.inr a)) := hs _ (by rw [hsp]; exact List.mem_append_right _ List.mem_cons_self)
  have hokas : zoks M.1.1 (.inr (.inr a) :: (st.take (zxN x')).reverse) := zoks_cons ha fun v hv => hs v (List.mem_of_mem_take (List.mem_reverse.mp hv))
  have hM := zMet hl hP hpf hlen hokas (g hs)
  have hfr := hC.2.2.2.2.2.2.2.2.2.1
  have hlo := hC.2.2.2.2.2.2.2.2.2.2.1
  have hmaxL := hP.2.2.1
  have hR9 : (zRm x' (M1.1.2.2.1 - M.1.2.2.1) (M1.1.2.2.2 - M.1.2.2.2)).frames + 1 ≤ R.frames ∧ 8 + (zxL x' + 11) + (zRm x' (M1.1.2.2.1 - M.1.2.2.1) (M1.1.2.2.2 - M.1.2.2.2)).locals ≤ R.locals := ⟨by show zxR x' + 2 + 1 ≤ R.frames; omega, by show 8 + (zxL x' + 11) + (33 * zxR x' + 60) ≤ R.locals; have : zxL x' ≤ 14 := hmaxL; omega⟩
  have hpre := zpre (as := .inr (.inr a) :: (st.take (zxN x')).reverse) hW hH hS
  rw [List.map_cons, zrv_ref ha] at hpre
  have hstk : (F0 m pc lsr (st.map (zrv sz b))).stack = (((st.take (zxN x')).reverse).map (zrv sz b)).reverse ++ .ref (zad sz b a) :: rr.map (zrv sz b) := by
    show st.map (zrv sz b) = _
    rw [← List.map_reverse, List.reverse_reverse]
    conv => lhs; rw [hsp]
    rw [List.map_append, List.map_cons, zrv_ref ha]
  have hrm := lv_room (pc := pc) (ls := lsr) (rest := st.map (zrv sz b)) (m := m) (st := rr.map (zrv sz b)) (by rw [zcats_rv]; exact hcat)
  have hAs : (((st.take (zxN x')).reverse).map (zrv sz b)).length = zxN x' := by rw [List.length_map, List.length_reverse]; exact hln
  have hsz : (F0 m pc lsr (st.map (zrv sz b))).locals.size = zxL x := by show lsr.size = _; rw [hR.1, hL]
  have hG : GoodIn [zmcode x'] [zmcode x'] := goodIn_sub (fun w h => h) (by
    show (goodWord (zmcode x') && true) = true
    rw [zmcode_good.2]; rfl)
  have hcode : zmcode x' = .code x'.2.1 (zxB x') (zxL x') none := by rw [zmcode_nil hnil, hret]
  rcases hkind with rfl | rfl
  · have w0 : Jvm.Cond.methodLink (zcn x.1) k x'.2.1 ∈ lw_tbl := hin _ List.mem_cons_self
    have w1 : Jvm.Cond.instanceMethod x'.2.1 ∈ lw_tbl := hin _ (List.mem_cons_of_mem _ List.mem_cons_self)
    have w2 : Jvm.Cond.initialized x'.2.1.cls ∈ lw_tbl := hin _ (List.mem_cons_of_mem _ (List.mem_cons_of_mem _ List.mem_cons_self))
    have w3 : zmcode x' ∈ lw_tbl := hin _ (List.mem_cons_of_mem _ (List.mem_cons_of_mem _ (List.mem_cons_of_mem _ List.mem_cons_self)))
    have ht9 : ∀ w ∈ [zmcode x'], w.before args s = true := fun w hw => by rw [List.mem_singleton.mp hw]; exact zword hW w3 zmcode_good.1 args
    have cw := cwI (R := R) (s := s) (args := args) (rm := zRm x' (M1.1.2.2.1 - M.1.2.2.1) (M1.1.2.2.2 - M.1.2.2.2)) (ws' := []) (own := zcn x.1) (index := k) (y := x'.2.1) (zxN x') ht9 hG (by rw [hcode]) rfl rfl (zword hW w2 rfl args) (zword hW w0 rfl args) (zword hW w1 rfl args) hname (zhd hP) hR9
    exact vx_runI (As := ((st.take (zxN x')).reverse).map (zrv sz b)) ⟨hC.1, hC.2.1, hC.2.2.1, hC.2.2.2.2.2.2.1, ht9⟩ hM cw ⟨zPc_blind, hpre⟩ rfl hAs hsz hstk hrm hd ⟨h1, h2⟩
  · have w0 : Jvm.Cond.methodLinkNest (zcn x.1) k x'.2.1 "Layerboard" ∈ lw_tbl := hin _ List.mem_cons_self
    have w1 : Jvm.Cond.instanceMethod x'.2.1 ∈ lw_tbl := hin _ (List.mem_cons_of_mem _ List.mem_cons_self)
    have w2 : Jvm.Cond.initialized x'.2.1.cls ∈ lw_tbl := hin _ (List.mem_cons_of_mem _ (List.mem_cons_of_mem _ List.mem_cons_self))
    have w3 : zmcode x' ∈ lw_tbl := hin _ (List.mem_cons_of_mem _ (List.mem_cons_of_mem _ (List.mem_cons_of_mem _ List.mem_cons_self)))
    have ht9 : ∀ w ∈ [zmcode x'], w.before args s = true := fun w hw => by rw [List.mem_singleton.mp hw]; exact zword hW w3 zmcode_good.1 args
    have cw := va_cnB (R := R) (s := s) (args := args) (ret := none) (rm := zRm x' (M1.1.2.2.1 - M.1.2.2.1) (M1.1.2.2.2 - M.1.2.2.2)) (ws' := []) (own := zcn x.1) (index := k) (y := x'.2.1) (zxN x') ht9 hG (by rw [hcode]) rfl rfl (zword hW w0 rfl #[]) (zword hW w2 rfl args) (zhd hP) hR9
    exact vx_runIN (As := ((st.take (zxN x')).reverse).map (zrv sz b)) ⟨hC.1, hC.2.1, hC.2.2.1, hC.2.2.2.2.2.2.1, ht9⟩ hM ⟨cw, hname, zword hW w1 rfl args⟩ ⟨zPc_blind, hpre⟩ rfl hAs hsz hstk hrm hd ⟨h1, h2⟩
end ZCB
