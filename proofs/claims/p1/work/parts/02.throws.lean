section XC
variable {p : Program} {l : Launch} {e : Env} {R : Room} {s : State} {m : MethodId} {args : Array Value} {below : List Frame} {meth : Method} {c : Code} {T : State} {locs : List Loc} {cells slots : Nat} {H : Heap}
/-- a callee that throws, from the point where it is invoked -/
theorem xt_in (X : Stand p l e R s m args below meth c T locs cells slots) {y : MethodName} {ws : List Cond} {rm : Room} {Pc : Array Value → State → Prop} {E : String} {mc ms maxL len : Nat} {bytes : ByteArray} {ret : Option FieldType} {ig : Instr} {mk : MethodId} {a : Array Value} {g : JFrame}
    (hM : xt_Met l y ws rm Pc E mc ms) (hbl : FrameBlind Pc) (hrc : rm.cells = mc) (hrs : rm.slots = ms) (hfr : rm.frames + 1 ≤ R.frames) (hlo : 8 + (maxL + 11) + rm.locals ≤ R.locals)
    (hws : ∀ w ∈ ws, ∀ (a' : Array Value) (U : State), s.WarmedH U.vm → w.before a' U = true) (hcw : Cond.code y bytes maxL ret ∈ ws) (hini : (Cond.initialized y.cls).before args s = true)
    (hg : g.method = m) (hsize : g.locals.size = c.maxLocals) (hdg : decode c.code g.pc = .ok (ig, len)) (hW : 2 * g.monitorRoom + (g.stack.map fun v => v.category).sum ≤ 8) (hn : T.methodNamed? y = some mk)
    (hcells : cells + mc ≤ R.cells) (hslots : slots + ms ≤ R.slots) (hP : Pc a T) :
    ∃ (x : Addr) (T' : State), Stand p l e R s m args below meth c T' locs (cells + mc) (slots + ms) ∧ (∃ cell : Cell, T'.heap[x]? = some cell ∧ cell.vm.isStatics = false ∧ T.vm.findClass E = some cell.cls) ∧ (∀ q : Nat, q < T.heap.size → T'.heap[q]? = T.heap[q]?) ∧
      Steps p.tables e below (doInvoke e (T.setTop g) [] mk a).1 ((T'.setTop g).pushFrame (.throwing x)) := by
  have h2 := hws _ hcw a T X.warmed
  have h3 : (Cond.initialized y.cls).before a T = true := word_at X.warmed (Or.inl (by first | rfl | simp [Cond.onTables, Cond.keeps, Cond.steady])) hini
  obtain ⟨methY, cY, hmY, hcY, -, hlY, -, -, -, -⟩ := Cond.code_spec hn h2
  obtain ⟨kY, hkY, -⟩ := className_of_methodNamed hn
  have hinitY : kY.init = .initialized := Cond.initialized_spec (findClass_of_methodNamed hn) hkY h3
  have h : At T g.method c below := by rw [hg]; exact X.here
  have happ : (headSpec ws rm).appliesLoose y e.platform (T.calling g mk a) = true :=
    Spec.appliesLoose_calling (g := g) h hdg hn hkY hinitY
      (X.room_calling (g := g) (R' := rm) hsize hmY hcY hfr (by rw [hlY]; omega) (by omega) (by omega)) (atoms_intro fun w hw => hws w hw _ _ X.warmed)
  obtain ⟨mid, hmid⟩ := h.above
  have hfr' : (T.setTop g).frames = (.java g :: mid) ++ below := by rw [State.frames_setTop' g h.top, hmid]; rfl
  obtain ⟨o, s₂, hsteps, -, hend, hq⟩ := Steps.callFree hM p X.admits X.cas X.clock (acts := []) hfr' happ (hbl _ _ _ _ hP) trivial
  have hq' : xt_Q E (T.calling g mk a) o s₂ ∧ FramedT (T.calling g mk a) o s₂ [] mc ms := hq
  obtain ⟨⟨x, rfl, ⟨cell, g1, g2, g3⟩, hold⟩, -, hW₂, hsame⟩ := hq'
  rw [State.frames_setTop' g h.top, X.tail] at hend
  obtain ⟨T', X', hW', hsame', ht⟩ := X.outOfThrown hg hend hW₂ hsame
  have hheap : s₂.heap = T'.heap := by rw [ht]; exact Stand.throwing_heap T' g x
  rw [List.append_nil] at X'
  rw [hheap] at g1 hold
  refine ⟨x, T', X', ⟨cell, g1, g2, g3⟩, hold, ?_⟩
  rw [← ht]
  exact hsteps
/-- a call that throws -/
def xt_Run (p : Program) (l : Launch) (e : Env) (R : Room) (s : State) (m : MethodId) (args : Array Value) (below : List Frame) (meth : Method) (c : Code) (H : Heap) (locs : List Loc) (cells slots mc ms : Nat) (g : JFrame) (rest : List Value) (E : String) : Prop :=
  ∀ T : State, T.heap = H → Stand p l e R s m args below meth c T locs cells slots → ∃ (x : Addr) (T' : State), Stand p l e R s m args below meth c T' locs (cells + mc) (slots + ms) ∧ (∃ cell : Cell, T'.heap[x]? = some cell ∧ cell.vm.isStatics = false ∧ s.vm.findClass E = some cell.cls) ∧ (∀ q : Nat, q < H.size → T'.heap[q]? = H[q]?) ∧
    ∀ tg, Steps p.tables e below ((T'.setTop { g with stack := rest }).pushFrame (.throwing x)) tg → Steps p.tables e below (T.setTop g) tg
variable {y : MethodName} {bytes cc : ByteArray} {maxL nL mc ms n index : Nat} {ret : Option FieldType} {ws : List Cond} {rm : Room} {Pc : Array Value → State → Prop} {E : String} {Ts : List Cond} {own C host : String} {b : Addr} {As rest : List Value} {g : JFrame}
theorem xt_runV (S : CallFix p m c cc nL s args Ts own) (hM : xt_Met l y ws rm Pc E mc ms) (cw : CallW R s args own C index y bytes maxL ret ws rm mc ms n) (hp : PreV s H C b Pc As)
    (hg : g.method = m) (hn : As.length = n) (hsize : g.locals.size = nL) (hstack : g.stack = As.reverse ++ .ref b :: rest) (hW : 2 * g.monitorRoom + (rest.map fun v => v.category).sum ≤ 8) (hdg : decode cc g.pc = .ok (.invokevirtual index, 3)) (hf : cells + mc ≤ R.cells ∧ slots + ms ≤ R.slots) :
    xt_Run p l e R s m args below meth c H locs cells slots mc ms g rest E := by
  obtain ⟨⟨hrc, hrs, hfr, hlo, hws, hcw, hcode, hini, hy, hlen, hlink⟩, hinst, hsel⟩ := cw
  obtain ⟨hx, hb, hml, hown, -⟩ := S
  obtain ⟨hbl, ⟨cellB, hcB, hoB, hclB⟩, hPc⟩ := hp
  intro T hT X
  subst hT
  obtain ⟨mk, methM, hnamed, hmethM, hstM, habM⟩ := Cond.instanceMethod_spec hinst
  obtain ⟨methM', cM, hmethM', -, -, -, -, -, -, hsigM⟩ := Cond.code_spec hnamed hcode
  cases hmethM.symm.trans hmethM'
  obtain ⟨c2, r2, m2, q1, q2, q3, q4, kP, hkP, hkPi⟩ := Cond.selects_spec hsel
  cases hclB.symm.trans q1
  cases (State.methodFound?_of_named hnamed hy).symm.trans q2
  cases hnamed.symm.trans q3
  have hselP : selectMethod e.platform s.vm cellB.cls mk = .method mk := by rw [Launch.admits_selectMethod X.admits]; exact q4
  obtain ⟨vm₁, X₁, hstep₁⟩ := X.invokevirtual hx hown hlink hnamed hmethM hstM hkP hkPi hy (a := b) (cell := cellB) hcB
    (fun z h => by rw [h] at hoB; cases hoB) hselP hmethM habM hkP hkPi (g := g) hg (argsL := As) (rest := rest) (hn.trans (hlen _ hsigM)) hstack (by rw [hb]; exact hdg)
  obtain ⟨x, T', X', ⟨cell, g1, g2, g3⟩, hold, hsteps⟩ := xt_in X₁ (g := { g with stack := rest }) (a := (Value.ref b :: As).toArray) (mk := mk) (ig := .invokevirtual index) (len := 3) hM hbl hrc hrs hfr hlo hws hcw hini hg (hsize.trans hml.symm) (by rw [hb]; exact hdg) hW (X₁.named hnamed) hf.1 hf.2 (hPc (T.setVm vm₁) rfl X₁.warmed)
  have g4 : s.vm.findClass E = some cell.cls := by rw [← X₁.warmed.alike.findClass]; exact g3
  exact ⟨x, T', X', ⟨cell, g1, g2, g4⟩, hold, fun tg h => hstep₁ _ fun acts => by rw [doInvoke_state]; exact hsteps.trans h⟩
/-- no handler here: the caller throws it on -/
theorem xt_pass {pc : Nat} {ls : Array Slot} {st0 : List Value} (hr : xt_Run p l e R s m args below meth c s.heap [] 0 0 mc ms (F0 m pc ls st0) rest E) (hno : c.exceptionTable.toList = []) (hlocks : meth.locks = false) :
    W p l e R s m args below meth c s.heap [] 0 0 (xt_MQ below E s mc ms) (F0 m pc ls st0) := by
  intro T hT X
  obtain ⟨x, T', X', ⟨cell, g1, g2, g3⟩, hold, st⟩ := hr T hT X
  obtain ⟨h1, h2, h3, h4, h5⟩ := X'.leaveThrown x (g := F0 m pc ls rest) rfl rfl rfl (fun z hz => by rw [hno] at hz; cases hz) hlocks
  rw [Nat.zero_add, Nat.zero_add] at h5
  exact ⟨_, st _ h1, .threw x, h2, h3, ⟨x, rfl, ⟨cell, g1, g2, g3⟩, hold⟩, ⟨x, rfl⟩, h4, h5⟩
end XC
section XN
variable {p : Program} {l : Launch} {e : Env} {R : Room} {s : State} {m : MethodId} {args : Array Value} {below : List Frame} {meth : Method} {c : Code} {cc : ByteArray}
/-- new X("..") and the throw of it, where nothing has been written yet -/
theorem xt_throw (hexec : p.tables.exec = Jvm.exec) (hb : c.code = cc) (hl : l.flags = pinnedFlags ++ [noTraceFlag]) {own X tx : String} {names : List String} {ia ib ic q pc : Nat} {ls : Array Slot}
    (hown : s.vm.findClass own = some m.cls) (hclink : (Cond.classLink own ia X).before args s = true) (hinit : (Cond.initialized X).before args s = true)
    (hX : Jvm.Bundle.fit X = true) (hnames : ∀ n ∈ names, Jvm.Bundle.fit n = true) (h : ∀ w ∈ Jvm.Bundle.ownAtoms own ic X names, w.before args s = true) (hZ : vk_R own ib tx q s) (hsz : ls.size = c.maxLocals)
    (hd0 : decode cc pc = .ok (.new ia, 3)) (hd3 : decode cc (pc + 3) = .ok (.dup, 1)) (hd4 : decode cc (pc + 4) = .ok (.ldc ib, 2)) (hd6 : decode cc (pc + 6) = .ok (.invokespecial ic, 3)) (hd9 : decode cc (pc + 9) = .ok (.athrow, 1))
    (hno : c.exceptionTable.toList = []) (hlocks : meth.locks = false) (hRc : 1 ≤ R.cells) (hRs : 6 ≤ R.slots) (hRf : names.length + 3 < R.frames) (hRl : 43 + 13 * (names.length + 1) ≤ R.locals) :
    W p l e R s m args below meth c s.heap [] 0 0 (xt_MQ below X s 1 6) (F0 m pc ls []) := by
  refine W.newc (n := 6) hexec hb hown hclink (h (.instantiable X 6) (by simp [Jvm.Bundle.ownAtoms])) hinit rfl hd0 (by omega) (by omega) (fun cC kC h1 h2 h3 h4 => ?_)
  refine W.eq (g2 := F0 m (pc + 3) ls [.ref s.heap.size]) rfl ?_
  refine lv_dup hexec hb hd3 rfl ?_
  refine va_ldcS hexec hb hown hZ hd4 ?_
  intro T hT X1
  obtain ⟨U, hst, hrun, hend, hW, hsame, ce, hce, hoc⟩ := X1.ctorThrowS hexec (Launch.traces_off hl X1.admits) hown hX hnames h (fun x hx => by cases hx) h1 h2 (a := s.heap.size) (by rw [hT]; simp [freshCell]) (Nat.le_refl _) (msg := .ref q) rfl
    (g := F0 m (pc + 6) ls [.ref q, .ref s.heap.size, .ref s.heap.size]) rfl hsz rfl rfl (rest := []) rfl (by rw [hb]; exact hd6) (by rw [hb]; exact hd9) (by rw [hno]; intro x hx; cases hx) hRf (by simp [Value.category]; omega) hlocks
  exact ⟨U, hst, .threw _, hrun, hend, ⟨_, rfl, ⟨ce, hce, by rw [hoc.vm]; rfl, hoc.cls⟩, xt_old hsame⟩, ⟨_, rfl⟩, hW, hsame⟩
end XN
section XF
/-- what the search of a handler finds, and in which tables it leaves the machine -/
def xf_Finds (e : Env) (s : State) (f : JFrame) (a : Addr) (h : Handler) (s' : State) : Prop := ∀ (Q : Handler → Jvm.Pre) (E : Jvm.CtlPost) (d : Bool) (acts : List Action), Sem.wp (findHandler f a) Q E e d acts s ↔ Q h d acts s'
theorem xf_step {e : Env} {s s' : State} {a : Addr} {f : JFrame} {r : List Frame} {pc : Nat} (hfind : xf_Finds e s f a (.found pc) s') :
    (stepThrowing e s a (.java f :: r)).Is (s'.setFrames (.java { f with pc := pc, stack := [.ref a] } :: r)) [] := by
  have hfind' : ∀ (Q : Handler → Jvm.Pre) (E : Jvm.CtlPost) (d : Bool) (acts : List Action), Sem.wp (findHandler f a) Q E e d acts s ↔ Q (.found pc) d acts s' := hfind
  simp only [stepThrowing, searchFrame, vmDo]
  generalize hr : Sem.go _ e false [] s = res
  obtain ⟨as, rfl, ha⟩ := Sem.eq_ok_of hr (a := Handler.found pc) (s' := s') (acts' := []) (by simp [hfind'])
  exact ⟨rfl, ha⟩
theorem xf_caught {tb : Tables} {e : Env} {s target : State} {g : JFrame} {c : Code} {below : List Frame} {a : Addr} {vm' : Vm} (h : At s g.method c below) {pc : Nat}
    (hfind : xf_Finds e ((s.setTop g).pushFrame (.throwing a)) g a (.found pc) (((s.setTop g).pushFrame (.throwing a)).setVm vm'))
    (hrest : Steps tb e below ((s.setVm vm').setTop { g with pc := pc, stack := [.ref a] }) target) : Steps tb e below ((s.setTop g).pushFrame (.throwing a)) target := by
  obtain ⟨hgo, hw⟩ := h.throwing a
  refine Steps.head hgo hw ?_
  rw [stepThread_throwing (frames_entered h.top _), (xf_step (s := (s.setTop g).pushFrame (.throwing a)) hfind).1]
  obtain ⟨g₀, hg⟩ := Option.isSome_iff_exists.mp h.top
  obtain ⟨r, hr⟩ := State.topJava?_eq_some.mp hg
  have e1 : (((s.setTop g).pushFrame (.throwing a)).setVm vm').setFrames (.java { g with pc := pc, stack := [.ref a] } :: s.frames.tail) = (s.setVm vm').setTop { g with pc := pc, stack := [.ref a] } := by
    have hr' : (s.setVm vm').frames = .java g₀ :: r := hr
    rw [State.setTop_of_frames _ hr', hr, State.pushFrame, State.setTop_of_frames _ hr]
    show (((s.setFrames _).setFrames _).setFrames _).setVm vm' = (s.setFrames _).setVm vm'
    rw [State.setFrames_setFrames, State.setFrames_setFrames]
    rfl
  rw [e1]
  exact hrest
/-- a row of the table that covers the place: its entry may still be open -/
theorem xf_cold {Q : Handler → Jvm.Pre} {E : Jvm.CtlPost} {e : Env} {d : Bool} {acts : List Action} {s : State} {f : JFrame} {a : Addr} {x : ExceptionTableEntry} {t : List ExceptionTableEntry} {c : ClassId} {vm' : Vm} (hx : covers x f.pc = true) (h0 : x.catchType ≠ 0)
    (hg : (Jvm.resolveClass f.method.cls x.catchType).Gives e.toSetting s.vm (.ok c) vm') (hr : vm'.classReady f.method.cls x.catchType c) (hsz : vm'.classes.size ≤ s.vm.classes.size) :
    Sem.wp (findHandler.go f a (x :: t)) Q E e d acts s ↔ Sem.wp (findHandler.go f a (x :: t)) Q E e d acts (s.setVm vm') := by
  obtain ⟨ha, ht⟩ := hg.op (op := VmOp.resolveClass f.method.cls x.catchType) rfl
  obtain ⟨k, hkd, hres⟩ := hr
  obtain ⟨hb1, hb2⟩ := resolveClass_memo e (vm := vm') hkd hres
  simp only [covers] at hx
  have h1 : ((VmOp.resolveClass f.method.cls x.catchType).tables e s.vm).classes.size ≤ s.vm.classes.size := by rw [ht]; exact hsz
  have h2 : ((VmOp.resolveClass f.method.cls x.catchType).tables e (s.setVm vm').vm).classes.size ≤ (s.setVm vm').vm.classes.size := by
    show ((VmOp.resolveClass f.method.cls x.catchType).tables e vm').classes.size ≤ vm'.classes.size
    rw [hb2]; exact Nat.le_refl _
  have e2 : (s.setVm vm').vm = vm' := rfl
  have e3 : (s.setVm vm').setVm vm' = s.setVm vm' := rfl
  simp only [findHandler.go, hx, if_true, wp_bind', beq_iff_eq, h0, if_false]
  rw [Jvm.W.vmOp_same _ h1, Jvm.W.vmOp_same _ h2, ha, ht, e2, hb1, hb2, e3]
end XF
section XH
theorem xf_asg {A B : String} {s : State} {a : Array Value} (h : (Cond.castable A B).before a s = true) {cA cB : ClassId} (hA : s.vm.findClass A = some cA) (hB : s.vm.findClass B = some cB) : s.vm.assignable cA cB = true := by
  obtain ⟨c, t, h1, h2, h3⟩ := Cond.castable_spec (show (Cond.castable A B).holds a s none s [] = true from h)
  cases h1.symm.trans hA
  cases h2.symm.trans hB
  exact h3
theorem xf_nasg {A B : String} {s : State} {a : Array Value} (h : (Cond.not (.castable A B)).before a s = true) {cA cB : ClassId} (hA : s.vm.findClass A = some cA) (hB : s.vm.findClass B = some cB) : s.vm.assignable cA cB = false := by
  simp only [Cond.before, Cond.holds, Cond.value, hA, hB] at h
  simpa using h
/-- one row of the table that covers the place -/
theorem xf_one {Q : Handler → Jvm.Pre} {E : Jvm.CtlPost} {e : Env} {d : Bool} {acts : List Action} {S : State} {f : JFrame} {a : Addr} {x : ExceptionTableEntry} {t : List ExceptionTableEntry} {c : ClassId} {cell : Cell} {vm' : Vm} (hx : covers x f.pc = true) (h0 : x.catchType ≠ 0)
    (hg : (Jvm.resolveClass f.method.cls x.catchType).Gives e.toSetting S.vm (.ok c) vm') (hr : vm'.classReady f.method.cls x.catchType c) (hsz : vm'.classes.size ≤ S.vm.classes.size)
    (hcell : S.heap[a]? = some cell) (hst : cell.vm.isStatics = false) (hk : ∃ k, vm'.classes[cell.cls]? = some k) (hc : ∃ k, vm'.classes[c]? = some k) :
    Sem.wp (findHandler.go f a (x :: t)) Q E e d acts S ↔ if vm'.assignable cell.cls c = true then Q (.found x.handlerPc) d acts (S.setVm vm') else Sem.wp (findHandler.go f a t) Q E e d acts (S.setVm vm') := by
  rw [xf_cold hx h0 hg hr hsz]
  exact Jvm.W.findHandler_go_class (s := S.setVm vm') hx h0 hr hcell (VmData.ne_statics_of hst) hk hc
variable {p : Program} {l : Launch} {e : Env} {R : Room} {s : State} {m : MethodId} {args : Array Value} {below : List Frame} {meth : Method} {c : Code} {T : State} {locs : List Loc} {cells slots : Nat} {H : Heap} {Q : State → Prop}
/-- the first row takes it -/
theorem xf_first (X : Stand p l e R s m args below meth c T locs cells slots) {own E C : String} {a : Addr} {cell : Cell} {g : JFrame} {s1 e1 h1 t1 : Nat} {hh : List (Nat × Nat × Nat × Nat)} (htab : c.exceptionTable.toList.map (fun h => (h.startPc, h.endPc, h.handlerPc, h.catchType)) = (s1, e1, h1, t1) :: hh)
    (hg : g.method = m) (hpc : (decide (s1 ≤ g.pc) && decide (g.pc < e1)) = true) (h0 : t1 ≠ 0) (hown : s.vm.findClass own = some m.cls) (hcl : (Cond.classLink own t1 C).before args s = true) (hcast : (Cond.castable E C).before args s = true) (hcell : T.heap[a]? = some cell) (hst : cell.vm.isStatics = false) (hE : s.vm.findClass E = some cell.cls) :
    ∃ vm', Stand p l e R s m args below meth c (T.setVm vm') locs cells slots ∧ ∀ tg, Steps p.tables e below ((T.setVm vm').setTop { g with pc := h1, stack := [.ref a] }) tg → Steps p.tables e below ((T.setTop g).pushFrame (.throwing a)) tg := by
  subst hg
  have hpl : e.platform.magicAccessors = ({} : Platform).magicAccessors := by rw [X.admits.platform]
  obtain ⟨cc, hfcc, hcl'⟩ := Cond.classLink_spec hown hcl e.platform hpl
  obtain ⟨hg₁, hwarm₁, hready₁⟩ := State.classEntry (e := e) X.warmed hcl'
  have hsz : (T.vm.noted g.method.cls t1 (.cls cc)).classes.size ≤ T.vm.classes.size := by rw [Vm.size_noted]; exact Nat.le_refl _
  generalize T.vm.noted g.method.cls t1 (.cls cc) = vm₁ at hg₁ hwarm₁ hready₁ hsz
  obtain ⟨x, xs, hx1, hx2, hx3⟩ := List.map_eq_cons_iff.mp htab
  simp only [Prod.mk.injEq] at hx2
  obtain ⟨rfl, rfl, rfl, rfl⟩ := hx2
  refine ⟨vm₁, X.noted hwarm₁, fun tg h => xf_caught (c := c) X.here (vm' := vm₁) ?_ h⟩
  intro Q E d acts
  rw [Jvm.W.findHandler_eq (meth := meth) (code := c) (by rw [Stand.throwing_vm]; exact X.method') X.code, hx1,
    xf_one (vm' := vm₁) (c := cc) (cell := cell) hpc h0 (by rw [Stand.throwing_vm]; exact hg₁) hready₁ (by rw [Stand.throwing_vm]; exact hsz) (by rw [Stand.throwing_heap]; exact hcell) hst (Vm.classAt_of_findClass (by rw [hwarm₁.alike.findClass]; exact hE)) (Vm.classAt_of_findClass (by rw [hwarm₁.alike.findClass]; exact hfcc)),
    if_pos (by rw [hwarm₁.alike.assignable]; exact xf_asg hcast hE hfcc)]
/-- the first row is of another kind, the second takes it -/
theorem xf_second (X : Stand p l e R s m args below meth c T locs cells slots) {own E C C2 : String} {a : Addr} {cell : Cell} {g : JFrame} {s1 e1 h1 t1 s2 e2 h2 t2 : Nat} {hh : List (Nat × Nat × Nat × Nat)} (htab : c.exceptionTable.toList.map (fun h => (h.startPc, h.endPc, h.handlerPc, h.catchType)) = (s1, e1, h1, t1) :: (s2, e2, h2, t2) :: hh)
    (hg : g.method = m) (hpc : (decide (s1 ≤ g.pc) && decide (g.pc < e1)) = true) (h0 : t1 ≠ 0) (hpc2 : (decide (s2 ≤ g.pc) && decide (g.pc < e2)) = true) (h02 : t2 ≠ 0) (hown : s.vm.findClass own = some m.cls) (hcl : (Cond.classLink own t1 C).before args s = true) (hcl2 : (Cond.classLink own t2 C2).before args s = true) (hcast : (Cond.not (.castable E C)).before args s = true) (hcast2 : (Cond.castable E C2).before args s = true) (hcell : T.heap[a]? = some cell) (hst : cell.vm.isStatics = false) (hE : s.vm.findClass E = some cell.cls) :
    ∃ vm', Stand p l e R s m args below meth c (T.setVm vm') locs cells slots ∧ ∀ tg, Steps p.tables e below ((T.setVm vm').setTop { g with pc := h2, stack := [.ref a] }) tg → Steps p.tables e below ((T.setTop g).pushFrame (.throwing a)) tg := by
  subst hg
  have hpl : e.platform.magicAccessors = ({} : Platform).magicAccessors := by rw [X.admits.platform]
  obtain ⟨cc, hfcc, hcl'⟩ := Cond.classLink_spec hown hcl e.platform hpl
  obtain ⟨cc2, hfcc2, hcl2'⟩ := Cond.classLink_spec hown hcl2 e.platform hpl
  obtain ⟨hg₁, hwarm₁, hready₁⟩ := State.classEntry (e := e) X.warmed hcl'
  have hsz : (T.vm.noted g.method.cls t1 (.cls cc)).classes.size ≤ T.vm.classes.size := by rw [Vm.size_noted]; exact Nat.le_refl _
  generalize T.vm.noted g.method.cls t1 (.cls cc) = vm₁ at hg₁ hwarm₁ hready₁ hsz
  obtain ⟨hg₂, hwarm₂, hready₂⟩ := State.classEntry (e := e) hwarm₁ hcl2'
  have hsz2 : (vm₁.noted g.method.cls t2 (.cls cc2)).classes.size ≤ vm₁.classes.size := by rw [Vm.size_noted]; exact Nat.le_refl _
  generalize vm₁.noted g.method.cls t2 (.cls cc2) = vm₂ at hg₂ hwarm₂ hready₂ hsz2
  obtain ⟨x, xs, hx1, hx2, hx3⟩ := List.map_eq_cons_iff.mp htab
  obtain ⟨x', xs', hy1, hy2, hy3⟩ := List.map_eq_cons_iff.mp hx3
  subst hy1
  simp only [Prod.mk.injEq] at hx2 hy2
  obtain ⟨rfl, rfl, rfl, rfl⟩ := hx2
  obtain ⟨rfl, rfl, rfl, rfl⟩ := hy2
  refine ⟨vm₂, X.noted hwarm₂, fun tg h => xf_caught (c := c) X.here (vm' := vm₂) ?_ h⟩
  intro Q E d acts
  rw [Jvm.W.findHandler_eq (meth := meth) (code := c) (by rw [Stand.throwing_vm]; exact X.method') X.code, hx1,
    xf_one (vm' := vm₁) (c := cc) (cell := cell) hpc h0 (by rw [Stand.throwing_vm]; exact hg₁) hready₁ (by rw [Stand.throwing_vm]; exact hsz) (by rw [Stand.throwing_heap]; exact hcell) hst (Vm.classAt_of_findClass (by rw [hwarm₁.alike.findClass]; exact hE)) (Vm.classAt_of_findClass (by rw [hwarm₁.alike.findClass]; exact hfcc)),
    if_neg (by rw [hwarm₁.alike.assignable, xf_nasg hcast hE hfcc]; decide),
    xf_one (S := ((T.setTop g).pushFrame (Frame.throwing a)).setVm vm₁) (vm' := vm₂) (c := cc2) (cell := cell) hpc2 h02 hg₂ hready₂ hsz2 (by show ((T.setTop g).pushFrame (Frame.throwing a)).heap[a]? = _; rw [Stand.throwing_heap]; exact hcell) hst (Vm.classAt_of_findClass (by rw [hwarm₂.alike.findClass]; exact hE)) (Vm.classAt_of_findClass (by rw [hwarm₂.alike.findClass]; exact hfcc2)),
    if_pos (by rw [hwarm₂.alike.assignable]; exact xf_asg hcast2 hE hfcc2)]
  exact Iff.rfl
/-- a call that throws, and the handler that takes it: the walk goes on there; old cells are as they were -/
theorem xt_catch {mc ms pc hpc : Nat} {ls : Array Slot} {st0 rest : List Value} {E : String} (hr : xt_Run p l e R s m args below meth c H locs cells slots mc ms (F0 m pc ls st0) rest E)
    (hf : ∀ (T : State) (a : Addr) (cell : Cell), Stand p l e R s m args below meth c T locs (cells + mc) (slots + ms) → T.heap[a]? = some cell → cell.vm.isStatics = false → s.vm.findClass E = some cell.cls →
      ∃ vm', Stand p l e R s m args below meth c (T.setVm vm') locs (cells + mc) (slots + ms) ∧ ∀ tg, Steps p.tables e below ((T.setVm vm').setTop (F0 m hpc ls [.ref a])) tg → Steps p.tables e below ((T.setTop (F0 m pc ls rest)).pushFrame (.throwing a)) tg)
    (kk : ∀ (H1 : Heap) (x : Addr), (∀ q : Nat, q < H.size → H1[q]? = H[q]?) → W p l e R s m args below meth c H1 locs (cells + mc) (slots + ms) Q (F0 m hpc ls [.ref x])) : W p l e R s m args below meth c H locs cells slots Q (F0 m pc ls st0) := by
  intro T hT X
  obtain ⟨x, T', X', ⟨cell, g1, g2, g3⟩, hold, st⟩ := hr T hT X
  obtain ⟨vm', X2, st2⟩ := hf T' x cell X' g1 g2 g3
  obtain ⟨t, a1, b1⟩ := kk T'.heap x hold (T'.setVm vm') rfl X2
  exact ⟨t, st _ (st2 _ a1), b1⟩
end XH
