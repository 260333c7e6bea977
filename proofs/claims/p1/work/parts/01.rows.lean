/-! The tables' words that stay under warmer tables, as one list; contracts over them. -/
def xw_ok (w : Cond) : Bool := goodWord w || (match w with
  | .arrayOver (.object _) => true
  | .methodLinkNest .. => true
  | .declares _ => true
  | .castable .. => true
  | _ => false)
theorem xw_warm {w : Cond} {s U : State} (hc : xw_ok w = true) (hW : s.WarmedH U.vm) {a a' : Array Value} (h : w.before a s = true) : w.before a' U = true := by
  by_cases hk : goodWord w = true
  · exact word_at hW (good_of_word hk) h
  · cases w with
    | arrayOver ty => cases ty with
      | object C => exact va_AO.use (va_AO.moved hW.alike (va_AO.of h))
      | _ => simp_all [xw_ok]
    | methodLinkNest a b c d => exact va_Nw.use rfl (va_Nw.warmM hW (va_Nw.of rfl h))
    | declares x => exact va_Nw.use rfl (va_Nw.warmD hW (va_Nw.of rfl h))
    | castable C T => exact va_Nw.use rfl (va_Nw.warmC hW (va_Nw.of rfl h))
    | _ => simp_all [xw_ok]
def xw_T : List Cond := lw_tbl.filter xw_ok
def xw_Tb (U : State) : Prop := ∀ w ∈ xw_T, w.before #[] U = true
theorem xw_Tb.warm {s U : State} (h : xw_Tb s) (hW : s.WarmedH U.vm) : xw_Tb U := fun w hw => xw_warm (List.mem_filter.mp hw).2 hW (h w hw)
theorem xw_Tb.at {s : State} {args : Array Value} (h : xw_Tb s) : ∀ w ∈ xw_T, w.before args s = true := fun w hw => xw_warm (List.mem_filter.mp hw).2 (State.WarmedH.refl s) (h w hw)
theorem xw_in {w : Cond} (i : Nat) (h : tables_1[i]? = some w) (hc : xw_ok w = true) : w ∈ xw_T := List.mem_filter.mpr ⟨List.mem_append_right _ (List.mem_of_getElem? h), hc⟩
theorem xw_se {w : Cond} (i : Nat) (h : (k2_sels lw_privs)[i]? = some w) (hc : xw_ok w = true) : w ∈ xw_T := List.mem_filter.mpr ⟨List.mem_append_left _ (List.mem_of_getElem? h), hc⟩
/-- the tables, and the kinds of the cells -/
def xK (D : va_G) (cl : List vw_C) (tys : List (ClassId × FieldType)) (U : State) : Prop := xw_Tb U ∧ va_K D cl tys U
theorem xK.warm {D : va_G} {cl : List vw_C} {tys : List (ClassId × FieldType)} {s U : State} (h : xK D cl tys s) (hW : s.WarmedH U.vm) : xK D cl tys U := ⟨h.1.warm hW, h.2.moved hW.alike⟩
theorem xK.blind {D : va_G} {cl : List vw_C} {tys : List (ClassId × FieldType)} {U : State} (h : xK D cl tys U) (g : JFrame) (mk : MethodId) (a : Array Value) : xK D cl tys (U.calling g mk a) := h.warm (U := U.calling g mk a) (State.WarmedH.refl U)
/-- what a method's own words say of it -/
def xm_ok (y : MethodName) (bytes : ByteArray) (maxL : Nat) (ret : Option FieldType) (n : Nat) : Prop := Cond.code y bytes maxL ret ∈ xw_T ∧ Cond.initialized y.cls ∈ xw_T ∧ (y.cls ≠ "java/lang/invoke/MethodHandle" ∧ y.cls ≠ "java/lang/invoke/VarHandle" ∧ (parseMethodDescriptor y.desc).map (fun d => d.parameters.length) = some n)
section XB
variable {R : Room} {s : State} {args : Array Value} {own host : String} {index maxL mc ms n : Nat} {y : MethodName} {bytes : ByteArray} {ret : Option FieldType} {rm : Room}
theorem xm_B (hT : xw_Tb s) (hm : xm_ok y bytes maxL ret n) (hrc : rm.cells = mc) (hrs : rm.slots = ms) (hl : Cond.methodLink own index y ∈ xw_T) (hR : rm.frames + 1 ≤ R.frames ∧ 8 + (maxL + 11) + rm.locals ≤ R.locals) :
    CallB R s args own index y bytes maxL ret [.code y bytes maxL ret] rm mc ms n := by
  refine ⟨hrc, hrs, hR.1, hR.2, fun w hw a' U hW => ?_, List.mem_cons_self, hT.at _ hm.1, hT.at _ hm.2.1, ⟨hm.2.2.1, hm.2.2.2.1⟩, fun sig h => ?_, hT.at _ hl⟩
  · have e : w = Cond.code y bytes maxL ret := by simpa using hw
    subst e
    exact (hT.warm hW).at _ hm.1
  · have h2 := hm.2.2.2.2
    rw [h] at h2
    exact (Option.some.inj h2).symm
theorem xm_N (hT : xw_Tb s) (hm : xm_ok y bytes maxL ret n) (hrc : rm.cells = mc) (hrs : rm.slots = ms) (hl : Cond.methodLinkNest own index y host ∈ xw_T) (hR : rm.frames + 1 ≤ R.frames ∧ 8 + (maxL + 11) + rm.locals ≤ R.locals) :
    va_CN R s args own index y host bytes maxL ret [.code y bytes maxL ret] rm mc ms n := by
  refine ⟨⟨hrc, hrs, hR.1, hR.2, fun w hw a' U hW => ?_, List.mem_cons_self⟩, hT.at _ hm.1, hT.at _ hm.2.1, ⟨hm.2.2.1, hm.2.2.2.1⟩, fun sig h => ?_, hT.at _ hl⟩
  · have e : w = Cond.code y bytes maxL ret := by simpa using hw
    subst e
    exact (hT.warm hW).at _ hm.1
  · have h2 := hm.2.2.2.2
    rw [h] at h2
    exact (Option.some.inj h2).symm
end XB
/-! Rows of my own: contracts that only read, contracts that end in a throw, the search of a handler. -/
/-- reads alone: the answer, and not a cell moved -/
def xr_Q (v : Option Value) : Array Value → State → Outcome → State → Prop := fun _ st o t => o = .returned v ∧ t.heap = st.heap
/-- .. an answer of which P alone is known -/
def xr_P (P : Option Value → Prop) : Array Value → State → Outcome → State → Prop := fun _ st o t => (∃ v, o = .returned v ∧ P v) ∧ t.heap = st.heap
/-- it throws an object of the named kind, and no old cell has changed -/
def xt_Q (E : String) (st : State) (o : Outcome) (t : State) : Prop := ∃ x : Addr, o = .threw x ∧ (∃ cell : Cell, t.heap[x]? = some cell ∧ cell.vm.isStatics = false ∧ st.vm.findClass E = some cell.cls) ∧ ∀ q : Nat, q < st.heap.size → t.heap[q]? = st.heap[q]?
def xt_Met (l : Launch) (y : MethodName) (ws : List Cond) (rm : Room) (Pc : Array Value → State → Prop) (E : String) (mc ms : Nat) : Prop :=
  MetFree l y (headSpec ws rm) Pc (fun _ _ _ _ _ => True) (fun _ st o t => xt_Q E st o t ∧ FramedT st o t [] mc ms)
def xt_MQ (below : List Frame) (E : String) (s : State) (mc ms : Nat) : State → Prop := fun t => ∃ o, t.status = .running ∧ Ended t below o ∧ xt_Q E s o t ∧ FramedT s o t [] mc ms
/-- nothing written: every old cell is as it was -/
theorem xt_old {s t : State} {k n : Nat} (h : s.sameButNew ({ t with vm := s.vm } : State) [] k n) : ∀ q : Nat, q < s.heap.size → t.heap[q]? = s.heap[q]? := by
  intro q hq
  have hc : s.heap[q]? = some s.heap[q] := Array.getElem?_eq_getElem hq
  obtain ⟨c', h1, h2, h3, h4⟩ := h.2.2.2.2.2 q _ hc
  have hs : c'.slots = (s.heap[q]).slots := Array.ext_getElem? (fun i => h4 i (by simp))
  have e : c' = s.heap[q] := by rw [h2, hs]
  rw [hc, ← e]
  exact h1
section XR
variable {p : Program} {l : Launch} {e : Env} {R : Room} {s : State} {m : MethodId} {args : Array Value} {below : List Frame} {meth : Method} {c : Code} {H : Heap} {locs : List Loc} {cells slots : Nat} {Q : State → Prop}
variable {cc : ByteArray} {pc : Nat} {ls : Array Slot} {st0 rest : List Value} {a : Array Value}
theorem xr_call {v : Option Value} (hr : va_Run p l e R s m args below meth c H locs cells slots 0 0 (F0 m pc ls st0) rest (xr_Q v a) (fun _ => False))
    (kk : W p l e R s m args below meth c H locs cells slots Q (F0 m (pc + 3) ls (v.toList ++ rest))) : W p l e R s m args below meth c H locs cells slots Q (F0 m pc ls st0) := by
  intro T hT X
  obtain ⟨v', st₀, t, T', L, h0, X', hL, e1, e2, ⟨hv, hh⟩, st⟩ := hr T hT X
  cases hv
  obtain ⟨t2, a1, b1⟩ := kk T' (by rw [e1, hh, h0]) (Stand.forget X' (fun q h => (hL q h).elim))
  exact ⟨t2, st t2 a1, b1⟩
theorem xr_callP {P : Option Value → Prop} (hr : va_Run p l e R s m args below meth c H locs cells slots 0 0 (F0 m pc ls st0) rest (xr_P P a) (fun _ => False))
    (kk : ∀ v, P v → W p l e R s m args below meth c H locs cells slots Q (F0 m (pc + 3) ls (v.toList ++ rest))) : W p l e R s m args below meth c H locs cells slots Q (F0 m pc ls st0) := by
  intro T hT X
  obtain ⟨v', st₀, t, T', L, h0, X', hL, e1, e2, ⟨⟨v, hv, hp⟩, hh⟩, st⟩ := hr T hT X
  cases hv
  obtain ⟨t2, a1, b1⟩ := kk _ hp T' (by rw [e1, hh, h0]) (Stand.forget X' (fun q h => (hL q h).elim))
  exact ⟨t2, st t2 a1, b1⟩
end XR
section XT
variable {l : Launch}
/-- no handlers in a method that the plain word of its code names -/
theorem xt_noH {p : Program} {y : MethodName} {S : Spec} {cc : ByteArray} {maxL : Nat} {ret : Option FieldType} {e : Env} {s : State} {m : MethodId} {args : Array Value} {below : List Frame} {meth : Method} {c : Code} {s₁ : State}
    (B : BodyLoose p l y S cc maxL ret e s m args below meth c s₁) (hc : (Cond.code y cc maxL ret).before args s = true) : c.exceptionTable.toList = [] := by
  obtain ⟨meth', c', h1, h2, -, -, -, -, h7, -⟩ := Cond.code_spec B.named hc
  cases B.method.symm.trans h1
  have X : Stand p l e S.room s m args below meth c s₁ [] 0 0 := Stand.of_body B
  cases X.code.symm.trans h2
  simpa using h7
theorem xt_ofW {y : MethodName} {ws ws' : List Cond} {rm : Room} {Pc : Array Value → State → Prop} {E : String} {mc ms : Nat} {cc : ByteArray} {maxL : Nat} {ret : Option FieldType}
    (hy : plainName y.cls = true) (hw : ws = Cond.code y cc maxL ret :: ws')
    (body : ∀ p e s m args below meth c s₁, BodyLoose p l y (headSpec ws rm) cc maxL ret e s m args below meth c s₁ → c.maxLocals = maxL → c.exceptionTable.toList = [] → Pc args s →
      W p l e (headSpec ws rm).room s m args below meth c s.heap [] 0 0 (xt_MQ below E s mc ms) (entryFrame m args maxL)) : xt_Met l y ws rm Pc E mc ms := by
  refine MetFree.of_bodyS (code := cc) (maxLocals := maxL) (ret := ret) hy ?_ ?_
  · intro args s m h hn
    obtain ⟨meth, c, h1, h2, h3, h4, h5, h6, -, -⟩ := Cond.code_spec hn (atoms_spec (ws := ws) h _ (by rw [hw]; exact List.mem_cons_self))
    exact ⟨meth, c, h1, h2, h3, h4, h5, h6⟩
  · intro p e s m args below meth c s₁ B hml hP _
    have hh0 : s₁.heap = s.heap := by rw [B.state]; rfl
    have hno := xt_noH B (atoms_spec (ws := ws) B.pre _ (by rw [hw]; exact List.mem_cons_self))
    obtain ⟨t, a1, o, b1, b2, b3, b4⟩ := body p e s m args below meth c s₁ B hml hno hP s₁ hh0 (Stand.of_body B)
    exact ⟨t, o, a1, b1, b2, ⟨b3, b4⟩⟩
end XT
/-- where a walk stands: the machine, the code, the tables -/
def xF (p : Program) (m : MethodId) (c : Code) (cc : ByteArray) (nL : Nat) (s : State) (own : String) (D : va_G) (cl : List vw_C) (tys : List (ClassId × FieldType)) : Prop :=
  p.tables.exec = Jvm.exec ∧ c.code = cc ∧ c.maxLocals = nL ∧ s.vm.findClass own = some m.cls ∧ xK D cl tys s
/-- a contract that only reads -/
def xr_C (l : Launch) (D : va_G) (cl : List vw_C) (tys : List (ClassId × FieldType)) (y : MethodName) (bytes : ByteArray) (maxL : Nat) (ret : Option FieldType) (rm : Room) (av : List Value) (wc : va_W) (Qc : Array Value → State → Outcome → State → Prop) : Prop :=
  Met l y [.code y bytes maxL ret] rm (va_Pc av (fun U => xK D cl tys U ∧ va_P D cl wc U.heap)) Qc 0 0 (fun _ => False)
/-- a contract that writes into its cells, and makes some -/
def xe_C (l : Launch) (D : va_G) (cl : List vw_C) (tys : List (ClassId × FieldType)) (y : MethodName) (bytes : ByteArray) (maxL : Nat) (ret : Option FieldType) (rm : Room) (av : List Value) (wc : va_W) (Qc : (Nat → Prop) → Array Value → State → Outcome → State → Prop) (mc ms : Nat) : Prop :=
  ∀ sz : Nat, Met l y [.code y bytes maxL ret] rm (va_Pc av (fun U => U.heap.size = sz ∧ xK D cl tys U ∧ va_P D cl wc U.heap ∧ va_D (fun _ => True) wc)) (Qc (va_A wc sz)) mc ms (va_A wc sz)
def xe_v {S : Type} (D : va_G) (cl : List vw_C) (post : S → Prop) (w1 : S → va_W) (A : Nat → Prop) : Array Value → State → Outcome → State → Prop := va_Qv post (fun u t => va_P D cl (w1 u) t.heap ∧ va_D A (w1 u)) A
def xe_i {S : Type} (D : va_G) (cl : List vw_C) (post : Int32 → S → Prop) (w1 : S → va_W) (A : Nat → Prop) : Array Value → State → Outcome → State → Prop := va_Qi post (fun u t => va_P D cl (w1 u) t.heap ∧ va_D A (w1 u)) A
section XO
variable {l : Launch} {D : va_G} {cl : List vw_C} {tys : List (ClassId × FieldType)} {y : MethodName} {bytes : ByteArray} {maxL : Nat} {ret : Option FieldType} {rm : Room} {av : List Value} {wc : va_W} {mc ms : Nat}
theorem xr_of {Qc : Array Value → State → Outcome → State → Prop} (hy : plainName y.cls = true) (hn : (lg_sl av).length ≤ maxL)
    (body : ∀ (p : Program) (e : Env) (s : State) (m : MethodId) (below : List Frame) (meth : Method) (c : Code) (ls : Array Slot), xF p m c bytes maxL s y.cls D cl tys → meth.sig.returnType = ret → meth.locks = false → va_P D cl wc s.heap → lv_has ls maxL (lv_args 0 av) →
      W p l e rm s m av.toArray below meth c s.heap [] 0 0 (MQ below Qc av.toArray s 0 0 (fun _ => False)) (F0 m 0 ls [])) : xr_C l D cl tys y bytes maxL ret rm av wc Qc := by
  refine Met.ofW (cc := bytes) (maxL := maxL) (ret := ret) hy rfl ?_
  intro p e s m args below meth c s₁ B hml hv
  obtain ⟨rfl, hK, hP⟩ := hv
  have hl := lv_entry av (n := maxL) hn
  rw [lg_entry_eq]
  generalize (lg_sl av ++ List.replicate (maxL - (lg_sl av).length) Slot.unset).toArray = ls at hl ⊢
  exact body p e s m below meth c ls ⟨B.exec, B.bytes, hml, findClass_of_methodNamed B.named, hK⟩ B.returns B.notSynchronized hP hl
theorem xe_of {Qc : (Nat → Prop) → Array Value → State → Outcome → State → Prop} (hy : plainName y.cls = true) (hn : (lg_sl av).length ≤ maxL)
    (body : ∀ (p : Program) (e : Env) (s : State) (m : MethodId) (below : List Frame) (meth : Method) (c : Code) (ls : Array Slot) (A : Nat → Prop), xF p m c bytes maxL s y.cls D cl tys → meth.sig.returnType = ret → meth.locks = false → meth.name = y.name → (∀ q, s.heap.size ≤ q → A q) → va_P D cl wc s.heap → va_D A wc → va_S A s.heap s.heap [] → lv_has ls maxL (lv_args 0 av) →
      W p l e rm s m av.toArray below meth c s.heap [] 0 0 (MQ below (Qc A) av.toArray s mc ms A) (F0 m 0 ls [])) : xe_C l D cl tys y bytes maxL ret rm av wc Qc mc ms := by
  intro sz
  refine Met.ofW (cc := bytes) (maxL := maxL) (ret := ret) hy rfl ?_
  intro p e s m args below meth c s₁ B hml hv
  obtain ⟨rfl, rfl, hK, hP, hD⟩ := hv
  have hl := lv_entry av (n := maxL) hn
  rw [lg_entry_eq]
  generalize (lg_sl av ++ List.replicate (maxL - (lg_sl av).length) Slot.unset).toArray = ls at hl ⊢
  exact body p e s m below meth c ls _ ⟨B.exec, B.bytes, hml, findClass_of_methodNamed B.named, hK⟩ B.returns B.notSynchronized (name_of_methodNamed B.named B.method).1 (fun q h => Or.inr h) hP hD.self va_S.rf hl
end XO
section XU
variable {p : Program} {l : Launch} {e : Env} {R : Room} {s : State} {m : MethodId} {args : Array Value} {below : List Frame} {meth : Method} {c : Code} {H H0 : Heap} {locs : List Loc} {cells slots : Nat} {Q : State → Prop}
variable {D : va_G} {cl : List vw_C} {tys : List (ClassId × FieldType)} {y : MethodName} {bytes cc : ByteArray} {maxL nL n index : Nat} {ret : Option FieldType} {rm : Room} {wc ws : va_W} {mc ms : Nat} {own host : String} {b : Addr} {As rest : List Value} {pc : Nat} {ls : Array Slot} {st0 : List Value} {A : Nat → Prop}
theorem xr_pre {av : List Value} (hK : xK D cl tys s) (hP : va_P D cl wc H) : PreS s H (va_Pc av (fun U => xK D cl tys U ∧ va_P D cl wc U.heap)) av :=
  ⟨fun a U g mk h => ⟨h.1, h.2.1.blind g mk a, h.2.2⟩, fun U hU hW => ⟨rfl, hK.warm hW, by rw [hU]; exact hP⟩⟩
theorem xe_pre {av : List Value} (hK : xK D cl tys s) (hP : va_P D cl wc H) (hD : va_D A wc) : PreS s H (va_Pc av (fun U => U.heap.size = H.size ∧ xK D cl tys U ∧ va_P D cl wc U.heap ∧ va_D (fun _ => True) wc)) av :=
  ⟨fun a U g mk h => ⟨h.1, h.2.1, h.2.2.1.blind g mk a, h.2.2.2.1, h.2.2.2.2⟩, fun U hU hW => ⟨rfl, by rw [hU], hK.warm hW, by rw [hU]; exact hP, hD.weaken (fun _ _ _ _ => trivial)⟩⟩
theorem xs_F (Z : xF p m c cc nL s own D cl tys) : CallFix p m c cc nL s args xw_T own := ⟨Z.1, Z.2.1, Z.2.2.1, Z.2.2.2.1, Z.2.2.2.2.1.at⟩
/-- runs of a virtual method, of a private or nest mate's, of a static one, of a constructor -/
theorem xs_V {Pc : Array Value → State → Prop} {Qc : Array Value → State → Outcome → State → Prop} {free : Addr → Prop} (Z : xF p m c cc nL s own D cl tys) (hM : Met l y [.code y bytes maxL ret] rm Pc Qc mc ms free) (hm : xm_ok y bytes maxL ret n) (kl : Cond.methodLink own index y ∈ xw_T) (ki : Cond.instanceMethod y ∈ xw_T) (ks : Cond.selects y.cls y y ∈ xw_T) (hrc : rm.cells = mc) (hrs : rm.slots = ms) (hR : rm.frames + 1 ≤ R.frames ∧ 8 + (maxL + 11) + rm.locals ≤ R.locals)
    (hv : ∃ cellB : Cell, H[b]? = some cellB ∧ cellB.vm.isStatics = false ∧ s.vm.findClass y.cls = some cellB.cls) (hp : PreS s H Pc (.ref b :: As)) (hn : As.length = n) (hsize : ls.size = nL) (hstack : st0 = As.reverse ++ .ref b :: rest) (hW : (rest.map fun v => v.category).sum ≤ 8) (hdg : decode cc pc = .ok (.invokevirtual index, 3)) (hf : cells + mc ≤ R.cells ∧ slots + ms ≤ R.slots) :
    va_Run p l e R s m args below meth c H locs cells slots mc ms (F0 m pc ls st0) rest (Qc (Value.ref b :: As).toArray) free :=
  va_runV (xs_F Z) hM ⟨xm_B Z.2.2.2.2.1 hm hrc hrs kl hR, Z.2.2.2.2.1.at _ ki, Z.2.2.2.2.1.at _ ks⟩ ⟨hp.1, hv, hp.2⟩ rfl hn hsize hstack (lv_room hW) hdg hf
theorem xs_S {Pc : Array Value → State → Prop} {Qc : Array Value → State → Outcome → State → Prop} {free : Addr → Prop} (Z : xF p m c cc nL s own D cl tys) (hM : Met l y [.code y bytes maxL ret] rm Pc Qc mc ms free) (hm : xm_ok y bytes maxL ret n) (kl : Cond.methodLink own index y ∈ xw_T) (ki : Cond.static y ∈ xw_T) (hrc : rm.cells = mc) (hrs : rm.slots = ms) (hR : rm.frames + 1 ≤ R.frames ∧ 8 + (maxL + 11) + rm.locals ≤ R.locals)
    (hp : PreS s H Pc As) (hn : As.length = n) (hsize : ls.size = nL) (hstack : st0 = As.reverse ++ rest) (hW : (rest.map fun v => v.category).sum ≤ 8) (hdg : decode cc pc = .ok (.invokestatic index, 3)) (hf : cells + mc ≤ R.cells ∧ slots + ms ≤ R.slots) :
    va_Run p l e R s m args below meth c H locs cells slots mc ms (F0 m pc ls st0) rest (Qc As.toArray) free :=
  va_runS (xs_F Z) hM ⟨xm_B Z.2.2.2.2.1 hm hrc hrs kl hR, Z.2.2.2.2.1.at _ ki⟩ hp rfl hn hsize hstack (lv_room hW) hdg hf
theorem xs_SN {Pc : Array Value → State → Prop} {Qc : Array Value → State → Outcome → State → Prop} {free : Addr → Prop} (Z : xF p m c cc nL s own D cl tys) (hM : Met l y [.code y bytes maxL ret] rm Pc Qc mc ms free) (hm : xm_ok y bytes maxL ret n) (kl : Cond.methodLinkNest own index y host ∈ xw_T) (ki : Cond.static y ∈ xw_T) (hrc : rm.cells = mc) (hrs : rm.slots = ms) (hR : rm.frames + 1 ≤ R.frames ∧ 8 + (maxL + 11) + rm.locals ≤ R.locals)
    (hp : PreS s H Pc As) (hn : As.length = n) (hsize : ls.size = nL) (hstack : st0 = As.reverse ++ rest) (hW : (rest.map fun v => v.category).sum ≤ 8) (hdg : decode cc pc = .ok (.invokestatic index, 3)) (hf : cells + mc ≤ R.cells ∧ slots + ms ≤ R.slots) :
    va_Run p l e R s m args below meth c H locs cells slots mc ms (F0 m pc ls st0) rest (Qc As.toArray) free :=
  va_runSN (xs_F Z) hM ⟨xm_N Z.2.2.2.2.1 hm hrc hrs kl hR, Z.2.2.2.2.1.at _ ki, trivial⟩ hp rfl hn hsize hstack (lv_room hW) hdg hf
theorem xs_I {Pc : Array Value → State → Prop} {Qc : Array Value → State → Outcome → State → Prop} {free : Addr → Prop} (Z : xF p m c cc nL s own D cl tys) (hM : Met l y [.code y bytes maxL none] rm Pc Qc mc ms free) (hm : xm_ok y bytes maxL none n) (kl : Cond.methodLink own index y ∈ xw_T) (ki : Cond.instanceMethod y ∈ xw_T) (h1 : y.name = "<init>") (hrc : rm.cells = mc) (hrs : rm.slots = ms) (hR : rm.frames + 1 ≤ R.frames ∧ 8 + (maxL + 11) + rm.locals ≤ R.locals)
    (hp : PreS s H Pc (.ref b :: As)) (hn : As.length = n) (hsize : ls.size = nL) (hstack : st0 = As.reverse ++ .ref b :: rest) (hW : (rest.map fun v => v.category).sum ≤ 8) (hdg : decode cc pc = .ok (.invokespecial index, 3)) (hf : cells + mc ≤ R.cells ∧ slots + ms ≤ R.slots) :
    va_Run p l e R s m args below meth c H locs cells slots mc ms (F0 m pc ls st0) rest (Qc (Value.ref b :: As).toArray) free :=
  va_runI (xs_F Z) hM ⟨xm_B Z.2.2.2.2.1 hm hrc hrs kl hR, h1, Z.2.2.2.2.1.at _ ki⟩ hp rfl hn hsize hstack (lv_room hW) hdg hf
theorem xs_IN {Pc : Array Value → State → Prop} {Qc : Array Value → State → Outcome → State → Prop} {free : Addr → Prop} (Z : xF p m c cc nL s own D cl tys) (hM : Met l y [.code y bytes maxL none] rm Pc Qc mc ms free) (hm : xm_ok y bytes maxL none n) (kl : Cond.methodLinkNest own index y host ∈ xw_T) (ki : Cond.instanceMethod y ∈ xw_T) (h1 : y.name = "<init>") (hrc : rm.cells = mc) (hrs : rm.slots = ms) (hR : rm.frames + 1 ≤ R.frames ∧ 8 + (maxL + 11) + rm.locals ≤ R.locals)
    (hp : PreS s H Pc (.ref b :: As)) (hn : As.length = n) (hsize : ls.size = nL) (hstack : st0 = As.reverse ++ .ref b :: rest) (hW : (rest.map fun v => v.category).sum ≤ 8) (hdg : decode cc pc = .ok (.invokespecial index, 3)) (hf : cells + mc ≤ R.cells ∧ slots + ms ≤ R.slots) :
    va_Run p l e R s m args below meth c H locs cells slots mc ms (F0 m pc ls st0) rest (Qc (Value.ref b :: As).toArray) free :=
  va_runIN (xs_F Z) hM ⟨xm_N Z.2.2.2.2.1 hm hrc hrs kl hR, h1, Z.2.2.2.2.1.at _ ki⟩ hp rfl hn hsize hstack (lv_room hW) hdg hf
/-- behind a call that writes: what came back, beside the rest -/
theorem xe_callv {S : Type} {post : S → Prop} {w1 : S → va_W} {wr : va_W} {a : Array Value} (hr : va_Run p l e R s m args below meth c H locs cells slots mc ms (F0 m pc ls st0) rest (xe_v D cl post w1 (va_A wc H.size) a) (va_A wc H.size))
    (hP : va_P D cl ws H) (hD : va_D A ws) (hS : va_S A H0 H locs) (hA : ∀ q, H0.size ≤ q → A q) (isC isR : List Nat) (hC : isC.map (fun i => ws[i]?) = wc.map some) (hR : isR.map (fun i => ws[i]?) = wr.map some) (hn : va_nd isR = true) (hdis : ∀ i ∈ isR, i ∉ isC)
    (kk : ∀ (u : S) (H1 : Heap) (locs1 : List Loc), post u → va_P D cl (wr ++ w1 u) H1 → va_D A (wr ++ w1 u) → va_S A H0 H1 locs1 → W p l e R s m args below meth c H1 locs1 (cells + mc) (slots + ms) Q (F0 m (pc + 3) ls rest)) : W p l e R s m args below meth c H locs cells slots Q (F0 m pc ls st0) := by
  have hF := va_free (wc := wc) hD hS hA isC hC
  refine va_callv hr hS (fun q _ h => hF q h) hF (fun u t H1 locs1 ht hvm hw hB hz1 hk1 hS1 => ?_)
  obtain ⟨hP1, hD1⟩ := hB
  rw [ht] at hP1
  obtain ⟨hP2, hD2⟩ := va_join hP hD isC isR hC hR hn hdis hk1 hF hP1 hD1
  exact kk u H1 locs1 hw hP2 hD2 hS1
theorem xe_calli {S : Type} {post : Int32 → S → Prop} {w1 : S → va_W} {wr : va_W} {a : Array Value} (hr : va_Run p l e R s m args below meth c H locs cells slots mc ms (F0 m pc ls st0) rest (xe_i D cl post w1 (va_A wc H.size) a) (va_A wc H.size))
    (hP : va_P D cl ws H) (hD : va_D A ws) (hS : va_S A H0 H locs) (hA : ∀ q, H0.size ≤ q → A q) (isC isR : List Nat) (hC : isC.map (fun i => ws[i]?) = wc.map some) (hR : isR.map (fun i => ws[i]?) = wr.map some) (hn : va_nd isR = true) (hdis : ∀ i ∈ isR, i ∉ isC)
    (kk : ∀ (r : Int32) (u : S) (H1 : Heap) (locs1 : List Loc), post r u → va_P D cl (wr ++ w1 u) H1 → va_D A (wr ++ w1 u) → va_S A H0 H1 locs1 → W p l e R s m args below meth c H1 locs1 (cells + mc) (slots + ms) Q (F0 m (pc + 3) ls (.int r :: rest))) : W p l e R s m args below meth c H locs cells slots Q (F0 m pc ls st0) := by
  have hF := va_free (wc := wc) hD hS hA isC hC
  refine va_calli hr hS (fun q _ h => hF q h) hF (fun r u t H1 locs1 ht hvm hw hB hz1 hk1 hS1 => ?_)
  obtain ⟨hP1, hD1⟩ := hB
  rw [ht] at hP1
  obtain ⟨hP2, hD2⟩ := va_join hP hD isC isR hC hR hn hdis hk1 hF hP1 hD1
  exact kk r u H1 locs1 hw hP2 hD2 hS1
end XU
theorem xw_all (ws : List Cond) (is : List Nat) (h : ws = is.filterMap (fun i => tables_1[i]?)) (hc : ws.all xw_ok = true) : ∀ w ∈ ws, w ∈ xw_T := by
  intro w hw
  have h1 := List.all_eq_true.mp hc w hw
  rw [h] at hw
  obtain ⟨i, -, hi⟩ := List.mem_filterMap.mp hw
  exact xw_in i hi h1
