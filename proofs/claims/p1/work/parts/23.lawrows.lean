/-! The law's own helpers have tables of handlers: their contracts, and calls of them. -/
theorem xc_nw {A B : String} {s U : State} (hW : s.WarmedH U.vm) {a a' : Array Value} (h : (Cond.not (.castable A B)).before a s = true) : (Cond.not (.castable A B)).before a' U = true := by
  simp only [Cond.before, Cond.holds, Cond.value, hW.alike.findClass, hW.alike.assignable] at h ⊢
  exact h
/-- what the throws rest on, and that the kinds of exceptions are apart -/
def xg (U : State) : Prop := xc_Tc U ∧ (Cond.not (.castable "java/lang/IllegalStateException" "java/util/NoSuchElementException")).before #[] U = true ∧ (Cond.not (.castable "java/lang/IllegalArgumentException" "java/util/NoSuchElementException")).before #[] U = true
theorem xg.move {s U : State} (h : xg s) (hW : s.WarmedH U.vm) (hq : ∀ q : Nat, q < s.heap.size → U.heap[q]? = s.heap[q]?) : xg U := ⟨h.1.move hW hq, xc_nw hW h.2.1, xc_nw hW h.2.2⟩
def xh_C (l : Launch) (D : va_G) (cl : List vw_C) (tys : List (ClassId × FieldType)) (y : MethodName) (bytes : ByteArray) (maxL : Nat) (ret : Option FieldType) (hh : List (Nat × Nat × Nat × Nat)) (rm : Room) (av : List Value) (wc : va_W) (Qc : (Nat → Prop) → Array Value → State → Outcome → State → Prop) (mc ms : Nat) : Prop :=
  ∀ sz : Nat, Met l y [.codeWith y bytes maxL ret hh] rm (va_Pc av (fun U => U.heap.size = sz ∧ xK D cl tys U ∧ va_P D cl wc U.heap ∧ va_D (fun _ => True) wc ∧ xg U)) (Qc (va_A wc sz)) mc ms (va_A wc sz)
section XHO
variable {l : Launch} {D : va_G} {cl : List vw_C} {tys : List (ClassId × FieldType)} {y : MethodName} {bytes : ByteArray} {maxL : Nat} {ret : Option FieldType} {hh : List (Nat × Nat × Nat × Nat)} {rm : Room} {av : List Value} {wc : va_W} {mc ms : Nat}
theorem xh_tab {p : Program} {S : Spec} {e : Env} {s : State} {m : MethodId} {args : Array Value} {below : List Frame} {meth : Method} {c : Code} {s₁ : State}
    (B : BodyLoose p l y S bytes maxL ret e s m args below meth c s₁) (hc : (Cond.codeWith y bytes maxL ret hh).before args s = true) : c.exceptionTable.toList.map (fun h => (h.startPc, h.endPc, h.handlerPc, h.catchType)) = hh := by
  obtain ⟨m9, meth9, c9, hn9, h1, h2, -, -, h6, -⟩ := Cond.codeWith_spec hc
  cases B.named.symm.trans hn9
  cases B.method.symm.trans h1
  have X : Stand p l e S.room s m args below meth c s₁ [] 0 0 := Stand.of_body B
  cases X.code.symm.trans h2
  exact h6
theorem xh_of {Qc : (Nat → Prop) → Array Value → State → Outcome → State → Prop} (hy : plainName y.cls = true) (hn : (lg_sl av).length ≤ maxL)
    (body : ∀ (p : Program) (e : Env) (s : State) (m : MethodId) (below : List Frame) (meth : Method) (c : Code) (ls : Array Slot) (A : Nat → Prop), xF p m c bytes maxL s y.cls D cl tys → c.exceptionTable.toList.map (fun h => (h.startPc, h.endPc, h.handlerPc, h.catchType)) = hh → xg s → meth.sig.returnType = ret → meth.locks = false → meth.name = y.name → (∀ q, s.heap.size ≤ q → A q) → va_P D cl wc s.heap → va_D A wc → va_S A s.heap s.heap [] → lv_has ls maxL (lv_args 0 av) →
      W p l e rm s m av.toArray below meth c s.heap [] 0 0 (MQ below (Qc A) av.toArray s mc ms A) (F0 m 0 ls [])) : xh_C l D cl tys y bytes maxL ret hh rm av wc Qc mc ms := by
  intro sz
  refine va_MetW (cc := bytes) (maxL := maxL) (ret := ret) (hh := hh) hy rfl ?_
  intro p e s m args below meth c s₁ B hml hv
  obtain ⟨rfl, rfl, hK, hP, hD, hG⟩ := hv
  have htab := xh_tab (hh := hh) B (atoms_spec (ws := [.codeWith y bytes maxL ret hh]) B.pre _ List.mem_cons_self)
  have hl := lv_entry av (n := maxL) hn
  rw [lg_entry_eq]
  generalize (lg_sl av ++ List.replicate (maxL - (lg_sl av).length) Slot.unset).toArray = ls at hl ⊢
  exact body p e s m below meth c ls _ ⟨B.exec, B.bytes, hml, findClass_of_methodNamed B.named, hK⟩ htab hG B.returns B.notSynchronized (name_of_methodNamed B.named B.method).1 (fun q h => Or.inr h) hP hD.self va_S.rf hl
end XHO
def xh_ok (y : MethodName) (bytes : ByteArray) (maxL : Nat) (ret : Option FieldType) (hh : List (Nat × Nat × Nat × Nat)) (n : Nat) : Prop := Cond.codeWith y bytes maxL ret hh ∈ xw_T ∧ Cond.initialized y.cls ∈ xw_T ∧ (y.cls ≠ "java/lang/invoke/MethodHandle" ∧ y.cls ≠ "java/lang/invoke/VarHandle" ∧ (parseMethodDescriptor y.desc).map (fun d => d.parameters.length) = some n)
section XHS
variable {p : Program} {l : Launch} {e : Env} {R : Room} {s : State} {m : MethodId} {args : Array Value} {below : List Frame} {meth : Method} {c : Code} {H : Heap} {locs : List Loc} {cells slots : Nat}
variable {D : va_G} {cl : List vw_C} {tys : List (ClassId × FieldType)} {y : MethodName} {bytes cc : ByteArray} {maxL nL n index : Nat} {ret : Option FieldType} {hh : List (Nat × Nat × Nat × Nat)} {rm : Room} {wc : va_W} {mc ms : Nat} {own : String} {As rest : List Value} {pc : Nat} {ls : Array Slot} {st0 : List Value} {A : Nat → Prop}
theorem xh_pre {av : List Value} (hK : xK D cl tys s) (hP : va_P D cl wc H) (hD : va_D A wc) (hG : xg s) (hH : ∀ q : Nat, q < s.heap.size → H[q]? = s.heap[q]?) : PreS s H (va_Pc av (fun U => U.heap.size = H.size ∧ xK D cl tys U ∧ va_P D cl wc U.heap ∧ va_D (fun _ => True) wc ∧ xg U)) av :=
  ⟨fun a U g mk h => ⟨h.1, h.2.1, h.2.2.1.blind g mk a, h.2.2.2.1, h.2.2.2.2.1, h.2.2.2.2.2.move (State.WarmedH.refl U) (fun _ _ => rfl)⟩, fun U hU hW => ⟨rfl, by rw [hU], hK.warm hW, by rw [hU]; exact hP, hD.weaken (fun _ _ _ _ => trivial), hG.move hW (by rw [hU]; exact hH)⟩⟩
/-- a run of a static method that has handlers -/
theorem xh_S {Pc : Array Value → State → Prop} {Qc : Array Value → State → Outcome → State → Prop} {free : Addr → Prop} (Z : xF p m c cc nL s own D cl tys) (hM : Met l y [.codeWith y bytes maxL ret hh] rm Pc Qc mc ms free) (hm : xh_ok y bytes maxL ret hh n) (kl : Cond.methodLink own index y ∈ xw_T) (ki : Cond.static y ∈ xw_T) (hrc : rm.cells = mc) (hrs : rm.slots = ms) (hR : rm.frames + 1 ≤ R.frames ∧ 8 + (maxL + 11) + rm.locals ≤ R.locals)
    (hp : PreS s H Pc As) (hn : As.length = n) (hsize : ls.size = nL) (hstack : st0 = As.reverse ++ rest) (hW : (rest.map fun v => v.category).sum ≤ 8) (hdg : decode cc pc = .ok (.invokestatic index, 3)) (hf : cells + mc ≤ R.cells ∧ slots + ms ≤ R.slots) :
    va_Run p l e R s m args below meth c H locs cells slots mc ms (F0 m pc ls st0) rest (Qc As.toArray) free := by
  obtain ⟨hx, hb, hml, hown, hT0, hT1⟩ := Z
  have hK : Back l R p e below s args y 3 8 (PreOf R mc ms Pc) (PostOf Qc mc ms free) := by
    refine va_backW (hh := hh) (bytes := bytes) (maxL := maxL) (ret := ret) hM hp.1 hrc hrs hR.1 hR.2 (fun w hw a' U hW9 => ?_) List.mem_cons_self (fun a' U hW9 => (hT0.warm hW9).at _ hm.2.1)
    have e9 : w = Cond.codeWith y bytes maxL ret hh := by simpa using hw
    subst e9
    exact (hT0.warm hW9).at _ hm.1
  intro T hT X
  obtain ⟨mk, methM, cM, hnamed, hmethM, -, -, -, -, -, -, hsigM⟩ := Cond.codeWith_spec (hT0.at (args := args) _ hm.1)
  have hstatic : methM.isStatic = true := Cond.static_spec hnamed hmethM (hT0.at (args := args) _ ki)
  obtain ⟨kP, hkP, -⟩ := className_of_methodNamed hnamed
  have hinitP : kP.init = .initialized := Cond.initialized_spec (findClass_of_methodNamed hnamed) hkP (hT0.at (args := args) _ hm.2.1)
  have hlen : As.length = methM.sig.parameters.length := by
    have h2 := hm.2.2.2.2
    rw [hsigM] at h2
    rw [hn]
    exact (Option.some.inj h2).symm
  obtain ⟨vm₁, X₁, hstep₁⟩ := X.invokestatic hx hown (hT0.at (args := args) _ kl) hnamed hmethM hstatic hkP hinitP ⟨hm.2.2.1, hm.2.2.2.1⟩ (g := F0 m pc ls st0) rfl (argsL := As) (rest := rest) hlen hstack (by rw [hb]; exact hdg)
  obtain ⟨v, ⟨U', l2, c2, s2⟩, X', ⟨g', mk', t, L, e1, e2, hq, h1, hL, h2, h3⟩, hsteps⟩ := hK m meth c ⟨T.setVm vm₁, locs, cells, slots⟩ (F0 m pc ls rest) (.invokestatic index) mk As.toArray X₁ rfl (hsize.trans hml.symm) (by rw [hb]; exact hdg) (lv_room hW) (X₁.named hnamed) ⟨hf.1, hf.2, hp.2 (T.setVm vm₁) hT X₁.warmed⟩
  dsimp only [Pt.U, Pt.locs, Pt.cells, Pt.slots] at X' e1 e2 h1 h2 h3 hsteps
  subst h1; subst h2; subst h3
  exact ⟨v, (T.setVm vm₁).calling g' mk' As.toArray, t, U', L, hT, X', hL, e1, e2, hq, fun target h => hstep₁ _ fun acts => by rw [doInvoke_state]; exact hsteps.trans h⟩
end XHS
section XSfi
variable {p : Program} {l : Launch} {e : Env} {R : Room} {s : State} {m : MethodId} {args : Array Value} {below : List Frame} {meth : Method} {c : Code} {H H0 : Heap} {locs : List Loc} {cells slots : Nat} {Q : State → Prop}
variable {D : va_G} {cl : List vw_C} {wc wr : va_W} {mc ms : Nat} {rest : List Value} {pc : Nat} {ls : Array Slot} {st0 : List Value} {A : Nat → Prop}
theorem xe_sfx0 (hP : va_P D cl (wr ++ wc) H) (hD : va_D A (wr ++ wc)) (hS : va_S A H0 H locs) (hA : ∀ q, H0.size ≤ q → A q) : (∀ q, va_A wc H.size q → A q) ∧ ∀ (w1 : va_W) (H1 : Heap), (∀ q : Nat, q < H.size → ¬ va_A wc H.size q → H1[q]? = H[q]?) → va_P D cl w1 H1 → va_D (va_A wc H.size) w1 → va_P D cl (wr ++ w1) H1 ∧ va_D A (wr ++ w1) := by
  have at1 : ∀ (k : Nat) (q : Nat × va_E), wc[k]? = some q → (wr ++ wc)[wr.length + k]? = some q := fun k q h => by
    rw [List.getElem?_append_right (Nat.le_add_right _ _), Nat.add_sub_cancel_left]; exact h
  have at0 : ∀ (k : Nat) (q : Nat × va_E), wr[k]? = some q → k < wr.length ∧ (wr ++ wc)[k]? = some q := fun k q h => by
    have hlt := (List.getElem?_eq_some_iff.mp h).1
    exact ⟨hlt, by rw [List.getElem?_append_left hlt]; exact h⟩
  have hF : ∀ q, va_A wc H.size q → A q := by
    intro q hq
    rcases hq with ⟨k, x, hk⟩ | hq
    · exact hD.2 _ _ (at1 k _ hk)
    · exact hA q (Nat.le_trans hS.1 hq)
  have hap : ∀ (k : Nat) (q : Nat × va_E), wr[k]? = some q → ¬ va_A wc H.size q.1 := by
    intro k q hk hq
    obtain ⟨hlt, h0⟩ := at0 k q hk
    rcases hq with ⟨k2, x, hk2⟩ | hq
    · have := hD.1 k (wr.length + k2) q _ h0 (at1 k2 _ hk2) rfl
      omega
    · exact absurd (hP k q h0).lt (Nat.not_lt.mpr hq)
  refine ⟨hF, fun w1 H1 hk1 hP1 hD1 => ⟨va_P.app (fun k q hk => (hP k q (at0 k q hk).2).kept (hk1 q.1 (hP k q (at0 k q hk).2).lt (hap k q hk))) hP1,
    va_D.app ⟨fun i j x y hx hy hxy => hD.1 i j x y (at0 i x hx).2 (at0 j y hy).2 hxy, fun k q hk => hD.2 k q (at0 k q hk).2⟩ (hD1.weaken (fun k q _ h => hF q.1 h)) (fun i j x y hx hy hxy => hap i x hx (by rw [hxy]; exact hD1.2 j y hy))⟩⟩
theorem xe_sfxi {S : Type} {post : Int32 → S → Prop} {w1 : S → va_W} {a : Array Value} (hr : va_Run p l e R s m args below meth c H locs cells slots mc ms (F0 m pc ls st0) rest (xe_i D cl post w1 (va_A wc H.size) a) (va_A wc H.size))
    (hP : va_P D cl (wr ++ wc) H) (hD : va_D A (wr ++ wc)) (hS : va_S A H0 H locs) (hA : ∀ q, H0.size ≤ q → A q)
    (kk : ∀ (r : Int32) (u : S) (H1 : Heap) (locs1 : List Loc), post r u → va_P D cl (wr ++ w1 u) H1 → va_D A (wr ++ w1 u) → va_S A H0 H1 locs1 → W p l e R s m args below meth c H1 locs1 (cells + mc) (slots + ms) Q (F0 m (pc + 3) ls (.int r :: rest))) : W p l e R s m args below meth c H locs cells slots Q (F0 m pc ls st0) := by
  obtain ⟨hF, hj⟩ := xe_sfx0 hP hD hS hA
  refine va_calli hr hS (fun q _ h => hF q h) hF (fun r u t H1 locs1 ht hvm hw hB hz1 hk1 hS1 => ?_)
  obtain ⟨hP1, hD1⟩ := hB
  rw [ht] at hP1
  obtain ⟨hP2, hD2⟩ := hj _ _ hk1 hP1 hD1
  exact kk r u H1 locs1 hw hP2 hD2 hS1
theorem xe_sfxl {S : Type} {post : Int64 → S → Prop} {w1 : S → va_W} {a : Array Value} (hr : va_Run p l e R s m args below meth c H locs cells slots mc ms (F0 m pc ls st0) rest (xe_l D cl post w1 (va_A wc H.size) a) (va_A wc H.size))
    (hP : va_P D cl (wr ++ wc) H) (hD : va_D A (wr ++ wc)) (hS : va_S A H0 H locs) (hA : ∀ q, H0.size ≤ q → A q)
    (kk : ∀ (r : Int64) (u : S) (H1 : Heap) (locs1 : List Loc), post r u → va_P D cl (wr ++ w1 u) H1 → va_D A (wr ++ w1 u) → va_S A H0 H1 locs1 → W p l e R s m args below meth c H1 locs1 (cells + mc) (slots + ms) Q (F0 m (pc + 3) ls (.long r :: rest))) : W p l e R s m args below meth c H locs cells slots Q (F0 m pc ls st0) := by
  obtain ⟨hF, hj⟩ := xe_sfx0 hP hD hS hA
  refine va_calll hr hS (fun q _ h => hF q h) hF (fun r u t H1 locs1 ht hvm hw hB hz1 hk1 hS1 => ?_)
  obtain ⟨hP1, hD1⟩ := hB
  rw [ht] at hP1
  obtain ⟨hP2, hD2⟩ := hj _ _ hk1 hP1 hD1
  exact kk r u H1 locs1 hw hP2 hD2 hS1
end XSfi
/-- the law's one long -/
def xo (v : Int64) : Nat → Int64 := fun j => if j = 0 then v else 0
theorem xu_o (v : Int64) : vp_updL (fun _ => 0) (0 : Int32).toNatClampNeg v = xo v := by
  funext j
  show (if j = 0 then v else 0) = xo v j
  rfl
/-- no old cell has changed: the heap has not shrunk, and nothing was written -/
theorem xh_S1 {A : Nat → Prop} {H0 H H1 : Heap} {locs : List Loc} (hS : va_S A H0 H locs) (hold : ∀ q : Nat, q < H.size → H1[q]? = H[q]?) : va_S A H0 H1 locs := by
  have hsz : H.size ≤ H1.size := by
    rcases Nat.eq_zero_or_pos H.size with h | h
    · omega
    · have h2 := hold (H.size - 1) (by omega)
      rw [Array.getElem?_eq_getElem (show H.size - 1 < H.size by omega)] at h2
      have := (Array.getElem?_eq_some_iff.mp h2).1
      omega
  exact ⟨Nat.le_trans hS.1 hsz, fun q hq hA => by rw [hold q (Nat.lt_of_lt_of_le hq hS.1)]; exact hS.2.1 q hq hA, hS.2.2⟩
theorem h_W_tick : xh_ok y_W_tick c_W_tick 4 (Option.some FieldType.int) [(0, 9, 12, 13)] 3 := ⟨xw_in 274 (by decide +kernel) (by decide +kernel), k_0, by decide +kernel⟩
theorem h_W_deliver : xh_ok y_W_deliver c_W_deliver 4 (Option.some FieldType.int) [(0, 9, 12, 18)] 3 := ⟨xw_in 543 (by decide +kernel) (by decide +kernel), k_0, by decide +kernel⟩
theorem h_W_drop : xh_ok y_W_drop c_W_drop 4 (Option.some FieldType.int) [(0, 9, 12, 18)] 3 := ⟨xw_in 654 (by decide +kernel) (by decide +kernel), k_0, by decide +kernel⟩
theorem h_W_copy : xh_ok y_W_copy c_W_copy 4 (Option.some FieldType.int) [(0, 9, 12, 18), (0, 9, 15, 26)] 3 := ⟨xw_in 661 (by decide +kernel) (by decide +kernel), k_0, by decide +kernel⟩
theorem h_W_message : xh_ok y_W_message c_W_message 5 (Option.some FieldType.int) [(0, 10, 13, 18), (0, 10, 17, 13)] 4 := ⟨xw_in 693 (by decide +kernel) (by decide +kernel), k_0, by decide +kernel⟩
theorem h_W_fall : xh_ok y_W_fall c_W_fall 3 (Option.some FieldType.int) [(0, 5, 8, 18), (0, 5, 11, 26)] 2 := ⟨xw_in 705 (by decide +kernel) (by decide +kernel), k_0, by decide +kernel⟩
theorem h_W_rise : xh_ok y_W_rise c_W_rise 3 (Option.some FieldType.int) [(0, 5, 8, 18), (0, 5, 11, 26)] 2 := ⟨xw_in 722 (by decide +kernel) (by decide +kernel), k_0, by decide +kernel⟩
theorem h_W_key : xh_ok y_W_key c_W_key 4 (Option.some FieldType.int) [(0, 9, 12, 13)] 3 := ⟨xw_in 734 (by decide +kernel) (by decide +kernel), k_0, by decide +kernel⟩
theorem h_W_ask : xh_ok y_W_ask c_W_ask 9 (Option.some FieldType.int) [(0, 18, 21, 18), (0, 18, 25, 13), (0, 18, 29, 26)] 8 := ⟨xw_in 742 (by decide +kernel) (by decide +kernel), k_0, by decide +kernel⟩
theorem h_W_answer : xh_ok y_W_answer c_W_answer 6 (Option.some FieldType.int) [(0, 11, 14, 18), (0, 11, 18, 13)] 5 := ⟨xw_in 779 (by decide +kernel) (by decide +kernel), k_0, by decide +kernel⟩
theorem h_W_number : xh_ok y_W_number c_W_number 5 (Option.some FieldType.int) [(0, 9, 12, 18)] 4 := ⟨xw_in 787 (by decide +kernel) (by decide +kernel), k_0, by decide +kernel⟩
theorem h_W_known : xh_ok y_W_known c_W_known 6 (Option.some FieldType.int) [(0, 12, 15, 18), (0, 12, 19, 13)] 5 := ⟨xw_in 795 (by decide +kernel) (by decide +kernel), k_0, by decide +kernel⟩
theorem h_W_about : xh_ok y_W_about c_W_about 5 (Option.some FieldType.int) [(0, 10, 13, 18), (0, 10, 17, 13)] 4 := ⟨xw_in 804 (by decide +kernel) (by decide +kernel), k_0, by decide +kernel⟩
