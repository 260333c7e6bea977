/-! What the throws of the class rest on: the words of Throwable, its two statics, the texts. -/
def xc_isLS : Cond → Bool
  | .laysStatic _ _ _ => true
  | _ => false
theorem xc_T1 : ∀ w ∈ Jvm.Bundle.throwableAtoms.filter (fun w => !xc_isLS w), w ∈ xw_T := xw_all _ [13, 302, 311, 315, 318, 320, 303, 304, 30, 31, 305, 310, 316, 336, 292, 337, 294, 338, 296, 306, 308, 298] (by decide +kernel) (by decide +kernel)
theorem xc_T2 : ∀ w ∈ Jvm.Bundle.throwableSAtoms, w ∈ xw_T := xw_all _ [332, 333, 335, 298] (by decide +kernel) (by decide +kernel)
def xc_LS : List Cond := [.laysStatic Jvm.Bundle.tN "UNASSIGNED_STACK" Jvm.Bundle.steD, .laysStatic Jvm.Bundle.tN "SUPPRESSED_SENTINEL" Jvm.Bundle.listD]
theorem xc_T3 : ∀ w ∈ Jvm.Bundle.throwableAtoms.filter xc_isLS, w ∈ xc_LS := by decide +kernel
theorem xc_W_IAE : ∀ w ∈ xc_ws "QuorumStore" 29 "java/lang/IllegalArgumentException", w ∈ xw_T := xw_all _ [322, 323, 281, 289, 290, 291, 293, 295, 297, 301, 300, 299] (by decide +kernel) (by decide +kernel)
theorem xc_P_IAE : ∀ w ∈ Jvm.Bundle.passSAtoms "java/lang/IllegalArgumentException" "java/lang/RuntimeException" 7 prog_17_method_2_code, w ∈ xw_T := xw_all _ [323, 324, 325, 326, 284] (by decide +kernel) (by decide +kernel)
theorem xc_c_IAE : Cond.code (Jvm.Bundle.initS "java/lang/IllegalArgumentException") prog_17_method_2_code 2 none ∈ xw_T := xw_in 324 (by decide +kernel) (by decide +kernel)
theorem xc_d_IAE_0 : decode prog_17_method_2_code 0 = .ok (.aload_n 0, 1) := by decide +kernel
theorem xc_d_IAE_1 : decode prog_17_method_2_code 1 = .ok (.aload_n 1, 1) := by decide +kernel
theorem xc_d_IAE_2 : decode prog_17_method_2_code 2 = .ok (.invokespecial 7, 3) := by decide +kernel
theorem xc_d_IAE_5 : decode prog_17_method_2_code 5 = .ok (.return_, 1) := by decide +kernel
theorem xc_W_NSE : ∀ w ∈ xc_ws "QuorumStore" 155 "java/util/NoSuchElementException", w ∈ xw_T := xw_all _ [563, 564, 554, 556, 314, 557, 558, 559, 560, 301, 300, 561] (by decide +kernel) (by decide +kernel)
theorem xc_P_NSE : ∀ w ∈ Jvm.Bundle.passSAtoms "java/util/NoSuchElementException" "java/lang/RuntimeException" 13 prog_25_method_4_code, w ∈ xw_T := xw_all _ [564, 565, 566, 326, 284] (by decide +kernel) (by decide +kernel)
theorem xc_c_NSE : Cond.code (Jvm.Bundle.initS "java/util/NoSuchElementException") prog_25_method_4_code 2 none ∈ xw_T := xw_in 565 (by decide +kernel) (by decide +kernel)
theorem xc_d_NSE_0 : decode prog_25_method_4_code 0 = .ok (.aload_n 0, 1) := by decide +kernel
theorem xc_d_NSE_1 : decode prog_25_method_4_code 1 = .ok (.aload_n 1, 1) := by decide +kernel
theorem xc_d_NSE_2 : decode prog_25_method_4_code 2 = .ok (.invokespecial 13, 3) := by decide +kernel
theorem xc_d_NSE_5 : decode prog_25_method_4_code 5 = .ok (.return_, 1) := by decide +kernel
theorem xc_W_ISE : ∀ w ∈ xc_ws "QuorumStore" 71 "java/lang/IllegalStateException", w ∈ xw_T := xw_all _ [681, 682, 672, 674, 313, 675, 676, 677, 678, 301, 300, 679] (by decide +kernel) (by decide +kernel)
theorem xc_P_ISE : ∀ w ∈ Jvm.Bundle.passSAtoms "java/lang/IllegalStateException" "java/lang/RuntimeException" 7 prog_18_method_2_code, w ∈ xw_T := xw_all _ [682, 683, 684, 326, 284] (by decide +kernel) (by decide +kernel)
theorem xc_c_ISE : Cond.code (Jvm.Bundle.initS "java/lang/IllegalStateException") prog_18_method_2_code 2 none ∈ xw_T := xw_in 683 (by decide +kernel) (by decide +kernel)
theorem xc_d_ISE_0 : decode prog_18_method_2_code 0 = .ok (.aload_n 0, 1) := by decide +kernel
theorem xc_d_ISE_1 : decode prog_18_method_2_code 1 = .ok (.aload_n 1, 1) := by decide +kernel
theorem xc_d_ISE_2 : decode prog_18_method_2_code 2 = .ok (.invokespecial 7, 3) := by decide +kernel
theorem xc_d_ISE_5 : decode prog_18_method_2_code 5 = .ok (.return_, 1) := by decide +kernel
theorem xc_P_R : ∀ w ∈ Jvm.Bundle.chainSAtoms "java/lang/RuntimeException" ["java/lang/Exception"], w ∈ xw_T := xw_all _ [326, 327, 328, 329, 286, 329, 330, 331, 332, 288] (by decide +kernel) (by decide +kernel)
theorem xc_chain {s : State} {pl : Platform} (hT : xw_Tb s) (hpl : pl.magicAccessors = ({} : Platform).magicAccessors) {X : String} {index : Nat} {bytes : ByteArray} (hX : plainName X = true) (h0 : decode bytes 0 = .ok (.aload_n 0, 1)) (h1 : decode bytes 1 = .ok (.aload_n 1, 1)) (h2 : decode bytes 2 = .ok (.invokespecial index, 3)) (h5 : decode bytes 5 = .ok (.return_, 1)) (h : ∀ w ∈ Jvm.Bundle.passSAtoms X "java/lang/RuntimeException" index bytes, w ∈ xw_T) : xc_ch pl s X 2 := by
  intro top htop
  obtain ⟨P1, Ps, hlen, L1, hL, hP1, hl1, hl⟩ := Jvm.Bundle.chainS (args := #[]) hpl htop ["java/lang/Exception"] "java/lang/RuntimeException" (by decide) (by decide) (fun w hw => hT w (xc_P_R w hw))
  obtain ⟨P, LP, hm, hs⟩ := PassC.ofS_atoms (args := #[]) (s := s) hpl (X := X) (Y := "java/lang/RuntimeException") hX (by decide) h0 h1 h2 h5 (fun w hw => hT w (h w hw))
  exact ⟨P, P1 :: Ps, by rw [List.length_cons, hlen]; rfl, LP, fun Q hQ => by rcases List.mem_cons.mp hQ with rfl | hQ; exact L1; exact hL Q hQ, hm, Option.some.inj (hs.symm.trans hP1), ⟨hl1, hl⟩⟩
/-- the two statics of Throwable -/
def xc_Z (U : State) : Prop := (∀ w ∈ xc_LS, w.before #[] U = true) ∧ ∀ w ∈ xc_zs, w.before #[] U = true
def xc_strs : List (Nat × String) := [(27, "n is not 1 .. 50"), (238, "no such message"), (69, "300 messages are on their way"), (96, "what is not 0 .. 5"), (236, "no such node"), (102, "the node is not live"), (107, "the node is live"), (112, "key is not 0 .. 31"), (244, "no such client"), (120, "kind is not 1 .. 6, or seq is below 1"), (149, "what is not 0 or 1"), (153, "no such key"), (166, "nothing is known there"), (228, "what is not 0 .. 13")]
def xc_Tc (U : State) : Prop := xc_Z U ∧ ∀ q ∈ xc_strs, ∃ a : Nat, vk_R "QuorumStore" q.1 q.2 a U
theorem xc_ls {s U : State} (hW : s.WarmedH U.vm) (hq : ∀ q : Nat, q < s.heap.size → U.heap[q]? = s.heap[q]?) {C n d : String} {a a' : Array Value} (h : (Cond.laysStatic C n d).before a s = true) : (Cond.laysStatic C n d).before a' U = true := by
  obtain ⟨c, k, i, f, q, cell, hc, hi, hst, ha, hcell, hs, hcls, hlt, hty⟩ := Cond.laysStatic_spec h
  obtain ⟨k', hi', hek⟩ := State.fieldFound?_setVm hW.alike hi
  have hi2 : U.fieldFound? C n d = some (c, k', i, f) := hi'
  exact Cond.laysStatic_of (s := U) (by rw [hW.alike.findClass]; exact hc) hi2 hst (by rw [hek]; exact ha) (by rw [hq q (Array.getElem?_eq_some_iff.mp hcell).1]; exact hcell) hs hcls hlt (by rw [hek]; exact hty)
theorem xc_rs {s U : State} (hW : s.WarmedH U.vm) (hq : ∀ q : Nat, q < s.heap.size → U.heap[q]? = s.heap[q]?) {C n d : String} {a a' : Array Value} (hl : (Cond.laysStatic C n d).before a s = true) (h : (Cond.isRef (.static C n d)).before a s = true) : (Cond.isRef (.static C n d)).before a' U = true := by
  obtain ⟨c, k, i, f, q, cell, hc, hi, hst, ha, hcell, hs, hcls, hlt, hty⟩ := Cond.laysStatic_spec hl
  obtain ⟨k', hi', hek⟩ := State.fieldFound?_setVm hW.alike hi
  have hi2 : U.fieldFound? C n d = some (c, k', i, f) := hi'
  have hcellU : U.heap[q]? = some cell := by rw [hq q (Array.getElem?_eq_some_iff.mp hcell).1]; exact hcell
  have haU : k'.statics = some q := by rw [hek]; exact ha
  obtain ⟨v, hv⟩ := Cond.staticRefV hi hst ha hcell hs (show (Cond.isRef (.static C n d)).holds a s none s [] = true from h)
  have he : (Term.static C n d).eval a' U none [] U = some v.v := by
    simp [Term.eval, State.fieldNamed?, hi2, hst, haU, hcellU, hs, hv]
  obtain ⟨v, hr⟩ := v
  simp only [Cond.before, Cond.holds, Cond.value, he]
  cases v with
  | null => rfl
  | ref x => rfl
  | _ => exact absurd hr (by simp [Value.isRef])
theorem xc_Tc.move {s U : State} (h : xc_Tc s) (hW : s.WarmedH U.vm) (hq : ∀ q : Nat, q < s.heap.size → U.heap[q]? = s.heap[q]?) : xc_Tc U := by
  obtain ⟨⟨h1, h2⟩, h3⟩ := h
  refine ⟨⟨fun w hw => ?_, fun w hw => ?_⟩, fun q hq2 => ?_⟩
  · rcases List.mem_cons.mp hw with rfl | hw2
    · exact xc_ls hW hq (h1 _ List.mem_cons_self)
    · obtain rfl := List.mem_singleton.mp hw2
      exact xc_ls hW hq (h1 _ (List.mem_cons_of_mem _ List.mem_cons_self))
  · rcases List.mem_cons.mp hw with rfl | hw2
    · exact xc_rs hW hq (h1 _ List.mem_cons_self) (h2 _ List.mem_cons_self)
    · obtain rfl := List.mem_singleton.mp hw2
      exact xc_rs hW hq (h1 _ (List.mem_cons_of_mem _ List.mem_cons_self)) (h2 _ (List.mem_cons_of_mem _ List.mem_cons_self))
  · obtain ⟨a, ha⟩ := h3 q hq2
    exact ⟨a, ha.warm hW⟩
theorem xc_h1 {s : State} {args : Array Value} (hT : xw_Tb s) (h : xc_Tc s) : ∀ w ∈ Jvm.Bundle.throwableAtoms, w.before args s = true := by
  intro w hw
  cases hb : xc_isLS w with
  | false => exact hT.at w (xc_T1 w (List.mem_filter.mpr ⟨hw, by rw [hb]; rfl⟩))
  | true =>
    have h9 := xc_T3 w (List.mem_filter.mpr ⟨hw, hb⟩)
    rcases List.mem_cons.mp h9 with rfl | h8
    · exact xc_ls (State.WarmedH.refl s) (fun _ _ => rfl) (h.1.1 _ List.mem_cons_self)
    · obtain rfl := List.mem_singleton.mp h8
      exact xc_ls (State.WarmedH.refl s) (fun _ _ => rfl) (h.1.1 _ (List.mem_cons_of_mem _ List.mem_cons_self))
theorem xc_h4 {s : State} {args : Array Value} (h : xc_Tc s) : ∀ w ∈ xc_zs, w.before args s = true := by
  intro w hw
  rcases List.mem_cons.mp hw with rfl | h8
  · exact xc_rs (State.WarmedH.refl s) (fun _ _ => rfl) (h.1.1 _ List.mem_cons_self) (h.1.2 _ List.mem_cons_self)
  · obtain rfl := List.mem_singleton.mp h8
    exact xc_rs (State.WarmedH.refl s) (fun _ _ => rfl) (h.1.1 _ (List.mem_cons_of_mem _ List.mem_cons_self)) (h.1.2 _ (List.mem_cons_of_mem _ List.mem_cons_self))
/-- a contract that ends in a throw -/
def xt_C (l : Launch) (D : va_G) (cl : List vw_C) (tys : List (ClassId × FieldType)) (y : MethodName) (bytes : ByteArray) (maxL : Nat) (ret : Option FieldType) (rm : Room) (av : List Value) (wc : va_W) (E : String) : Prop :=
  xt_Met l y [.code y bytes maxL ret] rm (va_Pc av (fun U => xK D cl tys U ∧ va_P D cl wc U.heap ∧ xc_Tc U)) E 1 6
section XTo
variable {l : Launch} {D : va_G} {cl : List vw_C} {tys : List (ClassId × FieldType)} {y : MethodName} {bytes : ByteArray} {maxL : Nat} {ret : Option FieldType} {rm : Room} {av : List Value} {wc : va_W} {E : String}
theorem xt_of (hy : plainName y.cls = true) (hn : (lg_sl av).length ≤ maxL)
    (body : ∀ (p : Program) (e : Env) (s : State) (m : MethodId) (below : List Frame) (meth : Method) (c : Code) (ls : Array Slot), xF p m c bytes maxL s y.cls D cl tys → meth.locks = false → c.exceptionTable.toList = [] → va_P D cl wc s.heap → xc_Tc s → lv_has ls maxL (lv_args 0 av) →
      W p l e rm s m av.toArray below meth c s.heap [] 0 0 (xt_MQ below E s 1 6) (F0 m 0 ls [])) : xt_C l D cl tys y bytes maxL ret rm av wc E := by
  refine xt_ofW (cc := bytes) (maxL := maxL) (ret := ret) hy rfl ?_
  intro p e s m args below meth c s₁ B hml hno hv
  obtain ⟨rfl, hK, hP, hTc⟩ := hv
  have hl := lv_entry av (n := maxL) hn
  rw [lg_entry_eq]
  generalize (lg_sl av ++ List.replicate (maxL - (lg_sl av).length) Slot.unset).toArray = ls at hl ⊢
  exact body p e s m below meth c ls ⟨B.exec, B.bytes, hml, findClass_of_methodNamed B.named, hK⟩ B.notSynchronized hno hP hTc hl
end XTo
section XTn
variable {p : Program} {l : Launch} {e : Env} {R : Room} {s : State} {m : MethodId} {args : Array Value} {below : List Frame} {meth : Method} {c : Code} {cc : ByteArray} {nL : Nat} {D : va_G} {cl : List vw_C} {tys : List (ClassId × FieldType)}
/-- new X("..") and its throw, where nothing has been written -/
theorem xt_new (Z : xF p m c cc nL s "QuorumStore" D cl tys) (hTc : xc_Tc s) (hl : l.flags = pinnedFlags ++ [noTraceFlag]) {X tx : String} {ia ib ic pc : Nat} {bytes : ByteArray} {ls : Array Slot} (hnot : X ≠ "java/lang/invoke/MethodHandle" ∧ X ≠ "java/lang/invoke/VarHandle")
    (hcl : Cond.classLink "QuorumStore" ia X ∈ xw_T) (hini : Cond.initialized X ∈ xw_T) (hws : ∀ w ∈ xc_ws "QuorumStore" ic X, w ∈ xw_T) (hcode : Cond.code (Jvm.Bundle.initS X) bytes 2 none ∈ xw_T) (hch : ∀ pl : Platform, pl.magicAccessors = ({} : Platform).magicAccessors → xc_ch pl s X 2)
    (hst : (ib, tx) ∈ xc_strs) (hsz : ls.size = nL)
    (hd0 : decode cc pc = .ok (.new ia, 3)) (hd3 : decode cc (pc + 3) = .ok (.dup, 1)) (hd4 : decode cc (pc + 4) = .ok (.ldc ib, 2)) (hd6 : decode cc (pc + 6) = .ok (.invokespecial ic, 3)) (hd9 : decode cc (pc + 9) = .ok (.athrow, 1))
    (hno : c.exceptionTable.toList = []) (hlocks : meth.locks = false) (hRc : 1 ≤ R.cells) (hRs : 6 ≤ R.slots) (hRf : 5 < R.frames) (hRl : 82 ≤ R.locals) :
    W p l e R s m args below meth c s.heap [] 0 0 (xt_MQ below X s 1 6) (F0 m pc ls []) := by
  obtain ⟨hexec, hb, hml, hown, hK⟩ := Z
  have hts := hK.1.at (args := args)
  obtain ⟨q, hq⟩ := hTc.2 _ hst
  refine W.newc (n := 6) hexec hb hown (hts _ hcl) (hts (.instantiable X 6) (hws _ (by simp [xc_ws]))) (hts _ hini) rfl hd0 (by omega) (by omega) (fun cC kC h1 h2 h3 h4 => ?_)
  refine W.eq (g2 := F0 m (pc + 3) ls [.ref s.heap.size]) rfl ?_
  refine lv_dup hexec hb hd3 rfl ?_
  refine va_ldcS hexec hb hown hq hd4 ?_
  intro T hT X1
  have hpl : e.platform.magicAccessors = ({} : Platform).magicAccessors := by rw [X1.admits.platform]
  obtain ⟨U, hstp, hrun, hend, hW, hsame, ce, hce, hc1, hc2⟩ := xc_ctor X1 hexec (Launch.traces_off hl X1.admits) hown hnot (xc_h1 hK.1 hTc) (fun w hw => hts w (xc_T2 w hw)) (fun w hw => hts w (hws w hw)) (xc_h4 hTc) (hts _ hcode) (hch _ hpl) (fun x hx => by cases hx) h1 h2 (a := s.heap.size) (by rw [hT]; simp [freshCell]) (Nat.le_refl _) (msg := .ref q) rfl
    (g := F0 m (pc + 6) ls [.ref q, .ref s.heap.size, .ref s.heap.size]) rfl (hsz.trans hml.symm) rfl rfl (rest := []) rfl (by rw [hb]; exact hd6) (by rw [hb]; exact hd9) (by rw [hno]; intro x hx; cases hx) hRf (by simp [Value.category]; omega) hlocks
  exact ⟨U, hstp, .threw _, hrun, hend, ⟨_, rfl, ⟨ce, hce, by rw [hc2]; rfl, by rw [hc1]; exact h1⟩, xt_old hsame⟩, ⟨_, rfl⟩, hW, hsame⟩
/-- a virtual call that throws -/
theorem xt_V {y : MethodName} {bytes : ByteArray} {maxL n index : Nat} {ret : Option FieldType} {rm : Room} {wc : va_W} {E own : String} {H : Heap} {locs : List Loc} {cells slots : Nat} {b : Addr} {As rest st0 : List Value} {pc : Nat} {ls : Array Slot} (Z : xF p m c cc nL s own D cl tys) (hM : xt_C l D cl tys y bytes maxL ret rm (.ref b :: As) wc E) (hm : xm_ok y bytes maxL ret n) (kl : Cond.methodLink own index y ∈ xw_T) (ki : Cond.instanceMethod y ∈ xw_T) (ks : Cond.selects y.cls y y ∈ xw_T) (hrc : rm.cells = 1) (hrs : rm.slots = 6) (hR : rm.frames + 1 ≤ R.frames ∧ 8 + (maxL + 11) + rm.locals ≤ R.locals)
    (hv : ∃ cellB : Cell, H[b]? = some cellB ∧ cellB.vm.isStatics = false ∧ s.vm.findClass y.cls = some cellB.cls) (hP : va_P D cl wc H) (hTc : xc_Tc s) (hH : ∀ q : Nat, q < s.heap.size → H[q]? = s.heap[q]?) (hn : As.length = n) (hsize : ls.size = nL) (hstack : st0 = As.reverse ++ .ref b :: rest) (hW : (rest.map fun v => v.category).sum ≤ 8) (hdg : decode cc pc = .ok (.invokevirtual index, 3)) (hf : cells + 1 ≤ R.cells ∧ slots + 6 ≤ R.slots) :
    xt_Run p l e R s m args below meth c H locs cells slots 1 6 (F0 m pc ls st0) rest E :=
  xt_runV (xs_F Z) hM ⟨xm_B Z.2.2.2.2.1 hm hrc hrs kl hR, Z.2.2.2.2.1.at _ ki, Z.2.2.2.2.1.at _ ks⟩
    ⟨fun a U g mk h => ⟨h.1, h.2.1.blind g mk a, h.2.2.1, h.2.2.2.move (State.WarmedH.refl U) (fun _ _ => rfl)⟩, hv, fun U hU hW9 => ⟨rfl, Z.2.2.2.2.warm hW9, by rw [hU]; exact hP, hTc.move hW9 (by rw [hU]; exact hH)⟩⟩ rfl hn hsize hstack (lv_room hW) hdg hf
end XTn
