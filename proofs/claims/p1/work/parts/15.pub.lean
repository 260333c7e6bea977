/-! The public methods on a new object: what they answer, what they refuse. -/
theorem xl_2 {x : Int32} (h0 : ¬ x = 0) (h1 : ¬ x = 1) : Op.lookupswitch.offset (#[(0, 25), (1, 34)] : Array (Int × Int)).toList 42 x.toInt = 42 := by
  have e0 : ¬ x.toInt = 0 := fun h => h0 (Int32.toInt_inj.mp h)
  have e1 : ¬ x.toInt = 1 := fun h => h1 (Int32.toInt_inj.mp h)
  simp [Op.lookupswitch.offset, e0, e1, Ne.symm e0, Ne.symm e1]
section XTs
variable {p : Program} {l : Launch} {e : Env} {R : Room} {s : State} {m : MethodId} {args : Array Value} {below : List Frame} {meth : Method} {c : Code} {cc : ByteArray} {nL : Nat} {D : va_G} {cl : List vw_C} {tys : List (ClassId × FieldType)}
/-- a static call that throws -/
theorem xt_S {y : MethodName} {bytes : ByteArray} {maxL n index : Nat} {ret : Option FieldType} {rm : Room} {wc : va_W} {E own : String} {H : Heap} {locs : List Loc} {cells slots : Nat} {As rest st0 : List Value} {pc : Nat} {ls : Array Slot} (Z : xF p m c cc nL s own D cl tys) (hM : xt_C l D cl tys y bytes maxL ret rm As wc E) (hm : xm_ok y bytes maxL ret n) (kl : Cond.methodLink own index y ∈ xw_T) (ki : Cond.static y ∈ xw_T) (hrc : rm.cells = 1) (hrs : rm.slots = 6) (hR : rm.frames + 1 ≤ R.frames ∧ 8 + (maxL + 11) + rm.locals ≤ R.locals)
    (hP : va_P D cl wc H) (hTc : xc_Tc s) (hH : ∀ q : Nat, q < s.heap.size → H[q]? = s.heap[q]?) (hn : As.length = n) (hsize : ls.size = nL) (hstack : st0 = As.reverse ++ rest) (hW : (rest.map fun v => v.category).sum ≤ 8) (hdg : decode cc pc = .ok (.invokestatic index, 3)) (hf : cells + 1 ≤ R.cells ∧ slots + 6 ≤ R.slots) :
    xt_Run p l e R s m args below meth c H locs cells slots 1 6 (F0 m pc ls st0) rest E := by
  obtain ⟨hrc', hrs', hfr, hlo, hws, hcw, hcode, hini, hy, hlen, hlink⟩ := xm_B (R := R) (args := args) (mc := 1) (ms := 6) Z.2.2.2.2.1 hm hrc hrs kl hR
  have hstat : (Cond.static y).before args s = true := Z.2.2.2.2.1.at _ ki
  obtain ⟨hx, hb, hml, hown, hK⟩ := Z
  intro T hT X
  subst hT
  obtain ⟨mk, hnamed⟩ := Cond.code_named hcode
  obtain ⟨methM, cM, hmethM, -, -, -, -, -, -, hsigM⟩ := Cond.code_spec hnamed hcode
  have hstatic : methM.isStatic = true := Cond.static_spec hnamed hmethM hstat
  obtain ⟨kP, hkP, -⟩ := className_of_methodNamed hnamed
  have hinitP : kP.init = .initialized := Cond.initialized_spec (findClass_of_methodNamed hnamed) hkP hini
  obtain ⟨vm₁, X₁, hstep₁⟩ := X.invokestatic hx hown hlink hnamed hmethM hstatic hkP hinitP hy (g := F0 m pc ls st0) rfl (argsL := As) (rest := rest) (hn.trans (hlen _ hsigM)) hstack (by rw [hb]; exact hdg)
  obtain ⟨x, T', X', ⟨cell, g1, g2, g3⟩, hold, hsteps⟩ := xt_in X₁ (g := F0 m pc ls rest) (a := As.toArray) (mk := mk) (ig := .invokestatic index) (len := 3) hM (fun a U g mk h => ⟨h.1, h.2.1.blind g mk a, h.2.2.1, h.2.2.2.move (State.WarmedH.refl U) (fun _ _ => rfl)⟩) hrc' hrs' hfr hlo hws hcw hini rfl (hsize.trans hml.symm) (by rw [hb]; exact hdg) (lv_room hW) (X₁.named hnamed) hf.1 hf.2
    ⟨rfl, hK.warm X₁.warmed, hP, hTc.move (U := T.setVm vm₁) X₁.warmed hH⟩
  have g4 : s.vm.findClass E = some cell.cls := by rw [← X₁.warmed.alike.findClass]; exact g3
  exact ⟨x, T', X', ⟨cell, g1, g2, g4⟩, hold, fun tg h => hstep₁ _ fun acts => by rw [doInvoke_state]; exact hsteps.trans h⟩
end XTs
theorem d_Q_nodeAt_0 : decode c_Q_nodeAt 0 = .ok (.iload_n 1, 1) := by decide +kernel
theorem d_Q_nodeAt_1 : decode c_Q_nodeAt 1 = .ok (.ifCond .lt 9, 3) := by decide +kernel
theorem d_Q_nodeAt_4 : decode c_Q_nodeAt 4 = .ok (.iload_n 1, 1) := by decide +kernel
theorem d_Q_nodeAt_5 : decode c_Q_nodeAt 5 = .ok (.bipush 7, 2) := by decide +kernel
theorem d_Q_nodeAt_7 : decode c_Q_nodeAt 7 = .ok (.if_icmp .lt 13, 3) := by decide +kernel
theorem d_Q_nodeAt_20 : decode c_Q_nodeAt 20 = .ok (.aload_n 0, 1) := by decide +kernel
theorem d_Q_nodeAt_21 : decode c_Q_nodeAt 21 = .ok (.getfield 18, 3) := by decide +kernel
theorem d_Q_nodeAt_24 : decode c_Q_nodeAt 24 = .ok (.iload_n 1, 1) := by decide +kernel
theorem d_Q_nodeAt_25 : decode c_Q_nodeAt 25 = .ok (.aaload, 1) := by decide +kernel
theorem d_Q_nodeAt_26 : decode c_Q_nodeAt 26 = .ok (.areturn, 1) := by decide +kernel
set_option maxHeartbeats 4000000 in
set_option maxRecDepth 100000 in
/-- nodeAt in 0 .. 6 -/
theorem C_Q_nodeAt (l : Launch) (D : va_G) (t : Nat → ClassId) (xa nw na : Nat) (qq : Nat → Nat → Nat) (k : Nat) (hk : k < 7) : xr_C l D vwCl (xTY t) y_Q_nodeAt c_Q_nodeAt 2 (Option.some (FieldType.object "QuorumStore$Node")) ({ frames := 0, cells := 0, slots := 0, locals := 0 }) [.ref xa, .int (nI k)] [zO 7 xa [.ref nw, .ref na, .int 0], zA t 4 na 7 (fun j => some (qq j 0))] (xr_Q (some (.ref (qq k 0)))) := by
  refine xr_of (by decide) (Nat.le_of_ble_eq_true rfl) ?_
  intro p e s m below meth c ls Z hr hlocks hP hl
  obtain ⟨hx, hb, hml, hown, hK⟩ := id Z
  have hown : s.vm.findClass "QuorumStore" = some m.cls := hown
  have hts := hK.1.at (args := ([.ref xa, .int (nI k)] : List Value).toArray)
  have hl : lv_has ls 2 [(0, .ref xa), (1, .int (nI k))] := hl
  refine lv_iload_n hx hb d_Q_nodeAt_0 rfl (lv_at hl 1 rfl) ?_
  refine lv_if_lt (tgt := 10) hx hb d_Q_nodeAt_1 (by decide) (fun c_1 => absurd c_1 (nI_pos (by omega))) (fun _ => ?_)
  refine lv_iload_n hx hb d_Q_nodeAt_4 rfl (lv_at hl 1 rfl) ?_
  refine lv_bipush (v := 7) hx hb d_Q_nodeAt_5 (by decide) ?_
  refine lv_icmp_lt (tgt := 20) hx hb d_Q_nodeAt_7 (by decide) (fun _ => ?_) (fun c_2 => absurd (show nI k < nI 7 from nI_lt hk (by decide)) c_2)
  refine lv_aload_n hx hb d_Q_nodeAt_20 rfl (lv_at hl 0 rfl) ?_
  refine va_get (ci := 7) (C := "QuorumStore") (T := TX7) (N := 3) hx hb hts inX7 hown hK.2 hP 0 rfl rfl 1 (by decide) (hts _ k_256) (fun _ h9 => h9) rfl d_Q_nodeAt_21 ?_
  refine lv_iload_n hx hb d_Q_nodeAt_24 rfl (lv_at hl 1 rfl) ?_
  refine va_aldq hx hb hK.2 hP 1 4 rfl rfl (vp_in_nI hk (by decide)) d_Q_nodeAt_25 ?_
  rw [nI_clamp (show k < 2 ^ 31 by omega)]
  exact W.aret hx hb hr (Or.inl ⟨_, rfl⟩) (Or.inr ⟨_, rfl⟩) (fun t ht _ => ⟨rfl, ht⟩) (fun q h => by cases h) d_Q_nodeAt_26
theorem d_Q_nodeAt_10 : decode c_Q_nodeAt 10 = .ok (.new 151, 3) := by decide +kernel
theorem d_Q_nodeAt_13 : decode c_Q_nodeAt 13 = .ok (.dup, 1) := by decide +kernel
theorem d_Q_nodeAt_14 : decode c_Q_nodeAt 14 = .ok (.ldc 236, 2) := by decide +kernel
theorem d_Q_nodeAt_16 : decode c_Q_nodeAt 16 = .ok (.invokespecial 155, 3) := by decide +kernel
theorem d_Q_nodeAt_19 : decode c_Q_nodeAt 19 = .ok (.athrow, 1) := by decide +kernel
set_option maxHeartbeats 4000000 in
set_option maxRecDepth 100000 in
/-- nodeAt of no node -/
theorem T_Q_nodeAt (l : Launch) (hfl : l.flags = pinnedFlags ++ [noTraceFlag]) (D : va_G) (t : Nat → ClassId) (xa nw na : Nat) (qq : Nat → Nat → Nat) (n : Int32) (hn : n < 0 ∨ 7 ≤ n) : xt_C l D vwCl (xTY t) y_Q_nodeAt c_Q_nodeAt 2 (Option.some (FieldType.object "QuorumStore$Node")) ({ frames := 6, cells := 1, slots := 6, locals := 82 }) [.ref xa, .int n] [zO 7 xa [.ref nw, .ref na, .int 0], zA t 4 na 7 (fun j => some (qq j 0))] "java/util/NoSuchElementException" := by
  refine xt_of (by decide) (Nat.le_of_ble_eq_true rfl) ?_
  intro p e s m below meth c ls Z hlocks hno hP hTc hl
  obtain ⟨hx, hb, hml, hown, hK⟩ := id Z
  have hown : s.vm.findClass "QuorumStore" = some m.cls := hown
  have hts := hK.1.at (args := ([.ref xa, .int n] : List Value).toArray)
  have hl : lv_has ls 2 [(0, .ref xa), (1, .int n)] := hl
  refine lv_iload_n hx hb d_Q_nodeAt_0 rfl (lv_at hl 1 rfl) ?_
  refine lv_if_lt (tgt := 10) hx hb d_Q_nodeAt_1 (by decide) (fun c_1 => ?_) (fun c_1 => ?_)
  · exact xt_new (tx := "no such node") Z hTc hfl (by decide) k_553 k_20 xc_W_NSE xc_c_NSE (fun pl h9 => xc_chain hK.1 h9 (by decide) xc_d_NSE_0 xc_d_NSE_1 xc_d_NSE_2 xc_d_NSE_5 xc_P_NSE) (by decide) hl.1 d_Q_nodeAt_10 d_Q_nodeAt_13 d_Q_nodeAt_14 d_Q_nodeAt_16 d_Q_nodeAt_19 hno hlocks (Nat.le_of_ble_eq_true rfl) (Nat.le_of_ble_eq_true rfl) (Nat.le_of_ble_eq_true rfl) (Nat.le_of_ble_eq_true rfl)
  · refine lv_iload_n hx hb d_Q_nodeAt_4 rfl (lv_at hl 1 rfl) ?_
    refine lv_bipush (v := 7) hx hb d_Q_nodeAt_5 (by decide) ?_
    refine lv_icmp_lt (tgt := 20) hx hb d_Q_nodeAt_7 (by decide) (fun c_2 => absurd c_2 (fun h9 => hn.elim c_1 (fun h8 => Int32.not_le.mpr h9 h8))) (fun _ => ?_)
    exact xt_new (tx := "no such node") Z hTc hfl (by decide) k_553 k_20 xc_W_NSE xc_c_NSE (fun pl h9 => xc_chain hK.1 h9 (by decide) xc_d_NSE_0 xc_d_NSE_1 xc_d_NSE_2 xc_d_NSE_5 xc_P_NSE) (by decide) hl.1 d_Q_nodeAt_10 d_Q_nodeAt_13 d_Q_nodeAt_14 d_Q_nodeAt_16 d_Q_nodeAt_19 hno hlocks (Nat.le_of_ble_eq_true rfl) (Nat.le_of_ble_eq_true rfl) (Nat.le_of_ble_eq_true rfl) (Nat.le_of_ble_eq_true rfl)
theorem d_Q_messageAt_0 : decode c_Q_messageAt 0 = .ok (.iload_n 1, 1) := by decide +kernel
theorem d_Q_messageAt_1 : decode c_Q_messageAt 1 = .ok (.ifCond .lt 14, 3) := by decide +kernel
theorem d_Q_messageAt_4 : decode c_Q_messageAt 4 = .ok (.iload_n 1, 1) := by decide +kernel
theorem d_Q_messageAt_5 : decode c_Q_messageAt 5 = .ok (.aload_n 0, 1) := by decide +kernel
theorem d_Q_messageAt_6 : decode c_Q_messageAt 6 = .ok (.getfield 12, 3) := by decide +kernel
theorem d_Q_messageAt_9 : decode c_Q_messageAt 9 = .ok (.getfield 35, 3) := by decide +kernel
theorem d_Q_messageAt_12 : decode c_Q_messageAt 12 = .ok (.if_icmp .lt 13, 3) := by decide +kernel
theorem d_Q_messageAt_15 : decode c_Q_messageAt 15 = .ok (.new 151, 3) := by decide +kernel
theorem d_Q_messageAt_18 : decode c_Q_messageAt 18 = .ok (.dup, 1) := by decide +kernel
theorem d_Q_messageAt_19 : decode c_Q_messageAt 19 = .ok (.ldc 238, 2) := by decide +kernel
theorem d_Q_messageAt_21 : decode c_Q_messageAt 21 = .ok (.invokespecial 155, 3) := by decide +kernel
theorem d_Q_messageAt_24 : decode c_Q_messageAt 24 = .ok (.athrow, 1) := by decide +kernel
set_option maxHeartbeats 4000000 in
set_option maxRecDepth 100000 in
/-- messageAt where there is no message -/
theorem T_Q_messageAt (l : Launch) (hfl : l.flags = pinnedFlags ++ [noTraceFlag]) (D : va_G) (t : Nat → ClassId) (xa nw na rw : Nat) (n : Int32) : xt_C l D vwCl (xTY t) y_Q_messageAt c_Q_messageAt 2 (Option.some (FieldType.object "QuorumStore$Message")) ({ frames := 6, cells := 1, slots := 6, locals := 82 }) [.ref xa, .int n] [zO 7 xa [.ref nw, .ref na, .int 0], zO 2 nw [.ref rw, .int 0, .int 0, .int 0, .int 0]] "java/util/NoSuchElementException" := by
  refine xt_of (by decide) (Nat.le_of_ble_eq_true rfl) ?_
  intro p e s m below meth c ls Z hlocks hno hP hTc hl
  obtain ⟨hx, hb, hml, hown, hK⟩ := id Z
  have hown : s.vm.findClass "QuorumStore" = some m.cls := hown
  have hts := hK.1.at (args := ([.ref xa, .int n] : List Value).toArray)
  have hl : lv_has ls 2 [(0, .ref xa), (1, .int n)] := hl
  refine lv_iload_n hx hb d_Q_messageAt_0 rfl (lv_at hl 1 rfl) ?_
  refine lv_if_lt (tgt := 15) hx hb d_Q_messageAt_1 (by decide) (fun c_1 => ?_) (fun c_1 => ?_)
  · exact xt_new (tx := "no such message") Z hTc hfl (by decide) k_553 k_20 xc_W_NSE xc_c_NSE (fun pl h9 => xc_chain hK.1 h9 (by decide) xc_d_NSE_0 xc_d_NSE_1 xc_d_NSE_2 xc_d_NSE_5 xc_P_NSE) (by decide) hl.1 d_Q_messageAt_15 d_Q_messageAt_18 d_Q_messageAt_19 d_Q_messageAt_21 d_Q_messageAt_24 hno hlocks (Nat.le_of_ble_eq_true rfl) (Nat.le_of_ble_eq_true rfl) (Nat.le_of_ble_eq_true rfl) (Nat.le_of_ble_eq_true rfl)
  · refine lv_iload_n hx hb d_Q_messageAt_4 rfl (lv_at hl 1 rfl) ?_
    refine lv_aload_n hx hb d_Q_messageAt_5 rfl (lv_at hl 0 rfl) ?_
    refine va_get (ci := 7) (C := "QuorumStore") (T := TX7) (N := 3) hx hb hts inX7 hown hK.2 hP 0 rfl rfl 0 (by decide) (hts _ k_255) (fun _ h9 => h9) rfl d_Q_messageAt_6 ?_
    refine va_get (ci := 2) (C := "QuorumStore$Network") (T := TX2) (N := 5) hx hb hts inX2 hown hK.2 hP 1 rfl rfl 1 (by decide) (hts _ k_43) (fun _ h9 => h9) rfl d_Q_messageAt_9 ?_
    refine lv_icmp_lt (tgt := 25) hx hb d_Q_messageAt_12 (by decide) (fun c_2 => absurd c_2 (c_1)) (fun _ => ?_)
    exact xt_new (tx := "no such message") Z hTc hfl (by decide) k_553 k_20 xc_W_NSE xc_c_NSE (fun pl h9 => xc_chain hK.1 h9 (by decide) xc_d_NSE_0 xc_d_NSE_1 xc_d_NSE_2 xc_d_NSE_5 xc_P_NSE) (by decide) hl.1 d_Q_messageAt_15 d_Q_messageAt_18 d_Q_messageAt_19 d_Q_messageAt_21 d_Q_messageAt_24 hno hlocks (Nat.le_of_ble_eq_true rfl) (Nat.le_of_ble_eq_true rfl) (Nat.le_of_ble_eq_true rfl) (Nat.le_of_ble_eq_true rfl)
theorem d_Q_checkClient_0 : decode c_Q_checkClient 0 = .ok (.iload_n 0, 1) := by decide +kernel
theorem d_Q_checkClient_1 : decode c_Q_checkClient 1 = .ok (.ifCond .lt 9, 3) := by decide +kernel
theorem d_Q_checkClient_4 : decode c_Q_checkClient 4 = .ok (.iload_n 0, 1) := by decide +kernel
theorem d_Q_checkClient_5 : decode c_Q_checkClient 5 = .ok (.bipush 8, 2) := by decide +kernel
theorem d_Q_checkClient_7 : decode c_Q_checkClient 7 = .ok (.if_icmp .lt 13, 3) := by decide +kernel
theorem d_Q_checkClient_20 : decode c_Q_checkClient 20 = .ok (.return_, 1) := by decide +kernel
set_option maxHeartbeats 4000000 in
set_option maxRecDepth 100000 in
/-- checkClient in 0 .. 7 -/
theorem C_Q_checkClient (l : Launch) (D : va_G) (t : Nat → ClassId) (j : Nat) (hj : j < 8) : xr_C l D vwCl (xTY t) y_Q_checkClient c_Q_checkClient 1 (Option.none : Option FieldType) ({ frames := 0, cells := 0, slots := 0, locals := 0 }) [.int (nI j)] [] (xr_Q none) := by
  refine xr_of (by decide) (Nat.le_of_ble_eq_true rfl) ?_
  intro p e s m below meth c ls Z hr hlocks hP hl
  obtain ⟨hx, hb, hml, hown, hK⟩ := id Z
  have hown : s.vm.findClass "QuorumStore" = some m.cls := hown
  have hts := hK.1.at (args := ([.int (nI j)] : List Value).toArray)
  have hl : lv_has ls 1 [(0, .int (nI j))] := hl
  refine lv_iload_n hx hb d_Q_checkClient_0 rfl (lv_at hl 0 rfl) ?_
  refine lv_if_lt (tgt := 10) hx hb d_Q_checkClient_1 (by decide) (fun c_1 => absurd c_1 (nI_pos (by omega))) (fun _ => ?_)
  refine lv_iload_n hx hb d_Q_checkClient_4 rfl (lv_at hl 0 rfl) ?_
  refine lv_bipush (v := 8) hx hb d_Q_checkClient_5 (by decide) ?_
  refine lv_icmp_lt (tgt := 20) hx hb d_Q_checkClient_7 (by decide) (fun _ => ?_) (fun c_2 => absurd (show nI j < nI 8 from nI_lt hj (by decide)) c_2)
  exact W.vret hx hb hr (fun t ht _ => ⟨rfl, ht⟩) (fun q h => by cases h) d_Q_checkClient_20
theorem d_Q_checkClient_10 : decode c_Q_checkClient 10 = .ok (.new 151, 3) := by decide +kernel
theorem d_Q_checkClient_13 : decode c_Q_checkClient 13 = .ok (.dup, 1) := by decide +kernel
theorem d_Q_checkClient_14 : decode c_Q_checkClient 14 = .ok (.ldc 244, 2) := by decide +kernel
theorem d_Q_checkClient_16 : decode c_Q_checkClient 16 = .ok (.invokespecial 155, 3) := by decide +kernel
theorem d_Q_checkClient_19 : decode c_Q_checkClient 19 = .ok (.athrow, 1) := by decide +kernel
set_option maxHeartbeats 4000000 in
set_option maxRecDepth 100000 in
/-- checkClient of no client -/
theorem T_Q_checkClient (l : Launch) (hfl : l.flags = pinnedFlags ++ [noTraceFlag]) (D : va_G) (t : Nat → ClassId) (n : Int32) (hn : n < 0 ∨ 8 ≤ n) : xt_C l D vwCl (xTY t) y_Q_checkClient c_Q_checkClient 1 (Option.none : Option FieldType) ({ frames := 6, cells := 1, slots := 6, locals := 82 }) [.int n] [] "java/util/NoSuchElementException" := by
  refine xt_of (by decide) (Nat.le_of_ble_eq_true rfl) ?_
  intro p e s m below meth c ls Z hlocks hno hP hTc hl
  obtain ⟨hx, hb, hml, hown, hK⟩ := id Z
  have hown : s.vm.findClass "QuorumStore" = some m.cls := hown
  have hts := hK.1.at (args := ([.int n] : List Value).toArray)
  have hl : lv_has ls 1 [(0, .int n)] := hl
  refine lv_iload_n hx hb d_Q_checkClient_0 rfl (lv_at hl 0 rfl) ?_
  refine lv_if_lt (tgt := 10) hx hb d_Q_checkClient_1 (by decide) (fun c_1 => ?_) (fun c_1 => ?_)
  · exact xt_new (tx := "no such client") Z hTc hfl (by decide) k_553 k_20 xc_W_NSE xc_c_NSE (fun pl h9 => xc_chain hK.1 h9 (by decide) xc_d_NSE_0 xc_d_NSE_1 xc_d_NSE_2 xc_d_NSE_5 xc_P_NSE) (by decide) hl.1 d_Q_checkClient_10 d_Q_checkClient_13 d_Q_checkClient_14 d_Q_checkClient_16 d_Q_checkClient_19 hno hlocks (Nat.le_of_ble_eq_true rfl) (Nat.le_of_ble_eq_true rfl) (Nat.le_of_ble_eq_true rfl) (Nat.le_of_ble_eq_true rfl)
  · refine lv_iload_n hx hb d_Q_checkClient_4 rfl (lv_at hl 0 rfl) ?_
    refine lv_bipush (v := 8) hx hb d_Q_checkClient_5 (by decide) ?_
    refine lv_icmp_lt (tgt := 20) hx hb d_Q_checkClient_7 (by decide) (fun c_2 => absurd c_2 (fun h9 => hn.elim c_1 (fun h8 => Int32.not_le.mpr h9 h8))) (fun _ => ?_)
    exact xt_new (tx := "no such client") Z hTc hfl (by decide) k_553 k_20 xc_W_NSE xc_c_NSE (fun pl h9 => xc_chain hK.1 h9 (by decide) xc_d_NSE_0 xc_d_NSE_1 xc_d_NSE_2 xc_d_NSE_5 xc_P_NSE) (by decide) hl.1 d_Q_checkClient_10 d_Q_checkClient_13 d_Q_checkClient_14 d_Q_checkClient_16 d_Q_checkClient_19 hno hlocks (Nat.le_of_ble_eq_true rfl) (Nat.le_of_ble_eq_true rfl) (Nat.le_of_ble_eq_true rfl) (Nat.le_of_ble_eq_true rfl)
theorem d_Q_tick_11 : decode c_Q_tick 11 = .ok (.new 25, 3) := by decide +kernel
theorem d_Q_tick_14 : decode c_Q_tick 14 = .ok (.dup, 1) := by decide +kernel
theorem d_Q_tick_15 : decode c_Q_tick 15 = .ok (.ldc 27, 2) := by decide +kernel
theorem d_Q_tick_17 : decode c_Q_tick 17 = .ok (.invokespecial 29, 3) := by decide +kernel
theorem d_Q_tick_20 : decode c_Q_tick 20 = .ok (.athrow, 1) := by decide +kernel
set_option maxHeartbeats 4000000 in
set_option maxRecDepth 100000 in
/-- tick with n out of 1 .. 50 -/
theorem T_Q_tick (l : Launch) (hfl : l.flags = pinnedFlags ++ [noTraceFlag]) (D : va_G) (t : Nat → ClassId) (xa : Nat) (n : Int32) (hn : n < 1 ∨ 50 < n) : xt_C l D vwCl (xTY t) y_Q_tick c_Q_tick 4 (Option.some FieldType.int) ({ frames := 6, cells := 1, slots := 6, locals := 82 }) [.ref xa, .int n] [] "java/lang/IllegalArgumentException" := by
  refine xt_of (by decide) (Nat.le_of_ble_eq_true rfl) ?_
  intro p e s m below meth c ls Z hlocks hno hP hTc hl
  obtain ⟨hx, hb, hml, hown, hK⟩ := id Z
  have hown : s.vm.findClass "QuorumStore" = some m.cls := hown
  have hts := hK.1.at (args := ([.ref xa, .int n] : List Value).toArray)
  have hl : lv_has ls 4 [(0, .ref xa), (1, .int n)] := hl
  refine lv_iload_n hx hb d_Q_tick_0 rfl (lv_at hl 1 rfl) ?_
  refine lv_iconst (v := 1) hx hb d_Q_tick_1 (by decide) ?_
  refine lv_icmp_lt (tgt := 11) hx hb d_Q_tick_2 (by decide) (fun c_1 => ?_) (fun c_1 => ?_)
  · exact xt_new (tx := "n is not 1 .. 50") Z hTc hfl (by decide) k_280 k_16 xc_W_IAE xc_c_IAE (fun pl h9 => xc_chain hK.1 h9 (by decide) xc_d_IAE_0 xc_d_IAE_1 xc_d_IAE_2 xc_d_IAE_5 xc_P_IAE) (by decide) hl.1 d_Q_tick_11 d_Q_tick_14 d_Q_tick_15 d_Q_tick_17 d_Q_tick_20 hno hlocks (Nat.le_of_ble_eq_true rfl) (Nat.le_of_ble_eq_true rfl) (Nat.le_of_ble_eq_true rfl) (Nat.le_of_ble_eq_true rfl)
  · refine lv_iload_n hx hb d_Q_tick_5 rfl (lv_at hl 1 rfl) ?_
    refine lv_bipush (v := 50) hx hb d_Q_tick_6 (by decide) ?_
    refine lv_icmp_le (tgt := 21) hx hb d_Q_tick_8 (by decide) (fun c_2 => absurd c_2 (fun h9 => hn.elim c_1 (fun h8 => Int32.not_le.mpr h8 h9))) (fun _ => ?_)
    exact xt_new (tx := "n is not 1 .. 50") Z hTc hfl (by decide) k_280 k_16 xc_W_IAE xc_c_IAE (fun pl h9 => xc_chain hK.1 h9 (by decide) xc_d_IAE_0 xc_d_IAE_1 xc_d_IAE_2 xc_d_IAE_5 xc_P_IAE) (by decide) hl.1 d_Q_tick_11 d_Q_tick_14 d_Q_tick_15 d_Q_tick_17 d_Q_tick_20 hno hlocks (Nat.le_of_ble_eq_true rfl) (Nat.le_of_ble_eq_true rfl) (Nat.le_of_ble_eq_true rfl) (Nat.le_of_ble_eq_true rfl)
theorem d_Q_key_0 : decode c_Q_key 0 = .ok (.iload_n 1, 1) := by decide +kernel
theorem d_Q_key_1 : decode c_Q_key 1 = .ok (.ifCond .lt 9, 3) := by decide +kernel
theorem d_Q_key_4 : decode c_Q_key 4 = .ok (.iload_n 1, 1) := by decide +kernel
theorem d_Q_key_5 : decode c_Q_key 5 = .ok (.bipush 32, 2) := by decide +kernel
theorem d_Q_key_7 : decode c_Q_key 7 = .ok (.if_icmp .lt 13, 3) := by decide +kernel
theorem d_Q_key_10 : decode c_Q_key 10 = .ok (.new 25, 3) := by decide +kernel
theorem d_Q_key_13 : decode c_Q_key 13 = .ok (.dup, 1) := by decide +kernel
theorem d_Q_key_14 : decode c_Q_key 14 = .ok (.ldc 112, 2) := by decide +kernel
theorem d_Q_key_16 : decode c_Q_key 16 = .ok (.invokespecial 29, 3) := by decide +kernel
theorem d_Q_key_19 : decode c_Q_key 19 = .ok (.athrow, 1) := by decide +kernel
set_option maxHeartbeats 4000000 in
set_option maxRecDepth 100000 in
/-- key out of 0 .. 31 -/
theorem T_Q_key (l : Launch) (hfl : l.flags = pinnedFlags ++ [noTraceFlag]) (D : va_G) (t : Nat → ClassId) (xa : Nat) (n : Int32) (hn : n < 0 ∨ 32 ≤ n) : xt_C l D vwCl (xTY t) y_Q_key c_Q_key 3 (Option.some FieldType.int) ({ frames := 6, cells := 1, slots := 6, locals := 82 }) [.ref xa, .int n] [] "java/lang/IllegalArgumentException" := by
  refine xt_of (by decide) (Nat.le_of_ble_eq_true rfl) ?_
  intro p e s m below meth c ls Z hlocks hno hP hTc hl
  obtain ⟨hx, hb, hml, hown, hK⟩ := id Z
  have hown : s.vm.findClass "QuorumStore" = some m.cls := hown
  have hts := hK.1.at (args := ([.ref xa, .int n] : List Value).toArray)
  have hl : lv_has ls 3 [(0, .ref xa), (1, .int n)] := hl
  refine lv_iload_n hx hb d_Q_key_0 rfl (lv_at hl 1 rfl) ?_
  refine lv_if_lt (tgt := 10) hx hb d_Q_key_1 (by decide) (fun c_1 => ?_) (fun c_1 => ?_)
  · exact xt_new (tx := "key is not 0 .. 31") Z hTc hfl (by decide) k_280 k_16 xc_W_IAE xc_c_IAE (fun pl h9 => xc_chain hK.1 h9 (by decide) xc_d_IAE_0 xc_d_IAE_1 xc_d_IAE_2 xc_d_IAE_5 xc_P_IAE) (by decide) hl.1 d_Q_key_10 d_Q_key_13 d_Q_key_14 d_Q_key_16 d_Q_key_19 hno hlocks (Nat.le_of_ble_eq_true rfl) (Nat.le_of_ble_eq_true rfl) (Nat.le_of_ble_eq_true rfl) (Nat.le_of_ble_eq_true rfl)
  · refine lv_iload_n hx hb d_Q_key_4 rfl (lv_at hl 1 rfl) ?_
    refine lv_bipush (v := 32) hx hb d_Q_key_5 (by decide) ?_
    refine lv_icmp_lt (tgt := 20) hx hb d_Q_key_7 (by decide) (fun c_2 => absurd c_2 (fun h9 => hn.elim c_1 (fun h8 => Int32.not_le.mpr h9 h8))) (fun _ => ?_)
    exact xt_new (tx := "key is not 0 .. 31") Z hTc hfl (by decide) k_280 k_16 xc_W_IAE xc_c_IAE (fun pl h9 => xc_chain hK.1 h9 (by decide) xc_d_IAE_0 xc_d_IAE_1 xc_d_IAE_2 xc_d_IAE_5 xc_P_IAE) (by decide) hl.1 d_Q_key_10 d_Q_key_13 d_Q_key_14 d_Q_key_16 d_Q_key_19 hno hlocks (Nat.le_of_ble_eq_true rfl) (Nat.le_of_ble_eq_true rfl) (Nat.le_of_ble_eq_true rfl) (Nat.le_of_ble_eq_true rfl)
theorem d_Q_key_20 : decode c_Q_key 20 = .ok (.aload_n 0, 1) := by decide +kernel
theorem d_Q_key_21 : decode c_Q_key 21 = .ok (.getfield 114, 3) := by decide +kernel
theorem d_Q_key_24 : decode c_Q_key 24 = .ok (.istore_n 2, 1) := by decide +kernel
theorem d_Q_key_25 : decode c_Q_key 25 = .ok (.aload_n 0, 1) := by decide +kernel
theorem d_Q_key_26 : decode c_Q_key 26 = .ok (.iload_n 1, 1) := by decide +kernel
theorem d_Q_key_27 : decode c_Q_key 27 = .ok (.putfield 114, 3) := by decide +kernel
theorem d_Q_key_30 : decode c_Q_key 30 = .ok (.iload_n 2, 1) := by decide +kernel
theorem d_Q_key_31 : decode c_Q_key 31 = .ok (.ireturn, 1) := by decide +kernel
set_option maxHeartbeats 4000000 in
set_option maxRecDepth 100000 in
/-- the first key -/
theorem C_Q_key (l : Launch) (D : va_G) (t : Nat → ClassId) (xa nw na : Nat) (j : Nat) (hj : j < 32) : xe_C l D vwCl (xTY t) y_Q_key c_Q_key 3 (Option.some FieldType.int) ({ frames := 0, cells := 0, slots := 0, locals := 0 }) [.ref xa, .int (nI j)] [zO 7 xa [.ref nw, .ref na, .int 0]] (xe_i D vwCl (fun (r : Int32) (_ : Unit) => r = 0) (fun _ => [zO 7 xa [.ref nw, .ref na, .int (nI j)]])) 0 0 := by
  refine xe_of (by decide) (Nat.le_of_ble_eq_true rfl) ?_
  intro p e s m below meth c ls A Z hr hlocks hin hA hP hD hS hl
  obtain ⟨hx, hb, hml, hown, hK⟩ := id Z
  have hown : s.vm.findClass "QuorumStore" = some m.cls := hown
  have hts := hK.1.at (args := ([.ref xa, .int (nI j)] : List Value).toArray)
  have hl : lv_has ls 3 [(0, .ref xa), (1, .int (nI j))] := hl
  refine lv_iload_n hx hb d_Q_key_0 rfl (lv_at hl 1 rfl) ?_
  refine lv_if_lt (tgt := 10) hx hb d_Q_key_1 (by decide) (fun c_1 => absurd c_1 (nI_pos (by omega))) (fun _ => ?_)
  refine lv_iload_n hx hb d_Q_key_4 rfl (lv_at hl 1 rfl) ?_
  refine lv_bipush (v := 32) hx hb d_Q_key_5 (by decide) ?_
  refine lv_icmp_lt (tgt := 20) hx hb d_Q_key_7 (by decide) (fun _ => ?_) (fun c_2 => absurd (show nI j < nI 32 from nI_lt hj (by decide)) c_2)
  refine lv_aload_n hx hb d_Q_key_20 rfl (lv_at hl 0 rfl) ?_
  refine va_get (ci := 7) (C := "QuorumStore") (T := TX7) (N := 3) hx hb hts inX7 hown hK.2 hP 0 rfl rfl 2 (by decide) (hts _ k_257) (fun _ h9 => h9) rfl d_Q_key_21 ?_
  refine lv_istore_n (lv' := [(2, .int 0), (0, .ref xa), (1, .int (nI j))]) hx hb d_Q_key_24 rfl hl (by decide) rfl (fun ls hl => ?_)
  refine lv_aload_n hx hb d_Q_key_25 rfl (lv_at hl 1 rfl) ?_
  refine lv_iload_n hx hb d_Q_key_26 rfl (lv_at hl 2 rfl) ?_
  refine va_put (ci := 7) (v := .int (nI j)) (ty := tyX7 2) (C := "QuorumStore") (T := TX7) (N := 3) hx hb hts inX7 tyX7 okX7 nmX7 hown hK.2 hP hD hS 0 rfl rfl 2 (by decide) (hts _ k_257) (fun _ h9 => h9) rfl (by decide +kernel) rfl rfl (Nat.le_of_ble_eq_true rfl) d_Q_key_27 (fun H locs hP hD hS => ?_)
  have hP : va_P D vwCl [zO 7 xa [.ref nw, .ref na, .int (nI j)]] H := hP
  have hD : va_D A [zO 7 xa [.ref nw, .ref na, .int (nI j)]] := hD
  refine lv_iload_n hx hb d_Q_key_30 rfl (lv_at hl 0 rfl) ?_
  exact W.iret hx hb hr (fun t ht hW => ⟨⟨0, (), rfl, rfl, by rw [ht]; exact hP, hD⟩, hS.F ht⟩) hS.2.2 d_Q_key_31
theorem d_Q_deliver_0 : decode c_Q_deliver 0 = .ok (.aload_n 0, 1) := by decide +kernel
theorem d_Q_deliver_1 : decode c_Q_deliver 1 = .ok (.iload_n 1, 1) := by decide +kernel
theorem d_Q_deliver_2 : decode c_Q_deliver 2 = .ok (.invokevirtual 39, 3) := by decide +kernel
set_option maxHeartbeats 4000000 in
set_option maxRecDepth 100000 in
/-- Q_deliver where there is no message -/
theorem T_Q_deliver (l : Launch) (hfl : l.flags = pinnedFlags ++ [noTraceFlag]) (D : va_G) (t : Nat → ClassId) (xa nw na rw : Nat) (n : Int32) : xt_C l D vwCl (xTY t) y_Q_deliver c_Q_deliver 4 (Option.some FieldType.int) ({ frames := 7, cells := 1, slots := 6, locals := 103 }) [.ref xa, .int n] [zO 7 xa [.ref nw, .ref na, .int 0], zO 2 nw [.ref rw, .int 0, .int 0, .int 0, .int 0]] "java/util/NoSuchElementException" := by
  refine xt_of (by decide) (Nat.le_of_ble_eq_true rfl) ?_
  intro p e s m below meth c ls Z hlocks hno hP hTc hl
  obtain ⟨hx, hb, hml, hown, hK⟩ := id Z
  have hown : s.vm.findClass "QuorumStore" = some m.cls := hown
  have hts := hK.1.at (args := ([.ref xa, .int n] : List Value).toArray)
  have hl : lv_has ls 4 [(0, .ref xa), (1, .int n)] := hl
  refine lv_aload_n hx hb d_Q_deliver_0 rfl (lv_at hl 0 rfl) ?_
  refine lv_iload_n hx hb d_Q_deliver_1 rfl (lv_at hl 1 rfl) ?_
  exact xt_pass (xt_V (As := [.int n]) (rest := []) Z (T_Q_messageAt l hfl D t xa nw na rw n) m_Q_messageAt k_549 k_551 ks_17 rfl rfl ⟨Nat.le_of_ble_eq_true rfl, Nat.le_of_ble_eq_true rfl⟩ (va_recv hK.2 hP (ci := 7) (q0 := 0) rfl rfl) (hP.sub [0, 1] rfl) hTc (fun _ _ => rfl) rfl hl.1 rfl (Nat.le_of_ble_eq_true rfl) d_Q_deliver_2 ⟨Nat.le_of_ble_eq_true rfl, Nat.le_of_ble_eq_true rfl⟩) hno hlocks
theorem d_Q_drop_0 : decode c_Q_drop 0 = .ok (.aload_n 0, 1) := by decide +kernel
theorem d_Q_drop_1 : decode c_Q_drop 1 = .ok (.iload_n 1, 1) := by decide +kernel
theorem d_Q_drop_2 : decode c_Q_drop 2 = .ok (.invokevirtual 39, 3) := by decide +kernel
set_option maxHeartbeats 4000000 in
set_option maxRecDepth 100000 in
/-- Q_drop where there is no message -/
theorem T_Q_drop (l : Launch) (hfl : l.flags = pinnedFlags ++ [noTraceFlag]) (D : va_G) (t : Nat → ClassId) (xa nw na rw : Nat) (n : Int32) : xt_C l D vwCl (xTY t) y_Q_drop c_Q_drop 2 (Option.some FieldType.int) ({ frames := 7, cells := 1, slots := 6, locals := 103 }) [.ref xa, .int n] [zO 7 xa [.ref nw, .ref na, .int 0], zO 2 nw [.ref rw, .int 0, .int 0, .int 0, .int 0]] "java/util/NoSuchElementException" := by
  refine xt_of (by decide) (Nat.le_of_ble_eq_true rfl) ?_
  intro p e s m below meth c ls Z hlocks hno hP hTc hl
  obtain ⟨hx, hb, hml, hown, hK⟩ := id Z
  have hown : s.vm.findClass "QuorumStore" = some m.cls := hown
  have hts := hK.1.at (args := ([.ref xa, .int n] : List Value).toArray)
  have hl : lv_has ls 2 [(0, .ref xa), (1, .int n)] := hl
  refine lv_aload_n hx hb d_Q_drop_0 rfl (lv_at hl 0 rfl) ?_
  refine lv_iload_n hx hb d_Q_drop_1 rfl (lv_at hl 1 rfl) ?_
  exact xt_pass (xt_V (As := [.int n]) (rest := []) Z (T_Q_messageAt l hfl D t xa nw na rw n) m_Q_messageAt k_549 k_551 ks_17 rfl rfl ⟨Nat.le_of_ble_eq_true rfl, Nat.le_of_ble_eq_true rfl⟩ (va_recv hK.2 hP (ci := 7) (q0 := 0) rfl rfl) (hP.sub [0, 1] rfl) hTc (fun _ _ => rfl) rfl hl.1 rfl (Nat.le_of_ble_eq_true rfl) d_Q_drop_2 ⟨Nat.le_of_ble_eq_true rfl, Nat.le_of_ble_eq_true rfl⟩) hno hlocks
theorem d_Q_copy_0 : decode c_Q_copy 0 = .ok (.aload_n 0, 1) := by decide +kernel
theorem d_Q_copy_1 : decode c_Q_copy 1 = .ok (.iload_n 1, 1) := by decide +kernel
theorem d_Q_copy_2 : decode c_Q_copy 2 = .ok (.invokevirtual 39, 3) := by decide +kernel
set_option maxHeartbeats 4000000 in
set_option maxRecDepth 100000 in
/-- Q_copy where there is no message -/
theorem T_Q_copy (l : Launch) (hfl : l.flags = pinnedFlags ++ [noTraceFlag]) (D : va_G) (t : Nat → ClassId) (xa nw na rw : Nat) (n : Int32) : xt_C l D vwCl (xTY t) y_Q_copy c_Q_copy 3 (Option.some FieldType.int) ({ frames := 7, cells := 1, slots := 6, locals := 103 }) [.ref xa, .int n] [zO 7 xa [.ref nw, .ref na, .int 0], zO 2 nw [.ref rw, .int 0, .int 0, .int 0, .int 0]] "java/util/NoSuchElementException" := by
  refine xt_of (by decide) (Nat.le_of_ble_eq_true rfl) ?_
  intro p e s m below meth c ls Z hlocks hno hP hTc hl
  obtain ⟨hx, hb, hml, hown, hK⟩ := id Z
  have hown : s.vm.findClass "QuorumStore" = some m.cls := hown
  have hts := hK.1.at (args := ([.ref xa, .int n] : List Value).toArray)
  have hl : lv_has ls 3 [(0, .ref xa), (1, .int n)] := hl
  refine lv_aload_n hx hb d_Q_copy_0 rfl (lv_at hl 0 rfl) ?_
  refine lv_iload_n hx hb d_Q_copy_1 rfl (lv_at hl 1 rfl) ?_
  exact xt_pass (xt_V (As := [.int n]) (rest := []) Z (T_Q_messageAt l hfl D t xa nw na rw n) m_Q_messageAt k_549 k_551 ks_17 rfl rfl ⟨Nat.le_of_ble_eq_true rfl, Nat.le_of_ble_eq_true rfl⟩ (va_recv hK.2 hP (ci := 7) (q0 := 0) rfl rfl) (hP.sub [0, 1] rfl) hTc (fun _ _ => rfl) rfl hl.1 rfl (Nat.le_of_ble_eq_true rfl) d_Q_copy_2 ⟨Nat.le_of_ble_eq_true rfl, Nat.le_of_ble_eq_true rfl⟩) hno hlocks
theorem d_Q_message_0 : decode c_Q_message 0 = .ok (.aload_n 0, 1) := by decide +kernel
theorem d_Q_message_1 : decode c_Q_message 1 = .ok (.iload_n 1, 1) := by decide +kernel
theorem d_Q_message_2 : decode c_Q_message 2 = .ok (.invokevirtual 39, 3) := by decide +kernel
set_option maxHeartbeats 4000000 in
set_option maxRecDepth 100000 in
/-- Q_message where there is no message -/
theorem T_Q_message (l : Launch) (hfl : l.flags = pinnedFlags ++ [noTraceFlag]) (D : va_G) (t : Nat → ClassId) (xa nw na rw : Nat) (n wh : Int32) : xt_C l D vwCl (xTY t) y_Q_message c_Q_message 4 (Option.some FieldType.int) ({ frames := 7, cells := 1, slots := 6, locals := 103 }) [.ref xa, .int n, .int wh] [zO 7 xa [.ref nw, .ref na, .int 0], zO 2 nw [.ref rw, .int 0, .int 0, .int 0, .int 0]] "java/util/NoSuchElementException" := by
  refine xt_of (by decide) (Nat.le_of_ble_eq_true rfl) ?_
  intro p e s m below meth c ls Z hlocks hno hP hTc hl
  obtain ⟨hx, hb, hml, hown, hK⟩ := id Z
  have hown : s.vm.findClass "QuorumStore" = some m.cls := hown
  have hts := hK.1.at (args := ([.ref xa, .int n, .int wh] : List Value).toArray)
  have hl : lv_has ls 4 [(0, .ref xa), (1, .int n), (2, .int wh)] := hl
  refine lv_aload_n hx hb d_Q_message_0 rfl (lv_at hl 0 rfl) ?_
  refine lv_iload_n hx hb d_Q_message_1 rfl (lv_at hl 1 rfl) ?_
  exact xt_pass (xt_V (As := [.int n]) (rest := []) Z (T_Q_messageAt l hfl D t xa nw na rw n) m_Q_messageAt k_549 k_551 ks_17 rfl rfl ⟨Nat.le_of_ble_eq_true rfl, Nat.le_of_ble_eq_true rfl⟩ (va_recv hK.2 hP (ci := 7) (q0 := 0) rfl rfl) (hP.sub [0, 1] rfl) hTc (fun _ _ => rfl) rfl hl.1 rfl (Nat.le_of_ble_eq_true rfl) d_Q_message_2 ⟨Nat.le_of_ble_eq_true rfl, Nat.le_of_ble_eq_true rfl⟩) hno hlocks
theorem d_Q_fall_0 : decode c_Q_fall 0 = .ok (.aload_n 0, 1) := by decide +kernel
theorem d_Q_fall_1 : decode c_Q_fall 1 = .ok (.iload_n 1, 1) := by decide +kernel
theorem d_Q_fall_2 : decode c_Q_fall 2 = .ok (.invokevirtual 98, 3) := by decide +kernel
set_option maxHeartbeats 4000000 in
set_option maxRecDepth 100000 in
/-- Q_fall of no node -/
theorem T_Q_fall (l : Launch) (hfl : l.flags = pinnedFlags ++ [noTraceFlag]) (D : va_G) (t : Nat → ClassId) (xa nw na : Nat) (qq : Nat → Nat → Nat) (n  : Int32) (hn : n < 0 ∨ 7 ≤ n) : xt_C l D vwCl (xTY t) y_Q_fall c_Q_fall 3 (Option.none : Option FieldType) ({ frames := 7, cells := 1, slots := 6, locals := 103 }) [.ref xa, .int n] [zO 7 xa [.ref nw, .ref na, .int 0], zA t 4 na 7 (fun j => some (qq j 0))] "java/util/NoSuchElementException" := by
  refine xt_of (by decide) (Nat.le_of_ble_eq_true rfl) ?_
  intro p e s m below meth c ls Z hlocks hno hP hTc hl
  obtain ⟨hx, hb, hml, hown, hK⟩ := id Z
  have hown : s.vm.findClass "QuorumStore" = some m.cls := hown
  have hts := hK.1.at (args := ([.ref xa, .int n] : List Value).toArray)
  have hl : lv_has ls 3 [(0, .ref xa), (1, .int n)] := hl
  refine lv_aload_n hx hb d_Q_fall_0 rfl (lv_at hl 0 rfl) ?_
  refine lv_iload_n hx hb d_Q_fall_1 rfl (lv_at hl 1 rfl) ?_
  exact xt_pass (xt_V (As := [.int n]) (rest := []) Z (T_Q_nodeAt l hfl D t xa nw na qq n hn) m_Q_nodeAt k_710 k_712 ks_32 rfl rfl ⟨Nat.le_of_ble_eq_true rfl, Nat.le_of_ble_eq_true rfl⟩ (va_recv hK.2 hP (ci := 7) (q0 := 0) rfl rfl) (hP.sub [0, 1] rfl) hTc (fun _ _ => rfl) rfl hl.1 rfl (Nat.le_of_ble_eq_true rfl) d_Q_fall_2 ⟨Nat.le_of_ble_eq_true rfl, Nat.le_of_ble_eq_true rfl⟩) hno hlocks
theorem d_Q_rise_0 : decode c_Q_rise 0 = .ok (.aload_n 0, 1) := by decide +kernel
theorem d_Q_rise_1 : decode c_Q_rise 1 = .ok (.iload_n 1, 1) := by decide +kernel
theorem d_Q_rise_2 : decode c_Q_rise 2 = .ok (.invokevirtual 98, 3) := by decide +kernel
set_option maxHeartbeats 4000000 in
set_option maxRecDepth 100000 in
/-- Q_rise of no node -/
theorem T_Q_rise (l : Launch) (hfl : l.flags = pinnedFlags ++ [noTraceFlag]) (D : va_G) (t : Nat → ClassId) (xa nw na : Nat) (qq : Nat → Nat → Nat) (n  : Int32) (hn : n < 0 ∨ 7 ≤ n) : xt_C l D vwCl (xTY t) y_Q_rise c_Q_rise 3 (Option.none : Option FieldType) ({ frames := 7, cells := 1, slots := 6, locals := 103 }) [.ref xa, .int n] [zO 7 xa [.ref nw, .ref na, .int 0], zA t 4 na 7 (fun j => some (qq j 0))] "java/util/NoSuchElementException" := by
  refine xt_of (by decide) (Nat.le_of_ble_eq_true rfl) ?_
  intro p e s m below meth c ls Z hlocks hno hP hTc hl
  obtain ⟨hx, hb, hml, hown, hK⟩ := id Z
  have hown : s.vm.findClass "QuorumStore" = some m.cls := hown
  have hts := hK.1.at (args := ([.ref xa, .int n] : List Value).toArray)
  have hl : lv_has ls 3 [(0, .ref xa), (1, .int n)] := hl
  refine lv_aload_n hx hb d_Q_rise_0 rfl (lv_at hl 0 rfl) ?_
  refine lv_iload_n hx hb d_Q_rise_1 rfl (lv_at hl 1 rfl) ?_
  exact xt_pass (xt_V (As := [.int n]) (rest := []) Z (T_Q_nodeAt l hfl D t xa nw na qq n hn) m_Q_nodeAt k_710 k_712 ks_32 rfl rfl ⟨Nat.le_of_ble_eq_true rfl, Nat.le_of_ble_eq_true rfl⟩ (va_recv hK.2 hP (ci := 7) (q0 := 0) rfl rfl) (hP.sub [0, 1] rfl) hTc (fun _ _ => rfl) rfl hl.1 rfl (Nat.le_of_ble_eq_true rfl) d_Q_rise_2 ⟨Nat.le_of_ble_eq_true rfl, Nat.le_of_ble_eq_true rfl⟩) hno hlocks
theorem d_Q_ask_0 : decode c_Q_ask 0 = .ok (.aload_n 0, 1) := by decide +kernel
theorem d_Q_ask_1 : decode c_Q_ask 1 = .ok (.iload_n 1, 1) := by decide +kernel
theorem d_Q_ask_2 : decode c_Q_ask 2 = .ok (.invokevirtual 98, 3) := by decide +kernel
set_option maxHeartbeats 4000000 in
set_option maxRecDepth 100000 in
/-- Q_ask of no node -/
theorem T_Q_ask (l : Launch) (hfl : l.flags = pinnedFlags ++ [noTraceFlag]) (D : va_G) (t : Nat → ClassId) (xa nw na : Nat) (qq : Nat → Nat → Nat) (n a2 a3 a4 a5 a6 : Int32) (hn : n < 0 ∨ 7 ≤ n) : xt_C l D vwCl (xTY t) y_Q_ask c_Q_ask 9 (Option.some FieldType.int) ({ frames := 7, cells := 1, slots := 6, locals := 103 }) [.ref xa, .int n, .int a2, .int a3, .int a4, .int a5, .int a6] [zO 7 xa [.ref nw, .ref na, .int 0], zA t 4 na 7 (fun j => some (qq j 0))] "java/util/NoSuchElementException" := by
  refine xt_of (by decide) (Nat.le_of_ble_eq_true rfl) ?_
  intro p e s m below meth c ls Z hlocks hno hP hTc hl
  obtain ⟨hx, hb, hml, hown, hK⟩ := id Z
  have hown : s.vm.findClass "QuorumStore" = some m.cls := hown
  have hts := hK.1.at (args := ([.ref xa, .int n, .int a2, .int a3, .int a4, .int a5, .int a6] : List Value).toArray)
  have hl : lv_has ls 9 [(0, .ref xa), (1, .int n), (2, .int a2), (3, .int a3), (4, .int a4), (5, .int a5), (6, .int a6)] := hl
  refine lv_aload_n hx hb d_Q_ask_0 rfl (lv_at hl 0 rfl) ?_
  refine lv_iload_n hx hb d_Q_ask_1 rfl (lv_at hl 1 rfl) ?_
  exact xt_pass (xt_V (As := [.int n]) (rest := []) Z (T_Q_nodeAt l hfl D t xa nw na qq n hn) m_Q_nodeAt k_710 k_712 ks_32 rfl rfl ⟨Nat.le_of_ble_eq_true rfl, Nat.le_of_ble_eq_true rfl⟩ (va_recv hK.2 hP (ci := 7) (q0 := 0) rfl rfl) (hP.sub [0, 1] rfl) hTc (fun _ _ => rfl) rfl hl.1 rfl (Nat.le_of_ble_eq_true rfl) d_Q_ask_2 ⟨Nat.le_of_ble_eq_true rfl, Nat.le_of_ble_eq_true rfl⟩) hno hlocks
theorem d_Q_answer_0 : decode c_Q_answer 0 = .ok (.aload_n 0, 1) := by decide +kernel
theorem d_Q_answer_1 : decode c_Q_answer 1 = .ok (.iload_n 1, 1) := by decide +kernel
theorem d_Q_answer_2 : decode c_Q_answer 2 = .ok (.invokevirtual 98, 3) := by decide +kernel
set_option maxHeartbeats 4000000 in
set_option maxRecDepth 100000 in
/-- Q_answer of no node -/
theorem T_Q_answer (l : Launch) (hfl : l.flags = pinnedFlags ++ [noTraceFlag]) (D : va_G) (t : Nat → ClassId) (xa nw na : Nat) (qq : Nat → Nat → Nat) (n a2 a3 : Int32) (hn : n < 0 ∨ 7 ≤ n) : xt_C l D vwCl (xTY t) y_Q_answer c_Q_answer 5 (Option.some FieldType.long) ({ frames := 7, cells := 1, slots := 6, locals := 103 }) [.ref xa, .int n, .int a2, .int a3] [zO 7 xa [.ref nw, .ref na, .int 0], zA t 4 na 7 (fun j => some (qq j 0))] "java/util/NoSuchElementException" := by
  refine xt_of (by decide) (Nat.le_of_ble_eq_true rfl) ?_
  intro p e s m below meth c ls Z hlocks hno hP hTc hl
  obtain ⟨hx, hb, hml, hown, hK⟩ := id Z
  have hown : s.vm.findClass "QuorumStore" = some m.cls := hown
  have hts := hK.1.at (args := ([.ref xa, .int n, .int a2, .int a3] : List Value).toArray)
  have hl : lv_has ls 5 [(0, .ref xa), (1, .int n), (2, .int a2), (3, .int a3)] := hl
  refine lv_aload_n hx hb d_Q_answer_0 rfl (lv_at hl 0 rfl) ?_
  refine lv_iload_n hx hb d_Q_answer_1 rfl (lv_at hl 1 rfl) ?_
  exact xt_pass (xt_V (As := [.int n]) (rest := []) Z (T_Q_nodeAt l hfl D t xa nw na qq n hn) m_Q_nodeAt k_710 k_712 ks_32 rfl rfl ⟨Nat.le_of_ble_eq_true rfl, Nat.le_of_ble_eq_true rfl⟩ (va_recv hK.2 hP (ci := 7) (q0 := 0) rfl rfl) (hP.sub [0, 1] rfl) hTc (fun _ _ => rfl) rfl hl.1 rfl (Nat.le_of_ble_eq_true rfl) d_Q_answer_2 ⟨Nat.le_of_ble_eq_true rfl, Nat.le_of_ble_eq_true rfl⟩) hno hlocks
theorem d_Q_number_0 : decode c_Q_number 0 = .ok (.aload_n 0, 1) := by decide +kernel
theorem d_Q_number_1 : decode c_Q_number 1 = .ok (.iload_n 1, 1) := by decide +kernel
theorem d_Q_number_2 : decode c_Q_number 2 = .ok (.invokevirtual 98, 3) := by decide +kernel
set_option maxHeartbeats 4000000 in
set_option maxRecDepth 100000 in
/-- Q_number of no node -/
theorem T_Q_number (l : Launch) (hfl : l.flags = pinnedFlags ++ [noTraceFlag]) (D : va_G) (t : Nat → ClassId) (xa nw na : Nat) (qq : Nat → Nat → Nat) (n a2 : Int32) (hn : n < 0 ∨ 7 ≤ n) : xt_C l D vwCl (xTY t) y_Q_number c_Q_number 4 (Option.some FieldType.long) ({ frames := 7, cells := 1, slots := 6, locals := 103 }) [.ref xa, .int n, .int a2] [zO 7 xa [.ref nw, .ref na, .int 0], zA t 4 na 7 (fun j => some (qq j 0))] "java/util/NoSuchElementException" := by
  refine xt_of (by decide) (Nat.le_of_ble_eq_true rfl) ?_
  intro p e s m below meth c ls Z hlocks hno hP hTc hl
  obtain ⟨hx, hb, hml, hown, hK⟩ := id Z
  have hown : s.vm.findClass "QuorumStore" = some m.cls := hown
  have hts := hK.1.at (args := ([.ref xa, .int n, .int a2] : List Value).toArray)
  have hl : lv_has ls 4 [(0, .ref xa), (1, .int n), (2, .int a2)] := hl
  refine lv_aload_n hx hb d_Q_number_0 rfl (lv_at hl 0 rfl) ?_
  refine lv_iload_n hx hb d_Q_number_1 rfl (lv_at hl 1 rfl) ?_
  exact xt_pass (xt_V (As := [.int n]) (rest := []) Z (T_Q_nodeAt l hfl D t xa nw na qq n hn) m_Q_nodeAt k_710 k_712 ks_32 rfl rfl ⟨Nat.le_of_ble_eq_true rfl, Nat.le_of_ble_eq_true rfl⟩ (va_recv hK.2 hP (ci := 7) (q0 := 0) rfl rfl) (hP.sub [0, 1] rfl) hTc (fun _ _ => rfl) rfl hl.1 rfl (Nat.le_of_ble_eq_true rfl) d_Q_number_2 ⟨Nat.le_of_ble_eq_true rfl, Nat.le_of_ble_eq_true rfl⟩) hno hlocks
theorem d_Q_known_0 : decode c_Q_known 0 = .ok (.aload_n 0, 1) := by decide +kernel
theorem d_Q_known_1 : decode c_Q_known 1 = .ok (.iload_n 1, 1) := by decide +kernel
theorem d_Q_known_2 : decode c_Q_known 2 = .ok (.invokevirtual 98, 3) := by decide +kernel
set_option maxHeartbeats 4000000 in
set_option maxRecDepth 100000 in
/-- Q_known of no node -/
theorem T_Q_known (l : Launch) (hfl : l.flags = pinnedFlags ++ [noTraceFlag]) (D : va_G) (t : Nat → ClassId) (xa nw na : Nat) (qq : Nat → Nat → Nat) (n a2 a3 : Int32) (hn : n < 0 ∨ 7 ≤ n) : xt_C l D vwCl (xTY t) y_Q_known c_Q_known 5 (Option.some FieldType.int) ({ frames := 7, cells := 1, slots := 6, locals := 103 }) [.ref xa, .int n, .int a2, .int a3] [zO 7 xa [.ref nw, .ref na, .int 0], zA t 4 na 7 (fun j => some (qq j 0))] "java/util/NoSuchElementException" := by
  refine xt_of (by decide) (Nat.le_of_ble_eq_true rfl) ?_
  intro p e s m below meth c ls Z hlocks hno hP hTc hl
  obtain ⟨hx, hb, hml, hown, hK⟩ := id Z
  have hown : s.vm.findClass "QuorumStore" = some m.cls := hown
  have hts := hK.1.at (args := ([.ref xa, .int n, .int a2, .int a3] : List Value).toArray)
  have hl : lv_has ls 5 [(0, .ref xa), (1, .int n), (2, .int a2), (3, .int a3)] := hl
  refine lv_aload_n hx hb d_Q_known_0 rfl (lv_at hl 0 rfl) ?_
  refine lv_iload_n hx hb d_Q_known_1 rfl (lv_at hl 1 rfl) ?_
  exact xt_pass (xt_V (As := [.int n]) (rest := []) Z (T_Q_nodeAt l hfl D t xa nw na qq n hn) m_Q_nodeAt k_710 k_712 ks_32 rfl rfl ⟨Nat.le_of_ble_eq_true rfl, Nat.le_of_ble_eq_true rfl⟩ (va_recv hK.2 hP (ci := 7) (q0 := 0) rfl rfl) (hP.sub [0, 1] rfl) hTc (fun _ _ => rfl) rfl hl.1 rfl (Nat.le_of_ble_eq_true rfl) d_Q_known_2 ⟨Nat.le_of_ble_eq_true rfl, Nat.le_of_ble_eq_true rfl⟩) hno hlocks
theorem d_Q_about_0 : decode c_Q_about 0 = .ok (.aload_n 0, 1) := by decide +kernel
theorem d_Q_about_1 : decode c_Q_about 1 = .ok (.iload_n 1, 1) := by decide +kernel
theorem d_Q_about_2 : decode c_Q_about 2 = .ok (.invokevirtual 98, 3) := by decide +kernel
set_option maxHeartbeats 4000000 in
set_option maxRecDepth 100000 in
/-- Q_about of no node -/
theorem T_Q_about (l : Launch) (hfl : l.flags = pinnedFlags ++ [noTraceFlag]) (D : va_G) (t : Nat → ClassId) (xa nw na : Nat) (qq : Nat → Nat → Nat) (n a2 : Int32) (hn : n < 0 ∨ 7 ≤ n) : xt_C l D vwCl (xTY t) y_Q_about c_Q_about 4 (Option.some FieldType.int) ({ frames := 7, cells := 1, slots := 6, locals := 103 }) [.ref xa, .int n, .int a2] [zO 7 xa [.ref nw, .ref na, .int 0], zA t 4 na 7 (fun j => some (qq j 0))] "java/util/NoSuchElementException" := by
  refine xt_of (by decide) (Nat.le_of_ble_eq_true rfl) ?_
  intro p e s m below meth c ls Z hlocks hno hP hTc hl
  obtain ⟨hx, hb, hml, hown, hK⟩ := id Z
  have hown : s.vm.findClass "QuorumStore" = some m.cls := hown
  have hts := hK.1.at (args := ([.ref xa, .int n, .int a2] : List Value).toArray)
  have hl : lv_has ls 4 [(0, .ref xa), (1, .int n), (2, .int a2)] := hl
  refine lv_aload_n hx hb d_Q_about_0 rfl (lv_at hl 0 rfl) ?_
  refine lv_iload_n hx hb d_Q_about_1 rfl (lv_at hl 1 rfl) ?_
  exact xt_pass (xt_V (As := [.int n]) (rest := []) Z (T_Q_nodeAt l hfl D t xa nw na qq n hn) m_Q_nodeAt k_710 k_712 ks_32 rfl rfl ⟨Nat.le_of_ble_eq_true rfl, Nat.le_of_ble_eq_true rfl⟩ (va_recv hK.2 hP (ci := 7) (q0 := 0) rfl rfl) (hP.sub [0, 1] rfl) hTc (fun _ _ => rfl) rfl hl.1 rfl (Nat.le_of_ble_eq_true rfl) d_Q_about_2 ⟨Nat.le_of_ble_eq_true rfl, Nat.le_of_ble_eq_true rfl⟩) hno hlocks
theorem d_Q_rise_5 : decode c_Q_rise 5 = .ok (.astore_n 2, 1) := by decide +kernel
theorem d_Q_rise_6 : decode c_Q_rise 6 = .ok (.aload_n 2, 1) := by decide +kernel
theorem d_Q_rise_7 : decode c_Q_rise 7 = .ok (.getfield 52, 3) := by decide +kernel
theorem d_Q_rise_10 : decode c_Q_rise 10 = .ok (.ifCond .eq 13, 3) := by decide +kernel
theorem d_Q_rise_13 : decode c_Q_rise 13 = .ok (.new 67, 3) := by decide +kernel
theorem d_Q_rise_16 : decode c_Q_rise 16 = .ok (.dup, 1) := by decide +kernel
theorem d_Q_rise_17 : decode c_Q_rise 17 = .ok (.ldc 107, 2) := by decide +kernel
theorem d_Q_rise_19 : decode c_Q_rise 19 = .ok (.invokespecial 71, 3) := by decide +kernel
theorem d_Q_rise_22 : decode c_Q_rise 22 = .ok (.athrow, 1) := by decide +kernel
set_option maxHeartbeats 4000000 in
set_option maxRecDepth 100000 in
/-- rise of a live node -/
theorem T2_Q_rise (l : Launch) (hfl : l.flags = pinnedFlags ++ [noTraceFlag]) (D : va_G) (t : Nat → ClassId) (xa nw na rw : Nat) (qq : Nat → Nat → Nat) (no : Nat → Nat) (mk : Int32) (k : Nat) (hk : k < 7) : xt_C l D vwCl (xTY t) y_Q_rise c_Q_rise 3 (Option.none : Option FieldType) ({ frames := 6, cells := 1, slots := 6, locals := 82 }) [.ref xa, .int (nI k)] [zO 7 xa [.ref nw, .ref na, .int 0], zA t 4 na 7 (fun j => some (qq j 0)), zO 2 nw [.ref rw, .int 0, .int 0, .int 0, .int 0], zA t 3 rw 300 (fun _ => none), zO 3 (qq k 0) [.int (nI k), .ref nw, .int 0, .int 0, .int 0, .ref ((qq k 1)), .ref ((qq k 7)), .ref ((qq k 11)), .int 1, .int 0, .int 0, .int (nI (8 + 3 * k)), .int ((-1)), .int 0, .ref ((qq k 15))], zO 5 (qq k 1) [.ref ((qq k 2)), .ref ((qq k 3)), .ref ((qq k 4)), .ref ((qq k 5)), .ref ((qq k 6)), .int 1], zJ t (qq k 2) 32 (fun _ => 1099511627776), zI t (qq k 3) 8 (fun _ => 0), zJ t (qq k 4) 8 (fun _ => 0), zI t (qq k 5) 4 (xm 1), zI t (qq k 6) 4 (xm mk), zO 4 (qq k 7) [.ref ((qq k 8)), .ref ((qq k 9)), .ref ((qq k 10))], zI t (qq k 8) 32 (fun _ => 0), zI t (qq k 9) 32 (fun _ => 0), zA t 2 (qq k 10) 32 (fun _ => none), zO 4 (qq k 11) [.ref ((qq k 12)), .ref ((qq k 13)), .ref ((qq k 14))], zI t (qq k 12) 64 (fun _ => 0), zI t (qq k 13) 64 (fun _ => 0), zA t 2 (qq k 14) 64 (fun _ => none), zO 0 (qq k 15) [.ref ((no k)), .int 0, .ref ((qq k 16)), .ref ((qq k 20)), .ref ((qq k 24)), .int 0, .int 0, .int 0], zO 4 (qq k 16) [.ref ((qq k 17)), .ref ((qq k 18)), .ref ((qq k 19))], zI t (qq k 17) 32 (fun _ => 0), zI t (qq k 18) 32 (fun _ => 0), zA t 2 (qq k 19) 32 (fun _ => none), zO 4 (qq k 20) [.ref ((qq k 21)), .ref ((qq k 22)), .ref ((qq k 23))], zI t (qq k 21) 4 (fun _ => 0), zI t (qq k 22) 4 (fun _ => 0), zA t 2 (qq k 23) 4 (fun _ => none), zA t 2 (qq k 24) 16 (fun _ => none)] "java/lang/IllegalStateException" := by
  refine xt_of (by decide) (Nat.le_of_ble_eq_true rfl) ?_
  intro p e s m below meth c ls Z hlocks hno hP hTc hl
  obtain ⟨hx, hb, hml, hown, hK⟩ := id Z
  have hown : s.vm.findClass "QuorumStore" = some m.cls := hown
  have hts := hK.1.at (args := ([.ref xa, .int (nI k)] : List Value).toArray)
  have hl : lv_has ls 3 [(0, .ref xa), (1, .int (nI k))] := hl
  refine lv_aload_n hx hb d_Q_rise_0 rfl (lv_at hl 0 rfl) ?_
  refine lv_iload_n hx hb d_Q_rise_1 rfl (lv_at hl 1 rfl) ?_
  refine xr_call (xs_V (As := [.int (nI k)]) (rest := []) Z (C_Q_nodeAt l D t xa nw na qq k hk) m_Q_nodeAt k_710 k_712 ks_32 rfl rfl ⟨Nat.le_of_ble_eq_true rfl, Nat.le_of_ble_eq_true rfl⟩ (va_recv hK.2 hP (ci := 7) (q0 := 0) rfl rfl) (xr_pre hK (hP.sub [0, 1] rfl)) rfl hl.1 rfl (Nat.le_of_ble_eq_true rfl) d_Q_rise_2 ⟨Nat.le_of_ble_eq_true rfl, Nat.le_of_ble_eq_true rfl⟩) ?_
  refine lv_astore_n (lv' := [(2, .ref ((qq k 0))), (0, .ref xa), (1, .int (nI k))]) hx hb d_Q_rise_5 rfl hl (by decide) rfl (fun ls hl => ?_)
  refine lv_aload_n hx hb d_Q_rise_6 rfl (lv_at hl 0 rfl) ?_
  refine va_get (ci := 3) (C := "QuorumStore$Node") (T := TX3) (N := 15) hx hb hts inX3 hown hK.2 hP 4 rfl rfl 8 (by decide) (hts _ k_212) (fun _ h9 => h9) rfl d_Q_rise_7 ?_
  refine lv_if_eq (tgt := 23) hx hb d_Q_rise_10 (by decide) (fun c_1 => absurd c_1 (by decide)) (fun _ => ?_)
  exact xt_new (tx := "the node is live") Z hTc hfl (by decide) k_671 k_22 xc_W_ISE xc_c_ISE (fun pl h9 => xc_chain hK.1 h9 (by decide) xc_d_ISE_0 xc_d_ISE_1 xc_d_ISE_2 xc_d_ISE_5 xc_P_ISE) (by decide) hl.1 d_Q_rise_13 d_Q_rise_16 d_Q_rise_17 d_Q_rise_19 d_Q_rise_22 hno hlocks (Nat.le_of_ble_eq_true rfl) (Nat.le_of_ble_eq_true rfl) (Nat.le_of_ble_eq_true rfl) (Nat.le_of_ble_eq_true rfl)
theorem d_Q_ask_5 : decode c_Q_ask 5 = .ok (.astore 7, 2) := by decide +kernel
theorem d_Q_ask_7 : decode c_Q_ask 7 = .ok (.iload_n 2, 1) := by decide +kernel
theorem d_Q_ask_8 : decode c_Q_ask 8 = .ok (.invokestatic 117, 3) := by decide +kernel
set_option maxHeartbeats 4000000 in
set_option maxRecDepth 100000 in
/-- ask of no client -/
theorem T2_Q_ask (l : Launch) (hfl : l.flags = pinnedFlags ++ [noTraceFlag]) (D : va_G) (t : Nat → ClassId) (xa nw na rw : Nat) (qq : Nat → Nat → Nat) (no : Nat → Nat) (mk : Int32) (k : Nat) (hk : k < 7) (a2 a3 a4 a5 a6 : Int32) (hc : a2 < 0 ∨ 8 ≤ a2) : xt_C l D vwCl (xTY t) y_Q_ask c_Q_ask 9 (Option.some FieldType.int) ({ frames := 7, cells := 1, slots := 6, locals := 102 }) [.ref xa, .int (nI k), .int a2, .int a3, .int a4, .int a5, .int a6] [zO 7 xa [.ref nw, .ref na, .int 0], zA t 4 na 7 (fun j => some (qq j 0)), zO 2 nw [.ref rw, .int 0, .int 0, .int 0, .int 0], zA t 3 rw 300 (fun _ => none), zO 3 (qq k 0) [.int (nI k), .ref nw, .int 0, .int 0, .int 0, .ref ((qq k 1)), .ref ((qq k 7)), .ref ((qq k 11)), .int 1, .int 0, .int 0, .int (nI (8 + 3 * k)), .int ((-1)), .int 0, .ref ((qq k 15))], zO 5 (qq k 1) [.ref ((qq k 2)), .ref ((qq k 3)), .ref ((qq k 4)), .ref ((qq k 5)), .ref ((qq k 6)), .int 1], zJ t (qq k 2) 32 (fun _ => 1099511627776), zI t (qq k 3) 8 (fun _ => 0), zJ t (qq k 4) 8 (fun _ => 0), zI t (qq k 5) 4 (xm 1), zI t (qq k 6) 4 (xm mk), zO 4 (qq k 7) [.ref ((qq k 8)), .ref ((qq k 9)), .ref ((qq k 10))], zI t (qq k 8) 32 (fun _ => 0), zI t (qq k 9) 32 (fun _ => 0), zA t 2 (qq k 10) 32 (fun _ => none), zO 4 (qq k 11) [.ref ((qq k 12)), .ref ((qq k 13)), .ref ((qq k 14))], zI t (qq k 12) 64 (fun _ => 0), zI t (qq k 13) 64 (fun _ => 0), zA t 2 (qq k 14) 64 (fun _ => none), zO 0 (qq k 15) [.ref ((no k)), .int 0, .ref ((qq k 16)), .ref ((qq k 20)), .ref ((qq k 24)), .int 0, .int 0, .int 0], zO 4 (qq k 16) [.ref ((qq k 17)), .ref ((qq k 18)), .ref ((qq k 19))], zI t (qq k 17) 32 (fun _ => 0), zI t (qq k 18) 32 (fun _ => 0), zA t 2 (qq k 19) 32 (fun _ => none), zO 4 (qq k 20) [.ref ((qq k 21)), .ref ((qq k 22)), .ref ((qq k 23))], zI t (qq k 21) 4 (fun _ => 0), zI t (qq k 22) 4 (fun _ => 0), zA t 2 (qq k 23) 4 (fun _ => none), zA t 2 (qq k 24) 16 (fun _ => none)] "java/util/NoSuchElementException" := by
  refine xt_of (by decide) (Nat.le_of_ble_eq_true rfl) ?_
  intro p e s m below meth c ls Z hlocks hno hP hTc hl
  obtain ⟨hx, hb, hml, hown, hK⟩ := id Z
  have hown : s.vm.findClass "QuorumStore" = some m.cls := hown
  have hts := hK.1.at (args := ([.ref xa, .int (nI k), .int a2, .int a3, .int a4, .int a5, .int a6] : List Value).toArray)
  have hl : lv_has ls 9 [(0, .ref xa), (1, .int (nI k)), (2, .int a2), (3, .int a3), (4, .int a4), (5, .int a5), (6, .int a6)] := hl
  refine lv_aload_n hx hb d_Q_ask_0 rfl (lv_at hl 0 rfl) ?_
  refine lv_iload_n hx hb d_Q_ask_1 rfl (lv_at hl 1 rfl) ?_
  refine xr_call (xs_V (As := [.int (nI k)]) (rest := []) Z (C_Q_nodeAt l D t xa nw na qq k hk) m_Q_nodeAt k_710 k_712 ks_32 rfl rfl ⟨Nat.le_of_ble_eq_true rfl, Nat.le_of_ble_eq_true rfl⟩ (va_recv hK.2 hP (ci := 7) (q0 := 0) rfl rfl) (xr_pre hK (hP.sub [0, 1] rfl)) rfl hl.1 rfl (Nat.le_of_ble_eq_true rfl) d_Q_ask_2 ⟨Nat.le_of_ble_eq_true rfl, Nat.le_of_ble_eq_true rfl⟩) ?_
  refine lv_astore (lv' := [(7, .ref ((qq k 0))), (0, .ref xa), (1, .int (nI k)), (2, .int a2), (3, .int a3), (4, .int a4), (5, .int a5), (6, .int a6)]) hx hb d_Q_ask_5 hl (by decide) rfl (fun ls hl => ?_)
  refine lv_iload_n hx hb d_Q_ask_7 rfl (lv_at hl 3 rfl) ?_
  exact xt_pass (xt_S (As := [.int a2]) (rest := []) Z (T_Q_checkClient l hfl D t a2 hc) m_Q_checkClient k_747 k_748 rfl rfl ⟨Nat.le_of_ble_eq_true rfl, Nat.le_of_ble_eq_true rfl⟩ (hP.sub [] rfl) hTc (fun _ _ => rfl) rfl hl.1 rfl (Nat.le_of_ble_eq_true rfl) d_Q_ask_8 ⟨Nat.le_of_ble_eq_true rfl, Nat.le_of_ble_eq_true rfl⟩) hno hlocks
theorem d_Q_ask_11 : decode c_Q_ask 11 = .ok (.iload 4, 2) := by decide +kernel
theorem d_Q_ask_13 : decode c_Q_ask 13 = .ok (.iconst 1, 1) := by decide +kernel
theorem d_Q_ask_14 : decode c_Q_ask 14 = .ok (.if_icmp .lt 15, 3) := by decide +kernel
theorem d_Q_ask_17 : decode c_Q_ask 17 = .ok (.iload 4, 2) := by decide +kernel
theorem d_Q_ask_19 : decode c_Q_ask 19 = .ok (.bipush 6, 2) := by decide +kernel
theorem d_Q_ask_21 : decode c_Q_ask 21 = .ok (.if_icmp .gt 8, 3) := by decide +kernel
theorem d_Q_ask_24 : decode c_Q_ask 24 = .ok (.iload_n 3, 1) := by decide +kernel
theorem d_Q_ask_25 : decode c_Q_ask 25 = .ok (.iconst 1, 1) := by decide +kernel
theorem d_Q_ask_26 : decode c_Q_ask 26 = .ok (.if_icmp .ge 13, 3) := by decide +kernel
theorem d_Q_ask_29 : decode c_Q_ask 29 = .ok (.new 25, 3) := by decide +kernel
theorem d_Q_ask_32 : decode c_Q_ask 32 = .ok (.dup, 1) := by decide +kernel
theorem d_Q_ask_33 : decode c_Q_ask 33 = .ok (.ldc 120, 2) := by decide +kernel
theorem d_Q_ask_35 : decode c_Q_ask 35 = .ok (.invokespecial 29, 3) := by decide +kernel
theorem d_Q_ask_38 : decode c_Q_ask 38 = .ok (.athrow, 1) := by decide +kernel
set_option maxHeartbeats 4000000 in
set_option maxRecDepth 100000 in
/-- ask of a kind out of 1 .. 6, or seq below 1 -/
theorem T3_Q_ask (l : Launch) (hfl : l.flags = pinnedFlags ++ [noTraceFlag]) (D : va_G) (t : Nat → ClassId) (xa nw na rw : Nat) (qq : Nat → Nat → Nat) (no : Nat → Nat) (mk : Int32) (k : Nat) (hk : k < 7) (j : Nat) (hj : j < 8) (a3 a4 a5 a6 : Int32) (hc : a4 < 1 ∨ 6 < a4 ∨ a3 < 1) : xt_C l D vwCl (xTY t) y_Q_ask c_Q_ask 9 (Option.some FieldType.int) ({ frames := 6, cells := 1, slots := 6, locals := 82 }) [.ref xa, .int (nI k), .int (nI j), .int a3, .int a4, .int a5, .int a6] [zO 7 xa [.ref nw, .ref na, .int 0], zA t 4 na 7 (fun j => some (qq j 0)), zO 2 nw [.ref rw, .int 0, .int 0, .int 0, .int 0], zA t 3 rw 300 (fun _ => none), zO 3 (qq k 0) [.int (nI k), .ref nw, .int 0, .int 0, .int 0, .ref ((qq k 1)), .ref ((qq k 7)), .ref ((qq k 11)), .int 1, .int 0, .int 0, .int (nI (8 + 3 * k)), .int ((-1)), .int 0, .ref ((qq k 15))], zO 5 (qq k 1) [.ref ((qq k 2)), .ref ((qq k 3)), .ref ((qq k 4)), .ref ((qq k 5)), .ref ((qq k 6)), .int 1], zJ t (qq k 2) 32 (fun _ => 1099511627776), zI t (qq k 3) 8 (fun _ => 0), zJ t (qq k 4) 8 (fun _ => 0), zI t (qq k 5) 4 (xm 1), zI t (qq k 6) 4 (xm mk), zO 4 (qq k 7) [.ref ((qq k 8)), .ref ((qq k 9)), .ref ((qq k 10))], zI t (qq k 8) 32 (fun _ => 0), zI t (qq k 9) 32 (fun _ => 0), zA t 2 (qq k 10) 32 (fun _ => none), zO 4 (qq k 11) [.ref ((qq k 12)), .ref ((qq k 13)), .ref ((qq k 14))], zI t (qq k 12) 64 (fun _ => 0), zI t (qq k 13) 64 (fun _ => 0), zA t 2 (qq k 14) 64 (fun _ => none), zO 0 (qq k 15) [.ref ((no k)), .int 0, .ref ((qq k 16)), .ref ((qq k 20)), .ref ((qq k 24)), .int 0, .int 0, .int 0], zO 4 (qq k 16) [.ref ((qq k 17)), .ref ((qq k 18)), .ref ((qq k 19))], zI t (qq k 17) 32 (fun _ => 0), zI t (qq k 18) 32 (fun _ => 0), zA t 2 (qq k 19) 32 (fun _ => none), zO 4 (qq k 20) [.ref ((qq k 21)), .ref ((qq k 22)), .ref ((qq k 23))], zI t (qq k 21) 4 (fun _ => 0), zI t (qq k 22) 4 (fun _ => 0), zA t 2 (qq k 23) 4 (fun _ => none), zA t 2 (qq k 24) 16 (fun _ => none)] "java/lang/IllegalArgumentException" := by
  refine xt_of (by decide) (Nat.le_of_ble_eq_true rfl) ?_
  intro p e s m below meth c ls Z hlocks hno hP hTc hl
  obtain ⟨hx, hb, hml, hown, hK⟩ := id Z
  have hown : s.vm.findClass "QuorumStore" = some m.cls := hown
  have hts := hK.1.at (args := ([.ref xa, .int (nI k), .int (nI j), .int a3, .int a4, .int a5, .int a6] : List Value).toArray)
  have hl : lv_has ls 9 [(0, .ref xa), (1, .int (nI k)), (2, .int (nI j)), (3, .int a3), (4, .int a4), (5, .int a5), (6, .int a6)] := hl
  refine lv_aload_n hx hb d_Q_ask_0 rfl (lv_at hl 0 rfl) ?_
  refine lv_iload_n hx hb d_Q_ask_1 rfl (lv_at hl 1 rfl) ?_
  refine xr_call (xs_V (As := [.int (nI k)]) (rest := []) Z (C_Q_nodeAt l D t xa nw na qq k hk) m_Q_nodeAt k_710 k_712 ks_32 rfl rfl ⟨Nat.le_of_ble_eq_true rfl, Nat.le_of_ble_eq_true rfl⟩ (va_recv hK.2 hP (ci := 7) (q0 := 0) rfl rfl) (xr_pre hK (hP.sub [0, 1] rfl)) rfl hl.1 rfl (Nat.le_of_ble_eq_true rfl) d_Q_ask_2 ⟨Nat.le_of_ble_eq_true rfl, Nat.le_of_ble_eq_true rfl⟩) ?_
  refine lv_astore (lv' := [(7, .ref ((qq k 0))), (0, .ref xa), (1, .int (nI k)), (2, .int (nI j)), (3, .int a3), (4, .int a4), (5, .int a5), (6, .int a6)]) hx hb d_Q_ask_5 hl (by decide) rfl (fun ls hl => ?_)
  refine lv_iload_n hx hb d_Q_ask_7 rfl (lv_at hl 3 rfl) ?_
  refine xr_call (xs_S (As := [.int (nI j)]) (rest := []) Z (C_Q_checkClient l D t j hj) m_Q_checkClient k_747 k_748 rfl rfl ⟨Nat.le_of_ble_eq_true rfl, Nat.le_of_ble_eq_true rfl⟩ (xr_pre hK (hP.sub [] rfl)) rfl hl.1 rfl (Nat.le_of_ble_eq_true rfl) d_Q_ask_8 ⟨Nat.le_of_ble_eq_true rfl, Nat.le_of_ble_eq_true rfl⟩) ?_
  refine lv_iload hx hb d_Q_ask_11 (lv_at hl 5 rfl) ?_
  refine lv_iconst (v := 1) hx hb d_Q_ask_13 (by decide) ?_
  refine lv_icmp_lt (tgt := 29) hx hb d_Q_ask_14 (by decide) (fun c_1 => ?_) (fun c_1 => ?_)
  · exact xt_new (tx := "kind is not 1 .. 6, or seq is below 1") Z hTc hfl (by decide) k_280 k_16 xc_W_IAE xc_c_IAE (fun pl h9 => xc_chain hK.1 h9 (by decide) xc_d_IAE_0 xc_d_IAE_1 xc_d_IAE_2 xc_d_IAE_5 xc_P_IAE) (by decide) hl.1 d_Q_ask_29 d_Q_ask_32 d_Q_ask_33 d_Q_ask_35 d_Q_ask_38 hno hlocks (Nat.le_of_ble_eq_true rfl) (Nat.le_of_ble_eq_true rfl) (Nat.le_of_ble_eq_true rfl) (Nat.le_of_ble_eq_true rfl)
  · refine lv_iload hx hb d_Q_ask_17 (lv_at hl 5 rfl) ?_
    refine lv_bipush (v := 6) hx hb d_Q_ask_19 (by decide) ?_
    refine lv_icmp_gt (tgt := 29) hx hb d_Q_ask_21 (by decide) (fun c_2 => ?_) (fun c_2 => ?_)
    · exact xt_new (tx := "kind is not 1 .. 6, or seq is below 1") Z hTc hfl (by decide) k_280 k_16 xc_W_IAE xc_c_IAE (fun pl h9 => xc_chain hK.1 h9 (by decide) xc_d_IAE_0 xc_d_IAE_1 xc_d_IAE_2 xc_d_IAE_5 xc_P_IAE) (by decide) hl.1 d_Q_ask_29 d_Q_ask_32 d_Q_ask_33 d_Q_ask_35 d_Q_ask_38 hno hlocks (Nat.le_of_ble_eq_true rfl) (Nat.le_of_ble_eq_true rfl) (Nat.le_of_ble_eq_true rfl) (Nat.le_of_ble_eq_true rfl)
    · refine lv_iload_n hx hb d_Q_ask_24 rfl (lv_at hl 4 rfl) ?_
      refine lv_iconst (v := 1) hx hb d_Q_ask_25 (by decide) ?_
      refine lv_icmp_ge (tgt := 39) hx hb d_Q_ask_26 (by decide) (fun c_3 => absurd c_3 (fun h9 => hc.elim c_1 (fun h8 => h8.elim c_2 (fun h7 => Int32.not_le.mpr h7 h9)))) (fun _ => ?_)
      exact xt_new (tx := "kind is not 1 .. 6, or seq is below 1") Z hTc hfl (by decide) k_280 k_16 xc_W_IAE xc_c_IAE (fun pl h9 => xc_chain hK.1 h9 (by decide) xc_d_IAE_0 xc_d_IAE_1 xc_d_IAE_2 xc_d_IAE_5 xc_P_IAE) (by decide) hl.1 d_Q_ask_29 d_Q_ask_32 d_Q_ask_33 d_Q_ask_35 d_Q_ask_38 hno hlocks (Nat.le_of_ble_eq_true rfl) (Nat.le_of_ble_eq_true rfl) (Nat.le_of_ble_eq_true rfl) (Nat.le_of_ble_eq_true rfl)
theorem d_Q_ask_39 : decode c_Q_ask 39 = .ok (.aload 7, 2) := by decide +kernel
theorem d_Q_ask_41 : decode c_Q_ask 41 = .ok (.getfield 52, 3) := by decide +kernel
theorem d_Q_ask_44 : decode c_Q_ask 44 = .ok (.ifCond .ne 13, 3) := by decide +kernel
theorem d_Q_ask_57 : decode c_Q_ask 57 = .ok (.aload 7, 2) := by decide +kernel
theorem d_Q_ask_59 : decode c_Q_ask 59 = .ok (.iload_n 2, 1) := by decide +kernel
theorem d_Q_ask_60 : decode c_Q_ask 60 = .ok (.iload_n 3, 1) := by decide +kernel
theorem d_Q_ask_61 : decode c_Q_ask 61 = .ok (.invokevirtual 122, 3) := by decide +kernel
theorem d_Q_ask_64 : decode c_Q_ask 64 = .ok (.istore 8, 2) := by decide +kernel
theorem d_Q_ask_66 : decode c_Q_ask 66 = .ok (.iload 8, 2) := by decide +kernel
theorem d_Q_ask_68 : decode c_Q_ask 68 = .ok (.ifCond .ne 27, 3) := by decide +kernel
theorem d_Q_ask_95 : decode c_Q_ask 95 = .ok (.iload 8, 2) := by decide +kernel
theorem d_Q_ask_97 : decode c_Q_ask 97 = .ok (.ireturn, 1) := by decide +kernel
set_option maxHeartbeats 4000000 in
set_option maxRecDepth 100000 in
/-- ask of a node that does not lead -/
theorem C_Q_ask (l : Launch) (D : va_G) (t : Nat → ClassId) (xa nw na rw : Nat) (qq : Nat → Nat → Nat) (no : Nat → Nat) (mk : Int32) (k : Nat) (hk : k < 7) (j : Nat) (hj : j < 8) (a3 a4 a5 a6 : Int32) (h1 : ¬ a4 < 1) (h2 : ¬ 6 < a4) (h3 : 1 ≤ a3) : xr_C l D vwCl (xTY t) y_Q_ask c_Q_ask 9 (Option.some FieldType.int) ({ frames := 1, cells := 0, slots := 0, locals := 22 }) [.ref xa, .int (nI k), .int (nI j), .int a3, .int a4, .int a5, .int a6] [zO 7 xa [.ref nw, .ref na, .int 0], zA t 4 na 7 (fun j => some (qq j 0)), zO 2 nw [.ref rw, .int 0, .int 0, .int 0, .int 0], zA t 3 rw 300 (fun _ => none), zO 3 (qq k 0) [.int (nI k), .ref nw, .int 0, .int 0, .int 0, .ref ((qq k 1)), .ref ((qq k 7)), .ref ((qq k 11)), .int 1, .int 0, .int 0, .int (nI (8 + 3 * k)), .int ((-1)), .int 0, .ref ((qq k 15))], zO 5 (qq k 1) [.ref ((qq k 2)), .ref ((qq k 3)), .ref ((qq k 4)), .ref ((qq k 5)), .ref ((qq k 6)), .int 1], zJ t (qq k 2) 32 (fun _ => 1099511627776), zI t (qq k 3) 8 (fun _ => 0), zJ t (qq k 4) 8 (fun _ => 0), zI t (qq k 5) 4 (xm 1), zI t (qq k 6) 4 (xm mk), zO 4 (qq k 7) [.ref ((qq k 8)), .ref ((qq k 9)), .ref ((qq k 10))], zI t (qq k 8) 32 (fun _ => 0), zI t (qq k 9) 32 (fun _ => 0), zA t 2 (qq k 10) 32 (fun _ => none), zO 4 (qq k 11) [.ref ((qq k 12)), .ref ((qq k 13)), .ref ((qq k 14))], zI t (qq k 12) 64 (fun _ => 0), zI t (qq k 13) 64 (fun _ => 0), zA t 2 (qq k 14) 64 (fun _ => none), zO 0 (qq k 15) [.ref ((no k)), .int 0, .ref ((qq k 16)), .ref ((qq k 20)), .ref ((qq k 24)), .int 0, .int 0, .int 0], zO 4 (qq k 16) [.ref ((qq k 17)), .ref ((qq k 18)), .ref ((qq k 19))], zI t (qq k 17) 32 (fun _ => 0), zI t (qq k 18) 32 (fun _ => 0), zA t 2 (qq k 19) 32 (fun _ => none), zO 4 (qq k 20) [.ref ((qq k 21)), .ref ((qq k 22)), .ref ((qq k 23))], zI t (qq k 21) 4 (fun _ => 0), zI t (qq k 22) 4 (fun _ => 0), zA t 2 (qq k 23) 4 (fun _ => none), zA t 2 (qq k 24) 16 (fun _ => none)] (xr_Q (some (.int (-1)))) := by
  refine xr_of (by decide) (Nat.le_of_ble_eq_true rfl) ?_
  intro p e s m below meth c ls Z hr hlocks hP hl
  obtain ⟨hx, hb, hml, hown, hK⟩ := id Z
  have hown : s.vm.findClass "QuorumStore" = some m.cls := hown
  have hts := hK.1.at (args := ([.ref xa, .int (nI k), .int (nI j), .int a3, .int a4, .int a5, .int a6] : List Value).toArray)
  have hl : lv_has ls 9 [(0, .ref xa), (1, .int (nI k)), (2, .int (nI j)), (3, .int a3), (4, .int a4), (5, .int a5), (6, .int a6)] := hl
  refine lv_aload_n hx hb d_Q_ask_0 rfl (lv_at hl 0 rfl) ?_
  refine lv_iload_n hx hb d_Q_ask_1 rfl (lv_at hl 1 rfl) ?_
  refine xr_call (xs_V (As := [.int (nI k)]) (rest := []) Z (C_Q_nodeAt l D t xa nw na qq k hk) m_Q_nodeAt k_710 k_712 ks_32 rfl rfl ⟨Nat.le_of_ble_eq_true rfl, Nat.le_of_ble_eq_true rfl⟩ (va_recv hK.2 hP (ci := 7) (q0 := 0) rfl rfl) (xr_pre hK (hP.sub [0, 1] rfl)) rfl hl.1 rfl (Nat.le_of_ble_eq_true rfl) d_Q_ask_2 ⟨Nat.le_of_ble_eq_true rfl, Nat.le_of_ble_eq_true rfl⟩) ?_
  refine lv_astore (lv' := [(7, .ref ((qq k 0))), (0, .ref xa), (1, .int (nI k)), (2, .int (nI j)), (3, .int a3), (4, .int a4), (5, .int a5), (6, .int a6)]) hx hb d_Q_ask_5 hl (by decide) rfl (fun ls hl => ?_)
  refine lv_iload_n hx hb d_Q_ask_7 rfl (lv_at hl 3 rfl) ?_
  refine xr_call (xs_S (As := [.int (nI j)]) (rest := []) Z (C_Q_checkClient l D t j hj) m_Q_checkClient k_747 k_748 rfl rfl ⟨Nat.le_of_ble_eq_true rfl, Nat.le_of_ble_eq_true rfl⟩ (xr_pre hK (hP.sub [] rfl)) rfl hl.1 rfl (Nat.le_of_ble_eq_true rfl) d_Q_ask_8 ⟨Nat.le_of_ble_eq_true rfl, Nat.le_of_ble_eq_true rfl⟩) ?_
  refine lv_iload hx hb d_Q_ask_11 (lv_at hl 5 rfl) ?_
  refine lv_iconst (v := 1) hx hb d_Q_ask_13 (by decide) ?_
  refine lv_icmp_lt (tgt := 29) hx hb d_Q_ask_14 (by decide) (fun c_1 => absurd c_1 (h1)) (fun _ => ?_)
  refine lv_iload hx hb d_Q_ask_17 (lv_at hl 5 rfl) ?_
  refine lv_bipush (v := 6) hx hb d_Q_ask_19 (by decide) ?_
  refine lv_icmp_gt (tgt := 29) hx hb d_Q_ask_21 (by decide) (fun c_2 => absurd c_2 (h2)) (fun _ => ?_)
  refine lv_iload_n hx hb d_Q_ask_24 rfl (lv_at hl 4 rfl) ?_
  refine lv_iconst (v := 1) hx hb d_Q_ask_25 (by decide) ?_
  refine lv_icmp_ge (tgt := 39) hx hb d_Q_ask_26 (by decide) (fun _ => ?_) (fun c_3 => absurd (h3) c_3)
  refine lv_aload hx hb d_Q_ask_39 (lv_at hl 0 rfl) ?_
  refine va_get (ci := 3) (C := "QuorumStore$Node") (T := TX3) (N := 15) hx hb hts inX3 hown hK.2 hP 4 rfl rfl 8 (by decide) (hts _ k_212) (fun _ h9 => h9) rfl d_Q_ask_41 ?_
  refine lv_if_ne (tgt := 57) hx hb d_Q_ask_44 (by decide) (fun _ => ?_) (fun c_4 => absurd c_4 (by decide))
  refine lv_aload hx hb d_Q_ask_57 (lv_at hl 0 rfl) ?_
  refine lv_iload_n hx hb d_Q_ask_59 rfl (lv_at hl 3 rfl) ?_
  refine lv_iload_n hx hb d_Q_ask_60 rfl (lv_at hl 4 rfl) ?_
  refine xr_call (xs_V (As := [.int (nI j), .int a3]) (rest := []) Z (C_D_refusal l D t (qq k) nw (no k) (nI k) 0 0 (nI (8 + 3 * k)) (-1) 0 0 mk (nI j) a3) m_D_refusal k_752 k_753 k_754 rfl rfl ⟨Nat.le_of_ble_eq_true rfl, Nat.le_of_ble_eq_true rfl⟩ (va_recv hK.2 hP (ci := 3) (q0 := 4) rfl rfl) (xr_pre hK (hP.sub [4, 5, 6, 7, 8, 9, 10, 11, 12, 13, 14, 15, 16, 17, 18, 19, 20, 21, 22, 23, 24, 25, 26, 27, 28] rfl)) rfl hl.1 rfl (Nat.le_of_ble_eq_true rfl) d_Q_ask_61 ⟨Nat.le_of_ble_eq_true rfl, Nat.le_of_ble_eq_true rfl⟩) ?_
  refine lv_istore (lv' := [(8, .int ((-1))), (7, .ref ((qq k 0))), (0, .ref xa), (1, .int (nI k)), (2, .int (nI j)), (3, .int a3), (4, .int a4), (5, .int a5), (6, .int a6)]) hx hb d_Q_ask_64 hl (by decide) rfl (fun ls hl => ?_)
  refine lv_iload hx hb d_Q_ask_66 (lv_at hl 0 rfl) ?_
  refine lv_if_ne (tgt := 95) hx hb d_Q_ask_68 (by decide) (fun _ => ?_) (fun c_5 => absurd c_5 (by decide))
  refine lv_iload hx hb d_Q_ask_95 (lv_at hl 0 rfl) ?_
  exact W.iret hx hb hr (fun t ht _ => ⟨rfl, ht⟩) (fun q h => by cases h) d_Q_ask_97
theorem d_Q_answer_5 : decode c_Q_answer 5 = .ok (.getfield 135, 3) := by decide +kernel
theorem d_Q_answer_8 : decode c_Q_answer 8 = .ok (.astore 4, 2) := by decide +kernel
theorem d_Q_answer_10 : decode c_Q_answer 10 = .ok (.iload_n 2, 1) := by decide +kernel
theorem d_Q_answer_11 : decode c_Q_answer 11 = .ok (.invokestatic 117, 3) := by decide +kernel
set_option maxHeartbeats 4000000 in
set_option maxRecDepth 100000 in
/-- answer of no client -/
theorem T2_Q_answer (l : Launch) (hfl : l.flags = pinnedFlags ++ [noTraceFlag]) (D : va_G) (t : Nat → ClassId) (xa nw na rw : Nat) (qq : Nat → Nat → Nat) (no : Nat → Nat) (mk : Int32) (k : Nat) (hk : k < 7) (a2 a3 : Int32) (hc : a2 < 0 ∨ 8 ≤ a2) : xt_C l D vwCl (xTY t) y_Q_answer c_Q_answer 5 (Option.some FieldType.long) ({ frames := 7, cells := 1, slots := 6, locals := 102 }) [.ref xa, .int (nI k), .int a2, .int a3] [zO 7 xa [.ref nw, .ref na, .int 0], zA t 4 na 7 (fun j => some (qq j 0)), zO 2 nw [.ref rw, .int 0, .int 0, .int 0, .int 0], zA t 3 rw 300 (fun _ => none), zO 3 (qq k 0) [.int (nI k), .ref nw, .int 0, .int 0, .int 0, .ref ((qq k 1)), .ref ((qq k 7)), .ref ((qq k 11)), .int 1, .int 0, .int 0, .int (nI (8 + 3 * k)), .int ((-1)), .int 0, .ref ((qq k 15))], zO 5 (qq k 1) [.ref ((qq k 2)), .ref ((qq k 3)), .ref ((qq k 4)), .ref ((qq k 5)), .ref ((qq k 6)), .int 1], zJ t (qq k 2) 32 (fun _ => 1099511627776), zI t (qq k 3) 8 (fun _ => 0), zJ t (qq k 4) 8 (fun _ => 0), zI t (qq k 5) 4 (xm 1), zI t (qq k 6) 4 (xm mk), zO 4 (qq k 7) [.ref ((qq k 8)), .ref ((qq k 9)), .ref ((qq k 10))], zI t (qq k 8) 32 (fun _ => 0), zI t (qq k 9) 32 (fun _ => 0), zA t 2 (qq k 10) 32 (fun _ => none), zO 4 (qq k 11) [.ref ((qq k 12)), .ref ((qq k 13)), .ref ((qq k 14))], zI t (qq k 12) 64 (fun _ => 0), zI t (qq k 13) 64 (fun _ => 0), zA t 2 (qq k 14) 64 (fun _ => none), zO 0 (qq k 15) [.ref ((no k)), .int 0, .ref ((qq k 16)), .ref ((qq k 20)), .ref ((qq k 24)), .int 0, .int 0, .int 0], zO 4 (qq k 16) [.ref ((qq k 17)), .ref ((qq k 18)), .ref ((qq k 19))], zI t (qq k 17) 32 (fun _ => 0), zI t (qq k 18) 32 (fun _ => 0), zA t 2 (qq k 19) 32 (fun _ => none), zO 4 (qq k 20) [.ref ((qq k 21)), .ref ((qq k 22)), .ref ((qq k 23))], zI t (qq k 21) 4 (fun _ => 0), zI t (qq k 22) 4 (fun _ => 0), zA t 2 (qq k 23) 4 (fun _ => none), zA t 2 (qq k 24) 16 (fun _ => none)] "java/util/NoSuchElementException" := by
  refine xt_of (by decide) (Nat.le_of_ble_eq_true rfl) ?_
  intro p e s m below meth c ls Z hlocks hno hP hTc hl
  obtain ⟨hx, hb, hml, hown, hK⟩ := id Z
  have hown : s.vm.findClass "QuorumStore" = some m.cls := hown
  have hts := hK.1.at (args := ([.ref xa, .int (nI k), .int a2, .int a3] : List Value).toArray)
  have hl : lv_has ls 5 [(0, .ref xa), (1, .int (nI k)), (2, .int a2), (3, .int a3)] := hl
  refine lv_aload_n hx hb d_Q_answer_0 rfl (lv_at hl 0 rfl) ?_
  refine lv_iload_n hx hb d_Q_answer_1 rfl (lv_at hl 1 rfl) ?_
  refine xr_call (xs_V (As := [.int (nI k)]) (rest := []) Z (C_Q_nodeAt l D t xa nw na qq k hk) m_Q_nodeAt k_710 k_712 ks_32 rfl rfl ⟨Nat.le_of_ble_eq_true rfl, Nat.le_of_ble_eq_true rfl⟩ (va_recv hK.2 hP (ci := 7) (q0 := 0) rfl rfl) (xr_pre hK (hP.sub [0, 1] rfl)) rfl hl.1 rfl (Nat.le_of_ble_eq_true rfl) d_Q_answer_2 ⟨Nat.le_of_ble_eq_true rfl, Nat.le_of_ble_eq_true rfl⟩) ?_
  refine va_get (ci := 3) (C := "QuorumStore$Node") (T := TX3) (N := 15) hx hb hts inX3 hown hK.2 hP 4 rfl rfl 5 (by decide) (hts _ k_206) (fun _ h9 => h9) rfl d_Q_answer_5 ?_
  refine lv_astore (lv' := [(4, .ref ((qq k 1))), (0, .ref xa), (1, .int (nI k)), (2, .int a2), (3, .int a3)]) hx hb d_Q_answer_8 hl (by decide) rfl (fun ls hl => ?_)
  refine lv_iload_n hx hb d_Q_answer_10 rfl (lv_at hl 3 rfl) ?_
  exact xt_pass (xt_S (As := [.int a2]) (rest := []) Z (T_Q_checkClient l hfl D t a2 hc) m_Q_checkClient k_747 k_748 rfl rfl ⟨Nat.le_of_ble_eq_true rfl, Nat.le_of_ble_eq_true rfl⟩ (hP.sub [] rfl) hTc (fun _ _ => rfl) rfl hl.1 rfl (Nat.le_of_ble_eq_true rfl) d_Q_answer_11 ⟨Nat.le_of_ble_eq_true rfl, Nat.le_of_ble_eq_true rfl⟩) hno hlocks
theorem d_Q_answer_14 : decode c_Q_answer 14 = .ok (.iload_n 3, 1) := by decide +kernel
theorem d_Q_answer_15 : decode c_Q_answer 15 = .ok (.lookupswitch 42 #[(0, 25), (1, 34)], 25) := by decide +kernel
theorem d_Q_answer_57 : decode c_Q_answer 57 = .ok (.new 25, 3) := by decide +kernel
theorem d_Q_answer_60 : decode c_Q_answer 60 = .ok (.dup, 1) := by decide +kernel
theorem d_Q_answer_61 : decode c_Q_answer 61 = .ok (.ldc 149, 2) := by decide +kernel
theorem d_Q_answer_63 : decode c_Q_answer 63 = .ok (.invokespecial 29, 3) := by decide +kernel
theorem d_Q_answer_66 : decode c_Q_answer 66 = .ok (.athrow, 1) := by decide +kernel
set_option maxHeartbeats 4000000 in
set_option maxRecDepth 100000 in
/-- answer: what is not 0 or 1 -/
theorem T3_Q_answer (l : Launch) (hfl : l.flags = pinnedFlags ++ [noTraceFlag]) (D : va_G) (t : Nat → ClassId) (xa nw na rw : Nat) (qq : Nat → Nat → Nat) (no : Nat → Nat) (mk : Int32) (k : Nat) (hk : k < 7) (j : Nat) (hj : j < 8) (a3 : Int32) (ha : ¬ a3 = 0) (hb2 : ¬ a3 = 1) : xt_C l D vwCl (xTY t) y_Q_answer c_Q_answer 5 (Option.some FieldType.long) ({ frames := 6, cells := 1, slots := 6, locals := 82 }) [.ref xa, .int (nI k), .int (nI j), .int a3] [zO 7 xa [.ref nw, .ref na, .int 0], zA t 4 na 7 (fun j => some (qq j 0)), zO 2 nw [.ref rw, .int 0, .int 0, .int 0, .int 0], zA t 3 rw 300 (fun _ => none), zO 3 (qq k 0) [.int (nI k), .ref nw, .int 0, .int 0, .int 0, .ref ((qq k 1)), .ref ((qq k 7)), .ref ((qq k 11)), .int 1, .int 0, .int 0, .int (nI (8 + 3 * k)), .int ((-1)), .int 0, .ref ((qq k 15))], zO 5 (qq k 1) [.ref ((qq k 2)), .ref ((qq k 3)), .ref ((qq k 4)), .ref ((qq k 5)), .ref ((qq k 6)), .int 1], zJ t (qq k 2) 32 (fun _ => 1099511627776), zI t (qq k 3) 8 (fun _ => 0), zJ t (qq k 4) 8 (fun _ => 0), zI t (qq k 5) 4 (xm 1), zI t (qq k 6) 4 (xm mk), zO 4 (qq k 7) [.ref ((qq k 8)), .ref ((qq k 9)), .ref ((qq k 10))], zI t (qq k 8) 32 (fun _ => 0), zI t (qq k 9) 32 (fun _ => 0), zA t 2 (qq k 10) 32 (fun _ => none), zO 4 (qq k 11) [.ref ((qq k 12)), .ref ((qq k 13)), .ref ((qq k 14))], zI t (qq k 12) 64 (fun _ => 0), zI t (qq k 13) 64 (fun _ => 0), zA t 2 (qq k 14) 64 (fun _ => none), zO 0 (qq k 15) [.ref ((no k)), .int 0, .ref ((qq k 16)), .ref ((qq k 20)), .ref ((qq k 24)), .int 0, .int 0, .int 0], zO 4 (qq k 16) [.ref ((qq k 17)), .ref ((qq k 18)), .ref ((qq k 19))], zI t (qq k 17) 32 (fun _ => 0), zI t (qq k 18) 32 (fun _ => 0), zA t 2 (qq k 19) 32 (fun _ => none), zO 4 (qq k 20) [.ref ((qq k 21)), .ref ((qq k 22)), .ref ((qq k 23))], zI t (qq k 21) 4 (fun _ => 0), zI t (qq k 22) 4 (fun _ => 0), zA t 2 (qq k 23) 4 (fun _ => none), zA t 2 (qq k 24) 16 (fun _ => none)] "java/lang/IllegalArgumentException" := by
  refine xt_of (by decide) (Nat.le_of_ble_eq_true rfl) ?_
  intro p e s m below meth c ls Z hlocks hno hP hTc hl
  obtain ⟨hx, hb, hml, hown, hK⟩ := id Z
  have hown : s.vm.findClass "QuorumStore" = some m.cls := hown
  have hts := hK.1.at (args := ([.ref xa, .int (nI k), .int (nI j), .int a3] : List Value).toArray)
  have hl : lv_has ls 5 [(0, .ref xa), (1, .int (nI k)), (2, .int (nI j)), (3, .int a3)] := hl
  refine lv_aload_n hx hb d_Q_answer_0 rfl (lv_at hl 0 rfl) ?_
  refine lv_iload_n hx hb d_Q_answer_1 rfl (lv_at hl 1 rfl) ?_
  refine xr_call (xs_V (As := [.int (nI k)]) (rest := []) Z (C_Q_nodeAt l D t xa nw na qq k hk) m_Q_nodeAt k_710 k_712 ks_32 rfl rfl ⟨Nat.le_of_ble_eq_true rfl, Nat.le_of_ble_eq_true rfl⟩ (va_recv hK.2 hP (ci := 7) (q0 := 0) rfl rfl) (xr_pre hK (hP.sub [0, 1] rfl)) rfl hl.1 rfl (Nat.le_of_ble_eq_true rfl) d_Q_answer_2 ⟨Nat.le_of_ble_eq_true rfl, Nat.le_of_ble_eq_true rfl⟩) ?_
  refine va_get (ci := 3) (C := "QuorumStore$Node") (T := TX3) (N := 15) hx hb hts inX3 hown hK.2 hP 4 rfl rfl 5 (by decide) (hts _ k_206) (fun _ h9 => h9) rfl d_Q_answer_5 ?_
  refine lv_astore (lv' := [(4, .ref ((qq k 1))), (0, .ref xa), (1, .int (nI k)), (2, .int (nI j)), (3, .int a3)]) hx hb d_Q_answer_8 hl (by decide) rfl (fun ls hl => ?_)
  refine lv_iload_n hx hb d_Q_answer_10 rfl (lv_at hl 3 rfl) ?_
  refine xr_call (xs_S (As := [.int (nI j)]) (rest := []) Z (C_Q_checkClient l D t j hj) m_Q_checkClient k_747 k_748 rfl rfl ⟨Nat.le_of_ble_eq_true rfl, Nat.le_of_ble_eq_true rfl⟩ (xr_pre hK (hP.sub [] rfl)) rfl hl.1 rfl (Nat.le_of_ble_eq_true rfl) d_Q_answer_11 ⟨Nat.le_of_ble_eq_true rfl, Nat.le_of_ble_eq_true rfl⟩) ?_
  refine lv_iload_n hx hb d_Q_answer_14 rfl (lv_at hl 4 rfl) ?_
  refine lv_lookup (off := 42) (tgt := 57) hx hb d_Q_answer_15 (by decide) (xl_2 ha hb2) (by decide) ?_
  exact xt_new (tx := "what is not 0 or 1") Z hTc hfl (by decide) k_280 k_16 xc_W_IAE xc_c_IAE (fun pl h9 => xc_chain hK.1 h9 (by decide) xc_d_IAE_0 xc_d_IAE_1 xc_d_IAE_2 xc_d_IAE_5 xc_P_IAE) (by decide) hl.1 d_Q_answer_57 d_Q_answer_60 d_Q_answer_61 d_Q_answer_63 d_Q_answer_66 hno hlocks (Nat.le_of_ble_eq_true rfl) (Nat.le_of_ble_eq_true rfl) (Nat.le_of_ble_eq_true rfl) (Nat.le_of_ble_eq_true rfl)
theorem d_Q_answer_40 : decode c_Q_answer 40 = .ok (.aload 4, 2) := by decide +kernel
theorem d_Q_answer_42 : decode c_Q_answer 42 = .ok (.getfield 139, 3) := by decide +kernel
theorem d_Q_answer_45 : decode c_Q_answer 45 = .ok (.iload_n 2, 1) := by decide +kernel
theorem d_Q_answer_46 : decode c_Q_answer 46 = .ok (.iaload, 1) := by decide +kernel
theorem d_Q_answer_47 : decode c_Q_answer 47 = .ok (.i2l, 1) := by decide +kernel
theorem d_Q_answer_48 : decode c_Q_answer 48 = .ok (.lreturn, 1) := by decide +kernel
set_option maxHeartbeats 4000000 in
set_option maxRecDepth 100000 in
/-- answer on a new object -/
theorem C_Q_answer_0 (l : Launch) (D : va_G) (t : Nat → ClassId) (xa nw na rw : Nat) (qq : Nat → Nat → Nat) (no : Nat → Nat) (mk : Int32) (k : Nat) (hk : k < 7) (j : Nat) (hj : j < 8) : xr_C l D vwCl (xTY t) y_Q_answer c_Q_answer 5 (Option.some FieldType.long) ({ frames := 1, cells := 0, slots := 0, locals := 21 }) [.ref xa, .int (nI k), .int (nI j), .int 0] [zO 7 xa [.ref nw, .ref na, .int 0], zA t 4 na 7 (fun j => some (qq j 0)), zO 2 nw [.ref rw, .int 0, .int 0, .int 0, .int 0], zA t 3 rw 300 (fun _ => none), zO 3 (qq k 0) [.int (nI k), .ref nw, .int 0, .int 0, .int 0, .ref ((qq k 1)), .ref ((qq k 7)), .ref ((qq k 11)), .int 1, .int 0, .int 0, .int (nI (8 + 3 * k)), .int ((-1)), .int 0, .ref ((qq k 15))], zO 5 (qq k 1) [.ref ((qq k 2)), .ref ((qq k 3)), .ref ((qq k 4)), .ref ((qq k 5)), .ref ((qq k 6)), .int 1], zJ t (qq k 2) 32 (fun _ => 1099511627776), zI t (qq k 3) 8 (fun _ => 0), zJ t (qq k 4) 8 (fun _ => 0), zI t (qq k 5) 4 (xm 1), zI t (qq k 6) 4 (xm mk), zO 4 (qq k 7) [.ref ((qq k 8)), .ref ((qq k 9)), .ref ((qq k 10))], zI t (qq k 8) 32 (fun _ => 0), zI t (qq k 9) 32 (fun _ => 0), zA t 2 (qq k 10) 32 (fun _ => none), zO 4 (qq k 11) [.ref ((qq k 12)), .ref ((qq k 13)), .ref ((qq k 14))], zI t (qq k 12) 64 (fun _ => 0), zI t (qq k 13) 64 (fun _ => 0), zA t 2 (qq k 14) 64 (fun _ => none), zO 0 (qq k 15) [.ref ((no k)), .int 0, .ref ((qq k 16)), .ref ((qq k 20)), .ref ((qq k 24)), .int 0, .int 0, .int 0], zO 4 (qq k 16) [.ref ((qq k 17)), .ref ((qq k 18)), .ref ((qq k 19))], zI t (qq k 17) 32 (fun _ => 0), zI t (qq k 18) 32 (fun _ => 0), zA t 2 (qq k 19) 32 (fun _ => none), zO 4 (qq k 20) [.ref ((qq k 21)), .ref ((qq k 22)), .ref ((qq k 23))], zI t (qq k 21) 4 (fun _ => 0), zI t (qq k 22) 4 (fun _ => 0), zA t 2 (qq k 23) 4 (fun _ => none), zA t 2 (qq k 24) 16 (fun _ => none)] (xr_Q (some (.long 0))) := by
  refine xr_of (by decide) (Nat.le_of_ble_eq_true rfl) ?_
  intro p e s m below meth c ls Z hr hlocks hP hl
  obtain ⟨hx, hb, hml, hown, hK⟩ := id Z
  have hown : s.vm.findClass "QuorumStore" = some m.cls := hown
  have hts := hK.1.at (args := ([.ref xa, .int (nI k), .int (nI j), .int 0] : List Value).toArray)
  have hl : lv_has ls 5 [(0, .ref xa), (1, .int (nI k)), (2, .int (nI j)), (3, .int 0)] := hl
  refine lv_aload_n hx hb d_Q_answer_0 rfl (lv_at hl 0 rfl) ?_
  refine lv_iload_n hx hb d_Q_answer_1 rfl (lv_at hl 1 rfl) ?_
  refine xr_call (xs_V (As := [.int (nI k)]) (rest := []) Z (C_Q_nodeAt l D t xa nw na qq k hk) m_Q_nodeAt k_710 k_712 ks_32 rfl rfl ⟨Nat.le_of_ble_eq_true rfl, Nat.le_of_ble_eq_true rfl⟩ (va_recv hK.2 hP (ci := 7) (q0 := 0) rfl rfl) (xr_pre hK (hP.sub [0, 1] rfl)) rfl hl.1 rfl (Nat.le_of_ble_eq_true rfl) d_Q_answer_2 ⟨Nat.le_of_ble_eq_true rfl, Nat.le_of_ble_eq_true rfl⟩) ?_
  refine va_get (ci := 3) (C := "QuorumStore$Node") (T := TX3) (N := 15) hx hb hts inX3 hown hK.2 hP 4 rfl rfl 5 (by decide) (hts _ k_206) (fun _ h9 => h9) rfl d_Q_answer_5 ?_
  refine lv_astore (lv' := [(4, .ref ((qq k 1))), (0, .ref xa), (1, .int (nI k)), (2, .int (nI j)), (3, .int 0)]) hx hb d_Q_answer_8 hl (by decide) rfl (fun ls hl => ?_)
  refine lv_iload_n hx hb d_Q_answer_10 rfl (lv_at hl 3 rfl) ?_
  refine xr_call (xs_S (As := [.int (nI j)]) (rest := []) Z (C_Q_checkClient l D t j hj) m_Q_checkClient k_747 k_748 rfl rfl ⟨Nat.le_of_ble_eq_true rfl, Nat.le_of_ble_eq_true rfl⟩ (xr_pre hK (hP.sub [] rfl)) rfl hl.1 rfl (Nat.le_of_ble_eq_true rfl) d_Q_answer_11 ⟨Nat.le_of_ble_eq_true rfl, Nat.le_of_ble_eq_true rfl⟩) ?_
  refine lv_iload_n hx hb d_Q_answer_14 rfl (lv_at hl 4 rfl) ?_
  refine lv_lookup (off := 25) (tgt := 40) hx hb d_Q_answer_15 (by decide) (by decide) (by decide) ?_
  refine lv_aload hx hb d_Q_answer_40 (lv_at hl 0 rfl) ?_
  refine va_get (ci := 5) (C := "QuorumStore$State") (T := TX5) (N := 6) hx hb hts inX5 hown hK.2 hP 5 rfl rfl 1 (by decide) (hts _ k_175) (fun _ h9 => h9) rfl d_Q_answer_42 ?_
  refine lv_iload_n hx hb d_Q_answer_45 rfl (lv_at hl 3 rfl) ?_
  refine va_iald hx hb hK.2 hP 7 0 rfl rfl (vp_in_nI hj (by decide)) d_Q_answer_46 ?_
  refine lv_i2l (v := (0 : Int32).toInt64) hx hb d_Q_answer_47 rfl ?_
  exact W.lret hx hb hr (fun t ht _ => ⟨rfl, ht⟩) (fun q h => by cases h) d_Q_answer_48
theorem d_Q_answer_49 : decode c_Q_answer 49 = .ok (.aload 4, 2) := by decide +kernel
theorem d_Q_answer_51 : decode c_Q_answer 51 = .ok (.getfield 145, 3) := by decide +kernel
theorem d_Q_answer_54 : decode c_Q_answer 54 = .ok (.iload_n 2, 1) := by decide +kernel
theorem d_Q_answer_55 : decode c_Q_answer 55 = .ok (.laload, 1) := by decide +kernel
theorem d_Q_answer_56 : decode c_Q_answer 56 = .ok (.lreturn, 1) := by decide +kernel
set_option maxHeartbeats 4000000 in
set_option maxRecDepth 100000 in
/-- answer on a new object -/
theorem C_Q_answer_1 (l : Launch) (D : va_G) (t : Nat → ClassId) (xa nw na rw : Nat) (qq : Nat → Nat → Nat) (no : Nat → Nat) (mk : Int32) (k : Nat) (hk : k < 7) (j : Nat) (hj : j < 8) : xr_C l D vwCl (xTY t) y_Q_answer c_Q_answer 5 (Option.some FieldType.long) ({ frames := 1, cells := 0, slots := 0, locals := 21 }) [.ref xa, .int (nI k), .int (nI j), .int 1] [zO 7 xa [.ref nw, .ref na, .int 0], zA t 4 na 7 (fun j => some (qq j 0)), zO 2 nw [.ref rw, .int 0, .int 0, .int 0, .int 0], zA t 3 rw 300 (fun _ => none), zO 3 (qq k 0) [.int (nI k), .ref nw, .int 0, .int 0, .int 0, .ref ((qq k 1)), .ref ((qq k 7)), .ref ((qq k 11)), .int 1, .int 0, .int 0, .int (nI (8 + 3 * k)), .int ((-1)), .int 0, .ref ((qq k 15))], zO 5 (qq k 1) [.ref ((qq k 2)), .ref ((qq k 3)), .ref ((qq k 4)), .ref ((qq k 5)), .ref ((qq k 6)), .int 1], zJ t (qq k 2) 32 (fun _ => 1099511627776), zI t (qq k 3) 8 (fun _ => 0), zJ t (qq k 4) 8 (fun _ => 0), zI t (qq k 5) 4 (xm 1), zI t (qq k 6) 4 (xm mk), zO 4 (qq k 7) [.ref ((qq k 8)), .ref ((qq k 9)), .ref ((qq k 10))], zI t (qq k 8) 32 (fun _ => 0), zI t (qq k 9) 32 (fun _ => 0), zA t 2 (qq k 10) 32 (fun _ => none), zO 4 (qq k 11) [.ref ((qq k 12)), .ref ((qq k 13)), .ref ((qq k 14))], zI t (qq k 12) 64 (fun _ => 0), zI t (qq k 13) 64 (fun _ => 0), zA t 2 (qq k 14) 64 (fun _ => none), zO 0 (qq k 15) [.ref ((no k)), .int 0, .ref ((qq k 16)), .ref ((qq k 20)), .ref ((qq k 24)), .int 0, .int 0, .int 0], zO 4 (qq k 16) [.ref ((qq k 17)), .ref ((qq k 18)), .ref ((qq k 19))], zI t (qq k 17) 32 (fun _ => 0), zI t (qq k 18) 32 (fun _ => 0), zA t 2 (qq k 19) 32 (fun _ => none), zO 4 (qq k 20) [.ref ((qq k 21)), .ref ((qq k 22)), .ref ((qq k 23))], zI t (qq k 21) 4 (fun _ => 0), zI t (qq k 22) 4 (fun _ => 0), zA t 2 (qq k 23) 4 (fun _ => none), zA t 2 (qq k 24) 16 (fun _ => none)] (xr_Q (some (.long 0))) := by
  refine xr_of (by decide) (Nat.le_of_ble_eq_true rfl) ?_
  intro p e s m below meth c ls Z hr hlocks hP hl
  obtain ⟨hx, hb, hml, hown, hK⟩ := id Z
  have hown : s.vm.findClass "QuorumStore" = some m.cls := hown
  have hts := hK.1.at (args := ([.ref xa, .int (nI k), .int (nI j), .int 1] : List Value).toArray)
  have hl : lv_has ls 5 [(0, .ref xa), (1, .int (nI k)), (2, .int (nI j)), (3, .int 1)] := hl
  refine lv_aload_n hx hb d_Q_answer_0 rfl (lv_at hl 0 rfl) ?_
  refine lv_iload_n hx hb d_Q_answer_1 rfl (lv_at hl 1 rfl) ?_
  refine xr_call (xs_V (As := [.int (nI k)]) (rest := []) Z (C_Q_nodeAt l D t xa nw na qq k hk) m_Q_nodeAt k_710 k_712 ks_32 rfl rfl ⟨Nat.le_of_ble_eq_true rfl, Nat.le_of_ble_eq_true rfl⟩ (va_recv hK.2 hP (ci := 7) (q0 := 0) rfl rfl) (xr_pre hK (hP.sub [0, 1] rfl)) rfl hl.1 rfl (Nat.le_of_ble_eq_true rfl) d_Q_answer_2 ⟨Nat.le_of_ble_eq_true rfl, Nat.le_of_ble_eq_true rfl⟩) ?_
  refine va_get (ci := 3) (C := "QuorumStore$Node") (T := TX3) (N := 15) hx hb hts inX3 hown hK.2 hP 4 rfl rfl 5 (by decide) (hts _ k_206) (fun _ h9 => h9) rfl d_Q_answer_5 ?_
  refine lv_astore (lv' := [(4, .ref ((qq k 1))), (0, .ref xa), (1, .int (nI k)), (2, .int (nI j)), (3, .int 1)]) hx hb d_Q_answer_8 hl (by decide) rfl (fun ls hl => ?_)
  refine lv_iload_n hx hb d_Q_answer_10 rfl (lv_at hl 3 rfl) ?_
  refine xr_call (xs_S (As := [.int (nI j)]) (rest := []) Z (C_Q_checkClient l D t j hj) m_Q_checkClient k_747 k_748 rfl rfl ⟨Nat.le_of_ble_eq_true rfl, Nat.le_of_ble_eq_true rfl⟩ (xr_pre hK (hP.sub [] rfl)) rfl hl.1 rfl (Nat.le_of_ble_eq_true rfl) d_Q_answer_11 ⟨Nat.le_of_ble_eq_true rfl, Nat.le_of_ble_eq_true rfl⟩) ?_
  refine lv_iload_n hx hb d_Q_answer_14 rfl (lv_at hl 4 rfl) ?_
  refine lv_lookup (off := 34) (tgt := 49) hx hb d_Q_answer_15 (by decide) (by decide) (by decide) ?_
  refine lv_aload hx hb d_Q_answer_49 (lv_at hl 0 rfl) ?_
  refine va_get (ci := 5) (C := "QuorumStore$State") (T := TX5) (N := 6) hx hb hts inX5 hown hK.2 hP 5 rfl rfl 2 (by decide) (hts _ k_178) (fun _ h9 => h9) rfl d_Q_answer_51 ?_
  refine lv_iload_n hx hb d_Q_answer_54 rfl (lv_at hl 3 rfl) ?_
  refine va_lald hx hb hK.2 hP 8 1 rfl rfl (vp_in_nI hj (by decide)) d_Q_answer_55 ?_
  exact W.lret hx hb hr (fun t ht _ => ⟨rfl, ht⟩) (fun q h => by cases h) d_Q_answer_56
theorem d_Q_number_5 : decode c_Q_number 5 = .ok (.getfield 135, 3) := by decide +kernel
theorem d_Q_number_8 : decode c_Q_number 8 = .ok (.astore_n 3, 1) := by decide +kernel
theorem d_Q_number_9 : decode c_Q_number 9 = .ok (.iload_n 2, 1) := by decide +kernel
theorem d_Q_number_10 : decode c_Q_number 10 = .ok (.ifCond .lt 9, 3) := by decide +kernel
theorem d_Q_number_13 : decode c_Q_number 13 = .ok (.iload_n 2, 1) := by decide +kernel
theorem d_Q_number_14 : decode c_Q_number 14 = .ok (.bipush 32, 2) := by decide +kernel
theorem d_Q_number_16 : decode c_Q_number 16 = .ok (.if_icmp .lt 13, 3) := by decide +kernel
theorem d_Q_number_19 : decode c_Q_number 19 = .ok (.new 151, 3) := by decide +kernel
theorem d_Q_number_22 : decode c_Q_number 22 = .ok (.dup, 1) := by decide +kernel
theorem d_Q_number_23 : decode c_Q_number 23 = .ok (.ldc 153, 2) := by decide +kernel
theorem d_Q_number_25 : decode c_Q_number 25 = .ok (.invokespecial 155, 3) := by decide +kernel
theorem d_Q_number_28 : decode c_Q_number 28 = .ok (.athrow, 1) := by decide +kernel
set_option maxHeartbeats 4000000 in
set_option maxRecDepth 100000 in
/-- number of no key -/
theorem T2_Q_number (l : Launch) (hfl : l.flags = pinnedFlags ++ [noTraceFlag]) (D : va_G) (t : Nat → ClassId) (xa nw na rw : Nat) (qq : Nat → Nat → Nat) (no : Nat → Nat) (mk : Int32) (k : Nat) (hk : k < 7) (a2 : Int32) (hn : a2 < 0 ∨ 32 ≤ a2) : xt_C l D vwCl (xTY t) y_Q_number c_Q_number 4 (Option.some FieldType.long) ({ frames := 6, cells := 1, slots := 6, locals := 82 }) [.ref xa, .int (nI k), .int a2] [zO 7 xa [.ref nw, .ref na, .int 0], zA t 4 na 7 (fun j => some (qq j 0)), zO 2 nw [.ref rw, .int 0, .int 0, .int 0, .int 0], zA t 3 rw 300 (fun _ => none), zO 3 (qq k 0) [.int (nI k), .ref nw, .int 0, .int 0, .int 0, .ref ((qq k 1)), .ref ((qq k 7)), .ref ((qq k 11)), .int 1, .int 0, .int 0, .int (nI (8 + 3 * k)), .int ((-1)), .int 0, .ref ((qq k 15))], zO 5 (qq k 1) [.ref ((qq k 2)), .ref ((qq k 3)), .ref ((qq k 4)), .ref ((qq k 5)), .ref ((qq k 6)), .int 1], zJ t (qq k 2) 32 (fun _ => 1099511627776), zI t (qq k 3) 8 (fun _ => 0), zJ t (qq k 4) 8 (fun _ => 0), zI t (qq k 5) 4 (xm 1), zI t (qq k 6) 4 (xm mk), zO 4 (qq k 7) [.ref ((qq k 8)), .ref ((qq k 9)), .ref ((qq k 10))], zI t (qq k 8) 32 (fun _ => 0), zI t (qq k 9) 32 (fun _ => 0), zA t 2 (qq k 10) 32 (fun _ => none), zO 4 (qq k 11) [.ref ((qq k 12)), .ref ((qq k 13)), .ref ((qq k 14))], zI t (qq k 12) 64 (fun _ => 0), zI t (qq k 13) 64 (fun _ => 0), zA t 2 (qq k 14) 64 (fun _ => none), zO 0 (qq k 15) [.ref ((no k)), .int 0, .ref ((qq k 16)), .ref ((qq k 20)), .ref ((qq k 24)), .int 0, .int 0, .int 0], zO 4 (qq k 16) [.ref ((qq k 17)), .ref ((qq k 18)), .ref ((qq k 19))], zI t (qq k 17) 32 (fun _ => 0), zI t (qq k 18) 32 (fun _ => 0), zA t 2 (qq k 19) 32 (fun _ => none), zO 4 (qq k 20) [.ref ((qq k 21)), .ref ((qq k 22)), .ref ((qq k 23))], zI t (qq k 21) 4 (fun _ => 0), zI t (qq k 22) 4 (fun _ => 0), zA t 2 (qq k 23) 4 (fun _ => none), zA t 2 (qq k 24) 16 (fun _ => none)] "java/util/NoSuchElementException" := by
  refine xt_of (by decide) (Nat.le_of_ble_eq_true rfl) ?_
  intro p e s m below meth c ls Z hlocks hno hP hTc hl
  obtain ⟨hx, hb, hml, hown, hK⟩ := id Z
  have hown : s.vm.findClass "QuorumStore" = some m.cls := hown
  have hts := hK.1.at (args := ([.ref xa, .int (nI k), .int a2] : List Value).toArray)
  have hl : lv_has ls 4 [(0, .ref xa), (1, .int (nI k)), (2, .int a2)] := hl
  refine lv_aload_n hx hb d_Q_number_0 rfl (lv_at hl 0 rfl) ?_
  refine lv_iload_n hx hb d_Q_number_1 rfl (lv_at hl 1 rfl) ?_
  refine xr_call (xs_V (As := [.int (nI k)]) (rest := []) Z (C_Q_nodeAt l D t xa nw na qq k hk) m_Q_nodeAt k_710 k_712 ks_32 rfl rfl ⟨Nat.le_of_ble_eq_true rfl, Nat.le_of_ble_eq_true rfl⟩ (va_recv hK.2 hP (ci := 7) (q0 := 0) rfl rfl) (xr_pre hK (hP.sub [0, 1] rfl)) rfl hl.1 rfl (Nat.le_of_ble_eq_true rfl) d_Q_number_2 ⟨Nat.le_of_ble_eq_true rfl, Nat.le_of_ble_eq_true rfl⟩) ?_
  refine va_get (ci := 3) (C := "QuorumStore$Node") (T := TX3) (N := 15) hx hb hts inX3 hown hK.2 hP 4 rfl rfl 5 (by decide) (hts _ k_206) (fun _ h9 => h9) rfl d_Q_number_5 ?_
  refine lv_astore_n (lv' := [(3, .ref ((qq k 1))), (0, .ref xa), (1, .int (nI k)), (2, .int a2)]) hx hb d_Q_number_8 rfl hl (by decide) rfl (fun ls hl => ?_)
  refine lv_iload_n hx hb d_Q_number_9 rfl (lv_at hl 3 rfl) ?_
  refine lv_if_lt (tgt := 19) hx hb d_Q_number_10 (by decide) (fun c_1 => ?_) (fun c_1 => ?_)
  · exact xt_new (tx := "no such key") Z hTc hfl (by decide) k_553 k_20 xc_W_NSE xc_c_NSE (fun pl h9 => xc_chain hK.1 h9 (by decide) xc_d_NSE_0 xc_d_NSE_1 xc_d_NSE_2 xc_d_NSE_5 xc_P_NSE) (by decide) hl.1 d_Q_number_19 d_Q_number_22 d_Q_number_23 d_Q_number_25 d_Q_number_28 hno hlocks (Nat.le_of_ble_eq_true rfl) (Nat.le_of_ble_eq_true rfl) (Nat.le_of_ble_eq_true rfl) (Nat.le_of_ble_eq_true rfl)
  · refine lv_iload_n hx hb d_Q_number_13 rfl (lv_at hl 3 rfl) ?_
    refine lv_bipush (v := 32) hx hb d_Q_number_14 (by decide) ?_
    refine lv_icmp_lt (tgt := 29) hx hb d_Q_number_16 (by decide) (fun c_2 => absurd c_2 (fun h9 => hn.elim c_1 (fun h8 => Int32.not_le.mpr h9 h8))) (fun _ => ?_)
    exact xt_new (tx := "no such key") Z hTc hfl (by decide) k_553 k_20 xc_W_NSE xc_c_NSE (fun pl h9 => xc_chain hK.1 h9 (by decide) xc_d_NSE_0 xc_d_NSE_1 xc_d_NSE_2 xc_d_NSE_5 xc_P_NSE) (by decide) hl.1 d_Q_number_19 d_Q_number_22 d_Q_number_23 d_Q_number_25 d_Q_number_28 hno hlocks (Nat.le_of_ble_eq_true rfl) (Nat.le_of_ble_eq_true rfl) (Nat.le_of_ble_eq_true rfl) (Nat.le_of_ble_eq_true rfl)
theorem d_Q_number_29 : decode c_Q_number 29 = .ok (.aload_n 3, 1) := by decide +kernel
theorem d_Q_number_30 : decode c_Q_number 30 = .ok (.getfield 156, 3) := by decide +kernel
theorem d_Q_number_33 : decode c_Q_number 33 = .ok (.iload_n 2, 1) := by decide +kernel
theorem d_Q_number_34 : decode c_Q_number 34 = .ok (.laload, 1) := by decide +kernel
theorem d_Q_number_35 : decode c_Q_number 35 = .ok (.lreturn, 1) := by decide +kernel
set_option maxHeartbeats 4000000 in
set_option maxRecDepth 100000 in
/-- number on a new object -/
theorem C_Q_number (l : Launch) (D : va_G) (t : Nat → ClassId) (xa nw na rw : Nat) (qq : Nat → Nat → Nat) (no : Nat → Nat) (mk : Int32) (k : Nat) (hk : k < 7) (j : Nat) (hj : j < 32) : xr_C l D vwCl (xTY t) y_Q_number c_Q_number 4 (Option.some FieldType.long) ({ frames := 1, cells := 0, slots := 0, locals := 21 }) [.ref xa, .int (nI k), .int (nI j)] [zO 7 xa [.ref nw, .ref na, .int 0], zA t 4 na 7 (fun j => some (qq j 0)), zO 2 nw [.ref rw, .int 0, .int 0, .int 0, .int 0], zA t 3 rw 300 (fun _ => none), zO 3 (qq k 0) [.int (nI k), .ref nw, .int 0, .int 0, .int 0, .ref ((qq k 1)), .ref ((qq k 7)), .ref ((qq k 11)), .int 1, .int 0, .int 0, .int (nI (8 + 3 * k)), .int ((-1)), .int 0, .ref ((qq k 15))], zO 5 (qq k 1) [.ref ((qq k 2)), .ref ((qq k 3)), .ref ((qq k 4)), .ref ((qq k 5)), .ref ((qq k 6)), .int 1], zJ t (qq k 2) 32 (fun _ => 1099511627776), zI t (qq k 3) 8 (fun _ => 0), zJ t (qq k 4) 8 (fun _ => 0), zI t (qq k 5) 4 (xm 1), zI t (qq k 6) 4 (xm mk), zO 4 (qq k 7) [.ref ((qq k 8)), .ref ((qq k 9)), .ref ((qq k 10))], zI t (qq k 8) 32 (fun _ => 0), zI t (qq k 9) 32 (fun _ => 0), zA t 2 (qq k 10) 32 (fun _ => none), zO 4 (qq k 11) [.ref ((qq k 12)), .ref ((qq k 13)), .ref ((qq k 14))], zI t (qq k 12) 64 (fun _ => 0), zI t (qq k 13) 64 (fun _ => 0), zA t 2 (qq k 14) 64 (fun _ => none), zO 0 (qq k 15) [.ref ((no k)), .int 0, .ref ((qq k 16)), .ref ((qq k 20)), .ref ((qq k 24)), .int 0, .int 0, .int 0], zO 4 (qq k 16) [.ref ((qq k 17)), .ref ((qq k 18)), .ref ((qq k 19))], zI t (qq k 17) 32 (fun _ => 0), zI t (qq k 18) 32 (fun _ => 0), zA t 2 (qq k 19) 32 (fun _ => none), zO 4 (qq k 20) [.ref ((qq k 21)), .ref ((qq k 22)), .ref ((qq k 23))], zI t (qq k 21) 4 (fun _ => 0), zI t (qq k 22) 4 (fun _ => 0), zA t 2 (qq k 23) 4 (fun _ => none), zA t 2 (qq k 24) 16 (fun _ => none)] (xr_Q (some (.long 1099511627776))) := by
  refine xr_of (by decide) (Nat.le_of_ble_eq_true rfl) ?_
  intro p e s m below meth c ls Z hr hlocks hP hl
  obtain ⟨hx, hb, hml, hown, hK⟩ := id Z
  have hown : s.vm.findClass "QuorumStore" = some m.cls := hown
  have hts := hK.1.at (args := ([.ref xa, .int (nI k), .int (nI j)] : List Value).toArray)
  have hl : lv_has ls 4 [(0, .ref xa), (1, .int (nI k)), (2, .int (nI j))] := hl
  refine lv_aload_n hx hb d_Q_number_0 rfl (lv_at hl 0 rfl) ?_
  refine lv_iload_n hx hb d_Q_number_1 rfl (lv_at hl 1 rfl) ?_
  refine xr_call (xs_V (As := [.int (nI k)]) (rest := []) Z (C_Q_nodeAt l D t xa nw na qq k hk) m_Q_nodeAt k_710 k_712 ks_32 rfl rfl ⟨Nat.le_of_ble_eq_true rfl, Nat.le_of_ble_eq_true rfl⟩ (va_recv hK.2 hP (ci := 7) (q0 := 0) rfl rfl) (xr_pre hK (hP.sub [0, 1] rfl)) rfl hl.1 rfl (Nat.le_of_ble_eq_true rfl) d_Q_number_2 ⟨Nat.le_of_ble_eq_true rfl, Nat.le_of_ble_eq_true rfl⟩) ?_
  refine va_get (ci := 3) (C := "QuorumStore$Node") (T := TX3) (N := 15) hx hb hts inX3 hown hK.2 hP 4 rfl rfl 5 (by decide) (hts _ k_206) (fun _ h9 => h9) rfl d_Q_number_5 ?_
  refine lv_astore_n (lv' := [(3, .ref ((qq k 1))), (0, .ref xa), (1, .int (nI k)), (2, .int (nI j))]) hx hb d_Q_number_8 rfl hl (by decide) rfl (fun ls hl => ?_)
  refine lv_iload_n hx hb d_Q_number_9 rfl (lv_at hl 3 rfl) ?_
  refine lv_if_lt (tgt := 19) hx hb d_Q_number_10 (by decide) (fun c_1 => absurd c_1 (nI_pos (by omega))) (fun _ => ?_)
  refine lv_iload_n hx hb d_Q_number_13 rfl (lv_at hl 3 rfl) ?_
  refine lv_bipush (v := 32) hx hb d_Q_number_14 (by decide) ?_
  refine lv_icmp_lt (tgt := 29) hx hb d_Q_number_16 (by decide) (fun _ => ?_) (fun c_2 => absurd (show nI j < nI 32 from nI_lt hj (by decide)) c_2)
  refine lv_aload_n hx hb d_Q_number_29 rfl (lv_at hl 0 rfl) ?_
  refine va_get (ci := 5) (C := "QuorumStore$State") (T := TX5) (N := 6) hx hb hts inX5 hown hK.2 hP 5 rfl rfl 0 (by decide) (hts _ k_173) (fun _ h9 => h9) rfl d_Q_number_30 ?_
  refine lv_iload_n hx hb d_Q_number_33 rfl (lv_at hl 3 rfl) ?_
  refine va_lald hx hb hK.2 hP 6 1 rfl rfl (vp_in_nI hj (by decide)) d_Q_number_34 ?_
  exact W.lret hx hb hr (fun t ht _ => ⟨rfl, ht⟩) (fun q h => by cases h) d_Q_number_35
theorem d_Q_known_5 : decode c_Q_known 5 = .ok (.getfield 159, 3) := by decide +kernel
theorem d_Q_known_8 : decode c_Q_known 8 = .ok (.iload_n 2, 1) := by decide +kernel
theorem d_Q_known_9 : decode c_Q_known 9 = .ok (.invokevirtual 162, 3) := by decide +kernel
theorem d_Q_known_12 : decode c_Q_known 12 = .ok (.astore 4, 2) := by decide +kernel
theorem d_Q_known_14 : decode c_Q_known 14 = .ok (.aload 4, 2) := by decide +kernel
theorem d_Q_known_16 : decode c_Q_known 16 = .ok (.ifnonnull 13, 3) := by decide +kernel
theorem d_Q_known_19 : decode c_Q_known 19 = .ok (.new 151, 3) := by decide +kernel
theorem d_Q_known_22 : decode c_Q_known 22 = .ok (.dup, 1) := by decide +kernel
theorem d_Q_known_23 : decode c_Q_known 23 = .ok (.ldc 166, 2) := by decide +kernel
theorem d_Q_known_25 : decode c_Q_known 25 = .ok (.invokespecial 155, 3) := by decide +kernel
theorem d_Q_known_28 : decode c_Q_known 28 = .ok (.athrow, 1) := by decide +kernel
set_option maxHeartbeats 4000000 in
set_option maxRecDepth 100000 in
/-- known on a new object -/
theorem T2_Q_known (l : Launch) (hfl : l.flags = pinnedFlags ++ [noTraceFlag]) (D : va_G) (t : Nat → ClassId) (xa nw na rw : Nat) (qq : Nat → Nat → Nat) (no : Nat → Nat) (mk : Int32) (k : Nat) (hk : k < 7) (a2 a3 : Int32) : xt_C l D vwCl (xTY t) y_Q_known c_Q_known 5 (Option.some FieldType.int) ({ frames := 6, cells := 1, slots := 6, locals := 82 }) [.ref xa, .int (nI k), .int a2, .int a3] [zO 7 xa [.ref nw, .ref na, .int 0], zA t 4 na 7 (fun j => some (qq j 0)), zO 2 nw [.ref rw, .int 0, .int 0, .int 0, .int 0], zA t 3 rw 300 (fun _ => none), zO 3 (qq k 0) [.int (nI k), .ref nw, .int 0, .int 0, .int 0, .ref ((qq k 1)), .ref ((qq k 7)), .ref ((qq k 11)), .int 1, .int 0, .int 0, .int (nI (8 + 3 * k)), .int ((-1)), .int 0, .ref ((qq k 15))], zO 5 (qq k 1) [.ref ((qq k 2)), .ref ((qq k 3)), .ref ((qq k 4)), .ref ((qq k 5)), .ref ((qq k 6)), .int 1], zJ t (qq k 2) 32 (fun _ => 1099511627776), zI t (qq k 3) 8 (fun _ => 0), zJ t (qq k 4) 8 (fun _ => 0), zI t (qq k 5) 4 (xm 1), zI t (qq k 6) 4 (xm mk), zO 4 (qq k 7) [.ref ((qq k 8)), .ref ((qq k 9)), .ref ((qq k 10))], zI t (qq k 8) 32 (fun _ => 0), zI t (qq k 9) 32 (fun _ => 0), zA t 2 (qq k 10) 32 (fun _ => none), zO 4 (qq k 11) [.ref ((qq k 12)), .ref ((qq k 13)), .ref ((qq k 14))], zI t (qq k 12) 64 (fun _ => 0), zI t (qq k 13) 64 (fun _ => 0), zA t 2 (qq k 14) 64 (fun _ => none), zO 0 (qq k 15) [.ref ((no k)), .int 0, .ref ((qq k 16)), .ref ((qq k 20)), .ref ((qq k 24)), .int 0, .int 0, .int 0], zO 4 (qq k 16) [.ref ((qq k 17)), .ref ((qq k 18)), .ref ((qq k 19))], zI t (qq k 17) 32 (fun _ => 0), zI t (qq k 18) 32 (fun _ => 0), zA t 2 (qq k 19) 32 (fun _ => none), zO 4 (qq k 20) [.ref ((qq k 21)), .ref ((qq k 22)), .ref ((qq k 23))], zI t (qq k 21) 4 (fun _ => 0), zI t (qq k 22) 4 (fun _ => 0), zA t 2 (qq k 23) 4 (fun _ => none), zA t 2 (qq k 24) 16 (fun _ => none)] "java/util/NoSuchElementException" := by
  refine xt_of (by decide) (Nat.le_of_ble_eq_true rfl) ?_
  intro p e s m below meth c ls Z hlocks hno hP hTc hl
  obtain ⟨hx, hb, hml, hown, hK⟩ := id Z
  have hown : s.vm.findClass "QuorumStore" = some m.cls := hown
  have hts := hK.1.at (args := ([.ref xa, .int (nI k), .int a2, .int a3] : List Value).toArray)
  have hl : lv_has ls 5 [(0, .ref xa), (1, .int (nI k)), (2, .int a2), (3, .int a3)] := hl
  refine lv_aload_n hx hb d_Q_known_0 rfl (lv_at hl 0 rfl) ?_
  refine lv_iload_n hx hb d_Q_known_1 rfl (lv_at hl 1 rfl) ?_
  refine xr_call (xs_V (As := [.int (nI k)]) (rest := []) Z (C_Q_nodeAt l D t xa nw na qq k hk) m_Q_nodeAt k_710 k_712 ks_32 rfl rfl ⟨Nat.le_of_ble_eq_true rfl, Nat.le_of_ble_eq_true rfl⟩ (va_recv hK.2 hP (ci := 7) (q0 := 0) rfl rfl) (xr_pre hK (hP.sub [0, 1] rfl)) rfl hl.1 rfl (Nat.le_of_ble_eq_true rfl) d_Q_known_2 ⟨Nat.le_of_ble_eq_true rfl, Nat.le_of_ble_eq_true rfl⟩) ?_
  refine va_get (ci := 3) (C := "QuorumStore$Node") (T := TX3) (N := 15) hx hb hts inX3 hown hK.2 hP 4 rfl rfl 7 (by decide) (hts _ k_210) (fun _ h9 => h9) rfl d_Q_known_5 ?_
  refine lv_iload_n hx hb d_Q_known_8 rfl (lv_at hl 2 rfl) ?_
  refine xr_call (xs_V (As := [.int a2]) (rest := []) Z (C_R_valueAt l D t (qq k 11) (qq k 12) (qq k 13) (qq k 14) 64 (by decide) a2) m_R_valueAt k_800 k_421 k_422 rfl rfl ⟨Nat.le_of_ble_eq_true rfl, Nat.le_of_ble_eq_true rfl⟩ (va_recv hK.2 hP (ci := 4) (q0 := 15) rfl rfl) (xr_pre hK (hP.sub [15, 16, 17, 18] rfl)) rfl hl.1 rfl (Nat.le_of_ble_eq_true rfl) d_Q_known_9 ⟨Nat.le_of_ble_eq_true rfl, Nat.le_of_ble_eq_true rfl⟩) ?_
  refine lv_astoreN (lv' := [(4, .null), (0, .ref xa), (1, .int (nI k)), (2, .int a2), (3, .int a3)]) hx hb d_Q_known_12 hl (by decide) rfl (fun ls hl => ?_)
  refine lv_aloadN hx hb d_Q_known_14 (lv_at hl 0 rfl) ?_
  refine lv_ifnonnullN hx hb d_Q_known_16 ?_
  exact xt_new (tx := "nothing is known there") Z hTc hfl (by decide) k_553 k_20 xc_W_NSE xc_c_NSE (fun pl h9 => xc_chain hK.1 h9 (by decide) xc_d_NSE_0 xc_d_NSE_1 xc_d_NSE_2 xc_d_NSE_5 xc_P_NSE) (by decide) hl.1 d_Q_known_19 d_Q_known_22 d_Q_known_23 d_Q_known_25 d_Q_known_28 hno hlocks (Nat.le_of_ble_eq_true rfl) (Nat.le_of_ble_eq_true rfl) (Nat.le_of_ble_eq_true rfl) (Nat.le_of_ble_eq_true rfl)
theorem d_Q_about_5 : decode c_Q_about 5 = .ok (.astore_n 3, 1) := by decide +kernel
theorem d_Q_about_6 : decode c_Q_about 6 = .ok (.iload_n 2, 1) := by decide +kernel
theorem d_Q_about_7 : decode c_Q_about 7 = .ok (.tableswitch 215 0 13 #[69, 82, 95, 100, 105, 110, 115, 129, 134, 139, 158, 177, 199, 207], 69) := by decide +kernel
theorem d_Q_about_222 : decode c_Q_about 222 = .ok (.new 25, 3) := by decide +kernel
theorem d_Q_about_225 : decode c_Q_about 225 = .ok (.dup, 1) := by decide +kernel
theorem d_Q_about_226 : decode c_Q_about 226 = .ok (.ldc 228, 2) := by decide +kernel
theorem d_Q_about_228 : decode c_Q_about 228 = .ok (.invokespecial 29, 3) := by decide +kernel
theorem d_Q_about_231 : decode c_Q_about 231 = .ok (.athrow, 1) := by decide +kernel
set_option maxHeartbeats 4000000 in
set_option maxRecDepth 100000 in
/-- about: what is not 0 .. 13 -/
theorem T2_Q_about (l : Launch) (hfl : l.flags = pinnedFlags ++ [noTraceFlag]) (D : va_G) (t : Nat → ClassId) (xa nw na rw : Nat) (qq : Nat → Nat → Nat) (no : Nat → Nat) (mk : Int32) (k : Nat) (hk : k < 7) (wh : Int32) (hw : wh.toInt < 0 ∨ 13 < wh.toInt) : xt_C l D vwCl (xTY t) y_Q_about c_Q_about 4 (Option.some FieldType.int) ({ frames := 6, cells := 1, slots := 6, locals := 82 }) [.ref xa, .int (nI k), .int wh] [zO 7 xa [.ref nw, .ref na, .int 0], zA t 4 na 7 (fun j => some (qq j 0)), zO 2 nw [.ref rw, .int 0, .int 0, .int 0, .int 0], zA t 3 rw 300 (fun _ => none), zO 3 (qq k 0) [.int (nI k), .ref nw, .int 0, .int 0, .int 0, .ref ((qq k 1)), .ref ((qq k 7)), .ref ((qq k 11)), .int 1, .int 0, .int 0, .int (nI (8 + 3 * k)), .int ((-1)), .int 0, .ref ((qq k 15))], zO 5 (qq k 1) [.ref ((qq k 2)), .ref ((qq k 3)), .ref ((qq k 4)), .ref ((qq k 5)), .ref ((qq k 6)), .int 1], zJ t (qq k 2) 32 (fun _ => 1099511627776), zI t (qq k 3) 8 (fun _ => 0), zJ t (qq k 4) 8 (fun _ => 0), zI t (qq k 5) 4 (xm 1), zI t (qq k 6) 4 (xm mk), zO 4 (qq k 7) [.ref ((qq k 8)), .ref ((qq k 9)), .ref ((qq k 10))], zI t (qq k 8) 32 (fun _ => 0), zI t (qq k 9) 32 (fun _ => 0), zA t 2 (qq k 10) 32 (fun _ => none), zO 4 (qq k 11) [.ref ((qq k 12)), .ref ((qq k 13)), .ref ((qq k 14))], zI t (qq k 12) 64 (fun _ => 0), zI t (qq k 13) 64 (fun _ => 0), zA t 2 (qq k 14) 64 (fun _ => none), zO 0 (qq k 15) [.ref ((no k)), .int 0, .ref ((qq k 16)), .ref ((qq k 20)), .ref ((qq k 24)), .int 0, .int 0, .int 0], zO 4 (qq k 16) [.ref ((qq k 17)), .ref ((qq k 18)), .ref ((qq k 19))], zI t (qq k 17) 32 (fun _ => 0), zI t (qq k 18) 32 (fun _ => 0), zA t 2 (qq k 19) 32 (fun _ => none), zO 4 (qq k 20) [.ref ((qq k 21)), .ref ((qq k 22)), .ref ((qq k 23))], zI t (qq k 21) 4 (fun _ => 0), zI t (qq k 22) 4 (fun _ => 0), zA t 2 (qq k 23) 4 (fun _ => none), zA t 2 (qq k 24) 16 (fun _ => none)] "java/lang/IllegalArgumentException" := by
  refine xt_of (by decide) (Nat.le_of_ble_eq_true rfl) ?_
  intro p e s m below meth c ls Z hlocks hno hP hTc hl
  obtain ⟨hx, hb, hml, hown, hK⟩ := id Z
  have hown : s.vm.findClass "QuorumStore" = some m.cls := hown
  have hts := hK.1.at (args := ([.ref xa, .int (nI k), .int wh] : List Value).toArray)
  have hl : lv_has ls 4 [(0, .ref xa), (1, .int (nI k)), (2, .int wh)] := hl
  refine lv_aload_n hx hb d_Q_about_0 rfl (lv_at hl 0 rfl) ?_
  refine lv_iload_n hx hb d_Q_about_1 rfl (lv_at hl 1 rfl) ?_
  refine xr_call (xs_V (As := [.int (nI k)]) (rest := []) Z (C_Q_nodeAt l D t xa nw na qq k hk) m_Q_nodeAt k_710 k_712 ks_32 rfl rfl ⟨Nat.le_of_ble_eq_true rfl, Nat.le_of_ble_eq_true rfl⟩ (va_recv hK.2 hP (ci := 7) (q0 := 0) rfl rfl) (xr_pre hK (hP.sub [0, 1] rfl)) rfl hl.1 rfl (Nat.le_of_ble_eq_true rfl) d_Q_about_2 ⟨Nat.le_of_ble_eq_true rfl, Nat.le_of_ble_eq_true rfl⟩) ?_
  refine lv_astore_n (lv' := [(3, .ref ((qq k 0))), (0, .ref xa), (1, .int (nI k)), (2, .int wh)]) hx hb d_Q_about_5 rfl hl (by decide) rfl (fun ls hl => ?_)
  refine lv_iload_n hx hb d_Q_about_6 rfl (lv_at hl 3 rfl) ?_
  refine lv_tableOut (tgt := 222) hx hb d_Q_about_7 hw (by decide) ?_
  exact xt_new (tx := "what is not 0 .. 13") Z hTc hfl (by decide) k_280 k_16 xc_W_IAE xc_c_IAE (fun pl h9 => xc_chain hK.1 h9 (by decide) xc_d_IAE_0 xc_d_IAE_1 xc_d_IAE_2 xc_d_IAE_5 xc_P_IAE) (by decide) hl.1 d_Q_about_222 d_Q_about_225 d_Q_about_226 d_Q_about_228 d_Q_about_231 hno hlocks (Nat.le_of_ble_eq_true rfl) (Nat.le_of_ble_eq_true rfl) (Nat.le_of_ble_eq_true rfl) (Nat.le_of_ble_eq_true rfl)
theorem d_Q_about_76 : decode c_Q_about 76 = .ok (.aload_n 3, 1) := by decide +kernel
theorem d_Q_about_77 : decode c_Q_about 77 = .ok (.getfield 52, 3) := by decide +kernel
theorem d_Q_about_80 : decode c_Q_about 80 = .ok (.ifCond .eq 7, 3) := by decide +kernel
theorem d_Q_about_83 : decode c_Q_about 83 = .ok (.iconst 1, 1) := by decide +kernel
theorem d_Q_about_84 : decode c_Q_about 84 = .ok (.goto 4, 3) := by decide +kernel
theorem d_Q_about_88 : decode c_Q_about 88 = .ok (.ireturn, 1) := by decide +kernel
set_option maxHeartbeats 4000000 in
set_option maxRecDepth 100000 in
/-- about 0 on a new object -/
theorem C_Q_about_0 (l : Launch) (D : va_G) (t : Nat → ClassId) (xa nw na rw : Nat) (qq : Nat → Nat → Nat) (no : Nat → Nat) (mk : Int32) (k : Nat) (hk : k < 7) : xr_C l D vwCl (xTY t) y_Q_about c_Q_about 4 (Option.some FieldType.int) ({ frames := 1, cells := 0, slots := 0, locals := 21 }) [.ref xa, .int (nI k), .int 0] [zO 7 xa [.ref nw, .ref na, .int 0], zA t 4 na 7 (fun j => some (qq j 0)), zO 2 nw [.ref rw, .int 0, .int 0, .int 0, .int 0], zA t 3 rw 300 (fun _ => none), zO 3 (qq k 0) [.int (nI k), .ref nw, .int 0, .int 0, .int 0, .ref ((qq k 1)), .ref ((qq k 7)), .ref ((qq k 11)), .int 1, .int 0, .int 0, .int (nI (8 + 3 * k)), .int ((-1)), .int 0, .ref ((qq k 15))], zO 5 (qq k 1) [.ref ((qq k 2)), .ref ((qq k 3)), .ref ((qq k 4)), .ref ((qq k 5)), .ref ((qq k 6)), .int 1], zJ t (qq k 2) 32 (fun _ => 1099511627776), zI t (qq k 3) 8 (fun _ => 0), zJ t (qq k 4) 8 (fun _ => 0), zI t (qq k 5) 4 (xm 1), zI t (qq k 6) 4 (xm mk), zO 4 (qq k 7) [.ref ((qq k 8)), .ref ((qq k 9)), .ref ((qq k 10))], zI t (qq k 8) 32 (fun _ => 0), zI t (qq k 9) 32 (fun _ => 0), zA t 2 (qq k 10) 32 (fun _ => none), zO 4 (qq k 11) [.ref ((qq k 12)), .ref ((qq k 13)), .ref ((qq k 14))], zI t (qq k 12) 64 (fun _ => 0), zI t (qq k 13) 64 (fun _ => 0), zA t 2 (qq k 14) 64 (fun _ => none), zO 0 (qq k 15) [.ref ((no k)), .int 0, .ref ((qq k 16)), .ref ((qq k 20)), .ref ((qq k 24)), .int 0, .int 0, .int 0], zO 4 (qq k 16) [.ref ((qq k 17)), .ref ((qq k 18)), .ref ((qq k 19))], zI t (qq k 17) 32 (fun _ => 0), zI t (qq k 18) 32 (fun _ => 0), zA t 2 (qq k 19) 32 (fun _ => none), zO 4 (qq k 20) [.ref ((qq k 21)), .ref ((qq k 22)), .ref ((qq k 23))], zI t (qq k 21) 4 (fun _ => 0), zI t (qq k 22) 4 (fun _ => 0), zA t 2 (qq k 23) 4 (fun _ => none), zA t 2 (qq k 24) 16 (fun _ => none)] (xr_Q (some (.int (1)))) := by
  refine xr_of (by decide) (Nat.le_of_ble_eq_true rfl) ?_
  intro p e s m below meth c ls Z hr hlocks hP hl
  obtain ⟨hx, hb, hml, hown, hK⟩ := id Z
  have hown : s.vm.findClass "QuorumStore" = some m.cls := hown
  have hts := hK.1.at (args := ([.ref xa, .int (nI k), .int 0] : List Value).toArray)
  have hl : lv_has ls 4 [(0, .ref xa), (1, .int (nI k)), (2, .int 0)] := hl
  refine lv_aload_n hx hb d_Q_about_0 rfl (lv_at hl 0 rfl) ?_
  refine lv_iload_n hx hb d_Q_about_1 rfl (lv_at hl 1 rfl) ?_
  refine xr_call (xs_V (As := [.int (nI k)]) (rest := []) Z (C_Q_nodeAt l D t xa nw na qq k hk) m_Q_nodeAt k_710 k_712 ks_32 rfl rfl ⟨Nat.le_of_ble_eq_true rfl, Nat.le_of_ble_eq_true rfl⟩ (va_recv hK.2 hP (ci := 7) (q0 := 0) rfl rfl) (xr_pre hK (hP.sub [0, 1] rfl)) rfl hl.1 rfl (Nat.le_of_ble_eq_true rfl) d_Q_about_2 ⟨Nat.le_of_ble_eq_true rfl, Nat.le_of_ble_eq_true rfl⟩) ?_
  refine lv_astore_n (lv' := [(3, .ref ((qq k 0))), (0, .ref xa), (1, .int (nI k)), (2, .int 0)]) hx hb d_Q_about_5 rfl hl (by decide) rfl (fun ls hl => ?_)
  refine lv_iload_n hx hb d_Q_about_6 rfl (lv_at hl 3 rfl) ?_
  refine lv_tableIn (off := 69) (tgt := 76) hx hb d_Q_about_7 (by decide) (by decide) (by decide) (by decide) ?_
  refine lv_aload_n hx hb d_Q_about_76 rfl (lv_at hl 0 rfl) ?_
  refine va_get (ci := 3) (C := "QuorumStore$Node") (T := TX3) (N := 15) hx hb hts inX3 hown hK.2 hP 4 rfl rfl 8 (by decide) (hts _ k_212) (fun _ h9 => h9) rfl d_Q_about_77 ?_
  refine lv_if_eq (tgt := 87) hx hb d_Q_about_80 (by decide) (fun c_1 => absurd c_1 (by decide)) (fun _ => ?_)
  refine lv_iconst (v := 1) hx hb d_Q_about_83 (by decide) ?_
  refine lv_goto (tgt := 88) hx hb d_Q_about_84 (by decide) ?_
  exact W.iret hx hb hr (fun t ht _ => ⟨rfl, ht⟩) (fun q h => by cases h) d_Q_about_88
theorem d_Q_about_89 : decode c_Q_about 89 = .ok (.aload_n 3, 1) := by decide +kernel
theorem d_Q_about_90 : decode c_Q_about 90 = .ok (.getfield 184, 3) := by decide +kernel
theorem d_Q_about_93 : decode c_Q_about 93 = .ok (.ifCond .eq 7, 3) := by decide +kernel
theorem d_Q_about_100 : decode c_Q_about 100 = .ok (.iconst 0, 1) := by decide +kernel
theorem d_Q_about_101 : decode c_Q_about 101 = .ok (.ireturn, 1) := by decide +kernel
set_option maxHeartbeats 4000000 in
set_option maxRecDepth 100000 in
/-- about 1 on a new object -/
theorem C_Q_about_1 (l : Launch) (D : va_G) (t : Nat → ClassId) (xa nw na rw : Nat) (qq : Nat → Nat → Nat) (no : Nat → Nat) (mk : Int32) (k : Nat) (hk : k < 7) : xr_C l D vwCl (xTY t) y_Q_about c_Q_about 4 (Option.some FieldType.int) ({ frames := 1, cells := 0, slots := 0, locals := 21 }) [.ref xa, .int (nI k), .int 1] [zO 7 xa [.ref nw, .ref na, .int 0], zA t 4 na 7 (fun j => some (qq j 0)), zO 2 nw [.ref rw, .int 0, .int 0, .int 0, .int 0], zA t 3 rw 300 (fun _ => none), zO 3 (qq k 0) [.int (nI k), .ref nw, .int 0, .int 0, .int 0, .ref ((qq k 1)), .ref ((qq k 7)), .ref ((qq k 11)), .int 1, .int 0, .int 0, .int (nI (8 + 3 * k)), .int ((-1)), .int 0, .ref ((qq k 15))], zO 5 (qq k 1) [.ref ((qq k 2)), .ref ((qq k 3)), .ref ((qq k 4)), .ref ((qq k 5)), .ref ((qq k 6)), .int 1], zJ t (qq k 2) 32 (fun _ => 1099511627776), zI t (qq k 3) 8 (fun _ => 0), zJ t (qq k 4) 8 (fun _ => 0), zI t (qq k 5) 4 (xm 1), zI t (qq k 6) 4 (xm mk), zO 4 (qq k 7) [.ref ((qq k 8)), .ref ((qq k 9)), .ref ((qq k 10))], zI t (qq k 8) 32 (fun _ => 0), zI t (qq k 9) 32 (fun _ => 0), zA t 2 (qq k 10) 32 (fun _ => none), zO 4 (qq k 11) [.ref ((qq k 12)), .ref ((qq k 13)), .ref ((qq k 14))], zI t (qq k 12) 64 (fun _ => 0), zI t (qq k 13) 64 (fun _ => 0), zA t 2 (qq k 14) 64 (fun _ => none), zO 0 (qq k 15) [.ref ((no k)), .int 0, .ref ((qq k 16)), .ref ((qq k 20)), .ref ((qq k 24)), .int 0, .int 0, .int 0], zO 4 (qq k 16) [.ref ((qq k 17)), .ref ((qq k 18)), .ref ((qq k 19))], zI t (qq k 17) 32 (fun _ => 0), zI t (qq k 18) 32 (fun _ => 0), zA t 2 (qq k 19) 32 (fun _ => none), zO 4 (qq k 20) [.ref ((qq k 21)), .ref ((qq k 22)), .ref ((qq k 23))], zI t (qq k 21) 4 (fun _ => 0), zI t (qq k 22) 4 (fun _ => 0), zA t 2 (qq k 23) 4 (fun _ => none), zA t 2 (qq k 24) 16 (fun _ => none)] (xr_Q (some (.int (0)))) := by
  refine xr_of (by decide) (Nat.le_of_ble_eq_true rfl) ?_
  intro p e s m below meth c ls Z hr hlocks hP hl
  obtain ⟨hx, hb, hml, hown, hK⟩ := id Z
  have hown : s.vm.findClass "QuorumStore" = some m.cls := hown
  have hts := hK.1.at (args := ([.ref xa, .int (nI k), .int 1] : List Value).toArray)
  have hl : lv_has ls 4 [(0, .ref xa), (1, .int (nI k)), (2, .int 1)] := hl
  refine lv_aload_n hx hb d_Q_about_0 rfl (lv_at hl 0 rfl) ?_
  refine lv_iload_n hx hb d_Q_about_1 rfl (lv_at hl 1 rfl) ?_
  refine xr_call (xs_V (As := [.int (nI k)]) (rest := []) Z (C_Q_nodeAt l D t xa nw na qq k hk) m_Q_nodeAt k_710 k_712 ks_32 rfl rfl ⟨Nat.le_of_ble_eq_true rfl, Nat.le_of_ble_eq_true rfl⟩ (va_recv hK.2 hP (ci := 7) (q0 := 0) rfl rfl) (xr_pre hK (hP.sub [0, 1] rfl)) rfl hl.1 rfl (Nat.le_of_ble_eq_true rfl) d_Q_about_2 ⟨Nat.le_of_ble_eq_true rfl, Nat.le_of_ble_eq_true rfl⟩) ?_
  refine lv_astore_n (lv' := [(3, .ref ((qq k 0))), (0, .ref xa), (1, .int (nI k)), (2, .int 1)]) hx hb d_Q_about_5 rfl hl (by decide) rfl (fun ls hl => ?_)
  refine lv_iload_n hx hb d_Q_about_6 rfl (lv_at hl 3 rfl) ?_
  refine lv_tableIn (off := 82) (tgt := 89) hx hb d_Q_about_7 (by decide) (by decide) (by decide) (by decide) ?_
  refine lv_aload_n hx hb d_Q_about_89 rfl (lv_at hl 0 rfl) ?_
  refine va_get (ci := 3) (C := "QuorumStore$Node") (T := TX3) (N := 15) hx hb hts inX3 hown hK.2 hP 4 rfl rfl 9 (by decide) (hts _ k_214) (fun _ h9 => h9) rfl d_Q_about_90 ?_
  refine lv_if_eq (tgt := 100) hx hb d_Q_about_93 (by decide) (fun _ => ?_) (fun c_1 => absurd (rfl) c_1)
  refine lv_iconst (v := 0) hx hb d_Q_about_100 (by decide) ?_
  exact W.iret hx hb hr (fun t ht _ => ⟨rfl, ht⟩) (fun q h => by cases h) d_Q_about_101
theorem d_Q_about_102 : decode c_Q_about 102 = .ok (.aload_n 3, 1) := by decide +kernel
theorem d_Q_about_103 : decode c_Q_about 103 = .ok (.getfield 187, 3) := by decide +kernel
theorem d_Q_about_106 : decode c_Q_about 106 = .ok (.ireturn, 1) := by decide +kernel
set_option maxHeartbeats 4000000 in
set_option maxRecDepth 100000 in
/-- about 2 on a new object -/
theorem C_Q_about_2 (l : Launch) (D : va_G) (t : Nat → ClassId) (xa nw na rw : Nat) (qq : Nat → Nat → Nat) (no : Nat → Nat) (mk : Int32) (k : Nat) (hk : k < 7) : xr_C l D vwCl (xTY t) y_Q_about c_Q_about 4 (Option.some FieldType.int) ({ frames := 1, cells := 0, slots := 0, locals := 21 }) [.ref xa, .int (nI k), .int 2] [zO 7 xa [.ref nw, .ref na, .int 0], zA t 4 na 7 (fun j => some (qq j 0)), zO 2 nw [.ref rw, .int 0, .int 0, .int 0, .int 0], zA t 3 rw 300 (fun _ => none), zO 3 (qq k 0) [.int (nI k), .ref nw, .int 0, .int 0, .int 0, .ref ((qq k 1)), .ref ((qq k 7)), .ref ((qq k 11)), .int 1, .int 0, .int 0, .int (nI (8 + 3 * k)), .int ((-1)), .int 0, .ref ((qq k 15))], zO 5 (qq k 1) [.ref ((qq k 2)), .ref ((qq k 3)), .ref ((qq k 4)), .ref ((qq k 5)), .ref ((qq k 6)), .int 1], zJ t (qq k 2) 32 (fun _ => 1099511627776), zI t (qq k 3) 8 (fun _ => 0), zJ t (qq k 4) 8 (fun _ => 0), zI t (qq k 5) 4 (xm 1), zI t (qq k 6) 4 (xm mk), zO 4 (qq k 7) [.ref ((qq k 8)), .ref ((qq k 9)), .ref ((qq k 10))], zI t (qq k 8) 32 (fun _ => 0), zI t (qq k 9) 32 (fun _ => 0), zA t 2 (qq k 10) 32 (fun _ => none), zO 4 (qq k 11) [.ref ((qq k 12)), .ref ((qq k 13)), .ref ((qq k 14))], zI t (qq k 12) 64 (fun _ => 0), zI t (qq k 13) 64 (fun _ => 0), zA t 2 (qq k 14) 64 (fun _ => none), zO 0 (qq k 15) [.ref ((no k)), .int 0, .ref ((qq k 16)), .ref ((qq k 20)), .ref ((qq k 24)), .int 0, .int 0, .int 0], zO 4 (qq k 16) [.ref ((qq k 17)), .ref ((qq k 18)), .ref ((qq k 19))], zI t (qq k 17) 32 (fun _ => 0), zI t (qq k 18) 32 (fun _ => 0), zA t 2 (qq k 19) 32 (fun _ => none), zO 4 (qq k 20) [.ref ((qq k 21)), .ref ((qq k 22)), .ref ((qq k 23))], zI t (qq k 21) 4 (fun _ => 0), zI t (qq k 22) 4 (fun _ => 0), zA t 2 (qq k 23) 4 (fun _ => none), zA t 2 (qq k 24) 16 (fun _ => none)] (xr_Q (some (.int (0)))) := by
  refine xr_of (by decide) (Nat.le_of_ble_eq_true rfl) ?_
  intro p e s m below meth c ls Z hr hlocks hP hl
  obtain ⟨hx, hb, hml, hown, hK⟩ := id Z
  have hown : s.vm.findClass "QuorumStore" = some m.cls := hown
  have hts := hK.1.at (args := ([.ref xa, .int (nI k), .int 2] : List Value).toArray)
  have hl : lv_has ls 4 [(0, .ref xa), (1, .int (nI k)), (2, .int 2)] := hl
  refine lv_aload_n hx hb d_Q_about_0 rfl (lv_at hl 0 rfl) ?_
  refine lv_iload_n hx hb d_Q_about_1 rfl (lv_at hl 1 rfl) ?_
  refine xr_call (xs_V (As := [.int (nI k)]) (rest := []) Z (C_Q_nodeAt l D t xa nw na qq k hk) m_Q_nodeAt k_710 k_712 ks_32 rfl rfl ⟨Nat.le_of_ble_eq_true rfl, Nat.le_of_ble_eq_true rfl⟩ (va_recv hK.2 hP (ci := 7) (q0 := 0) rfl rfl) (xr_pre hK (hP.sub [0, 1] rfl)) rfl hl.1 rfl (Nat.le_of_ble_eq_true rfl) d_Q_about_2 ⟨Nat.le_of_ble_eq_true rfl, Nat.le_of_ble_eq_true rfl⟩) ?_
  refine lv_astore_n (lv' := [(3, .ref ((qq k 0))), (0, .ref xa), (1, .int (nI k)), (2, .int 2)]) hx hb d_Q_about_5 rfl hl (by decide) rfl (fun ls hl => ?_)
  refine lv_iload_n hx hb d_Q_about_6 rfl (lv_at hl 3 rfl) ?_
  refine lv_tableIn (off := 95) (tgt := 102) hx hb d_Q_about_7 (by decide) (by decide) (by decide) (by decide) ?_
  refine lv_aload_n hx hb d_Q_about_102 rfl (lv_at hl 0 rfl) ?_
  refine va_get (ci := 3) (C := "QuorumStore$Node") (T := TX3) (N := 15) hx hb hts inX3 hown hK.2 hP 4 rfl rfl 10 (by decide) (hts _ k_216) (fun _ h9 => h9) rfl d_Q_about_103 ?_
  exact W.iret hx hb hr (fun t ht _ => ⟨rfl, ht⟩) (fun q h => by cases h) d_Q_about_106
theorem d_Q_about_107 : decode c_Q_about 107 = .ok (.aload_n 3, 1) := by decide +kernel
theorem d_Q_about_108 : decode c_Q_about 108 = .ok (.getfield 188, 3) := by decide +kernel
theorem d_Q_about_111 : decode c_Q_about 111 = .ok (.ireturn, 1) := by decide +kernel
set_option maxHeartbeats 4000000 in
set_option maxRecDepth 100000 in
/-- about 3 on a new object -/
theorem C_Q_about_3 (l : Launch) (D : va_G) (t : Nat → ClassId) (xa nw na rw : Nat) (qq : Nat → Nat → Nat) (no : Nat → Nat) (mk : Int32) (k : Nat) (hk : k < 7) : xr_C l D vwCl (xTY t) y_Q_about c_Q_about 4 (Option.some FieldType.int) ({ frames := 1, cells := 0, slots := 0, locals := 21 }) [.ref xa, .int (nI k), .int 3] [zO 7 xa [.ref nw, .ref na, .int 0], zA t 4 na 7 (fun j => some (qq j 0)), zO 2 nw [.ref rw, .int 0, .int 0, .int 0, .int 0], zA t 3 rw 300 (fun _ => none), zO 3 (qq k 0) [.int (nI k), .ref nw, .int 0, .int 0, .int 0, .ref ((qq k 1)), .ref ((qq k 7)), .ref ((qq k 11)), .int 1, .int 0, .int 0, .int (nI (8 + 3 * k)), .int ((-1)), .int 0, .ref ((qq k 15))], zO 5 (qq k 1) [.ref ((qq k 2)), .ref ((qq k 3)), .ref ((qq k 4)), .ref ((qq k 5)), .ref ((qq k 6)), .int 1], zJ t (qq k 2) 32 (fun _ => 1099511627776), zI t (qq k 3) 8 (fun _ => 0), zJ t (qq k 4) 8 (fun _ => 0), zI t (qq k 5) 4 (xm 1), zI t (qq k 6) 4 (xm mk), zO 4 (qq k 7) [.ref ((qq k 8)), .ref ((qq k 9)), .ref ((qq k 10))], zI t (qq k 8) 32 (fun _ => 0), zI t (qq k 9) 32 (fun _ => 0), zA t 2 (qq k 10) 32 (fun _ => none), zO 4 (qq k 11) [.ref ((qq k 12)), .ref ((qq k 13)), .ref ((qq k 14))], zI t (qq k 12) 64 (fun _ => 0), zI t (qq k 13) 64 (fun _ => 0), zA t 2 (qq k 14) 64 (fun _ => none), zO 0 (qq k 15) [.ref ((no k)), .int 0, .ref ((qq k 16)), .ref ((qq k 20)), .ref ((qq k 24)), .int 0, .int 0, .int 0], zO 4 (qq k 16) [.ref ((qq k 17)), .ref ((qq k 18)), .ref ((qq k 19))], zI t (qq k 17) 32 (fun _ => 0), zI t (qq k 18) 32 (fun _ => 0), zA t 2 (qq k 19) 32 (fun _ => none), zO 4 (qq k 20) [.ref ((qq k 21)), .ref ((qq k 22)), .ref ((qq k 23))], zI t (qq k 21) 4 (fun _ => 0), zI t (qq k 22) 4 (fun _ => 0), zA t 2 (qq k 23) 4 (fun _ => none), zA t 2 (qq k 24) 16 (fun _ => none)] (xr_Q (some (.int (0)))) := by
  refine xr_of (by decide) (Nat.le_of_ble_eq_true rfl) ?_
  intro p e s m below meth c ls Z hr hlocks hP hl
  obtain ⟨hx, hb, hml, hown, hK⟩ := id Z
  have hown : s.vm.findClass "QuorumStore" = some m.cls := hown
  have hts := hK.1.at (args := ([.ref xa, .int (nI k), .int 3] : List Value).toArray)
  have hl : lv_has ls 4 [(0, .ref xa), (1, .int (nI k)), (2, .int 3)] := hl
  refine lv_aload_n hx hb d_Q_about_0 rfl (lv_at hl 0 rfl) ?_
  refine lv_iload_n hx hb d_Q_about_1 rfl (lv_at hl 1 rfl) ?_
  refine xr_call (xs_V (As := [.int (nI k)]) (rest := []) Z (C_Q_nodeAt l D t xa nw na qq k hk) m_Q_nodeAt k_710 k_712 ks_32 rfl rfl ⟨Nat.le_of_ble_eq_true rfl, Nat.le_of_ble_eq_true rfl⟩ (va_recv hK.2 hP (ci := 7) (q0 := 0) rfl rfl) (xr_pre hK (hP.sub [0, 1] rfl)) rfl hl.1 rfl (Nat.le_of_ble_eq_true rfl) d_Q_about_2 ⟨Nat.le_of_ble_eq_true rfl, Nat.le_of_ble_eq_true rfl⟩) ?_
  refine lv_astore_n (lv' := [(3, .ref ((qq k 0))), (0, .ref xa), (1, .int (nI k)), (2, .int 3)]) hx hb d_Q_about_5 rfl hl (by decide) rfl (fun ls hl => ?_)
  refine lv_iload_n hx hb d_Q_about_6 rfl (lv_at hl 3 rfl) ?_
  refine lv_tableIn (off := 100) (tgt := 107) hx hb d_Q_about_7 (by decide) (by decide) (by decide) (by decide) ?_
  refine lv_aload_n hx hb d_Q_about_107 rfl (lv_at hl 0 rfl) ?_
  refine va_get (ci := 3) (C := "QuorumStore$Node") (T := TX3) (N := 15) hx hb hts inX3 hown hK.2 hP 4 rfl rfl 2 (by decide) (hts _ k_200) (fun _ h9 => h9) rfl d_Q_about_108 ?_
  exact W.iret hx hb hr (fun t ht _ => ⟨rfl, ht⟩) (fun q h => by cases h) d_Q_about_111
theorem d_Q_about_112 : decode c_Q_about 112 = .ok (.aload_n 3, 1) := by decide +kernel
theorem d_Q_about_113 : decode c_Q_about 113 = .ok (.getfield 191, 3) := by decide +kernel
theorem d_Q_about_116 : decode c_Q_about 116 = .ok (.ireturn, 1) := by decide +kernel
set_option maxHeartbeats 4000000 in
set_option maxRecDepth 100000 in
/-- about 4 on a new object -/
theorem C_Q_about_4 (l : Launch) (D : va_G) (t : Nat → ClassId) (xa nw na rw : Nat) (qq : Nat → Nat → Nat) (no : Nat → Nat) (mk : Int32) (k : Nat) (hk : k < 7) : xr_C l D vwCl (xTY t) y_Q_about c_Q_about 4 (Option.some FieldType.int) ({ frames := 1, cells := 0, slots := 0, locals := 21 }) [.ref xa, .int (nI k), .int 4] [zO 7 xa [.ref nw, .ref na, .int 0], zA t 4 na 7 (fun j => some (qq j 0)), zO 2 nw [.ref rw, .int 0, .int 0, .int 0, .int 0], zA t 3 rw 300 (fun _ => none), zO 3 (qq k 0) [.int (nI k), .ref nw, .int 0, .int 0, .int 0, .ref ((qq k 1)), .ref ((qq k 7)), .ref ((qq k 11)), .int 1, .int 0, .int 0, .int (nI (8 + 3 * k)), .int ((-1)), .int 0, .ref ((qq k 15))], zO 5 (qq k 1) [.ref ((qq k 2)), .ref ((qq k 3)), .ref ((qq k 4)), .ref ((qq k 5)), .ref ((qq k 6)), .int 1], zJ t (qq k 2) 32 (fun _ => 1099511627776), zI t (qq k 3) 8 (fun _ => 0), zJ t (qq k 4) 8 (fun _ => 0), zI t (qq k 5) 4 (xm 1), zI t (qq k 6) 4 (xm mk), zO 4 (qq k 7) [.ref ((qq k 8)), .ref ((qq k 9)), .ref ((qq k 10))], zI t (qq k 8) 32 (fun _ => 0), zI t (qq k 9) 32 (fun _ => 0), zA t 2 (qq k 10) 32 (fun _ => none), zO 4 (qq k 11) [.ref ((qq k 12)), .ref ((qq k 13)), .ref ((qq k 14))], zI t (qq k 12) 64 (fun _ => 0), zI t (qq k 13) 64 (fun _ => 0), zA t 2 (qq k 14) 64 (fun _ => none), zO 0 (qq k 15) [.ref ((no k)), .int 0, .ref ((qq k 16)), .ref ((qq k 20)), .ref ((qq k 24)), .int 0, .int 0, .int 0], zO 4 (qq k 16) [.ref ((qq k 17)), .ref ((qq k 18)), .ref ((qq k 19))], zI t (qq k 17) 32 (fun _ => 0), zI t (qq k 18) 32 (fun _ => 0), zA t 2 (qq k 19) 32 (fun _ => none), zO 4 (qq k 20) [.ref ((qq k 21)), .ref ((qq k 22)), .ref ((qq k 23))], zI t (qq k 21) 4 (fun _ => 0), zI t (qq k 22) 4 (fun _ => 0), zA t 2 (qq k 23) 4 (fun _ => none), zA t 2 (qq k 24) 16 (fun _ => none)] (xr_Q (some (.int (0)))) := by
  refine xr_of (by decide) (Nat.le_of_ble_eq_true rfl) ?_
  intro p e s m below meth c ls Z hr hlocks hP hl
  obtain ⟨hx, hb, hml, hown, hK⟩ := id Z
  have hown : s.vm.findClass "QuorumStore" = some m.cls := hown
  have hts := hK.1.at (args := ([.ref xa, .int (nI k), .int 4] : List Value).toArray)
  have hl : lv_has ls 4 [(0, .ref xa), (1, .int (nI k)), (2, .int 4)] := hl
  refine lv_aload_n hx hb d_Q_about_0 rfl (lv_at hl 0 rfl) ?_
  refine lv_iload_n hx hb d_Q_about_1 rfl (lv_at hl 1 rfl) ?_
  refine xr_call (xs_V (As := [.int (nI k)]) (rest := []) Z (C_Q_nodeAt l D t xa nw na qq k hk) m_Q_nodeAt k_710 k_712 ks_32 rfl rfl ⟨Nat.le_of_ble_eq_true rfl, Nat.le_of_ble_eq_true rfl⟩ (va_recv hK.2 hP (ci := 7) (q0 := 0) rfl rfl) (xr_pre hK (hP.sub [0, 1] rfl)) rfl hl.1 rfl (Nat.le_of_ble_eq_true rfl) d_Q_about_2 ⟨Nat.le_of_ble_eq_true rfl, Nat.le_of_ble_eq_true rfl⟩) ?_
  refine lv_astore_n (lv' := [(3, .ref ((qq k 0))), (0, .ref xa), (1, .int (nI k)), (2, .int 4)]) hx hb d_Q_about_5 rfl hl (by decide) rfl (fun ls hl => ?_)
  refine lv_iload_n hx hb d_Q_about_6 rfl (lv_at hl 3 rfl) ?_
  refine lv_tableIn (off := 105) (tgt := 112) hx hb d_Q_about_7 (by decide) (by decide) (by decide) (by decide) ?_
  refine lv_aload_n hx hb d_Q_about_112 rfl (lv_at hl 0 rfl) ?_
  refine va_get (ci := 3) (C := "QuorumStore$Node") (T := TX3) (N := 15) hx hb hts inX3 hown hK.2 hP 4 rfl rfl 3 (by decide) (hts _ k_202) (fun _ h9 => h9) rfl d_Q_about_113 ?_
  exact W.iret hx hb hr (fun t ht _ => ⟨rfl, ht⟩) (fun q h => by cases h) d_Q_about_116
theorem d_Q_about_117 : decode c_Q_about 117 = .ok (.aload_n 3, 1) := by decide +kernel
theorem d_Q_about_118 : decode c_Q_about 118 = .ok (.getfield 194, 3) := by decide +kernel
theorem d_Q_about_121 : decode c_Q_about 121 = .ok (.ireturn, 1) := by decide +kernel
set_option maxHeartbeats 4000000 in
set_option maxRecDepth 100000 in
/-- about 5 on a new object -/
theorem C_Q_about_5 (l : Launch) (D : va_G) (t : Nat → ClassId) (xa nw na rw : Nat) (qq : Nat → Nat → Nat) (no : Nat → Nat) (mk : Int32) (k : Nat) (hk : k < 7) : xr_C l D vwCl (xTY t) y_Q_about c_Q_about 4 (Option.some FieldType.int) ({ frames := 1, cells := 0, slots := 0, locals := 21 }) [.ref xa, .int (nI k), .int 5] [zO 7 xa [.ref nw, .ref na, .int 0], zA t 4 na 7 (fun j => some (qq j 0)), zO 2 nw [.ref rw, .int 0, .int 0, .int 0, .int 0], zA t 3 rw 300 (fun _ => none), zO 3 (qq k 0) [.int (nI k), .ref nw, .int 0, .int 0, .int 0, .ref ((qq k 1)), .ref ((qq k 7)), .ref ((qq k 11)), .int 1, .int 0, .int 0, .int (nI (8 + 3 * k)), .int ((-1)), .int 0, .ref ((qq k 15))], zO 5 (qq k 1) [.ref ((qq k 2)), .ref ((qq k 3)), .ref ((qq k 4)), .ref ((qq k 5)), .ref ((qq k 6)), .int 1], zJ t (qq k 2) 32 (fun _ => 1099511627776), zI t (qq k 3) 8 (fun _ => 0), zJ t (qq k 4) 8 (fun _ => 0), zI t (qq k 5) 4 (xm 1), zI t (qq k 6) 4 (xm mk), zO 4 (qq k 7) [.ref ((qq k 8)), .ref ((qq k 9)), .ref ((qq k 10))], zI t (qq k 8) 32 (fun _ => 0), zI t (qq k 9) 32 (fun _ => 0), zA t 2 (qq k 10) 32 (fun _ => none), zO 4 (qq k 11) [.ref ((qq k 12)), .ref ((qq k 13)), .ref ((qq k 14))], zI t (qq k 12) 64 (fun _ => 0), zI t (qq k 13) 64 (fun _ => 0), zA t 2 (qq k 14) 64 (fun _ => none), zO 0 (qq k 15) [.ref ((no k)), .int 0, .ref ((qq k 16)), .ref ((qq k 20)), .ref ((qq k 24)), .int 0, .int 0, .int 0], zO 4 (qq k 16) [.ref ((qq k 17)), .ref ((qq k 18)), .ref ((qq k 19))], zI t (qq k 17) 32 (fun _ => 0), zI t (qq k 18) 32 (fun _ => 0), zA t 2 (qq k 19) 32 (fun _ => none), zO 4 (qq k 20) [.ref ((qq k 21)), .ref ((qq k 22)), .ref ((qq k 23))], zI t (qq k 21) 4 (fun _ => 0), zI t (qq k 22) 4 (fun _ => 0), zA t 2 (qq k 23) 4 (fun _ => none), zA t 2 (qq k 24) 16 (fun _ => none)] (xr_Q (some (.int (0)))) := by
  refine xr_of (by decide) (Nat.le_of_ble_eq_true rfl) ?_
  intro p e s m below meth c ls Z hr hlocks hP hl
  obtain ⟨hx, hb, hml, hown, hK⟩ := id Z
  have hown : s.vm.findClass "QuorumStore" = some m.cls := hown
  have hts := hK.1.at (args := ([.ref xa, .int (nI k), .int 5] : List Value).toArray)
  have hl : lv_has ls 4 [(0, .ref xa), (1, .int (nI k)), (2, .int 5)] := hl
  refine lv_aload_n hx hb d_Q_about_0 rfl (lv_at hl 0 rfl) ?_
  refine lv_iload_n hx hb d_Q_about_1 rfl (lv_at hl 1 rfl) ?_
  refine xr_call (xs_V (As := [.int (nI k)]) (rest := []) Z (C_Q_nodeAt l D t xa nw na qq k hk) m_Q_nodeAt k_710 k_712 ks_32 rfl rfl ⟨Nat.le_of_ble_eq_true rfl, Nat.le_of_ble_eq_true rfl⟩ (va_recv hK.2 hP (ci := 7) (q0 := 0) rfl rfl) (xr_pre hK (hP.sub [0, 1] rfl)) rfl hl.1 rfl (Nat.le_of_ble_eq_true rfl) d_Q_about_2 ⟨Nat.le_of_ble_eq_true rfl, Nat.le_of_ble_eq_true rfl⟩) ?_
  refine lv_astore_n (lv' := [(3, .ref ((qq k 0))), (0, .ref xa), (1, .int (nI k)), (2, .int 5)]) hx hb d_Q_about_5 rfl hl (by decide) rfl (fun ls hl => ?_)
  refine lv_iload_n hx hb d_Q_about_6 rfl (lv_at hl 3 rfl) ?_
  refine lv_tableIn (off := 110) (tgt := 117) hx hb d_Q_about_7 (by decide) (by decide) (by decide) (by decide) ?_
  refine lv_aload_n hx hb d_Q_about_117 rfl (lv_at hl 0 rfl) ?_
  refine va_get (ci := 3) (C := "QuorumStore$Node") (T := TX3) (N := 15) hx hb hts inX3 hown hK.2 hP 4 rfl rfl 4 (by decide) (hts _ k_203) (fun _ h9 => h9) rfl d_Q_about_118 ?_
  exact W.iret hx hb hr (fun t ht _ => ⟨rfl, ht⟩) (fun q h => by cases h) d_Q_about_121
theorem d_Q_about_122 : decode c_Q_about 122 = .ok (.aload_n 3, 1) := by decide +kernel
theorem d_Q_about_123 : decode c_Q_about 123 = .ok (.getfield 135, 3) := by decide +kernel
theorem d_Q_about_126 : decode c_Q_about 126 = .ok (.aload_n 3, 1) := by decide +kernel
theorem d_Q_about_127 : decode c_Q_about 127 = .ok (.getfield 191, 3) := by decide +kernel
theorem d_Q_about_130 : decode c_Q_about 130 = .ok (.iconst 1, 1) := by decide +kernel
theorem d_Q_about_131 : decode c_Q_about 131 = .ok (.iadd, 1) := by decide +kernel
theorem d_Q_about_132 : decode c_Q_about 132 = .ok (.invokevirtual 197, 3) := by decide +kernel
theorem d_Q_about_135 : decode c_Q_about 135 = .ok (.ireturn, 1) := by decide +kernel
set_option maxHeartbeats 4000000 in
set_option maxRecDepth 100000 in
/-- about 6 on a new object -/
theorem C_Q_about_6 (l : Launch) (D : va_G) (t : Nat → ClassId) (xa nw na rw : Nat) (qq : Nat → Nat → Nat) (no : Nat → Nat) (mk : Int32) (k : Nat) (hk : k < 7) : xr_C l D vwCl (xTY t) y_Q_about c_Q_about 4 (Option.some FieldType.int) ({ frames := 1, cells := 0, slots := 0, locals := 22 }) [.ref xa, .int (nI k), .int 6] [zO 7 xa [.ref nw, .ref na, .int 0], zA t 4 na 7 (fun j => some (qq j 0)), zO 2 nw [.ref rw, .int 0, .int 0, .int 0, .int 0], zA t 3 rw 300 (fun _ => none), zO 3 (qq k 0) [.int (nI k), .ref nw, .int 0, .int 0, .int 0, .ref ((qq k 1)), .ref ((qq k 7)), .ref ((qq k 11)), .int 1, .int 0, .int 0, .int (nI (8 + 3 * k)), .int ((-1)), .int 0, .ref ((qq k 15))], zO 5 (qq k 1) [.ref ((qq k 2)), .ref ((qq k 3)), .ref ((qq k 4)), .ref ((qq k 5)), .ref ((qq k 6)), .int 1], zJ t (qq k 2) 32 (fun _ => 1099511627776), zI t (qq k 3) 8 (fun _ => 0), zJ t (qq k 4) 8 (fun _ => 0), zI t (qq k 5) 4 (xm 1), zI t (qq k 6) 4 (xm mk), zO 4 (qq k 7) [.ref ((qq k 8)), .ref ((qq k 9)), .ref ((qq k 10))], zI t (qq k 8) 32 (fun _ => 0), zI t (qq k 9) 32 (fun _ => 0), zA t 2 (qq k 10) 32 (fun _ => none), zO 4 (qq k 11) [.ref ((qq k 12)), .ref ((qq k 13)), .ref ((qq k 14))], zI t (qq k 12) 64 (fun _ => 0), zI t (qq k 13) 64 (fun _ => 0), zA t 2 (qq k 14) 64 (fun _ => none), zO 0 (qq k 15) [.ref ((no k)), .int 0, .ref ((qq k 16)), .ref ((qq k 20)), .ref ((qq k 24)), .int 0, .int 0, .int 0], zO 4 (qq k 16) [.ref ((qq k 17)), .ref ((qq k 18)), .ref ((qq k 19))], zI t (qq k 17) 32 (fun _ => 0), zI t (qq k 18) 32 (fun _ => 0), zA t 2 (qq k 19) 32 (fun _ => none), zO 4 (qq k 20) [.ref ((qq k 21)), .ref ((qq k 22)), .ref ((qq k 23))], zI t (qq k 21) 4 (fun _ => 0), zI t (qq k 22) 4 (fun _ => 0), zA t 2 (qq k 23) 4 (fun _ => none), zA t 2 (qq k 24) 16 (fun _ => none)] (xr_Q (some (.int (mk)))) := by
  refine xr_of (by decide) (Nat.le_of_ble_eq_true rfl) ?_
  intro p e s m below meth c ls Z hr hlocks hP hl
  obtain ⟨hx, hb, hml, hown, hK⟩ := id Z
  have hown : s.vm.findClass "QuorumStore" = some m.cls := hown
  have hts := hK.1.at (args := ([.ref xa, .int (nI k), .int 6] : List Value).toArray)
  have hl : lv_has ls 4 [(0, .ref xa), (1, .int (nI k)), (2, .int 6)] := hl
  refine lv_aload_n hx hb d_Q_about_0 rfl (lv_at hl 0 rfl) ?_
  refine lv_iload_n hx hb d_Q_about_1 rfl (lv_at hl 1 rfl) ?_
  refine xr_call (xs_V (As := [.int (nI k)]) (rest := []) Z (C_Q_nodeAt l D t xa nw na qq k hk) m_Q_nodeAt k_710 k_712 ks_32 rfl rfl ⟨Nat.le_of_ble_eq_true rfl, Nat.le_of_ble_eq_true rfl⟩ (va_recv hK.2 hP (ci := 7) (q0 := 0) rfl rfl) (xr_pre hK (hP.sub [0, 1] rfl)) rfl hl.1 rfl (Nat.le_of_ble_eq_true rfl) d_Q_about_2 ⟨Nat.le_of_ble_eq_true rfl, Nat.le_of_ble_eq_true rfl⟩) ?_
  refine lv_astore_n (lv' := [(3, .ref ((qq k 0))), (0, .ref xa), (1, .int (nI k)), (2, .int 6)]) hx hb d_Q_about_5 rfl hl (by decide) rfl (fun ls hl => ?_)
  refine lv_iload_n hx hb d_Q_about_6 rfl (lv_at hl 3 rfl) ?_
  refine lv_tableIn (off := 115) (tgt := 122) hx hb d_Q_about_7 (by decide) (by decide) (by decide) (by decide) ?_
  refine lv_aload_n hx hb d_Q_about_122 rfl (lv_at hl 0 rfl) ?_
  refine va_get (ci := 3) (C := "QuorumStore$Node") (T := TX3) (N := 15) hx hb hts inX3 hown hK.2 hP 4 rfl rfl 5 (by decide) (hts _ k_206) (fun _ h9 => h9) rfl d_Q_about_123 ?_
  refine lv_aload_n hx hb d_Q_about_126 rfl (lv_at hl 0 rfl) ?_
  refine va_get (ci := 3) (C := "QuorumStore$Node") (T := TX3) (N := 15) hx hb hts inX3 hown hK.2 hP 4 rfl rfl 3 (by decide) (hts _ k_202) (fun _ h9 => h9) rfl d_Q_about_127 ?_
  refine lv_iconst (v := 1) hx hb d_Q_about_130 (by decide) ?_
  refine lv_iadd hx hb d_Q_about_131 ?_
  refine xr_call (xs_V (As := [.int ((0) + (1))]) (rest := []) Z (C_S_configAt l D t (qq k 1) (qq k 2) (qq k 3) (qq k 4) (qq k 5) (qq k 6) _ _ _ _ _ _) m_S_configAt k_809 k_365 k_366 rfl rfl ⟨Nat.le_of_ble_eq_true rfl, Nat.le_of_ble_eq_true rfl⟩ (va_recv hK.2 hP (ci := 5) (q0 := 5) rfl rfl) (xr_pre hK (hP.sub [5, 6, 7, 8, 9, 10] rfl)) rfl hl.1 rfl (Nat.le_of_ble_eq_true rfl) d_Q_about_132 ⟨Nat.le_of_ble_eq_true rfl, Nat.le_of_ble_eq_true rfl⟩) ?_
  exact W.iret hx hb hr (fun t ht _ => ⟨rfl, ht⟩) (fun q h => by cases h) d_Q_about_135
theorem d_Q_about_136 : decode c_Q_about 136 = .ok (.aload_n 3, 1) := by decide +kernel
theorem d_Q_about_137 : decode c_Q_about 137 = .ok (.getfield 201, 3) := by decide +kernel
theorem d_Q_about_140 : decode c_Q_about 140 = .ok (.ireturn, 1) := by decide +kernel
set_option maxHeartbeats 4000000 in
set_option maxRecDepth 100000 in
/-- about 7 on a new object -/
theorem C_Q_about_7 (l : Launch) (D : va_G) (t : Nat → ClassId) (xa nw na rw : Nat) (qq : Nat → Nat → Nat) (no : Nat → Nat) (mk : Int32) (k : Nat) (hk : k < 7) : xr_C l D vwCl (xTY t) y_Q_about c_Q_about 4 (Option.some FieldType.int) ({ frames := 1, cells := 0, slots := 0, locals := 21 }) [.ref xa, .int (nI k), .int 7] [zO 7 xa [.ref nw, .ref na, .int 0], zA t 4 na 7 (fun j => some (qq j 0)), zO 2 nw [.ref rw, .int 0, .int 0, .int 0, .int 0], zA t 3 rw 300 (fun _ => none), zO 3 (qq k 0) [.int (nI k), .ref nw, .int 0, .int 0, .int 0, .ref ((qq k 1)), .ref ((qq k 7)), .ref ((qq k 11)), .int 1, .int 0, .int 0, .int (nI (8 + 3 * k)), .int ((-1)), .int 0, .ref ((qq k 15))], zO 5 (qq k 1) [.ref ((qq k 2)), .ref ((qq k 3)), .ref ((qq k 4)), .ref ((qq k 5)), .ref ((qq k 6)), .int 1], zJ t (qq k 2) 32 (fun _ => 1099511627776), zI t (qq k 3) 8 (fun _ => 0), zJ t (qq k 4) 8 (fun _ => 0), zI t (qq k 5) 4 (xm 1), zI t (qq k 6) 4 (xm mk), zO 4 (qq k 7) [.ref ((qq k 8)), .ref ((qq k 9)), .ref ((qq k 10))], zI t (qq k 8) 32 (fun _ => 0), zI t (qq k 9) 32 (fun _ => 0), zA t 2 (qq k 10) 32 (fun _ => none), zO 4 (qq k 11) [.ref ((qq k 12)), .ref ((qq k 13)), .ref ((qq k 14))], zI t (qq k 12) 64 (fun _ => 0), zI t (qq k 13) 64 (fun _ => 0), zA t 2 (qq k 14) 64 (fun _ => none), zO 0 (qq k 15) [.ref ((no k)), .int 0, .ref ((qq k 16)), .ref ((qq k 20)), .ref ((qq k 24)), .int 0, .int 0, .int 0], zO 4 (qq k 16) [.ref ((qq k 17)), .ref ((qq k 18)), .ref ((qq k 19))], zI t (qq k 17) 32 (fun _ => 0), zI t (qq k 18) 32 (fun _ => 0), zA t 2 (qq k 19) 32 (fun _ => none), zO 4 (qq k 20) [.ref ((qq k 21)), .ref ((qq k 22)), .ref ((qq k 23))], zI t (qq k 21) 4 (fun _ => 0), zI t (qq k 22) 4 (fun _ => 0), zA t 2 (qq k 23) 4 (fun _ => none), zA t 2 (qq k 24) 16 (fun _ => none)] (xr_Q (some (.int ((-1))))) := by
  refine xr_of (by decide) (Nat.le_of_ble_eq_true rfl) ?_
  intro p e s m below meth c ls Z hr hlocks hP hl
  obtain ⟨hx, hb, hml, hown, hK⟩ := id Z
  have hown : s.vm.findClass "QuorumStore" = some m.cls := hown
  have hts := hK.1.at (args := ([.ref xa, .int (nI k), .int 7] : List Value).toArray)
  have hl : lv_has ls 4 [(0, .ref xa), (1, .int (nI k)), (2, .int 7)] := hl
  refine lv_aload_n hx hb d_Q_about_0 rfl (lv_at hl 0 rfl) ?_
  refine lv_iload_n hx hb d_Q_about_1 rfl (lv_at hl 1 rfl) ?_
  refine xr_call (xs_V (As := [.int (nI k)]) (rest := []) Z (C_Q_nodeAt l D t xa nw na qq k hk) m_Q_nodeAt k_710 k_712 ks_32 rfl rfl ⟨Nat.le_of_ble_eq_true rfl, Nat.le_of_ble_eq_true rfl⟩ (va_recv hK.2 hP (ci := 7) (q0 := 0) rfl rfl) (xr_pre hK (hP.sub [0, 1] rfl)) rfl hl.1 rfl (Nat.le_of_ble_eq_true rfl) d_Q_about_2 ⟨Nat.le_of_ble_eq_true rfl, Nat.le_of_ble_eq_true rfl⟩) ?_
  refine lv_astore_n (lv' := [(3, .ref ((qq k 0))), (0, .ref xa), (1, .int (nI k)), (2, .int 7)]) hx hb d_Q_about_5 rfl hl (by decide) rfl (fun ls hl => ?_)
  refine lv_iload_n hx hb d_Q_about_6 rfl (lv_at hl 3 rfl) ?_
  refine lv_tableIn (off := 129) (tgt := 136) hx hb d_Q_about_7 (by decide) (by decide) (by decide) (by decide) ?_
  refine lv_aload_n hx hb d_Q_about_136 rfl (lv_at hl 0 rfl) ?_
  refine va_get (ci := 3) (C := "QuorumStore$Node") (T := TX3) (N := 15) hx hb hts inX3 hown hK.2 hP 4 rfl rfl 12 (by decide) (hts _ k_220) (fun _ h9 => h9) rfl d_Q_about_137 ?_
  exact W.iret hx hb hr (fun t ht _ => ⟨rfl, ht⟩) (fun q h => by cases h) d_Q_about_140
theorem d_Q_about_141 : decode c_Q_about 141 = .ok (.aload_n 3, 1) := by decide +kernel
theorem d_Q_about_142 : decode c_Q_about 142 = .ok (.getfield 204, 3) := by decide +kernel
theorem d_Q_about_145 : decode c_Q_about 145 = .ok (.ireturn, 1) := by decide +kernel
set_option maxHeartbeats 4000000 in
set_option maxRecDepth 100000 in
/-- about 8 on a new object -/
theorem C_Q_about_8 (l : Launch) (D : va_G) (t : Nat → ClassId) (xa nw na rw : Nat) (qq : Nat → Nat → Nat) (no : Nat → Nat) (mk : Int32) (k : Nat) (hk : k < 7) : xr_C l D vwCl (xTY t) y_Q_about c_Q_about 4 (Option.some FieldType.int) ({ frames := 1, cells := 0, slots := 0, locals := 21 }) [.ref xa, .int (nI k), .int 8] [zO 7 xa [.ref nw, .ref na, .int 0], zA t 4 na 7 (fun j => some (qq j 0)), zO 2 nw [.ref rw, .int 0, .int 0, .int 0, .int 0], zA t 3 rw 300 (fun _ => none), zO 3 (qq k 0) [.int (nI k), .ref nw, .int 0, .int 0, .int 0, .ref ((qq k 1)), .ref ((qq k 7)), .ref ((qq k 11)), .int 1, .int 0, .int 0, .int (nI (8 + 3 * k)), .int ((-1)), .int 0, .ref ((qq k 15))], zO 5 (qq k 1) [.ref ((qq k 2)), .ref ((qq k 3)), .ref ((qq k 4)), .ref ((qq k 5)), .ref ((qq k 6)), .int 1], zJ t (qq k 2) 32 (fun _ => 1099511627776), zI t (qq k 3) 8 (fun _ => 0), zJ t (qq k 4) 8 (fun _ => 0), zI t (qq k 5) 4 (xm 1), zI t (qq k 6) 4 (xm mk), zO 4 (qq k 7) [.ref ((qq k 8)), .ref ((qq k 9)), .ref ((qq k 10))], zI t (qq k 8) 32 (fun _ => 0), zI t (qq k 9) 32 (fun _ => 0), zA t 2 (qq k 10) 32 (fun _ => none), zO 4 (qq k 11) [.ref ((qq k 12)), .ref ((qq k 13)), .ref ((qq k 14))], zI t (qq k 12) 64 (fun _ => 0), zI t (qq k 13) 64 (fun _ => 0), zA t 2 (qq k 14) 64 (fun _ => none), zO 0 (qq k 15) [.ref ((no k)), .int 0, .ref ((qq k 16)), .ref ((qq k 20)), .ref ((qq k 24)), .int 0, .int 0, .int 0], zO 4 (qq k 16) [.ref ((qq k 17)), .ref ((qq k 18)), .ref ((qq k 19))], zI t (qq k 17) 32 (fun _ => 0), zI t (qq k 18) 32 (fun _ => 0), zA t 2 (qq k 19) 32 (fun _ => none), zO 4 (qq k 20) [.ref ((qq k 21)), .ref ((qq k 22)), .ref ((qq k 23))], zI t (qq k 21) 4 (fun _ => 0), zI t (qq k 22) 4 (fun _ => 0), zA t 2 (qq k 23) 4 (fun _ => none), zA t 2 (qq k 24) 16 (fun _ => none)] (xr_Q (some (.int (nI (8 + 3 * k))))) := by
  refine xr_of (by decide) (Nat.le_of_ble_eq_true rfl) ?_
  intro p e s m below meth c ls Z hr hlocks hP hl
  obtain ⟨hx, hb, hml, hown, hK⟩ := id Z
  have hown : s.vm.findClass "QuorumStore" = some m.cls := hown
  have hts := hK.1.at (args := ([.ref xa, .int (nI k), .int 8] : List Value).toArray)
  have hl : lv_has ls 4 [(0, .ref xa), (1, .int (nI k)), (2, .int 8)] := hl
  refine lv_aload_n hx hb d_Q_about_0 rfl (lv_at hl 0 rfl) ?_
  refine lv_iload_n hx hb d_Q_about_1 rfl (lv_at hl 1 rfl) ?_
  refine xr_call (xs_V (As := [.int (nI k)]) (rest := []) Z (C_Q_nodeAt l D t xa nw na qq k hk) m_Q_nodeAt k_710 k_712 ks_32 rfl rfl ⟨Nat.le_of_ble_eq_true rfl, Nat.le_of_ble_eq_true rfl⟩ (va_recv hK.2 hP (ci := 7) (q0 := 0) rfl rfl) (xr_pre hK (hP.sub [0, 1] rfl)) rfl hl.1 rfl (Nat.le_of_ble_eq_true rfl) d_Q_about_2 ⟨Nat.le_of_ble_eq_true rfl, Nat.le_of_ble_eq_true rfl⟩) ?_
  refine lv_astore_n (lv' := [(3, .ref ((qq k 0))), (0, .ref xa), (1, .int (nI k)), (2, .int 8)]) hx hb d_Q_about_5 rfl hl (by decide) rfl (fun ls hl => ?_)
  refine lv_iload_n hx hb d_Q_about_6 rfl (lv_at hl 3 rfl) ?_
  refine lv_tableIn (off := 134) (tgt := 141) hx hb d_Q_about_7 (by decide) (by decide) (by decide) (by decide) ?_
  refine lv_aload_n hx hb d_Q_about_141 rfl (lv_at hl 0 rfl) ?_
  refine va_get (ci := 3) (C := "QuorumStore$Node") (T := TX3) (N := 15) hx hb hts inX3 hown hK.2 hP 4 rfl rfl 11 (by decide) (hts _ k_218) (fun _ h9 => h9) rfl d_Q_about_142 ?_
  exact W.iret hx hb hr (fun t ht _ => ⟨rfl, ht⟩) (fun q h => by cases h) d_Q_about_145
theorem d_Q_about_146 : decode c_Q_about 146 = .ok (.aload_n 3, 1) := by decide +kernel
theorem d_Q_about_147 : decode c_Q_about 147 = .ok (.getfield 184, 3) := by decide +kernel
theorem d_Q_about_150 : decode c_Q_about 150 = .ok (.ifCond .eq 13, 3) := by decide +kernel
theorem d_Q_about_163 : decode c_Q_about 163 = .ok (.iconst 0, 1) := by decide +kernel
theorem d_Q_about_164 : decode c_Q_about 164 = .ok (.ireturn, 1) := by decide +kernel
set_option maxHeartbeats 4000000 in
set_option maxRecDepth 100000 in
/-- about 9 on a new object -/
theorem C_Q_about_9 (l : Launch) (D : va_G) (t : Nat → ClassId) (xa nw na rw : Nat) (qq : Nat → Nat → Nat) (no : Nat → Nat) (mk : Int32) (k : Nat) (hk : k < 7) : xr_C l D vwCl (xTY t) y_Q_about c_Q_about 4 (Option.some FieldType.int) ({ frames := 1, cells := 0, slots := 0, locals := 21 }) [.ref xa, .int (nI k), .int 9] [zO 7 xa [.ref nw, .ref na, .int 0], zA t 4 na 7 (fun j => some (qq j 0)), zO 2 nw [.ref rw, .int 0, .int 0, .int 0, .int 0], zA t 3 rw 300 (fun _ => none), zO 3 (qq k 0) [.int (nI k), .ref nw, .int 0, .int 0, .int 0, .ref ((qq k 1)), .ref ((qq k 7)), .ref ((qq k 11)), .int 1, .int 0, .int 0, .int (nI (8 + 3 * k)), .int ((-1)), .int 0, .ref ((qq k 15))], zO 5 (qq k 1) [.ref ((qq k 2)), .ref ((qq k 3)), .ref ((qq k 4)), .ref ((qq k 5)), .ref ((qq k 6)), .int 1], zJ t (qq k 2) 32 (fun _ => 1099511627776), zI t (qq k 3) 8 (fun _ => 0), zJ t (qq k 4) 8 (fun _ => 0), zI t (qq k 5) 4 (xm 1), zI t (qq k 6) 4 (xm mk), zO 4 (qq k 7) [.ref ((qq k 8)), .ref ((qq k 9)), .ref ((qq k 10))], zI t (qq k 8) 32 (fun _ => 0), zI t (qq k 9) 32 (fun _ => 0), zA t 2 (qq k 10) 32 (fun _ => none), zO 4 (qq k 11) [.ref ((qq k 12)), .ref ((qq k 13)), .ref ((qq k 14))], zI t (qq k 12) 64 (fun _ => 0), zI t (qq k 13) 64 (fun _ => 0), zA t 2 (qq k 14) 64 (fun _ => none), zO 0 (qq k 15) [.ref ((no k)), .int 0, .ref ((qq k 16)), .ref ((qq k 20)), .ref ((qq k 24)), .int 0, .int 0, .int 0], zO 4 (qq k 16) [.ref ((qq k 17)), .ref ((qq k 18)), .ref ((qq k 19))], zI t (qq k 17) 32 (fun _ => 0), zI t (qq k 18) 32 (fun _ => 0), zA t 2 (qq k 19) 32 (fun _ => none), zO 4 (qq k 20) [.ref ((qq k 21)), .ref ((qq k 22)), .ref ((qq k 23))], zI t (qq k 21) 4 (fun _ => 0), zI t (qq k 22) 4 (fun _ => 0), zA t 2 (qq k 23) 4 (fun _ => none), zA t 2 (qq k 24) 16 (fun _ => none)] (xr_Q (some (.int (0)))) := by
  refine xr_of (by decide) (Nat.le_of_ble_eq_true rfl) ?_
  intro p e s m below meth c ls Z hr hlocks hP hl
  obtain ⟨hx, hb, hml, hown, hK⟩ := id Z
  have hown : s.vm.findClass "QuorumStore" = some m.cls := hown
  have hts := hK.1.at (args := ([.ref xa, .int (nI k), .int 9] : List Value).toArray)
  have hl : lv_has ls 4 [(0, .ref xa), (1, .int (nI k)), (2, .int 9)] := hl
  refine lv_aload_n hx hb d_Q_about_0 rfl (lv_at hl 0 rfl) ?_
  refine lv_iload_n hx hb d_Q_about_1 rfl (lv_at hl 1 rfl) ?_
  refine xr_call (xs_V (As := [.int (nI k)]) (rest := []) Z (C_Q_nodeAt l D t xa nw na qq k hk) m_Q_nodeAt k_710 k_712 ks_32 rfl rfl ⟨Nat.le_of_ble_eq_true rfl, Nat.le_of_ble_eq_true rfl⟩ (va_recv hK.2 hP (ci := 7) (q0 := 0) rfl rfl) (xr_pre hK (hP.sub [0, 1] rfl)) rfl hl.1 rfl (Nat.le_of_ble_eq_true rfl) d_Q_about_2 ⟨Nat.le_of_ble_eq_true rfl, Nat.le_of_ble_eq_true rfl⟩) ?_
  refine lv_astore_n (lv' := [(3, .ref ((qq k 0))), (0, .ref xa), (1, .int (nI k)), (2, .int 9)]) hx hb d_Q_about_5 rfl hl (by decide) rfl (fun ls hl => ?_)
  refine lv_iload_n hx hb d_Q_about_6 rfl (lv_at hl 3 rfl) ?_
  refine lv_tableIn (off := 139) (tgt := 146) hx hb d_Q_about_7 (by decide) (by decide) (by decide) (by decide) ?_
  refine lv_aload_n hx hb d_Q_about_146 rfl (lv_at hl 0 rfl) ?_
  refine va_get (ci := 3) (C := "QuorumStore$Node") (T := TX3) (N := 15) hx hb hts inX3 hown hK.2 hP 4 rfl rfl 9 (by decide) (hts _ k_214) (fun _ h9 => h9) rfl d_Q_about_147 ?_
  refine lv_if_eq (tgt := 163) hx hb d_Q_about_150 (by decide) (fun _ => ?_) (fun c_1 => absurd (rfl) c_1)
  refine lv_iconst (v := 0) hx hb d_Q_about_163 (by decide) ?_
  exact W.iret hx hb hr (fun t ht _ => ⟨rfl, ht⟩) (fun q h => by cases h) d_Q_about_164
theorem d_Q_about_165 : decode c_Q_about 165 = .ok (.aload_n 3, 1) := by decide +kernel
theorem d_Q_about_166 : decode c_Q_about 166 = .ok (.getfield 184, 3) := by decide +kernel
theorem d_Q_about_169 : decode c_Q_about 169 = .ok (.ifCond .eq 13, 3) := by decide +kernel
theorem d_Q_about_182 : decode c_Q_about 182 = .ok (.iconst 0, 1) := by decide +kernel
theorem d_Q_about_183 : decode c_Q_about 183 = .ok (.ireturn, 1) := by decide +kernel
set_option maxHeartbeats 4000000 in
set_option maxRecDepth 100000 in
/-- about 10 on a new object -/
theorem C_Q_about_10 (l : Launch) (D : va_G) (t : Nat → ClassId) (xa nw na rw : Nat) (qq : Nat → Nat → Nat) (no : Nat → Nat) (mk : Int32) (k : Nat) (hk : k < 7) : xr_C l D vwCl (xTY t) y_Q_about c_Q_about 4 (Option.some FieldType.int) ({ frames := 1, cells := 0, slots := 0, locals := 21 }) [.ref xa, .int (nI k), .int 10] [zO 7 xa [.ref nw, .ref na, .int 0], zA t 4 na 7 (fun j => some (qq j 0)), zO 2 nw [.ref rw, .int 0, .int 0, .int 0, .int 0], zA t 3 rw 300 (fun _ => none), zO 3 (qq k 0) [.int (nI k), .ref nw, .int 0, .int 0, .int 0, .ref ((qq k 1)), .ref ((qq k 7)), .ref ((qq k 11)), .int 1, .int 0, .int 0, .int (nI (8 + 3 * k)), .int ((-1)), .int 0, .ref ((qq k 15))], zO 5 (qq k 1) [.ref ((qq k 2)), .ref ((qq k 3)), .ref ((qq k 4)), .ref ((qq k 5)), .ref ((qq k 6)), .int 1], zJ t (qq k 2) 32 (fun _ => 1099511627776), zI t (qq k 3) 8 (fun _ => 0), zJ t (qq k 4) 8 (fun _ => 0), zI t (qq k 5) 4 (xm 1), zI t (qq k 6) 4 (xm mk), zO 4 (qq k 7) [.ref ((qq k 8)), .ref ((qq k 9)), .ref ((qq k 10))], zI t (qq k 8) 32 (fun _ => 0), zI t (qq k 9) 32 (fun _ => 0), zA t 2 (qq k 10) 32 (fun _ => none), zO 4 (qq k 11) [.ref ((qq k 12)), .ref ((qq k 13)), .ref ((qq k 14))], zI t (qq k 12) 64 (fun _ => 0), zI t (qq k 13) 64 (fun _ => 0), zA t 2 (qq k 14) 64 (fun _ => none), zO 0 (qq k 15) [.ref ((no k)), .int 0, .ref ((qq k 16)), .ref ((qq k 20)), .ref ((qq k 24)), .int 0, .int 0, .int 0], zO 4 (qq k 16) [.ref ((qq k 17)), .ref ((qq k 18)), .ref ((qq k 19))], zI t (qq k 17) 32 (fun _ => 0), zI t (qq k 18) 32 (fun _ => 0), zA t 2 (qq k 19) 32 (fun _ => none), zO 4 (qq k 20) [.ref ((qq k 21)), .ref ((qq k 22)), .ref ((qq k 23))], zI t (qq k 21) 4 (fun _ => 0), zI t (qq k 22) 4 (fun _ => 0), zA t 2 (qq k 23) 4 (fun _ => none), zA t 2 (qq k 24) 16 (fun _ => none)] (xr_Q (some (.int (0)))) := by
  refine xr_of (by decide) (Nat.le_of_ble_eq_true rfl) ?_
  intro p e s m below meth c ls Z hr hlocks hP hl
  obtain ⟨hx, hb, hml, hown, hK⟩ := id Z
  have hown : s.vm.findClass "QuorumStore" = some m.cls := hown
  have hts := hK.1.at (args := ([.ref xa, .int (nI k), .int 10] : List Value).toArray)
  have hl : lv_has ls 4 [(0, .ref xa), (1, .int (nI k)), (2, .int 10)] := hl
  refine lv_aload_n hx hb d_Q_about_0 rfl (lv_at hl 0 rfl) ?_
  refine lv_iload_n hx hb d_Q_about_1 rfl (lv_at hl 1 rfl) ?_
  refine xr_call (xs_V (As := [.int (nI k)]) (rest := []) Z (C_Q_nodeAt l D t xa nw na qq k hk) m_Q_nodeAt k_710 k_712 ks_32 rfl rfl ⟨Nat.le_of_ble_eq_true rfl, Nat.le_of_ble_eq_true rfl⟩ (va_recv hK.2 hP (ci := 7) (q0 := 0) rfl rfl) (xr_pre hK (hP.sub [0, 1] rfl)) rfl hl.1 rfl (Nat.le_of_ble_eq_true rfl) d_Q_about_2 ⟨Nat.le_of_ble_eq_true rfl, Nat.le_of_ble_eq_true rfl⟩) ?_
  refine lv_astore_n (lv' := [(3, .ref ((qq k 0))), (0, .ref xa), (1, .int (nI k)), (2, .int 10)]) hx hb d_Q_about_5 rfl hl (by decide) rfl (fun ls hl => ?_)
  refine lv_iload_n hx hb d_Q_about_6 rfl (lv_at hl 3 rfl) ?_
  refine lv_tableIn (off := 158) (tgt := 165) hx hb d_Q_about_7 (by decide) (by decide) (by decide) (by decide) ?_
  refine lv_aload_n hx hb d_Q_about_165 rfl (lv_at hl 0 rfl) ?_
  refine va_get (ci := 3) (C := "QuorumStore$Node") (T := TX3) (N := 15) hx hb hts inX3 hown hK.2 hP 4 rfl rfl 9 (by decide) (hts _ k_214) (fun _ h9 => h9) rfl d_Q_about_166 ?_
  refine lv_if_eq (tgt := 182) hx hb d_Q_about_169 (by decide) (fun _ => ?_) (fun c_1 => absurd (rfl) c_1)
  refine lv_iconst (v := 0) hx hb d_Q_about_182 (by decide) ?_
  exact W.iret hx hb hr (fun t ht _ => ⟨rfl, ht⟩) (fun q h => by cases h) d_Q_about_183
theorem d_Q_about_184 : decode c_Q_about 184 = .ok (.aload_n 3, 1) := by decide +kernel
theorem d_Q_about_185 : decode c_Q_about 185 = .ok (.getfield 184, 3) := by decide +kernel
theorem d_Q_about_188 : decode c_Q_about 188 = .ok (.ifCond .eq 16, 3) := by decide +kernel
theorem d_Q_about_204 : decode c_Q_about 204 = .ok (.iconst 0, 1) := by decide +kernel
theorem d_Q_about_205 : decode c_Q_about 205 = .ok (.ireturn, 1) := by decide +kernel
set_option maxHeartbeats 4000000 in
set_option maxRecDepth 100000 in
/-- about 11 on a new object -/
theorem C_Q_about_11 (l : Launch) (D : va_G) (t : Nat → ClassId) (xa nw na rw : Nat) (qq : Nat → Nat → Nat) (no : Nat → Nat) (mk : Int32) (k : Nat) (hk : k < 7) : xr_C l D vwCl (xTY t) y_Q_about c_Q_about 4 (Option.some FieldType.int) ({ frames := 1, cells := 0, slots := 0, locals := 21 }) [.ref xa, .int (nI k), .int 11] [zO 7 xa [.ref nw, .ref na, .int 0], zA t 4 na 7 (fun j => some (qq j 0)), zO 2 nw [.ref rw, .int 0, .int 0, .int 0, .int 0], zA t 3 rw 300 (fun _ => none), zO 3 (qq k 0) [.int (nI k), .ref nw, .int 0, .int 0, .int 0, .ref ((qq k 1)), .ref ((qq k 7)), .ref ((qq k 11)), .int 1, .int 0, .int 0, .int (nI (8 + 3 * k)), .int ((-1)), .int 0, .ref ((qq k 15))], zO 5 (qq k 1) [.ref ((qq k 2)), .ref ((qq k 3)), .ref ((qq k 4)), .ref ((qq k 5)), .ref ((qq k 6)), .int 1], zJ t (qq k 2) 32 (fun _ => 1099511627776), zI t (qq k 3) 8 (fun _ => 0), zJ t (qq k 4) 8 (fun _ => 0), zI t (qq k 5) 4 (xm 1), zI t (qq k 6) 4 (xm mk), zO 4 (qq k 7) [.ref ((qq k 8)), .ref ((qq k 9)), .ref ((qq k 10))], zI t (qq k 8) 32 (fun _ => 0), zI t (qq k 9) 32 (fun _ => 0), zA t 2 (qq k 10) 32 (fun _ => none), zO 4 (qq k 11) [.ref ((qq k 12)), .ref ((qq k 13)), .ref ((qq k 14))], zI t (qq k 12) 64 (fun _ => 0), zI t (qq k 13) 64 (fun _ => 0), zA t 2 (qq k 14) 64 (fun _ => none), zO 0 (qq k 15) [.ref ((no k)), .int 0, .ref ((qq k 16)), .ref ((qq k 20)), .ref ((qq k 24)), .int 0, .int 0, .int 0], zO 4 (qq k 16) [.ref ((qq k 17)), .ref ((qq k 18)), .ref ((qq k 19))], zI t (qq k 17) 32 (fun _ => 0), zI t (qq k 18) 32 (fun _ => 0), zA t 2 (qq k 19) 32 (fun _ => none), zO 4 (qq k 20) [.ref ((qq k 21)), .ref ((qq k 22)), .ref ((qq k 23))], zI t (qq k 21) 4 (fun _ => 0), zI t (qq k 22) 4 (fun _ => 0), zA t 2 (qq k 23) 4 (fun _ => none), zA t 2 (qq k 24) 16 (fun _ => none)] (xr_Q (some (.int (0)))) := by
  refine xr_of (by decide) (Nat.le_of_ble_eq_true rfl) ?_
  intro p e s m below meth c ls Z hr hlocks hP hl
  obtain ⟨hx, hb, hml, hown, hK⟩ := id Z
  have hown : s.vm.findClass "QuorumStore" = some m.cls := hown
  have hts := hK.1.at (args := ([.ref xa, .int (nI k), .int 11] : List Value).toArray)
  have hl : lv_has ls 4 [(0, .ref xa), (1, .int (nI k)), (2, .int 11)] := hl
  refine lv_aload_n hx hb d_Q_about_0 rfl (lv_at hl 0 rfl) ?_
  refine lv_iload_n hx hb d_Q_about_1 rfl (lv_at hl 1 rfl) ?_
  refine xr_call (xs_V (As := [.int (nI k)]) (rest := []) Z (C_Q_nodeAt l D t xa nw na qq k hk) m_Q_nodeAt k_710 k_712 ks_32 rfl rfl ⟨Nat.le_of_ble_eq_true rfl, Nat.le_of_ble_eq_true rfl⟩ (va_recv hK.2 hP (ci := 7) (q0 := 0) rfl rfl) (xr_pre hK (hP.sub [0, 1] rfl)) rfl hl.1 rfl (Nat.le_of_ble_eq_true rfl) d_Q_about_2 ⟨Nat.le_of_ble_eq_true rfl, Nat.le_of_ble_eq_true rfl⟩) ?_
  refine lv_astore_n (lv' := [(3, .ref ((qq k 0))), (0, .ref xa), (1, .int (nI k)), (2, .int 11)]) hx hb d_Q_about_5 rfl hl (by decide) rfl (fun ls hl => ?_)
  refine lv_iload_n hx hb d_Q_about_6 rfl (lv_at hl 3 rfl) ?_
  refine lv_tableIn (off := 177) (tgt := 184) hx hb d_Q_about_7 (by decide) (by decide) (by decide) (by decide) ?_
  refine lv_aload_n hx hb d_Q_about_184 rfl (lv_at hl 0 rfl) ?_
  refine va_get (ci := 3) (C := "QuorumStore$Node") (T := TX3) (N := 15) hx hb hts inX3 hown hK.2 hP 4 rfl rfl 9 (by decide) (hts _ k_214) (fun _ h9 => h9) rfl d_Q_about_185 ?_
  refine lv_if_eq (tgt := 204) hx hb d_Q_about_188 (by decide) (fun _ => ?_) (fun c_1 => absurd (rfl) c_1)
  refine lv_iconst (v := 0) hx hb d_Q_about_204 (by decide) ?_
  exact W.iret hx hb hr (fun t ht _ => ⟨rfl, ht⟩) (fun q h => by cases h) d_Q_about_205
theorem d_Q_about_206 : decode c_Q_about 206 = .ok (.aload_n 3, 1) := by decide +kernel
theorem d_Q_about_207 : decode c_Q_about 207 = .ok (.getfield 222, 3) := by decide +kernel
theorem d_Q_about_210 : decode c_Q_about 210 = .ok (.invokevirtual 91, 3) := by decide +kernel
theorem d_Q_about_213 : decode c_Q_about 213 = .ok (.ireturn, 1) := by decide +kernel
set_option maxHeartbeats 4000000 in
set_option maxRecDepth 100000 in
/-- about 12 on a new object -/
theorem C_Q_about_12 (l : Launch) (D : va_G) (t : Nat → ClassId) (xa nw na rw : Nat) (qq : Nat → Nat → Nat) (no : Nat → Nat) (mk : Int32) (k : Nat) (hk : k < 7) : xr_C l D vwCl (xTY t) y_Q_about c_Q_about 4 (Option.some FieldType.int) ({ frames := 1, cells := 0, slots := 0, locals := 22 }) [.ref xa, .int (nI k), .int 12] [zO 7 xa [.ref nw, .ref na, .int 0], zA t 4 na 7 (fun j => some (qq j 0)), zO 2 nw [.ref rw, .int 0, .int 0, .int 0, .int 0], zA t 3 rw 300 (fun _ => none), zO 3 (qq k 0) [.int (nI k), .ref nw, .int 0, .int 0, .int 0, .ref ((qq k 1)), .ref ((qq k 7)), .ref ((qq k 11)), .int 1, .int 0, .int 0, .int (nI (8 + 3 * k)), .int ((-1)), .int 0, .ref ((qq k 15))], zO 5 (qq k 1) [.ref ((qq k 2)), .ref ((qq k 3)), .ref ((qq k 4)), .ref ((qq k 5)), .ref ((qq k 6)), .int 1], zJ t (qq k 2) 32 (fun _ => 1099511627776), zI t (qq k 3) 8 (fun _ => 0), zJ t (qq k 4) 8 (fun _ => 0), zI t (qq k 5) 4 (xm 1), zI t (qq k 6) 4 (xm mk), zO 4 (qq k 7) [.ref ((qq k 8)), .ref ((qq k 9)), .ref ((qq k 10))], zI t (qq k 8) 32 (fun _ => 0), zI t (qq k 9) 32 (fun _ => 0), zA t 2 (qq k 10) 32 (fun _ => none), zO 4 (qq k 11) [.ref ((qq k 12)), .ref ((qq k 13)), .ref ((qq k 14))], zI t (qq k 12) 64 (fun _ => 0), zI t (qq k 13) 64 (fun _ => 0), zA t 2 (qq k 14) 64 (fun _ => none), zO 0 (qq k 15) [.ref ((no k)), .int 0, .ref ((qq k 16)), .ref ((qq k 20)), .ref ((qq k 24)), .int 0, .int 0, .int 0], zO 4 (qq k 16) [.ref ((qq k 17)), .ref ((qq k 18)), .ref ((qq k 19))], zI t (qq k 17) 32 (fun _ => 0), zI t (qq k 18) 32 (fun _ => 0), zA t 2 (qq k 19) 32 (fun _ => none), zO 4 (qq k 20) [.ref ((qq k 21)), .ref ((qq k 22)), .ref ((qq k 23))], zI t (qq k 21) 4 (fun _ => 0), zI t (qq k 22) 4 (fun _ => 0), zA t 2 (qq k 23) 4 (fun _ => none), zA t 2 (qq k 24) 16 (fun _ => none)] (xr_Q (some (.int (0)))) := by
  refine xr_of (by decide) (Nat.le_of_ble_eq_true rfl) ?_
  intro p e s m below meth c ls Z hr hlocks hP hl
  obtain ⟨hx, hb, hml, hown, hK⟩ := id Z
  have hown : s.vm.findClass "QuorumStore" = some m.cls := hown
  have hts := hK.1.at (args := ([.ref xa, .int (nI k), .int 12] : List Value).toArray)
  have hl : lv_has ls 4 [(0, .ref xa), (1, .int (nI k)), (2, .int 12)] := hl
  refine lv_aload_n hx hb d_Q_about_0 rfl (lv_at hl 0 rfl) ?_
  refine lv_iload_n hx hb d_Q_about_1 rfl (lv_at hl 1 rfl) ?_
  refine xr_call (xs_V (As := [.int (nI k)]) (rest := []) Z (C_Q_nodeAt l D t xa nw na qq k hk) m_Q_nodeAt k_710 k_712 ks_32 rfl rfl ⟨Nat.le_of_ble_eq_true rfl, Nat.le_of_ble_eq_true rfl⟩ (va_recv hK.2 hP (ci := 7) (q0 := 0) rfl rfl) (xr_pre hK (hP.sub [0, 1] rfl)) rfl hl.1 rfl (Nat.le_of_ble_eq_true rfl) d_Q_about_2 ⟨Nat.le_of_ble_eq_true rfl, Nat.le_of_ble_eq_true rfl⟩) ?_
  refine lv_astore_n (lv' := [(3, .ref ((qq k 0))), (0, .ref xa), (1, .int (nI k)), (2, .int 12)]) hx hb d_Q_about_5 rfl hl (by decide) rfl (fun ls hl => ?_)
  refine lv_iload_n hx hb d_Q_about_6 rfl (lv_at hl 3 rfl) ?_
  refine lv_tableIn (off := 199) (tgt := 206) hx hb d_Q_about_7 (by decide) (by decide) (by decide) (by decide) ?_
  refine lv_aload_n hx hb d_Q_about_206 rfl (lv_at hl 0 rfl) ?_
  refine va_get (ci := 3) (C := "QuorumStore$Node") (T := TX3) (N := 15) hx hb hts inX3 hown hK.2 hP 4 rfl rfl 6 (by decide) (hts _ k_208) (fun _ h9 => h9) rfl d_Q_about_207 ?_
  refine xr_call (xs_V (As := []) (rest := []) Z (C_R_size l D t (qq k 7) (qq k 8) (qq k 9) (qq k 10) 32 (by decide)) m_R_size k_698 k_699 k_700 rfl rfl ⟨Nat.le_of_ble_eq_true rfl, Nat.le_of_ble_eq_true rfl⟩ (va_recv hK.2 hP (ci := 4) (q0 := 11) rfl rfl) (xr_pre hK (hP.sub [11, 12, 13, 14] rfl)) rfl hl.1 rfl (Nat.le_of_ble_eq_true rfl) d_Q_about_210 ⟨Nat.le_of_ble_eq_true rfl, Nat.le_of_ble_eq_true rfl⟩) ?_
  exact W.iret hx hb hr (fun t ht _ => ⟨rfl, ht⟩) (fun q h => by cases h) d_Q_about_213
theorem d_Q_about_214 : decode c_Q_about 214 = .ok (.aload_n 3, 1) := by decide +kernel
theorem d_Q_about_215 : decode c_Q_about 215 = .ok (.getfield 135, 3) := by decide +kernel
theorem d_Q_about_218 : decode c_Q_about 218 = .ok (.getfield 225, 3) := by decide +kernel
theorem d_Q_about_221 : decode c_Q_about 221 = .ok (.ireturn, 1) := by decide +kernel
set_option maxHeartbeats 4000000 in
set_option maxRecDepth 100000 in
/-- about 13 on a new object -/
theorem C_Q_about_13 (l : Launch) (D : va_G) (t : Nat → ClassId) (xa nw na rw : Nat) (qq : Nat → Nat → Nat) (no : Nat → Nat) (mk : Int32) (k : Nat) (hk : k < 7) : xr_C l D vwCl (xTY t) y_Q_about c_Q_about 4 (Option.some FieldType.int) ({ frames := 1, cells := 0, slots := 0, locals := 21 }) [.ref xa, .int (nI k), .int 13] [zO 7 xa [.ref nw, .ref na, .int 0], zA t 4 na 7 (fun j => some (qq j 0)), zO 2 nw [.ref rw, .int 0, .int 0, .int 0, .int 0], zA t 3 rw 300 (fun _ => none), zO 3 (qq k 0) [.int (nI k), .ref nw, .int 0, .int 0, .int 0, .ref ((qq k 1)), .ref ((qq k 7)), .ref ((qq k 11)), .int 1, .int 0, .int 0, .int (nI (8 + 3 * k)), .int ((-1)), .int 0, .ref ((qq k 15))], zO 5 (qq k 1) [.ref ((qq k 2)), .ref ((qq k 3)), .ref ((qq k 4)), .ref ((qq k 5)), .ref ((qq k 6)), .int 1], zJ t (qq k 2) 32 (fun _ => 1099511627776), zI t (qq k 3) 8 (fun _ => 0), zJ t (qq k 4) 8 (fun _ => 0), zI t (qq k 5) 4 (xm 1), zI t (qq k 6) 4 (xm mk), zO 4 (qq k 7) [.ref ((qq k 8)), .ref ((qq k 9)), .ref ((qq k 10))], zI t (qq k 8) 32 (fun _ => 0), zI t (qq k 9) 32 (fun _ => 0), zA t 2 (qq k 10) 32 (fun _ => none), zO 4 (qq k 11) [.ref ((qq k 12)), .ref ((qq k 13)), .ref ((qq k 14))], zI t (qq k 12) 64 (fun _ => 0), zI t (qq k 13) 64 (fun _ => 0), zA t 2 (qq k 14) 64 (fun _ => none), zO 0 (qq k 15) [.ref ((no k)), .int 0, .ref ((qq k 16)), .ref ((qq k 20)), .ref ((qq k 24)), .int 0, .int 0, .int 0], zO 4 (qq k 16) [.ref ((qq k 17)), .ref ((qq k 18)), .ref ((qq k 19))], zI t (qq k 17) 32 (fun _ => 0), zI t (qq k 18) 32 (fun _ => 0), zA t 2 (qq k 19) 32 (fun _ => none), zO 4 (qq k 20) [.ref ((qq k 21)), .ref ((qq k 22)), .ref ((qq k 23))], zI t (qq k 21) 4 (fun _ => 0), zI t (qq k 22) 4 (fun _ => 0), zA t 2 (qq k 23) 4 (fun _ => none), zA t 2 (qq k 24) 16 (fun _ => none)] (xr_Q (some (.int (1)))) := by
  refine xr_of (by decide) (Nat.le_of_ble_eq_true rfl) ?_
  intro p e s m below meth c ls Z hr hlocks hP hl
  obtain ⟨hx, hb, hml, hown, hK⟩ := id Z
  have hown : s.vm.findClass "QuorumStore" = some m.cls := hown
  have hts := hK.1.at (args := ([.ref xa, .int (nI k), .int 13] : List Value).toArray)
  have hl : lv_has ls 4 [(0, .ref xa), (1, .int (nI k)), (2, .int 13)] := hl
  refine lv_aload_n hx hb d_Q_about_0 rfl (lv_at hl 0 rfl) ?_
  refine lv_iload_n hx hb d_Q_about_1 rfl (lv_at hl 1 rfl) ?_
  refine xr_call (xs_V (As := [.int (nI k)]) (rest := []) Z (C_Q_nodeAt l D t xa nw na qq k hk) m_Q_nodeAt k_710 k_712 ks_32 rfl rfl ⟨Nat.le_of_ble_eq_true rfl, Nat.le_of_ble_eq_true rfl⟩ (va_recv hK.2 hP (ci := 7) (q0 := 0) rfl rfl) (xr_pre hK (hP.sub [0, 1] rfl)) rfl hl.1 rfl (Nat.le_of_ble_eq_true rfl) d_Q_about_2 ⟨Nat.le_of_ble_eq_true rfl, Nat.le_of_ble_eq_true rfl⟩) ?_
  refine lv_astore_n (lv' := [(3, .ref ((qq k 0))), (0, .ref xa), (1, .int (nI k)), (2, .int 13)]) hx hb d_Q_about_5 rfl hl (by decide) rfl (fun ls hl => ?_)
  refine lv_iload_n hx hb d_Q_about_6 rfl (lv_at hl 3 rfl) ?_
  refine lv_tableIn (off := 207) (tgt := 214) hx hb d_Q_about_7 (by decide) (by decide) (by decide) (by decide) ?_
  refine lv_aload_n hx hb d_Q_about_214 rfl (lv_at hl 0 rfl) ?_
  refine va_get (ci := 3) (C := "QuorumStore$Node") (T := TX3) (N := 15) hx hb hts inX3 hown hK.2 hP 4 rfl rfl 5 (by decide) (hts _ k_206) (fun _ h9 => h9) rfl d_Q_about_215 ?_
  refine va_get (ci := 5) (C := "QuorumStore$State") (T := TX5) (N := 6) hx hb hts inX5 hown hK.2 hP 5 rfl rfl 5 (by decide) (hts _ k_182) (fun _ h9 => h9) rfl d_Q_about_218 ?_
  exact W.iret hx hb hr (fun t ht _ => ⟨rfl, ht⟩) (fun q h => by cases h) d_Q_about_221
theorem d_Q_count_0 : decode c_Q_count 0 = .ok (.iload_n 1, 1) := by decide +kernel
theorem d_Q_count_1 : decode c_Q_count 1 = .ok (.tableswitch 63 0 3 #[31, 39, 47, 55], 31) := by decide +kernel
theorem d_Q_count_64 : decode c_Q_count 64 = .ok (.iconst (-1), 1) := by decide +kernel
theorem d_Q_count_65 : decode c_Q_count 65 = .ok (.ireturn, 1) := by decide +kernel
set_option maxHeartbeats 4000000 in
set_option maxRecDepth 100000 in
/-- count: -1 -/
theorem C_Q_count_no (l : Launch) (D : va_G) (t : Nat → ClassId) (xa nw na rw : Nat) (qq : Nat → Nat → Nat) (no : Nat → Nat) (mk : Int32) (wh : Int32) (hw : wh.toInt < 0 ∨ 3 < wh.toInt) : xr_C l D vwCl (xTY t) y_Q_count c_Q_count 2 (Option.some FieldType.int) ({ frames := 0, cells := 0, slots := 0, locals := 0 }) [.ref xa, .int wh] [zO 7 xa [.ref nw, .ref na, .int 0], zA t 4 na 7 (fun j => some (qq j 0)), zO 2 nw [.ref rw, .int 0, .int 0, .int 0, .int 0], zA t 3 rw 300 (fun _ => none)] (xr_Q (some (.int (-1)))) := by
  refine xr_of (by decide) (Nat.le_of_ble_eq_true rfl) ?_
  intro p e s m below meth c ls Z hr hlocks hP hl
  obtain ⟨hx, hb, hml, hown, hK⟩ := id Z
  have hown : s.vm.findClass "QuorumStore" = some m.cls := hown
  have hts := hK.1.at (args := ([.ref xa, .int wh] : List Value).toArray)
  have hl : lv_has ls 2 [(0, .ref xa), (1, .int wh)] := hl
  refine lv_iload_n hx hb d_Q_count_0 rfl (lv_at hl 1 rfl) ?_
  refine lv_tableOut (tgt := 64) hx hb d_Q_count_1 hw (by decide) ?_
  refine lv_iconst (v := (-1)) hx hb d_Q_count_64 (by decide) ?_
  exact W.iret hx hb hr (fun t ht _ => ⟨rfl, ht⟩) (fun q h => by cases h) d_Q_count_65
theorem d_Q_count_32 : decode c_Q_count 32 = .ok (.aload_n 0, 1) := by decide +kernel
theorem d_Q_count_33 : decode c_Q_count 33 = .ok (.getfield 12, 3) := by decide +kernel
theorem d_Q_count_36 : decode c_Q_count 36 = .ok (.getfield 35, 3) := by decide +kernel
theorem d_Q_count_39 : decode c_Q_count 39 = .ok (.ireturn, 1) := by decide +kernel
set_option maxHeartbeats 4000000 in
set_option maxRecDepth 100000 in
/-- count on a new object -/
theorem C_Q_count_0 (l : Launch) (D : va_G) (t : Nat → ClassId) (xa nw na rw : Nat) (qq : Nat → Nat → Nat) (no : Nat → Nat) (mk : Int32) : xr_C l D vwCl (xTY t) y_Q_count c_Q_count 2 (Option.some FieldType.int) ({ frames := 0, cells := 0, slots := 0, locals := 0 }) [.ref xa, .int 0] [zO 7 xa [.ref nw, .ref na, .int 0], zA t 4 na 7 (fun j => some (qq j 0)), zO 2 nw [.ref rw, .int 0, .int 0, .int 0, .int 0], zA t 3 rw 300 (fun _ => none)] (xr_Q (some (.int 0))) := by
  refine xr_of (by decide) (Nat.le_of_ble_eq_true rfl) ?_
  intro p e s m below meth c ls Z hr hlocks hP hl
  obtain ⟨hx, hb, hml, hown, hK⟩ := id Z
  have hown : s.vm.findClass "QuorumStore" = some m.cls := hown
  have hts := hK.1.at (args := ([.ref xa, .int 0] : List Value).toArray)
  have hl : lv_has ls 2 [(0, .ref xa), (1, .int 0)] := hl
  refine lv_iload_n hx hb d_Q_count_0 rfl (lv_at hl 1 rfl) ?_
  refine lv_tableIn (off := 31) (tgt := 32) hx hb d_Q_count_1 (by decide) (by decide) (by decide) (by decide) ?_
  refine lv_aload_n hx hb d_Q_count_32 rfl (lv_at hl 0 rfl) ?_
  refine va_get (ci := 7) (C := "QuorumStore") (T := TX7) (N := 3) hx hb hts inX7 hown hK.2 hP 0 rfl rfl 0 (by decide) (hts _ k_255) (fun _ h9 => h9) rfl d_Q_count_33 ?_
  refine va_get (ci := 2) (C := "QuorumStore$Network") (T := TX2) (N := 5) hx hb hts inX2 hown hK.2 hP 2 rfl rfl 1 (by decide) (hts _ k_43) (fun _ h9 => h9) rfl d_Q_count_36 ?_
  exact W.iret hx hb hr (fun t ht _ => ⟨rfl, ht⟩) (fun q h => by cases h) d_Q_count_39
theorem d_Q_count_40 : decode c_Q_count 40 = .ok (.aload_n 0, 1) := by decide +kernel
theorem d_Q_count_41 : decode c_Q_count 41 = .ok (.getfield 12, 3) := by decide +kernel
theorem d_Q_count_44 : decode c_Q_count 44 = .ok (.getfield 230, 3) := by decide +kernel
theorem d_Q_count_47 : decode c_Q_count 47 = .ok (.ireturn, 1) := by decide +kernel
set_option maxHeartbeats 4000000 in
set_option maxRecDepth 100000 in
/-- count on a new object -/
theorem C_Q_count_1 (l : Launch) (D : va_G) (t : Nat → ClassId) (xa nw na rw : Nat) (qq : Nat → Nat → Nat) (no : Nat → Nat) (mk : Int32) : xr_C l D vwCl (xTY t) y_Q_count c_Q_count 2 (Option.some FieldType.int) ({ frames := 0, cells := 0, slots := 0, locals := 0 }) [.ref xa, .int 1] [zO 7 xa [.ref nw, .ref na, .int 0], zA t 4 na 7 (fun j => some (qq j 0)), zO 2 nw [.ref rw, .int 0, .int 0, .int 0, .int 0], zA t 3 rw 300 (fun _ => none)] (xr_Q (some (.int 0))) := by
  refine xr_of (by decide) (Nat.le_of_ble_eq_true rfl) ?_
  intro p e s m below meth c ls Z hr hlocks hP hl
  obtain ⟨hx, hb, hml, hown, hK⟩ := id Z
  have hown : s.vm.findClass "QuorumStore" = some m.cls := hown
  have hts := hK.1.at (args := ([.ref xa, .int 1] : List Value).toArray)
  have hl : lv_has ls 2 [(0, .ref xa), (1, .int 1)] := hl
  refine lv_iload_n hx hb d_Q_count_0 rfl (lv_at hl 1 rfl) ?_
  refine lv_tableIn (off := 39) (tgt := 40) hx hb d_Q_count_1 (by decide) (by decide) (by decide) (by decide) ?_
  refine lv_aload_n hx hb d_Q_count_40 rfl (lv_at hl 0 rfl) ?_
  refine va_get (ci := 7) (C := "QuorumStore") (T := TX7) (N := 3) hx hb hts inX7 hown hK.2 hP 0 rfl rfl 0 (by decide) (hts _ k_255) (fun _ h9 => h9) rfl d_Q_count_41 ?_
  refine va_get (ci := 2) (C := "QuorumStore$Network") (T := TX2) (N := 5) hx hb hts inX2 hown hK.2 hP 2 rfl rfl 2 (by decide) (hts _ k_45) (fun _ h9 => h9) rfl d_Q_count_44 ?_
  exact W.iret hx hb hr (fun t ht _ => ⟨rfl, ht⟩) (fun q h => by cases h) d_Q_count_47
theorem d_Q_count_48 : decode c_Q_count 48 = .ok (.aload_n 0, 1) := by decide +kernel
theorem d_Q_count_49 : decode c_Q_count 49 = .ok (.getfield 12, 3) := by decide +kernel
theorem d_Q_count_52 : decode c_Q_count 52 = .ok (.getfield 233, 3) := by decide +kernel
theorem d_Q_count_55 : decode c_Q_count 55 = .ok (.ireturn, 1) := by decide +kernel
set_option maxHeartbeats 4000000 in
set_option maxRecDepth 100000 in
/-- count on a new object -/
theorem C_Q_count_2 (l : Launch) (D : va_G) (t : Nat → ClassId) (xa nw na rw : Nat) (qq : Nat → Nat → Nat) (no : Nat → Nat) (mk : Int32) : xr_C l D vwCl (xTY t) y_Q_count c_Q_count 2 (Option.some FieldType.int) ({ frames := 0, cells := 0, slots := 0, locals := 0 }) [.ref xa, .int 2] [zO 7 xa [.ref nw, .ref na, .int 0], zA t 4 na 7 (fun j => some (qq j 0)), zO 2 nw [.ref rw, .int 0, .int 0, .int 0, .int 0], zA t 3 rw 300 (fun _ => none)] (xr_Q (some (.int 0))) := by
  refine xr_of (by decide) (Nat.le_of_ble_eq_true rfl) ?_
  intro p e s m below meth c ls Z hr hlocks hP hl
  obtain ⟨hx, hb, hml, hown, hK⟩ := id Z
  have hown : s.vm.findClass "QuorumStore" = some m.cls := hown
  have hts := hK.1.at (args := ([.ref xa, .int 2] : List Value).toArray)
  have hl : lv_has ls 2 [(0, .ref xa), (1, .int 2)] := hl
  refine lv_iload_n hx hb d_Q_count_0 rfl (lv_at hl 1 rfl) ?_
  refine lv_tableIn (off := 47) (tgt := 48) hx hb d_Q_count_1 (by decide) (by decide) (by decide) (by decide) ?_
  refine lv_aload_n hx hb d_Q_count_48 rfl (lv_at hl 0 rfl) ?_
  refine va_get (ci := 7) (C := "QuorumStore") (T := TX7) (N := 3) hx hb hts inX7 hown hK.2 hP 0 rfl rfl 0 (by decide) (hts _ k_255) (fun _ h9 => h9) rfl d_Q_count_49 ?_
  refine va_get (ci := 2) (C := "QuorumStore$Network") (T := TX2) (N := 5) hx hb hts inX2 hown hK.2 hP 2 rfl rfl 3 (by decide) (hts _ k_47) (fun _ h9 => h9) rfl d_Q_count_52 ?_
  exact W.iret hx hb hr (fun t ht _ => ⟨rfl, ht⟩) (fun q h => by cases h) d_Q_count_55
theorem d_Q_count_56 : decode c_Q_count 56 = .ok (.aload_n 0, 1) := by decide +kernel
theorem d_Q_count_57 : decode c_Q_count 57 = .ok (.getfield 12, 3) := by decide +kernel
theorem d_Q_count_60 : decode c_Q_count 60 = .ok (.getfield 56, 3) := by decide +kernel
theorem d_Q_count_63 : decode c_Q_count 63 = .ok (.ireturn, 1) := by decide +kernel
set_option maxHeartbeats 4000000 in
set_option maxRecDepth 100000 in
/-- count on a new object -/
theorem C_Q_count_3 (l : Launch) (D : va_G) (t : Nat → ClassId) (xa nw na rw : Nat) (qq : Nat → Nat → Nat) (no : Nat → Nat) (mk : Int32) : xr_C l D vwCl (xTY t) y_Q_count c_Q_count 2 (Option.some FieldType.int) ({ frames := 0, cells := 0, slots := 0, locals := 0 }) [.ref xa, .int 3] [zO 7 xa [.ref nw, .ref na, .int 0], zA t 4 na 7 (fun j => some (qq j 0)), zO 2 nw [.ref rw, .int 0, .int 0, .int 0, .int 0], zA t 3 rw 300 (fun _ => none)] (xr_Q (some (.int 0))) := by
  refine xr_of (by decide) (Nat.le_of_ble_eq_true rfl) ?_
  intro p e s m below meth c ls Z hr hlocks hP hl
  obtain ⟨hx, hb, hml, hown, hK⟩ := id Z
  have hown : s.vm.findClass "QuorumStore" = some m.cls := hown
  have hts := hK.1.at (args := ([.ref xa, .int 3] : List Value).toArray)
  have hl : lv_has ls 2 [(0, .ref xa), (1, .int 3)] := hl
  refine lv_iload_n hx hb d_Q_count_0 rfl (lv_at hl 1 rfl) ?_
  refine lv_tableIn (off := 55) (tgt := 56) hx hb d_Q_count_1 (by decide) (by decide) (by decide) (by decide) ?_
  refine lv_aload_n hx hb d_Q_count_56 rfl (lv_at hl 0 rfl) ?_
  refine va_get (ci := 7) (C := "QuorumStore") (T := TX7) (N := 3) hx hb hts inX7 hown hK.2 hP 0 rfl rfl 0 (by decide) (hts _ k_255) (fun _ h9 => h9) rfl d_Q_count_57 ?_
  refine va_get (ci := 2) (C := "QuorumStore$Network") (T := TX2) (N := 5) hx hb hts inX2 hown hK.2 hP 2 rfl rfl 4 (by decide) (hts _ k_48) (fun _ h9 => h9) rfl d_Q_count_60 ?_
  exact W.iret hx hb hr (fun t ht _ => ⟨rfl, ht⟩) (fun q h => by cases h) d_Q_count_63
