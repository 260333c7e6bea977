/-! The public methods of the reference, right after its making. -/
theorem x_01 {x : Int32} (h0 : ¬ x < 0) (h1 : x ≤ 1) : x = 0 ∨ x = 1 := by
  have a := Int32.le_iff_toInt_le.mp h1
  have b : ¬ x.toInt < 0 := fun h => h0 (Int32.lt_iff_toInt_lt.mpr h)
  have e1 : (1 : Int32).toInt = 1 := by decide
  have h2 : x.toInt = 0 ∨ x.toInt = 1 := by omega
  exact h2.imp (fun h9 => Int32.toInt_inj.mp h9) (fun h9 => Int32.toInt_inj.mp h9)
theorem d_P_thrown_0 : decode c_P_thrown 0 = .ok (.aload_n 0, 1) := by decide +kernel
theorem d_P_thrown_1 : decode c_P_thrown 1 = .ok (.getfield 42, 3) := by decide +kernel
theorem d_P_thrown_4 : decode c_P_thrown 4 = .ok (.ireturn, 1) := by decide +kernel
set_option maxHeartbeats 4000000 in
set_option maxRecDepth 100000 in
/-- thrown -/
theorem C_P_thrown (l : Launch) (D : va_G) (t : Nat → ClassId) (ma : Nat) (th : Int32) (v1 v2 v3 v4 v5 v6 v7 v8 v9 : Value) : xr_C l D vwCl (xTY t) y_P_thrown c_P_thrown 1 (Option.some FieldType.int) ({ frames := 0, cells := 0, slots := 0, locals := 0 }) [.ref ma] [zO 13 ma [.int th, v1, v2, v3, v4, v5, v6, v7, v8, v9]] (xr_Q (some (.int th))) := by
  refine xr_of (by decide) (Nat.le_of_ble_eq_true rfl) ?_
  intro p e s m below meth c ls Z hr hlocks hP hl
  obtain ⟨hx, hb, hml, hown, hK⟩ := id Z
  have hown : s.vm.findClass "QuorumStoreModel" = some m.cls := hown
  have hts := hK.1.at (args := ([.ref ma] : List Value).toArray)
  have hl : lv_has ls 1 [(0, .ref ma)] := hl
  refine lv_aload_n hx hb d_P_thrown_0 rfl (lv_at hl 0 rfl) ?_
  refine va_get (ci := 13) (C := "QuorumStoreModel") (T := TX13) (N := 10) hx hb hts inX13 hown hK.2 hP 0 rfl rfl 0 (by decide) (hts _ k_995) (fun _ h9 => h9) rfl d_P_thrown_1 ?_
  exact W.iret hx hb hr (fun t ht _ => ⟨rfl, ht⟩) (fun q h => by cases h) d_P_thrown_4
theorem d_P_fail_0 : decode c_P_fail 0 = .ok (.aload_n 0, 1) := by decide +kernel
theorem d_P_fail_1 : decode c_P_fail 1 = .ok (.iload_n 1, 1) := by decide +kernel
theorem d_P_fail_2 : decode c_P_fail 2 = .ok (.putfield 42, 3) := by decide +kernel
theorem d_P_fail_5 : decode c_P_fail 5 = .ok (.iconst 0, 1) := by decide +kernel
theorem d_P_fail_6 : decode c_P_fail 6 = .ok (.ireturn, 1) := by decide +kernel
set_option maxHeartbeats 4000000 in
set_option maxRecDepth 100000 in
/-- fail -/
theorem C_P_fail (l : Launch) (D : va_G) (t : Nat → ClassId) (ma nb wy hd tk : Nat) (th : Int32) (cd : Int32) : xe_C l D vwCl (xTY t) y_P_fail c_P_fail 2 (Option.some FieldType.int) ({ frames := 0, cells := 0, slots := 0, locals := 0 }) [.ref ma, .int cd] [zO 13 ma [.int th, .int 0, .int 0, .int 0, .int 0, .int 0, .ref nb, .ref wy, .ref hd, .ref tk]] (xe_i D vwCl (fun (r : Int32) (_ : Unit) => r = 0) (fun _ => [zO 13 ma [.int cd, .int 0, .int 0, .int 0, .int 0, .int 0, .ref nb, .ref wy, .ref hd, .ref tk]])) 0 0 := by
  refine xe_of (by decide) (Nat.le_of_ble_eq_true rfl) ?_
  intro p e s m below meth c ls A Z hr hlocks hin hA hP hD hS hl
  obtain ⟨hx, hb, hml, hown, hK⟩ := id Z
  have hown : s.vm.findClass "QuorumStoreModel" = some m.cls := hown
  have hts := hK.1.at (args := ([.ref ma, .int cd] : List Value).toArray)
  have hl : lv_has ls 2 [(0, .ref ma), (1, .int cd)] := hl
  refine lv_aload_n hx hb d_P_fail_0 rfl (lv_at hl 0 rfl) ?_
  refine lv_iload_n hx hb d_P_fail_1 rfl (lv_at hl 1 rfl) ?_
  refine va_put (ci := 13) (v := .int cd) (ty := tyX13 0) (C := "QuorumStoreModel") (T := TX13) (N := 10) hx hb hts inX13 tyX13 okX13 nmX13 hown hK.2 hP hD hS 0 rfl rfl 0 (by decide) (hts _ k_995) (fun _ h9 => h9) rfl (by decide +kernel) rfl rfl (Nat.le_of_ble_eq_true rfl) d_P_fail_2 (fun H locs hP hD hS => ?_)
  have hP : va_P D vwCl [zO 13 ma [.int cd, .int 0, .int 0, .int 0, .int 0, .int 0, .ref nb, .ref wy, .ref hd, .ref tk]] H := hP
  have hD : va_D A [zO 13 ma [.int cd, .int 0, .int 0, .int 0, .int 0, .int 0, .ref nb, .ref wy, .ref hd, .ref tk]] := hD
  refine lv_iconst (v := 0) hx hb d_P_fail_5 (by decide) ?_
  exact W.iret hx hb hr (fun t ht hW => ⟨⟨0, (), rfl, rfl, by rw [ht]; exact hP, hD⟩, hS.F ht⟩) hS.2.2 d_P_fail_6
theorem d_P_noNode_0 : decode c_P_noNode 0 = .ok (.iload_n 0, 1) := by decide +kernel
theorem d_P_noNode_1 : decode c_P_noNode 1 = .ok (.ifCond .lt 9, 3) := by decide +kernel
theorem d_P_noNode_4 : decode c_P_noNode 4 = .ok (.iload_n 0, 1) := by decide +kernel
theorem d_P_noNode_5 : decode c_P_noNode 5 = .ok (.bipush 7, 2) := by decide +kernel
theorem d_P_noNode_7 : decode c_P_noNode 7 = .ok (.if_icmp .lt 7, 3) := by decide +kernel
theorem d_P_noNode_14 : decode c_P_noNode 14 = .ok (.iconst 0, 1) := by decide +kernel
theorem d_P_noNode_15 : decode c_P_noNode 15 = .ok (.ireturn, 1) := by decide +kernel
set_option maxHeartbeats 4000000 in
set_option maxRecDepth 100000 in
/-- noNode in 0 .. 6 -/
theorem C_P_noNode (l : Launch) (D : va_G) (t : Nat → ClassId) (k : Nat) (hk : k < 7) : xr_C l D vwCl (xTY t) y_P_noNode c_P_noNode 1 (Option.some FieldType.boolean) ({ frames := 0, cells := 0, slots := 0, locals := 0 }) [.int (nI k)] [] (xr_Q (some (.int 0))) := by
  refine xr_of (by decide) (Nat.le_of_ble_eq_true rfl) ?_
  intro p e s m below meth c ls Z hr hlocks hP hl
  obtain ⟨hx, hb, hml, hown, hK⟩ := id Z
  have hown : s.vm.findClass "QuorumStoreModel" = some m.cls := hown
  have hts := hK.1.at (args := ([.int (nI k)] : List Value).toArray)
  have hl : lv_has ls 1 [(0, .int (nI k))] := hl
  refine lv_iload_n hx hb d_P_noNode_0 rfl (lv_at hl 0 rfl) ?_
  refine lv_if_lt (tgt := 10) hx hb d_P_noNode_1 (by decide) (fun c_1 => absurd c_1 (nI_pos (by omega))) (fun _ => ?_)
  refine lv_iload_n hx hb d_P_noNode_4 rfl (lv_at hl 0 rfl) ?_
  refine lv_bipush (v := 7) hx hb d_P_noNode_5 (by decide) ?_
  refine lv_icmp_lt (tgt := 14) hx hb d_P_noNode_7 (by decide) (fun _ => ?_) (fun c_2 => absurd (show nI k < nI 7 from nI_lt hk (by decide)) c_2)
  refine lv_iconst (v := 0) hx hb d_P_noNode_14 (by decide) ?_
  exact W.zret hx hb hr (by decide) (fun t ht _ => ⟨rfl, ht⟩) (fun q h => by cases h) d_P_noNode_15
theorem d_P_noNode_10 : decode c_P_noNode 10 = .ok (.iconst 1, 1) := by decide +kernel
theorem d_P_noNode_11 : decode c_P_noNode 11 = .ok (.goto 4, 3) := by decide +kernel
set_option maxHeartbeats 4000000 in
set_option maxRecDepth 100000 in
/-- noNode out of 0 .. 6 -/
theorem C_P_noNode_1 (l : Launch) (D : va_G) (t : Nat → ClassId) (n : Int32) (hn : n < 0 ∨ 7 ≤ n) : xr_C l D vwCl (xTY t) y_P_noNode c_P_noNode 1 (Option.some FieldType.boolean) ({ frames := 0, cells := 0, slots := 0, locals := 0 }) [.int n] [] (xr_Q (some (.int 1))) := by
  refine xr_of (by decide) (Nat.le_of_ble_eq_true rfl) ?_
  intro p e s m below meth c ls Z hr hlocks hP hl
  obtain ⟨hx, hb, hml, hown, hK⟩ := id Z
  have hown : s.vm.findClass "QuorumStoreModel" = some m.cls := hown
  have hts := hK.1.at (args := ([.int n] : List Value).toArray)
  have hl : lv_has ls 1 [(0, .int n)] := hl
  refine lv_iload_n hx hb d_P_noNode_0 rfl (lv_at hl 0 rfl) ?_
  refine lv_if_lt (tgt := 10) hx hb d_P_noNode_1 (by decide) (fun c_1 => ?_) (fun c_1 => ?_)
  · refine lv_iconst (v := 1) hx hb d_P_noNode_10 (by decide) ?_
    refine lv_goto (tgt := 15) hx hb d_P_noNode_11 (by decide) ?_
    exact W.zret hx hb hr (by decide) (fun t ht _ => ⟨rfl, ht⟩) (fun q h => by cases h) d_P_noNode_15
  · refine lv_iload_n hx hb d_P_noNode_4 rfl (lv_at hl 0 rfl) ?_
    refine lv_bipush (v := 7) hx hb d_P_noNode_5 (by decide) ?_
    refine lv_icmp_lt (tgt := 14) hx hb d_P_noNode_7 (by decide) (fun c_2 => absurd c_2 (fun h9 => hn.elim c_1 (fun h8 => Int32.not_le.mpr h9 h8))) (fun _ => ?_)
    refine lv_iconst (v := 1) hx hb d_P_noNode_10 (by decide) ?_
    refine lv_goto (tgt := 15) hx hb d_P_noNode_11 (by decide) ?_
    exact W.zret hx hb hr (by decide) (fun t ht _ => ⟨rfl, ht⟩) (fun q h => by cases h) d_P_noNode_15
theorem d_P_none_0 : decode c_P_none 0 = .ok (.iload_n 1, 1) := by decide +kernel
theorem d_P_none_1 : decode c_P_none 1 = .ok (.ifCond .lt 11, 3) := by decide +kernel
theorem d_P_none_4 : decode c_P_none 4 = .ok (.iload_n 1, 1) := by decide +kernel
theorem d_P_none_5 : decode c_P_none 5 = .ok (.aload_n 0, 1) := by decide +kernel
theorem d_P_none_6 : decode c_P_none 6 = .ok (.getfield 49, 3) := by decide +kernel
theorem d_P_none_9 : decode c_P_none 9 = .ok (.if_icmp .lt 7, 3) := by decide +kernel
theorem d_P_none_12 : decode c_P_none 12 = .ok (.iconst 1, 1) := by decide +kernel
theorem d_P_none_13 : decode c_P_none 13 = .ok (.goto 4, 3) := by decide +kernel
theorem d_P_none_17 : decode c_P_none 17 = .ok (.ireturn, 1) := by decide +kernel
set_option maxHeartbeats 4000000 in
set_option maxRecDepth 100000 in
/-- none where there is no message -/
theorem C_P_none (l : Launch) (D : va_G) (t : Nat → ClassId) (ma nb wy hd tk : Nat) (th : Int32) (n : Int32) : xr_C l D vwCl (xTY t) y_P_none c_P_none 2 (Option.some FieldType.boolean) ({ frames := 0, cells := 0, slots := 0, locals := 0 }) [.ref ma, .int n] [zO 13 ma [.int th, .int 0, .int 0, .int 0, .int 0, .int 0, .ref nb, .ref wy, .ref hd, .ref tk]] (xr_Q (some (.int 1))) := by
  refine xr_of (by decide) (Nat.le_of_ble_eq_true rfl) ?_
  intro p e s m below meth c ls Z hr hlocks hP hl
  obtain ⟨hx, hb, hml, hown, hK⟩ := id Z
  have hown : s.vm.findClass "QuorumStoreModel" = some m.cls := hown
  have hts := hK.1.at (args := ([.ref ma, .int n] : List Value).toArray)
  have hl : lv_has ls 2 [(0, .ref ma), (1, .int n)] := hl
  refine lv_iload_n hx hb d_P_none_0 rfl (lv_at hl 1 rfl) ?_
  refine lv_if_lt (tgt := 12) hx hb d_P_none_1 (by decide) (fun c_1 => ?_) (fun c_1 => ?_)
  · refine lv_iconst (v := 1) hx hb d_P_none_12 (by decide) ?_
    refine lv_goto (tgt := 17) hx hb d_P_none_13 (by decide) ?_
    exact W.zret hx hb hr (by decide) (fun t ht _ => ⟨rfl, ht⟩) (fun q h => by cases h) d_P_none_17
  · refine lv_iload_n hx hb d_P_none_4 rfl (lv_at hl 1 rfl) ?_
    refine lv_aload_n hx hb d_P_none_5 rfl (lv_at hl 0 rfl) ?_
    refine va_get (ci := 13) (C := "QuorumStoreModel") (T := TX13) (N := 10) hx hb hts inX13 hown hK.2 hP 0 rfl rfl 5 (by decide) (hts _ k_1000) (fun _ h9 => h9) rfl d_P_none_6 ?_
    refine lv_icmp_lt (tgt := 16) hx hb d_P_none_9 (by decide) (fun c_2 => absurd c_2 (c_1)) (fun _ => ?_)
    refine lv_iconst (v := 1) hx hb d_P_none_12 (by decide) ?_
    refine lv_goto (tgt := 17) hx hb d_P_none_13 (by decide) ?_
    exact W.zret hx hb hr (by decide) (fun t ht _ => ⟨rfl, ht⟩) (fun q h => by cases h) d_P_none_17
theorem d_P_deliver_0 : decode c_P_deliver 0 = .ok (.aload_n 0, 1) := by decide +kernel
theorem d_P_deliver_1 : decode c_P_deliver 1 = .ok (.iconst 0, 1) := by decide +kernel
theorem d_P_deliver_2 : decode c_P_deliver 2 = .ok (.putfield 42, 3) := by decide +kernel
theorem d_P_deliver_5 : decode c_P_deliver 5 = .ok (.aload_n 0, 1) := by decide +kernel
theorem d_P_deliver_6 : decode c_P_deliver 6 = .ok (.iload_n 1, 1) := by decide +kernel
theorem d_P_deliver_7 : decode c_P_deliver 7 = .ok (.invokevirtual 304, 3) := by decide +kernel
theorem d_P_deliver_10 : decode c_P_deliver 10 = .ok (.ifCond .eq 9, 3) := by decide +kernel
theorem d_P_deliver_13 : decode c_P_deliver 13 = .ok (.aload_n 0, 1) := by decide +kernel
theorem d_P_deliver_14 : decode c_P_deliver 14 = .ok (.iconst 1, 1) := by decide +kernel
theorem d_P_deliver_15 : decode c_P_deliver 15 = .ok (.invokevirtual 298, 3) := by decide +kernel
theorem d_P_deliver_18 : decode c_P_deliver 18 = .ok (.ireturn, 1) := by decide +kernel
set_option maxHeartbeats 4000000 in
set_option maxRecDepth 100000 in
/-- P_deliver where there is no message -/
theorem C_P_deliver (l : Launch) (D : va_G) (t : Nat → ClassId) (ma nb wy hd tk : Nat) (th : Int32) (n : Int32) : xe_C l D vwCl (xTY t) y_P_deliver c_P_deliver 3 (Option.some FieldType.int) ({ frames := 1, cells := 0, slots := 0, locals := 21 }) [.ref ma, .int n] [zO 13 ma [.int th, .int 0, .int 0, .int 0, .int 0, .int 0, .ref nb, .ref wy, .ref hd, .ref tk]] (xe_i D vwCl (fun (r : Int32) (_ : Unit) => r = 0) (fun _ => [zO 13 ma [.int 1, .int 0, .int 0, .int 0, .int 0, .int 0, .ref nb, .ref wy, .ref hd, .ref tk]])) 0 0 := by
  refine xe_of (by decide) (Nat.le_of_ble_eq_true rfl) ?_
  intro p e s m below meth c ls A Z hr hlocks hin hA hP hD hS hl
  obtain ⟨hx, hb, hml, hown, hK⟩ := id Z
  have hown : s.vm.findClass "QuorumStoreModel" = some m.cls := hown
  have hts := hK.1.at (args := ([.ref ma, .int n] : List Value).toArray)
  have hl : lv_has ls 3 [(0, .ref ma), (1, .int n)] := hl
  refine lv_aload_n hx hb d_P_deliver_0 rfl (lv_at hl 0 rfl) ?_
  refine lv_iconst (v := 0) hx hb d_P_deliver_1 (by decide) ?_
  refine va_put (ci := 13) (v := .int 0) (ty := tyX13 0) (C := "QuorumStoreModel") (T := TX13) (N := 10) hx hb hts inX13 tyX13 okX13 nmX13 hown hK.2 hP hD hS 0 rfl rfl 0 (by decide) (hts _ k_995) (fun _ h9 => h9) rfl (by decide +kernel) rfl rfl (Nat.le_of_ble_eq_true rfl) d_P_deliver_2 (fun H locs hP hD hS => ?_)
  have hP : va_P D vwCl [zO 13 ma [.int 0, .int 0, .int 0, .int 0, .int 0, .int 0, .ref nb, .ref wy, .ref hd, .ref tk]] H := hP
  have hD : va_D A [zO 13 ma [.int 0, .int 0, .int 0, .int 0, .int 0, .int 0, .ref nb, .ref wy, .ref hd, .ref tk]] := hD
  refine lv_aload_n hx hb d_P_deliver_5 rfl (lv_at hl 0 rfl) ?_
  refine lv_iload_n hx hb d_P_deliver_6 rfl (lv_at hl 1 rfl) ?_
  refine xr_call (xs_V (As := [.int n]) (rest := []) Z (C_P_none l D t ma nb wy hd tk 0 n) m_P_none k_1160 k_1162 ks_48 rfl rfl ⟨Nat.le_of_ble_eq_true rfl, Nat.le_of_ble_eq_true rfl⟩ (va_recv hK.2 hP (ci := 13) (q0 := 0) rfl rfl) (xr_pre hK (hP.sub [0] rfl)) rfl hl.1 rfl (Nat.le_of_ble_eq_true rfl) d_P_deliver_7 ⟨Nat.le_of_ble_eq_true rfl, Nat.le_of_ble_eq_true rfl⟩) ?_
  refine lv_if_eq (tgt := 19) hx hb d_P_deliver_10 (by decide) (fun c_1 => absurd c_1 (by decide)) (fun _ => ?_)
  refine lv_aload_n hx hb d_P_deliver_13 rfl (lv_at hl 0 rfl) ?_
  refine lv_iconst (v := 1) hx hb d_P_deliver_14 (by decide) ?_
  refine xe_calli (wr := []) (xs_V (As := [.int 1]) (rest := []) Z (C_P_fail l D t ma nb wy hd tk 0 1 H.size) m_P_fail k_1034 k_1036 ks_33 rfl rfl ⟨Nat.le_of_ble_eq_true rfl, Nat.le_of_ble_eq_true rfl⟩ (va_recv hK.2 hP (ci := 13) (q0 := 0) rfl rfl) (xe_pre hK (hP.sub [0] rfl) (hD.sub [0] (by decide) rfl)) rfl hl.1 rfl (Nat.le_of_ble_eq_true rfl) d_P_deliver_15 ⟨Nat.le_of_ble_eq_true rfl, Nat.le_of_ble_eq_true rfl⟩) hP hD hS hA [0] [] rfl rfl (by decide) (by decide) (fun r_2 u_ H locs hw hP hD hS => ?_)
  have hP : va_P D vwCl [zO 13 ma [.int 1, .int 0, .int 0, .int 0, .int 0, .int 0, .ref nb, .ref wy, .ref hd, .ref tk]] H := hP
  have hD : va_D A [zO 13 ma [.int 1, .int 0, .int 0, .int 0, .int 0, .int 0, .ref nb, .ref wy, .ref hd, .ref tk]] := hD
  obtain rfl := hw
  exact W.iret hx hb hr (fun t ht hW => ⟨⟨0, (), rfl, rfl, by rw [ht]; exact hP, hD⟩, hS.F ht⟩) hS.2.2 d_P_deliver_18
theorem d_P_drop_0 : decode c_P_drop 0 = .ok (.aload_n 0, 1) := by decide +kernel
theorem d_P_drop_1 : decode c_P_drop 1 = .ok (.iconst 0, 1) := by decide +kernel
theorem d_P_drop_2 : decode c_P_drop 2 = .ok (.putfield 42, 3) := by decide +kernel
theorem d_P_drop_5 : decode c_P_drop 5 = .ok (.aload_n 0, 1) := by decide +kernel
theorem d_P_drop_6 : decode c_P_drop 6 = .ok (.iload_n 1, 1) := by decide +kernel
theorem d_P_drop_7 : decode c_P_drop 7 = .ok (.invokevirtual 304, 3) := by decide +kernel
theorem d_P_drop_10 : decode c_P_drop 10 = .ok (.ifCond .eq 9, 3) := by decide +kernel
theorem d_P_drop_13 : decode c_P_drop 13 = .ok (.aload_n 0, 1) := by decide +kernel
theorem d_P_drop_14 : decode c_P_drop 14 = .ok (.iconst 1, 1) := by decide +kernel
theorem d_P_drop_15 : decode c_P_drop 15 = .ok (.invokevirtual 298, 3) := by decide +kernel
theorem d_P_drop_18 : decode c_P_drop 18 = .ok (.ireturn, 1) := by decide +kernel
set_option maxHeartbeats 4000000 in
set_option maxRecDepth 100000 in
/-- P_drop where there is no message -/
theorem C_P_drop (l : Launch) (D : va_G) (t : Nat → ClassId) (ma nb wy hd tk : Nat) (th : Int32) (n : Int32) : xe_C l D vwCl (xTY t) y_P_drop c_P_drop 2 (Option.some FieldType.int) ({ frames := 1, cells := 0, slots := 0, locals := 21 }) [.ref ma, .int n] [zO 13 ma [.int th, .int 0, .int 0, .int 0, .int 0, .int 0, .ref nb, .ref wy, .ref hd, .ref tk]] (xe_i D vwCl (fun (r : Int32) (_ : Unit) => r = 0) (fun _ => [zO 13 ma [.int 1, .int 0, .int 0, .int 0, .int 0, .int 0, .ref nb, .ref wy, .ref hd, .ref tk]])) 0 0 := by
  refine xe_of (by decide) (Nat.le_of_ble_eq_true rfl) ?_
  intro p e s m below meth c ls A Z hr hlocks hin hA hP hD hS hl
  obtain ⟨hx, hb, hml, hown, hK⟩ := id Z
  have hown : s.vm.findClass "QuorumStoreModel" = some m.cls := hown
  have hts := hK.1.at (args := ([.ref ma, .int n] : List Value).toArray)
  have hl : lv_has ls 2 [(0, .ref ma), (1, .int n)] := hl
  refine lv_aload_n hx hb d_P_drop_0 rfl (lv_at hl 0 rfl) ?_
  refine lv_iconst (v := 0) hx hb d_P_drop_1 (by decide) ?_
  refine va_put (ci := 13) (v := .int 0) (ty := tyX13 0) (C := "QuorumStoreModel") (T := TX13) (N := 10) hx hb hts inX13 tyX13 okX13 nmX13 hown hK.2 hP hD hS 0 rfl rfl 0 (by decide) (hts _ k_995) (fun _ h9 => h9) rfl (by decide +kernel) rfl rfl (Nat.le_of_ble_eq_true rfl) d_P_drop_2 (fun H locs hP hD hS => ?_)
  have hP : va_P D vwCl [zO 13 ma [.int 0, .int 0, .int 0, .int 0, .int 0, .int 0, .ref nb, .ref wy, .ref hd, .ref tk]] H := hP
  have hD : va_D A [zO 13 ma [.int 0, .int 0, .int 0, .int 0, .int 0, .int 0, .ref nb, .ref wy, .ref hd, .ref tk]] := hD
  refine lv_aload_n hx hb d_P_drop_5 rfl (lv_at hl 0 rfl) ?_
  refine lv_iload_n hx hb d_P_drop_6 rfl (lv_at hl 1 rfl) ?_
  refine xr_call (xs_V (As := [.int n]) (rest := []) Z (C_P_none l D t ma nb wy hd tk 0 n) m_P_none k_1160 k_1162 ks_48 rfl rfl ⟨Nat.le_of_ble_eq_true rfl, Nat.le_of_ble_eq_true rfl⟩ (va_recv hK.2 hP (ci := 13) (q0 := 0) rfl rfl) (xr_pre hK (hP.sub [0] rfl)) rfl hl.1 rfl (Nat.le_of_ble_eq_true rfl) d_P_drop_7 ⟨Nat.le_of_ble_eq_true rfl, Nat.le_of_ble_eq_true rfl⟩) ?_
  refine lv_if_eq (tgt := 19) hx hb d_P_drop_10 (by decide) (fun c_1 => absurd c_1 (by decide)) (fun _ => ?_)
  refine lv_aload_n hx hb d_P_drop_13 rfl (lv_at hl 0 rfl) ?_
  refine lv_iconst (v := 1) hx hb d_P_drop_14 (by decide) ?_
  refine xe_calli (wr := []) (xs_V (As := [.int 1]) (rest := []) Z (C_P_fail l D t ma nb wy hd tk 0 1 H.size) m_P_fail k_1034 k_1036 ks_33 rfl rfl ⟨Nat.le_of_ble_eq_true rfl, Nat.le_of_ble_eq_true rfl⟩ (va_recv hK.2 hP (ci := 13) (q0 := 0) rfl rfl) (xe_pre hK (hP.sub [0] rfl) (hD.sub [0] (by decide) rfl)) rfl hl.1 rfl (Nat.le_of_ble_eq_true rfl) d_P_drop_15 ⟨Nat.le_of_ble_eq_true rfl, Nat.le_of_ble_eq_true rfl⟩) hP hD hS hA [0] [] rfl rfl (by decide) (by decide) (fun r_2 u_ H locs hw hP hD hS => ?_)
  have hP : va_P D vwCl [zO 13 ma [.int 1, .int 0, .int 0, .int 0, .int 0, .int 0, .ref nb, .ref wy, .ref hd, .ref tk]] H := hP
  have hD : va_D A [zO 13 ma [.int 1, .int 0, .int 0, .int 0, .int 0, .int 0, .ref nb, .ref wy, .ref hd, .ref tk]] := hD
  obtain rfl := hw
  exact W.iret hx hb hr (fun t ht hW => ⟨⟨0, (), rfl, rfl, by rw [ht]; exact hP, hD⟩, hS.F ht⟩) hS.2.2 d_P_drop_18
theorem d_P_copy_0 : decode c_P_copy 0 = .ok (.aload_n 0, 1) := by decide +kernel
theorem d_P_copy_1 : decode c_P_copy 1 = .ok (.iconst 0, 1) := by decide +kernel
theorem d_P_copy_2 : decode c_P_copy 2 = .ok (.putfield 42, 3) := by decide +kernel
theorem d_P_copy_5 : decode c_P_copy 5 = .ok (.aload_n 0, 1) := by decide +kernel
theorem d_P_copy_6 : decode c_P_copy 6 = .ok (.iload_n 1, 1) := by decide +kernel
theorem d_P_copy_7 : decode c_P_copy 7 = .ok (.invokevirtual 304, 3) := by decide +kernel
theorem d_P_copy_10 : decode c_P_copy 10 = .ok (.ifCond .eq 9, 3) := by decide +kernel
theorem d_P_copy_13 : decode c_P_copy 13 = .ok (.aload_n 0, 1) := by decide +kernel
theorem d_P_copy_14 : decode c_P_copy 14 = .ok (.iconst 1, 1) := by decide +kernel
theorem d_P_copy_15 : decode c_P_copy 15 = .ok (.invokevirtual 298, 3) := by decide +kernel
theorem d_P_copy_18 : decode c_P_copy 18 = .ok (.ireturn, 1) := by decide +kernel
set_option maxHeartbeats 4000000 in
set_option maxRecDepth 100000 in
/-- P_copy where there is no message -/
theorem C_P_copy (l : Launch) (D : va_G) (t : Nat → ClassId) (ma nb wy hd tk : Nat) (th : Int32) (n : Int32) : xe_C l D vwCl (xTY t) y_P_copy c_P_copy 2 (Option.some FieldType.int) ({ frames := 1, cells := 0, slots := 0, locals := 21 }) [.ref ma, .int n] [zO 13 ma [.int th, .int 0, .int 0, .int 0, .int 0, .int 0, .ref nb, .ref wy, .ref hd, .ref tk]] (xe_i D vwCl (fun (r : Int32) (_ : Unit) => r = 0) (fun _ => [zO 13 ma [.int 1, .int 0, .int 0, .int 0, .int 0, .int 0, .ref nb, .ref wy, .ref hd, .ref tk]])) 0 0 := by
  refine xe_of (by decide) (Nat.le_of_ble_eq_true rfl) ?_
  intro p e s m below meth c ls A Z hr hlocks hin hA hP hD hS hl
  obtain ⟨hx, hb, hml, hown, hK⟩ := id Z
  have hown : s.vm.findClass "QuorumStoreModel" = some m.cls := hown
  have hts := hK.1.at (args := ([.ref ma, .int n] : List Value).toArray)
  have hl : lv_has ls 2 [(0, .ref ma), (1, .int n)] := hl
  refine lv_aload_n hx hb d_P_copy_0 rfl (lv_at hl 0 rfl) ?_
  refine lv_iconst (v := 0) hx hb d_P_copy_1 (by decide) ?_
  refine va_put (ci := 13) (v := .int 0) (ty := tyX13 0) (C := "QuorumStoreModel") (T := TX13) (N := 10) hx hb hts inX13 tyX13 okX13 nmX13 hown hK.2 hP hD hS 0 rfl rfl 0 (by decide) (hts _ k_995) (fun _ h9 => h9) rfl (by decide +kernel) rfl rfl (Nat.le_of_ble_eq_true rfl) d_P_copy_2 (fun H locs hP hD hS => ?_)
  have hP : va_P D vwCl [zO 13 ma [.int 0, .int 0, .int 0, .int 0, .int 0, .int 0, .ref nb, .ref wy, .ref hd, .ref tk]] H := hP
  have hD : va_D A [zO 13 ma [.int 0, .int 0, .int 0, .int 0, .int 0, .int 0, .ref nb, .ref wy, .ref hd, .ref tk]] := hD
  refine lv_aload_n hx hb d_P_copy_5 rfl (lv_at hl 0 rfl) ?_
  refine lv_iload_n hx hb d_P_copy_6 rfl (lv_at hl 1 rfl) ?_
  refine xr_call (xs_V (As := [.int n]) (rest := []) Z (C_P_none l D t ma nb wy hd tk 0 n) m_P_none k_1160 k_1162 ks_48 rfl rfl ⟨Nat.le_of_ble_eq_true rfl, Nat.le_of_ble_eq_true rfl⟩ (va_recv hK.2 hP (ci := 13) (q0 := 0) rfl rfl) (xr_pre hK (hP.sub [0] rfl)) rfl hl.1 rfl (Nat.le_of_ble_eq_true rfl) d_P_copy_7 ⟨Nat.le_of_ble_eq_true rfl, Nat.le_of_ble_eq_true rfl⟩) ?_
  refine lv_if_eq (tgt := 19) hx hb d_P_copy_10 (by decide) (fun c_1 => absurd c_1 (by decide)) (fun _ => ?_)
  refine lv_aload_n hx hb d_P_copy_13 rfl (lv_at hl 0 rfl) ?_
  refine lv_iconst (v := 1) hx hb d_P_copy_14 (by decide) ?_
  refine xe_calli (wr := []) (xs_V (As := [.int 1]) (rest := []) Z (C_P_fail l D t ma nb wy hd tk 0 1 H.size) m_P_fail k_1034 k_1036 ks_33 rfl rfl ⟨Nat.le_of_ble_eq_true rfl, Nat.le_of_ble_eq_true rfl⟩ (va_recv hK.2 hP (ci := 13) (q0 := 0) rfl rfl) (xe_pre hK (hP.sub [0] rfl) (hD.sub [0] (by decide) rfl)) rfl hl.1 rfl (Nat.le_of_ble_eq_true rfl) d_P_copy_15 ⟨Nat.le_of_ble_eq_true rfl, Nat.le_of_ble_eq_true rfl⟩) hP hD hS hA [0] [] rfl rfl (by decide) (by decide) (fun r_2 u_ H locs hw hP hD hS => ?_)
  have hP : va_P D vwCl [zO 13 ma [.int 1, .int 0, .int 0, .int 0, .int 0, .int 0, .ref nb, .ref wy, .ref hd, .ref tk]] H := hP
  have hD : va_D A [zO 13 ma [.int 1, .int 0, .int 0, .int 0, .int 0, .int 0, .ref nb, .ref wy, .ref hd, .ref tk]] := hD
  obtain rfl := hw
  exact W.iret hx hb hr (fun t ht hW => ⟨⟨0, (), rfl, rfl, by rw [ht]; exact hP, hD⟩, hS.F ht⟩) hS.2.2 d_P_copy_18
theorem d_P_message_0 : decode c_P_message 0 = .ok (.aload_n 0, 1) := by decide +kernel
theorem d_P_message_1 : decode c_P_message 1 = .ok (.iconst 0, 1) := by decide +kernel
theorem d_P_message_2 : decode c_P_message 2 = .ok (.putfield 42, 3) := by decide +kernel
theorem d_P_message_5 : decode c_P_message 5 = .ok (.aload_n 0, 1) := by decide +kernel
theorem d_P_message_6 : decode c_P_message 6 = .ok (.iload_n 1, 1) := by decide +kernel
theorem d_P_message_7 : decode c_P_message 7 = .ok (.invokevirtual 304, 3) := by decide +kernel
theorem d_P_message_10 : decode c_P_message 10 = .ok (.ifCond .eq 9, 3) := by decide +kernel
theorem d_P_message_13 : decode c_P_message 13 = .ok (.aload_n 0, 1) := by decide +kernel
theorem d_P_message_14 : decode c_P_message 14 = .ok (.iconst 1, 1) := by decide +kernel
theorem d_P_message_15 : decode c_P_message 15 = .ok (.invokevirtual 298, 3) := by decide +kernel
theorem d_P_message_18 : decode c_P_message 18 = .ok (.ireturn, 1) := by decide +kernel
set_option maxHeartbeats 4000000 in
set_option maxRecDepth 100000 in
/-- P_message where there is no message -/
theorem C_P_message (l : Launch) (D : va_G) (t : Nat → ClassId) (ma nb wy hd tk : Nat) (th : Int32) (n wh : Int32) : xe_C l D vwCl (xTY t) y_P_message c_P_message 4 (Option.some FieldType.int) ({ frames := 1, cells := 0, slots := 0, locals := 21 }) [.ref ma, .int n, .int wh] [zO 13 ma [.int th, .int 0, .int 0, .int 0, .int 0, .int 0, .ref nb, .ref wy, .ref hd, .ref tk]] (xe_i D vwCl (fun (r : Int32) (_ : Unit) => r = 0) (fun _ => [zO 13 ma [.int 1, .int 0, .int 0, .int 0, .int 0, .int 0, .ref nb, .ref wy, .ref hd, .ref tk]])) 0 0 := by
  refine xe_of (by decide) (Nat.le_of_ble_eq_true rfl) ?_
  intro p e s m below meth c ls A Z hr hlocks hin hA hP hD hS hl
  obtain ⟨hx, hb, hml, hown, hK⟩ := id Z
  have hown : s.vm.findClass "QuorumStoreModel" = some m.cls := hown
  have hts := hK.1.at (args := ([.ref ma, .int n, .int wh] : List Value).toArray)
  have hl : lv_has ls 4 [(0, .ref ma), (1, .int n), (2, .int wh)] := hl
  refine lv_aload_n hx hb d_P_message_0 rfl (lv_at hl 0 rfl) ?_
  refine lv_iconst (v := 0) hx hb d_P_message_1 (by decide) ?_
  refine va_put (ci := 13) (v := .int 0) (ty := tyX13 0) (C := "QuorumStoreModel") (T := TX13) (N := 10) hx hb hts inX13 tyX13 okX13 nmX13 hown hK.2 hP hD hS 0 rfl rfl 0 (by decide) (hts _ k_995) (fun _ h9 => h9) rfl (by decide +kernel) rfl rfl (Nat.le_of_ble_eq_true rfl) d_P_message_2 (fun H locs hP hD hS => ?_)
  have hP : va_P D vwCl [zO 13 ma [.int 0, .int 0, .int 0, .int 0, .int 0, .int 0, .ref nb, .ref wy, .ref hd, .ref tk]] H := hP
  have hD : va_D A [zO 13 ma [.int 0, .int 0, .int 0, .int 0, .int 0, .int 0, .ref nb, .ref wy, .ref hd, .ref tk]] := hD
  refine lv_aload_n hx hb d_P_message_5 rfl (lv_at hl 0 rfl) ?_
  refine lv_iload_n hx hb d_P_message_6 rfl (lv_at hl 1 rfl) ?_
  refine xr_call (xs_V (As := [.int n]) (rest := []) Z (C_P_none l D t ma nb wy hd tk 0 n) m_P_none k_1160 k_1162 ks_48 rfl rfl ⟨Nat.le_of_ble_eq_true rfl, Nat.le_of_ble_eq_true rfl⟩ (va_recv hK.2 hP (ci := 13) (q0 := 0) rfl rfl) (xr_pre hK (hP.sub [0] rfl)) rfl hl.1 rfl (Nat.le_of_ble_eq_true rfl) d_P_message_7 ⟨Nat.le_of_ble_eq_true rfl, Nat.le_of_ble_eq_true rfl⟩) ?_
  refine lv_if_eq (tgt := 19) hx hb d_P_message_10 (by decide) (fun c_1 => absurd c_1 (by decide)) (fun _ => ?_)
  refine lv_aload_n hx hb d_P_message_13 rfl (lv_at hl 0 rfl) ?_
  refine lv_iconst (v := 1) hx hb d_P_message_14 (by decide) ?_
  refine xe_calli (wr := []) (xs_V (As := [.int 1]) (rest := []) Z (C_P_fail l D t ma nb wy hd tk 0 1 H.size) m_P_fail k_1034 k_1036 ks_33 rfl rfl ⟨Nat.le_of_ble_eq_true rfl, Nat.le_of_ble_eq_true rfl⟩ (va_recv hK.2 hP (ci := 13) (q0 := 0) rfl rfl) (xe_pre hK (hP.sub [0] rfl) (hD.sub [0] (by decide) rfl)) rfl hl.1 rfl (Nat.le_of_ble_eq_true rfl) d_P_message_15 ⟨Nat.le_of_ble_eq_true rfl, Nat.le_of_ble_eq_true rfl⟩) hP hD hS hA [0] [] rfl rfl (by decide) (by decide) (fun r_2 u_ H locs hw hP hD hS => ?_)
  have hP : va_P D vwCl [zO 13 ma [.int 1, .int 0, .int 0, .int 0, .int 0, .int 0, .ref nb, .ref wy, .ref hd, .ref tk]] H := hP
  have hD : va_D A [zO 13 ma [.int 1, .int 0, .int 0, .int 0, .int 0, .int 0, .ref nb, .ref wy, .ref hd, .ref tk]] := hD
  obtain rfl := hw
  exact W.iret hx hb hr (fun t ht hW => ⟨⟨0, (), rfl, rfl, by rw [ht]; exact hP, hD⟩, hS.F ht⟩) hS.2.2 d_P_message_18
theorem d_P_tick_16 : decode c_P_tick 16 = .ok (.aload_n 0, 1) := by decide +kernel
theorem d_P_tick_17 : decode c_P_tick 17 = .ok (.iconst 1, 1) := by decide +kernel
theorem d_P_tick_18 : decode c_P_tick 18 = .ok (.invokevirtual 298, 3) := by decide +kernel
theorem d_P_tick_21 : decode c_P_tick 21 = .ok (.ireturn, 1) := by decide +kernel
set_option maxHeartbeats 4000000 in
set_option maxRecDepth 100000 in
/-- tick with n out of 1 .. 50 -/
theorem C_P_tick_1 (l : Launch) (D : va_G) (t : Nat → ClassId) (ma nb wy hd tk : Nat) (th : Int32) (n : Int32) (hn : n < 1 ∨ 50 < n) : xe_C l D vwCl (xTY t) y_P_tick c_P_tick 4 (Option.some FieldType.int) ({ frames := 1, cells := 0, slots := 0, locals := 21 }) [.ref ma, .int n] [zO 13 ma [.int th, .int 0, .int 0, .int 0, .int 0, .int 0, .ref nb, .ref wy, .ref hd, .ref tk]] (xe_i D vwCl (fun (r : Int32) (_ : Unit) => r = 0) (fun _ => [zO 13 ma [.int 1, .int 0, .int 0, .int 0, .int 0, .int 0, .ref nb, .ref wy, .ref hd, .ref tk]])) 0 0 := by
  refine xe_of (by decide) (Nat.le_of_ble_eq_true rfl) ?_
  intro p e s m below meth c ls A Z hr hlocks hin hA hP hD hS hl
  obtain ⟨hx, hb, hml, hown, hK⟩ := id Z
  have hown : s.vm.findClass "QuorumStoreModel" = some m.cls := hown
  have hts := hK.1.at (args := ([.ref ma, .int n] : List Value).toArray)
  have hl : lv_has ls 4 [(0, .ref ma), (1, .int n)] := hl
  refine lv_aload_n hx hb d_P_tick_0 rfl (lv_at hl 0 rfl) ?_
  refine lv_iconst (v := 0) hx hb d_P_tick_1 (by decide) ?_
  refine va_put (ci := 13) (v := .int 0) (ty := tyX13 0) (C := "QuorumStoreModel") (T := TX13) (N := 10) hx hb hts inX13 tyX13 okX13 nmX13 hown hK.2 hP hD hS 0 rfl rfl 0 (by decide) (hts _ k_995) (fun _ h9 => h9) rfl (by decide +kernel) rfl rfl (Nat.le_of_ble_eq_true rfl) d_P_tick_2 (fun H locs hP hD hS => ?_)
  have hP : va_P D vwCl [zO 13 ma [.int 0, .int 0, .int 0, .int 0, .int 0, .int 0, .ref nb, .ref wy, .ref hd, .ref tk]] H := hP
  have hD : va_D A [zO 13 ma [.int 0, .int 0, .int 0, .int 0, .int 0, .int 0, .ref nb, .ref wy, .ref hd, .ref tk]] := hD
  refine lv_iload_n hx hb d_P_tick_5 rfl (lv_at hl 1 rfl) ?_
  refine lv_iconst (v := 1) hx hb d_P_tick_6 (by decide) ?_
  refine lv_icmp_lt (tgt := 16) hx hb d_P_tick_7 (by decide) (fun c_1 => ?_) (fun c_1 => ?_)
  · refine lv_aload_n hx hb d_P_tick_16 rfl (lv_at hl 0 rfl) ?_
    refine lv_iconst (v := 1) hx hb d_P_tick_17 (by decide) ?_
    refine xe_calli (wr := []) (xs_V (As := [.int 1]) (rest := []) Z (C_P_fail l D t ma nb wy hd tk 0 1 H.size) m_P_fail k_1034 k_1036 ks_33 rfl rfl ⟨Nat.le_of_ble_eq_true rfl, Nat.le_of_ble_eq_true rfl⟩ (va_recv hK.2 hP (ci := 13) (q0 := 0) rfl rfl) (xe_pre hK (hP.sub [0] rfl) (hD.sub [0] (by decide) rfl)) rfl hl.1 rfl (Nat.le_of_ble_eq_true rfl) d_P_tick_18 ⟨Nat.le_of_ble_eq_true rfl, Nat.le_of_ble_eq_true rfl⟩) hP hD hS hA [0] [] rfl rfl (by decide) (by decide) (fun r_2 u_ H locs hw hP hD hS => ?_)
    have hP : va_P D vwCl [zO 13 ma [.int 1, .int 0, .int 0, .int 0, .int 0, .int 0, .ref nb, .ref wy, .ref hd, .ref tk]] H := hP
    have hD : va_D A [zO 13 ma [.int 1, .int 0, .int 0, .int 0, .int 0, .int 0, .ref nb, .ref wy, .ref hd, .ref tk]] := hD
    obtain rfl := hw
    exact W.iret hx hb hr (fun t ht hW => ⟨⟨0, (), rfl, rfl, by rw [ht]; exact hP, hD⟩, hS.F ht⟩) hS.2.2 d_P_tick_21
  · refine lv_iload_n hx hb d_P_tick_10 rfl (lv_at hl 1 rfl) ?_
    refine lv_bipush (v := 50) hx hb d_P_tick_11 (by decide) ?_
    refine lv_icmp_le (tgt := 22) hx hb d_P_tick_13 (by decide) (fun c_3 => absurd c_3 (fun h9 => hn.elim c_1 (fun h8 => Int32.not_le.mpr h8 h9))) (fun _ => ?_)
    refine lv_aload_n hx hb d_P_tick_16 rfl (lv_at hl 0 rfl) ?_
    refine lv_iconst (v := 1) hx hb d_P_tick_17 (by decide) ?_
    refine xe_calli (wr := []) (xs_V (As := [.int 1]) (rest := []) Z (C_P_fail l D t ma nb wy hd tk 0 1 H.size) m_P_fail k_1034 k_1036 ks_33 rfl rfl ⟨Nat.le_of_ble_eq_true rfl, Nat.le_of_ble_eq_true rfl⟩ (va_recv hK.2 hP (ci := 13) (q0 := 0) rfl rfl) (xe_pre hK (hP.sub [0] rfl) (hD.sub [0] (by decide) rfl)) rfl hl.1 rfl (Nat.le_of_ble_eq_true rfl) d_P_tick_18 ⟨Nat.le_of_ble_eq_true rfl, Nat.le_of_ble_eq_true rfl⟩) hP hD hS hA [0] [] rfl rfl (by decide) (by decide) (fun r_4 u_ H locs hw hP hD hS => ?_)
    have hP : va_P D vwCl [zO 13 ma [.int 1, .int 0, .int 0, .int 0, .int 0, .int 0, .ref nb, .ref wy, .ref hd, .ref tk]] H := hP
    have hD : va_D A [zO 13 ma [.int 1, .int 0, .int 0, .int 0, .int 0, .int 0, .ref nb, .ref wy, .ref hd, .ref tk]] := hD
    obtain rfl := hw
    exact W.iret hx hb hr (fun t ht hW => ⟨⟨0, (), rfl, rfl, by rw [ht]; exact hP, hD⟩, hS.F ht⟩) hS.2.2 d_P_tick_21
theorem d_P_key_0 : decode c_P_key 0 = .ok (.aload_n 0, 1) := by decide +kernel
theorem d_P_key_1 : decode c_P_key 1 = .ok (.iconst 0, 1) := by decide +kernel
theorem d_P_key_2 : decode c_P_key 2 = .ok (.putfield 42, 3) := by decide +kernel
theorem d_P_key_5 : decode c_P_key 5 = .ok (.iload_n 1, 1) := by decide +kernel
theorem d_P_key_6 : decode c_P_key 6 = .ok (.ifCond .lt 9, 3) := by decide +kernel
theorem d_P_key_9 : decode c_P_key 9 = .ok (.iload_n 1, 1) := by decide +kernel
theorem d_P_key_10 : decode c_P_key 10 = .ok (.bipush 31, 2) := by decide +kernel
theorem d_P_key_12 : decode c_P_key 12 = .ok (.if_icmp .le 9, 3) := by decide +kernel
theorem d_P_key_15 : decode c_P_key 15 = .ok (.aload_n 0, 1) := by decide +kernel
theorem d_P_key_16 : decode c_P_key 16 = .ok (.iconst 1, 1) := by decide +kernel
theorem d_P_key_17 : decode c_P_key 17 = .ok (.invokevirtual 298, 3) := by decide +kernel
theorem d_P_key_20 : decode c_P_key 20 = .ok (.ireturn, 1) := by decide +kernel
set_option maxHeartbeats 4000000 in
set_option maxRecDepth 100000 in
/-- key out of 0 .. 31 -/
theorem C_P_key_1 (l : Launch) (D : va_G) (t : Nat → ClassId) (ma nb wy hd tk : Nat) (th : Int32) (n : Int32) (hn : n < 0 ∨ 32 ≤ n) : xe_C l D vwCl (xTY t) y_P_key c_P_key 3 (Option.some FieldType.int) ({ frames := 1, cells := 0, slots := 0, locals := 21 }) [.ref ma, .int n] [zO 13 ma [.int th, .int 0, .int 0, .int 0, .int 0, .int 0, .ref nb, .ref wy, .ref hd, .ref tk]] (xe_i D vwCl (fun (r : Int32) (_ : Unit) => r = 0) (fun _ => [zO 13 ma [.int 1, .int 0, .int 0, .int 0, .int 0, .int 0, .ref nb, .ref wy, .ref hd, .ref tk]])) 0 0 := by
  refine xe_of (by decide) (Nat.le_of_ble_eq_true rfl) ?_
  intro p e s m below meth c ls A Z hr hlocks hin hA hP hD hS hl
  obtain ⟨hx, hb, hml, hown, hK⟩ := id Z
  have hown : s.vm.findClass "QuorumStoreModel" = some m.cls := hown
  have hts := hK.1.at (args := ([.ref ma, .int n] : List Value).toArray)
  have hl : lv_has ls 3 [(0, .ref ma), (1, .int n)] := hl
  refine lv_aload_n hx hb d_P_key_0 rfl (lv_at hl 0 rfl) ?_
  refine lv_iconst (v := 0) hx hb d_P_key_1 (by decide) ?_
  refine va_put (ci := 13) (v := .int 0) (ty := tyX13 0) (C := "QuorumStoreModel") (T := TX13) (N := 10) hx hb hts inX13 tyX13 okX13 nmX13 hown hK.2 hP hD hS 0 rfl rfl 0 (by decide) (hts _ k_995) (fun _ h9 => h9) rfl (by decide +kernel) rfl rfl (Nat.le_of_ble_eq_true rfl) d_P_key_2 (fun H locs hP hD hS => ?_)
  have hP : va_P D vwCl [zO 13 ma [.int 0, .int 0, .int 0, .int 0, .int 0, .int 0, .ref nb, .ref wy, .ref hd, .ref tk]] H := hP
  have hD : va_D A [zO 13 ma [.int 0, .int 0, .int 0, .int 0, .int 0, .int 0, .ref nb, .ref wy, .ref hd, .ref tk]] := hD
  refine lv_iload_n hx hb d_P_key_5 rfl (lv_at hl 1 rfl) ?_
  refine lv_if_lt (tgt := 15) hx hb d_P_key_6 (by decide) (fun c_1 => ?_) (fun c_1 => ?_)
  · refine lv_aload_n hx hb d_P_key_15 rfl (lv_at hl 0 rfl) ?_
    refine lv_iconst (v := 1) hx hb d_P_key_16 (by decide) ?_
    refine xe_calli (wr := []) (xs_V (As := [.int 1]) (rest := []) Z (C_P_fail l D t ma nb wy hd tk 0 1 H.size) m_P_fail k_1034 k_1036 ks_33 rfl rfl ⟨Nat.le_of_ble_eq_true rfl, Nat.le_of_ble_eq_true rfl⟩ (va_recv hK.2 hP (ci := 13) (q0 := 0) rfl rfl) (xe_pre hK (hP.sub [0] rfl) (hD.sub [0] (by decide) rfl)) rfl hl.1 rfl (Nat.le_of_ble_eq_true rfl) d_P_key_17 ⟨Nat.le_of_ble_eq_true rfl, Nat.le_of_ble_eq_true rfl⟩) hP hD hS hA [0] [] rfl rfl (by decide) (by decide) (fun r_2 u_ H locs hw hP hD hS => ?_)
    have hP : va_P D vwCl [zO 13 ma [.int 1, .int 0, .int 0, .int 0, .int 0, .int 0, .ref nb, .ref wy, .ref hd, .ref tk]] H := hP
    have hD : va_D A [zO 13 ma [.int 1, .int 0, .int 0, .int 0, .int 0, .int 0, .ref nb, .ref wy, .ref hd, .ref tk]] := hD
    obtain rfl := hw
    exact W.iret hx hb hr (fun t ht hW => ⟨⟨0, (), rfl, rfl, by rw [ht]; exact hP, hD⟩, hS.F ht⟩) hS.2.2 d_P_key_20
  · refine lv_iload_n hx hb d_P_key_9 rfl (lv_at hl 1 rfl) ?_
    refine lv_bipush (v := 31) hx hb d_P_key_10 (by decide) ?_
    refine lv_icmp_le (tgt := 21) hx hb d_P_key_12 (by decide) (fun c_3 => absurd c_3 (fun h9 => hn.elim c_1 (fun h8 => absurd (Int32.le_trans h8 h9) (by decide)))) (fun _ => ?_)
    refine lv_aload_n hx hb d_P_key_15 rfl (lv_at hl 0 rfl) ?_
    refine lv_iconst (v := 1) hx hb d_P_key_16 (by decide) ?_
    refine xe_calli (wr := []) (xs_V (As := [.int 1]) (rest := []) Z (C_P_fail l D t ma nb wy hd tk 0 1 H.size) m_P_fail k_1034 k_1036 ks_33 rfl rfl ⟨Nat.le_of_ble_eq_true rfl, Nat.le_of_ble_eq_true rfl⟩ (va_recv hK.2 hP (ci := 13) (q0 := 0) rfl rfl) (xe_pre hK (hP.sub [0] rfl) (hD.sub [0] (by decide) rfl)) rfl hl.1 rfl (Nat.le_of_ble_eq_true rfl) d_P_key_17 ⟨Nat.le_of_ble_eq_true rfl, Nat.le_of_ble_eq_true rfl⟩) hP hD hS hA [0] [] rfl rfl (by decide) (by decide) (fun r_4 u_ H locs hw hP hD hS => ?_)
    have hP : va_P D vwCl [zO 13 ma [.int 1, .int 0, .int 0, .int 0, .int 0, .int 0, .ref nb, .ref wy, .ref hd, .ref tk]] H := hP
    have hD : va_D A [zO 13 ma [.int 1, .int 0, .int 0, .int 0, .int 0, .int 0, .ref nb, .ref wy, .ref hd, .ref tk]] := hD
    obtain rfl := hw
    exact W.iret hx hb hr (fun t ht hW => ⟨⟨0, (), rfl, rfl, by rw [ht]; exact hP, hD⟩, hS.F ht⟩) hS.2.2 d_P_key_20
theorem d_P_key_21 : decode c_P_key 21 = .ok (.aload_n 0, 1) := by decide +kernel
theorem d_P_key_22 : decode c_P_key 22 = .ok (.getfield 320, 3) := by decide +kernel
theorem d_P_key_25 : decode c_P_key 25 = .ok (.istore_n 2, 1) := by decide +kernel
theorem d_P_key_26 : decode c_P_key 26 = .ok (.aload_n 0, 1) := by decide +kernel
theorem d_P_key_27 : decode c_P_key 27 = .ok (.iload_n 1, 1) := by decide +kernel
theorem d_P_key_28 : decode c_P_key 28 = .ok (.putfield 320, 3) := by decide +kernel
theorem d_P_key_31 : decode c_P_key 31 = .ok (.iload_n 2, 1) := by decide +kernel
theorem d_P_key_32 : decode c_P_key 32 = .ok (.ireturn, 1) := by decide +kernel
set_option maxHeartbeats 4000000 in
set_option maxRecDepth 100000 in
/-- key -/
theorem C_P_key (l : Launch) (D : va_G) (t : Nat → ClassId) (ma nb wy hd tk : Nat) (th : Int32) (j : Nat) (hj : j < 32) : xe_C l D vwCl (xTY t) y_P_key c_P_key 3 (Option.some FieldType.int) ({ frames := 0, cells := 0, slots := 0, locals := 0 }) [.ref ma, .int (nI j)] [zO 13 ma [.int th, .int 0, .int 0, .int 0, .int 0, .int 0, .ref nb, .ref wy, .ref hd, .ref tk]] (xe_i D vwCl (fun (r : Int32) (_ : Unit) => r = 0) (fun _ => [zO 13 ma [.int 0, .int (nI j), .int 0, .int 0, .int 0, .int 0, .ref nb, .ref wy, .ref hd, .ref tk]])) 0 0 := by
  refine xe_of (by decide) (Nat.le_of_ble_eq_true rfl) ?_
  intro p e s m below meth c ls A Z hr hlocks hin hA hP hD hS hl
  obtain ⟨hx, hb, hml, hown, hK⟩ := id Z
  have hown : s.vm.findClass "QuorumStoreModel" = some m.cls := hown
  have hts := hK.1.at (args := ([.ref ma, .int (nI j)] : List Value).toArray)
  have hl : lv_has ls 3 [(0, .ref ma), (1, .int (nI j))] := hl
  refine lv_aload_n hx hb d_P_key_0 rfl (lv_at hl 0 rfl) ?_
  refine lv_iconst (v := 0) hx hb d_P_key_1 (by decide) ?_
  refine va_put (ci := 13) (v := .int 0) (ty := tyX13 0) (C := "QuorumStoreModel") (T := TX13) (N := 10) hx hb hts inX13 tyX13 okX13 nmX13 hown hK.2 hP hD hS 0 rfl rfl 0 (by decide) (hts _ k_995) (fun _ h9 => h9) rfl (by decide +kernel) rfl rfl (Nat.le_of_ble_eq_true rfl) d_P_key_2 (fun H locs hP hD hS => ?_)
  have hP : va_P D vwCl [zO 13 ma [.int 0, .int 0, .int 0, .int 0, .int 0, .int 0, .ref nb, .ref wy, .ref hd, .ref tk]] H := hP
  have hD : va_D A [zO 13 ma [.int 0, .int 0, .int 0, .int 0, .int 0, .int 0, .ref nb, .ref wy, .ref hd, .ref tk]] := hD
  refine lv_iload_n hx hb d_P_key_5 rfl (lv_at hl 1 rfl) ?_
  refine lv_if_lt (tgt := 15) hx hb d_P_key_6 (by decide) (fun c_1 => absurd c_1 (nI_pos (by omega))) (fun _ => ?_)
  refine lv_iload_n hx hb d_P_key_9 rfl (lv_at hl 1 rfl) ?_
  refine lv_bipush (v := 31) hx hb d_P_key_10 (by decide) ?_
  refine lv_icmp_le (tgt := 21) hx hb d_P_key_12 (by decide) (fun _ => ?_) (fun c_2 => absurd (show nI j ≤ nI 31 from nI_le (by omega) (by decide)) c_2)
  refine lv_aload_n hx hb d_P_key_21 rfl (lv_at hl 0 rfl) ?_
  refine va_get (ci := 13) (C := "QuorumStoreModel") (T := TX13) (N := 10) hx hb hts inX13 hown hK.2 hP 0 rfl rfl 1 (by decide) (hts _ k_996) (fun _ h9 => h9) rfl d_P_key_22 ?_
  refine lv_istore_n (lv' := [(2, .int 0), (0, .ref ma), (1, .int (nI j))]) hx hb d_P_key_25 rfl hl (by decide) rfl (fun ls hl => ?_)
  refine lv_aload_n hx hb d_P_key_26 rfl (lv_at hl 1 rfl) ?_
  refine lv_iload_n hx hb d_P_key_27 rfl (lv_at hl 2 rfl) ?_
  refine va_put (ci := 13) (v := .int (nI j)) (ty := tyX13 1) (C := "QuorumStoreModel") (T := TX13) (N := 10) hx hb hts inX13 tyX13 okX13 nmX13 hown hK.2 hP hD hS 0 rfl rfl 1 (by decide) (hts _ k_996) (fun _ h9 => h9) rfl (by decide +kernel) rfl rfl (Nat.le_of_ble_eq_true rfl) d_P_key_28 (fun H locs hP hD hS => ?_)
  have hP : va_P D vwCl [zO 13 ma [.int 0, .int (nI j), .int 0, .int 0, .int 0, .int 0, .ref nb, .ref wy, .ref hd, .ref tk]] H := hP
  have hD : va_D A [zO 13 ma [.int 0, .int (nI j), .int 0, .int 0, .int 0, .int 0, .ref nb, .ref wy, .ref hd, .ref tk]] := hD
  refine lv_iload_n hx hb d_P_key_31 rfl (lv_at hl 0 rfl) ?_
  exact W.iret hx hb hr (fun t ht hW => ⟨⟨0, (), rfl, rfl, by rw [ht]; exact hP, hD⟩, hS.F ht⟩) hS.2.2 d_P_key_32
theorem d_P_fall_0 : decode c_P_fall 0 = .ok (.aload_n 0, 1) := by decide +kernel
theorem d_P_fall_1 : decode c_P_fall 1 = .ok (.iload_n 1, 1) := by decide +kernel
theorem d_P_fall_2 : decode c_P_fall 2 = .ok (.invokestatic 317, 3) := by decide +kernel
theorem d_P_fall_5 : decode c_P_fall 5 = .ok (.ifCond .eq 7, 3) := by decide +kernel
theorem d_P_fall_8 : decode c_P_fall 8 = .ok (.iconst 1, 1) := by decide +kernel
theorem d_P_fall_9 : decode c_P_fall 9 = .ok (.goto 20, 3) := by decide +kernel
theorem d_P_fall_29 : decode c_P_fall 29 = .ok (.putfield 42, 3) := by decide +kernel
theorem d_P_fall_32 : decode c_P_fall 32 = .ok (.aload_n 0, 1) := by decide +kernel
theorem d_P_fall_33 : decode c_P_fall 33 = .ok (.getfield 42, 3) := by decide +kernel
theorem d_P_fall_36 : decode c_P_fall 36 = .ok (.ifCond .le 4, 3) := by decide +kernel
theorem d_P_fall_39 : decode c_P_fall 39 = .ok (.return_, 1) := by decide +kernel
set_option maxHeartbeats 4000000 in
set_option maxRecDepth 100000 in
/-- P_fall of no node -/
theorem C_P_fall_1 (l : Launch) (D : va_G) (t : Nat → ClassId) (ma nb wy hd tk : Nat) (th : Int32) (n : Int32) (hn : n < 0 ∨ 7 ≤ n) : xe_C l D vwCl (xTY t) y_P_fall c_P_fall 3 (Option.none : Option FieldType) ({ frames := 1, cells := 0, slots := 0, locals := 20 }) [.ref ma, .int n] [zO 13 ma [.int th, .int 0, .int 0, .int 0, .int 0, .int 0, .ref nb, .ref wy, .ref hd, .ref tk]] (xe_v D vwCl (fun _ : Unit => True) (fun _ => [zO 13 ma [.int 1, .int 0, .int 0, .int 0, .int 0, .int 0, .ref nb, .ref wy, .ref hd, .ref tk]])) 0 0 := by
  refine xe_of (by decide) (Nat.le_of_ble_eq_true rfl) ?_
  intro p e s m below meth c ls A Z hr hlocks hin hA hP hD hS hl
  obtain ⟨hx, hb, hml, hown, hK⟩ := id Z
  have hown : s.vm.findClass "QuorumStoreModel" = some m.cls := hown
  have hts := hK.1.at (args := ([.ref ma, .int n] : List Value).toArray)
  have hl : lv_has ls 3 [(0, .ref ma), (1, .int n)] := hl
  refine lv_aload_n hx hb d_P_fall_0 rfl (lv_at hl 0 rfl) ?_
  refine lv_iload_n hx hb d_P_fall_1 rfl (lv_at hl 1 rfl) ?_
  refine xr_call (xs_S (As := [.int n]) (rest := [.ref ma]) Z (C_P_noNode_1 l D t n hn) m_P_noNode k_1217 k_1218 rfl rfl ⟨Nat.le_of_ble_eq_true rfl, Nat.le_of_ble_eq_true rfl⟩ (xr_pre hK (hP.sub [] rfl)) rfl hl.1 rfl (Nat.le_of_ble_eq_true rfl) d_P_fall_2 ⟨Nat.le_of_ble_eq_true rfl, Nat.le_of_ble_eq_true rfl⟩) ?_
  refine lv_if_eq (tgt := 12) hx hb d_P_fall_5 (by decide) (fun c_1 => absurd c_1 (by decide)) (fun _ => ?_)
  refine lv_iconst (v := 1) hx hb d_P_fall_8 (by decide) ?_
  refine lv_goto (tgt := 29) hx hb d_P_fall_9 (by decide) ?_
  refine va_put (ci := 13) (v := .int 1) (ty := tyX13 0) (C := "QuorumStoreModel") (T := TX13) (N := 10) hx hb hts inX13 tyX13 okX13 nmX13 hown hK.2 hP hD hS 0 rfl rfl 0 (by decide) (hts _ k_995) (fun _ h9 => h9) rfl (by decide +kernel) rfl rfl (Nat.le_of_ble_eq_true rfl) d_P_fall_29 (fun H locs hP hD hS => ?_)
  have hP : va_P D vwCl [zO 13 ma [.int 1, .int 0, .int 0, .int 0, .int 0, .int 0, .ref nb, .ref wy, .ref hd, .ref tk]] H := hP
  have hD : va_D A [zO 13 ma [.int 1, .int 0, .int 0, .int 0, .int 0, .int 0, .ref nb, .ref wy, .ref hd, .ref tk]] := hD
  refine lv_aload_n hx hb d_P_fall_32 rfl (lv_at hl 0 rfl) ?_
  refine va_get (ci := 13) (C := "QuorumStoreModel") (T := TX13) (N := 10) hx hb hts inX13 hown hK.2 hP 0 rfl rfl 0 (by decide) (hts _ k_995) (fun _ h9 => h9) rfl d_P_fall_33 ?_
  refine lv_if_le (tgt := 40) hx hb d_P_fall_36 (by decide) (fun c_2 => absurd c_2 (by decide)) (fun _ => ?_)
  exact W.vret hx hb hr (fun t ht hW => ⟨⟨(), rfl, trivial, by rw [ht]; exact hP, hD⟩, hS.F ht⟩) hS.2.2 d_P_fall_39
theorem d_P_rise_0 : decode c_P_rise 0 = .ok (.aload_n 0, 1) := by decide +kernel
theorem d_P_rise_1 : decode c_P_rise 1 = .ok (.iload_n 1, 1) := by decide +kernel
theorem d_P_rise_2 : decode c_P_rise 2 = .ok (.invokestatic 317, 3) := by decide +kernel
theorem d_P_rise_5 : decode c_P_rise 5 = .ok (.ifCond .eq 7, 3) := by decide +kernel
theorem d_P_rise_8 : decode c_P_rise 8 = .ok (.iconst 1, 1) := by decide +kernel
theorem d_P_rise_9 : decode c_P_rise 9 = .ok (.goto 20, 3) := by decide +kernel
theorem d_P_rise_29 : decode c_P_rise 29 = .ok (.putfield 42, 3) := by decide +kernel
theorem d_P_rise_32 : decode c_P_rise 32 = .ok (.aload_n 0, 1) := by decide +kernel
theorem d_P_rise_33 : decode c_P_rise 33 = .ok (.getfield 42, 3) := by decide +kernel
theorem d_P_rise_36 : decode c_P_rise 36 = .ok (.ifCond .le 4, 3) := by decide +kernel
theorem d_P_rise_39 : decode c_P_rise 39 = .ok (.return_, 1) := by decide +kernel
set_option maxHeartbeats 4000000 in
set_option maxRecDepth 100000 in
/-- P_rise of no node -/
theorem C_P_rise_1 (l : Launch) (D : va_G) (t : Nat → ClassId) (ma nb wy hd tk : Nat) (th : Int32) (n : Int32) (hn : n < 0 ∨ 7 ≤ n) : xe_C l D vwCl (xTY t) y_P_rise c_P_rise 2 (Option.none : Option FieldType) ({ frames := 1, cells := 0, slots := 0, locals := 20 }) [.ref ma, .int n] [zO 13 ma [.int th, .int 0, .int 0, .int 0, .int 0, .int 0, .ref nb, .ref wy, .ref hd, .ref tk]] (xe_v D vwCl (fun _ : Unit => True) (fun _ => [zO 13 ma [.int 1, .int 0, .int 0, .int 0, .int 0, .int 0, .ref nb, .ref wy, .ref hd, .ref tk]])) 0 0 := by
  refine xe_of (by decide) (Nat.le_of_ble_eq_true rfl) ?_
  intro p e s m below meth c ls A Z hr hlocks hin hA hP hD hS hl
  obtain ⟨hx, hb, hml, hown, hK⟩ := id Z
  have hown : s.vm.findClass "QuorumStoreModel" = some m.cls := hown
  have hts := hK.1.at (args := ([.ref ma, .int n] : List Value).toArray)
  have hl : lv_has ls 2 [(0, .ref ma), (1, .int n)] := hl
  refine lv_aload_n hx hb d_P_rise_0 rfl (lv_at hl 0 rfl) ?_
  refine lv_iload_n hx hb d_P_rise_1 rfl (lv_at hl 1 rfl) ?_
  refine xr_call (xs_S (As := [.int n]) (rest := [.ref ma]) Z (C_P_noNode_1 l D t n hn) m_P_noNode k_1217 k_1218 rfl rfl ⟨Nat.le_of_ble_eq_true rfl, Nat.le_of_ble_eq_true rfl⟩ (xr_pre hK (hP.sub [] rfl)) rfl hl.1 rfl (Nat.le_of_ble_eq_true rfl) d_P_rise_2 ⟨Nat.le_of_ble_eq_true rfl, Nat.le_of_ble_eq_true rfl⟩) ?_
  refine lv_if_eq (tgt := 12) hx hb d_P_rise_5 (by decide) (fun c_1 => absurd c_1 (by decide)) (fun _ => ?_)
  refine lv_iconst (v := 1) hx hb d_P_rise_8 (by decide) ?_
  refine lv_goto (tgt := 29) hx hb d_P_rise_9 (by decide) ?_
  refine va_put (ci := 13) (v := .int 1) (ty := tyX13 0) (C := "QuorumStoreModel") (T := TX13) (N := 10) hx hb hts inX13 tyX13 okX13 nmX13 hown hK.2 hP hD hS 0 rfl rfl 0 (by decide) (hts _ k_995) (fun _ h9 => h9) rfl (by decide +kernel) rfl rfl (Nat.le_of_ble_eq_true rfl) d_P_rise_29 (fun H locs hP hD hS => ?_)
  have hP : va_P D vwCl [zO 13 ma [.int 1, .int 0, .int 0, .int 0, .int 0, .int 0, .ref nb, .ref wy, .ref hd, .ref tk]] H := hP
  have hD : va_D A [zO 13 ma [.int 1, .int 0, .int 0, .int 0, .int 0, .int 0, .ref nb, .ref wy, .ref hd, .ref tk]] := hD
  refine lv_aload_n hx hb d_P_rise_32 rfl (lv_at hl 0 rfl) ?_
  refine va_get (ci := 13) (C := "QuorumStoreModel") (T := TX13) (N := 10) hx hb hts inX13 hown hK.2 hP 0 rfl rfl 0 (by decide) (hts _ k_995) (fun _ h9 => h9) rfl d_P_rise_33 ?_
  refine lv_if_le (tgt := 40) hx hb d_P_rise_36 (by decide) (fun c_2 => absurd c_2 (by decide)) (fun _ => ?_)
  exact W.vret hx hb hr (fun t ht hW => ⟨⟨(), rfl, trivial, by rw [ht]; exact hP, hD⟩, hS.F ht⟩) hS.2.2 d_P_rise_39
theorem d_P_ask_0 : decode c_P_ask 0 = .ok (.aload_n 0, 1) := by decide +kernel
theorem d_P_ask_1 : decode c_P_ask 1 = .ok (.iconst 0, 1) := by decide +kernel
theorem d_P_ask_2 : decode c_P_ask 2 = .ok (.putfield 42, 3) := by decide +kernel
theorem d_P_ask_5 : decode c_P_ask 5 = .ok (.iload_n 1, 1) := by decide +kernel
theorem d_P_ask_6 : decode c_P_ask 6 = .ok (.invokestatic 317, 3) := by decide +kernel
theorem d_P_ask_9 : decode c_P_ask 9 = .ok (.ifCond .ne 13, 3) := by decide +kernel
theorem d_P_ask_22 : decode c_P_ask 22 = .ok (.aload_n 0, 1) := by decide +kernel
theorem d_P_ask_23 : decode c_P_ask 23 = .ok (.iconst 1, 1) := by decide +kernel
theorem d_P_ask_24 : decode c_P_ask 24 = .ok (.invokevirtual 298, 3) := by decide +kernel
theorem d_P_ask_27 : decode c_P_ask 27 = .ok (.ireturn, 1) := by decide +kernel
set_option maxHeartbeats 4000000 in
set_option maxRecDepth 100000 in
/-- ask of no node -/
theorem C_P_ask_1 (l : Launch) (D : va_G) (t : Nat → ClassId) (ma nb wy hd tk : Nat) (th : Int32) (n a2 a3 a4 a5 a6 : Int32) (hn : n < 0 ∨ 7 ≤ n) : xe_C l D vwCl (xTY t) y_P_ask c_P_ask 9 (Option.some FieldType.int) ({ frames := 1, cells := 0, slots := 0, locals := 21 }) [.ref ma, .int n, .int a2, .int a3, .int a4, .int a5, .int a6] [zO 13 ma [.int th, .int 0, .int 0, .int 0, .int 0, .int 0, .ref nb, .ref wy, .ref hd, .ref tk]] (xe_i D vwCl (fun (r : Int32) (_ : Unit) => r = 0) (fun _ => [zO 13 ma [.int 1, .int 0, .int 0, .int 0, .int 0, .int 0, .ref nb, .ref wy, .ref hd, .ref tk]])) 0 0 := by
  refine xe_of (by decide) (Nat.le_of_ble_eq_true rfl) ?_
  intro p e s m below meth c ls A Z hr hlocks hin hA hP hD hS hl
  obtain ⟨hx, hb, hml, hown, hK⟩ := id Z
  have hown : s.vm.findClass "QuorumStoreModel" = some m.cls := hown
  have hts := hK.1.at (args := ([.ref ma, .int n, .int a2, .int a3, .int a4, .int a5, .int a6] : List Value).toArray)
  have hl : lv_has ls 9 [(0, .ref ma), (1, .int n), (2, .int a2), (3, .int a3), (4, .int a4), (5, .int a5), (6, .int a6)] := hl
  refine lv_aload_n hx hb d_P_ask_0 rfl (lv_at hl 0 rfl) ?_
  refine lv_iconst (v := 0) hx hb d_P_ask_1 (by decide) ?_
  refine va_put (ci := 13) (v := .int 0) (ty := tyX13 0) (C := "QuorumStoreModel") (T := TX13) (N := 10) hx hb hts inX13 tyX13 okX13 nmX13 hown hK.2 hP hD hS 0 rfl rfl 0 (by decide) (hts _ k_995) (fun _ h9 => h9) rfl (by decide +kernel) rfl rfl (Nat.le_of_ble_eq_true rfl) d_P_ask_2 (fun H locs hP hD hS => ?_)
  have hP : va_P D vwCl [zO 13 ma [.int 0, .int 0, .int 0, .int 0, .int 0, .int 0, .ref nb, .ref wy, .ref hd, .ref tk]] H := hP
  have hD : va_D A [zO 13 ma [.int 0, .int 0, .int 0, .int 0, .int 0, .int 0, .ref nb, .ref wy, .ref hd, .ref tk]] := hD
  refine lv_iload_n hx hb d_P_ask_5 rfl (lv_at hl 1 rfl) ?_
  refine xr_call (xs_S (As := [.int n]) (rest := []) Z (C_P_noNode_1 l D t n hn) m_P_noNode k_1217 k_1218 rfl rfl ⟨Nat.le_of_ble_eq_true rfl, Nat.le_of_ble_eq_true rfl⟩ (xr_pre hK (hP.sub [] rfl)) rfl hl.1 rfl (Nat.le_of_ble_eq_true rfl) d_P_ask_6 ⟨Nat.le_of_ble_eq_true rfl, Nat.le_of_ble_eq_true rfl⟩) ?_
  refine lv_if_ne (tgt := 22) hx hb d_P_ask_9 (by decide) (fun _ => ?_) (fun c_1 => absurd c_1 (by decide))
  refine lv_aload_n hx hb d_P_ask_22 rfl (lv_at hl 0 rfl) ?_
  refine lv_iconst (v := 1) hx hb d_P_ask_23 (by decide) ?_
  refine xe_calli (wr := []) (xs_V (As := [.int 1]) (rest := []) Z (C_P_fail l D t ma nb wy hd tk 0 1 H.size) m_P_fail k_1034 k_1036 ks_33 rfl rfl ⟨Nat.le_of_ble_eq_true rfl, Nat.le_of_ble_eq_true rfl⟩ (va_recv hK.2 hP (ci := 13) (q0 := 0) rfl rfl) (xe_pre hK (hP.sub [0] rfl) (hD.sub [0] (by decide) rfl)) rfl hl.1 rfl (Nat.le_of_ble_eq_true rfl) d_P_ask_24 ⟨Nat.le_of_ble_eq_true rfl, Nat.le_of_ble_eq_true rfl⟩) hP hD hS hA [0] [] rfl rfl (by decide) (by decide) (fun r_2 u_ H locs hw hP hD hS => ?_)
  have hP : va_P D vwCl [zO 13 ma [.int 1, .int 0, .int 0, .int 0, .int 0, .int 0, .ref nb, .ref wy, .ref hd, .ref tk]] H := hP
  have hD : va_D A [zO 13 ma [.int 1, .int 0, .int 0, .int 0, .int 0, .int 0, .ref nb, .ref wy, .ref hd, .ref tk]] := hD
  obtain rfl := hw
  exact W.iret hx hb hr (fun t ht hW => ⟨⟨0, (), rfl, rfl, by rw [ht]; exact hP, hD⟩, hS.F ht⟩) hS.2.2 d_P_ask_27
theorem d_P_answer_0 : decode c_P_answer 0 = .ok (.aload_n 0, 1) := by decide +kernel
theorem d_P_answer_1 : decode c_P_answer 1 = .ok (.iconst 0, 1) := by decide +kernel
theorem d_P_answer_2 : decode c_P_answer 2 = .ok (.putfield 42, 3) := by decide +kernel
theorem d_P_answer_5 : decode c_P_answer 5 = .ok (.iload_n 1, 1) := by decide +kernel
theorem d_P_answer_6 : decode c_P_answer 6 = .ok (.invokestatic 317, 3) := by decide +kernel
theorem d_P_answer_9 : decode c_P_answer 9 = .ok (.ifCond .ne 13, 3) := by decide +kernel
theorem d_P_answer_22 : decode c_P_answer 22 = .ok (.aload_n 0, 1) := by decide +kernel
theorem d_P_answer_23 : decode c_P_answer 23 = .ok (.iconst 1, 1) := by decide +kernel
theorem d_P_answer_24 : decode c_P_answer 24 = .ok (.invokevirtual 298, 3) := by decide +kernel
theorem d_P_answer_27 : decode c_P_answer 27 = .ok (.i2l, 1) := by decide +kernel
theorem d_P_answer_28 : decode c_P_answer 28 = .ok (.lreturn, 1) := by decide +kernel
set_option maxHeartbeats 4000000 in
set_option maxRecDepth 100000 in
/-- answer of no node -/
theorem C_P_answer_1 (l : Launch) (D : va_G) (t : Nat → ClassId) (ma nb wy hd tk : Nat) (th : Int32) (n a2 a3 : Int32) (hn : n < 0 ∨ 7 ≤ n) : xe_C l D vwCl (xTY t) y_P_answer c_P_answer 4 (Option.some FieldType.long) ({ frames := 1, cells := 0, slots := 0, locals := 21 }) [.ref ma, .int n, .int a2, .int a3] [zO 13 ma [.int th, .int 0, .int 0, .int 0, .int 0, .int 0, .ref nb, .ref wy, .ref hd, .ref tk]] (xe_l D vwCl (fun (r : Int64) (_ : Unit) => r = 0) (fun _ => [zO 13 ma [.int 1, .int 0, .int 0, .int 0, .int 0, .int 0, .ref nb, .ref wy, .ref hd, .ref tk]])) 0 0 := by
  refine xe_of (by decide) (Nat.le_of_ble_eq_true rfl) ?_
  intro p e s m below meth c ls A Z hr hlocks hin hA hP hD hS hl
  obtain ⟨hx, hb, hml, hown, hK⟩ := id Z
  have hown : s.vm.findClass "QuorumStoreModel" = some m.cls := hown
  have hts := hK.1.at (args := ([.ref ma, .int n, .int a2, .int a3] : List Value).toArray)
  have hl : lv_has ls 4 [(0, .ref ma), (1, .int n), (2, .int a2), (3, .int a3)] := hl
  refine lv_aload_n hx hb d_P_answer_0 rfl (lv_at hl 0 rfl) ?_
  refine lv_iconst (v := 0) hx hb d_P_answer_1 (by decide) ?_
  refine va_put (ci := 13) (v := .int 0) (ty := tyX13 0) (C := "QuorumStoreModel") (T := TX13) (N := 10) hx hb hts inX13 tyX13 okX13 nmX13 hown hK.2 hP hD hS 0 rfl rfl 0 (by decide) (hts _ k_995) (fun _ h9 => h9) rfl (by decide +kernel) rfl rfl (Nat.le_of_ble_eq_true rfl) d_P_answer_2 (fun H locs hP hD hS => ?_)
  have hP : va_P D vwCl [zO 13 ma [.int 0, .int 0, .int 0, .int 0, .int 0, .int 0, .ref nb, .ref wy, .ref hd, .ref tk]] H := hP
  have hD : va_D A [zO 13 ma [.int 0, .int 0, .int 0, .int 0, .int 0, .int 0, .ref nb, .ref wy, .ref hd, .ref tk]] := hD
  refine lv_iload_n hx hb d_P_answer_5 rfl (lv_at hl 1 rfl) ?_
  refine xr_call (xs_S (As := [.int n]) (rest := []) Z (C_P_noNode_1 l D t n hn) m_P_noNode k_1217 k_1218 rfl rfl ⟨Nat.le_of_ble_eq_true rfl, Nat.le_of_ble_eq_true rfl⟩ (xr_pre hK (hP.sub [] rfl)) rfl hl.1 rfl (Nat.le_of_ble_eq_true rfl) d_P_answer_6 ⟨Nat.le_of_ble_eq_true rfl, Nat.le_of_ble_eq_true rfl⟩) ?_
  refine lv_if_ne (tgt := 22) hx hb d_P_answer_9 (by decide) (fun _ => ?_) (fun c_1 => absurd c_1 (by decide))
  refine lv_aload_n hx hb d_P_answer_22 rfl (lv_at hl 0 rfl) ?_
  refine lv_iconst (v := 1) hx hb d_P_answer_23 (by decide) ?_
  refine xe_calli (wr := []) (xs_V (As := [.int 1]) (rest := []) Z (C_P_fail l D t ma nb wy hd tk 0 1 H.size) m_P_fail k_1034 k_1036 ks_33 rfl rfl ⟨Nat.le_of_ble_eq_true rfl, Nat.le_of_ble_eq_true rfl⟩ (va_recv hK.2 hP (ci := 13) (q0 := 0) rfl rfl) (xe_pre hK (hP.sub [0] rfl) (hD.sub [0] (by decide) rfl)) rfl hl.1 rfl (Nat.le_of_ble_eq_true rfl) d_P_answer_24 ⟨Nat.le_of_ble_eq_true rfl, Nat.le_of_ble_eq_true rfl⟩) hP hD hS hA [0] [] rfl rfl (by decide) (by decide) (fun r_2 u_ H locs hw hP hD hS => ?_)
  have hP : va_P D vwCl [zO 13 ma [.int 1, .int 0, .int 0, .int 0, .int 0, .int 0, .ref nb, .ref wy, .ref hd, .ref tk]] H := hP
  have hD : va_D A [zO 13 ma [.int 1, .int 0, .int 0, .int 0, .int 0, .int 0, .ref nb, .ref wy, .ref hd, .ref tk]] := hD
  obtain rfl := hw
  refine lv_i2l (v := (0 : Int32).toInt64) hx hb d_P_answer_27 rfl ?_
  exact W.lret hx hb hr (fun t ht hW => ⟨⟨0, (), rfl, rfl, by rw [ht]; exact hP, hD⟩, hS.F ht⟩) hS.2.2 d_P_answer_28
theorem d_P_number_0 : decode c_P_number 0 = .ok (.aload_n 0, 1) := by decide +kernel
theorem d_P_number_1 : decode c_P_number 1 = .ok (.iconst 0, 1) := by decide +kernel
theorem d_P_number_2 : decode c_P_number 2 = .ok (.putfield 42, 3) := by decide +kernel
theorem d_P_number_5 : decode c_P_number 5 = .ok (.iload_n 1, 1) := by decide +kernel
theorem d_P_number_6 : decode c_P_number 6 = .ok (.invokestatic 317, 3) := by decide +kernel
theorem d_P_number_9 : decode c_P_number 9 = .ok (.ifCond .ne 13, 3) := by decide +kernel
theorem d_P_number_22 : decode c_P_number 22 = .ok (.aload_n 0, 1) := by decide +kernel
theorem d_P_number_23 : decode c_P_number 23 = .ok (.iconst 1, 1) := by decide +kernel
theorem d_P_number_24 : decode c_P_number 24 = .ok (.invokevirtual 298, 3) := by decide +kernel
theorem d_P_number_27 : decode c_P_number 27 = .ok (.i2l, 1) := by decide +kernel
theorem d_P_number_28 : decode c_P_number 28 = .ok (.lreturn, 1) := by decide +kernel
set_option maxHeartbeats 4000000 in
set_option maxRecDepth 100000 in
/-- number of no node -/
theorem C_P_number_1 (l : Launch) (D : va_G) (t : Nat → ClassId) (ma nb wy hd tk : Nat) (th : Int32) (n a2 : Int32) (hn : n < 0 ∨ 7 ≤ n) : xe_C l D vwCl (xTY t) y_P_number c_P_number 3 (Option.some FieldType.long) ({ frames := 1, cells := 0, slots := 0, locals := 21 }) [.ref ma, .int n, .int a2] [zO 13 ma [.int th, .int 0, .int 0, .int 0, .int 0, .int 0, .ref nb, .ref wy, .ref hd, .ref tk]] (xe_l D vwCl (fun (r : Int64) (_ : Unit) => r = 0) (fun _ => [zO 13 ma [.int 1, .int 0, .int 0, .int 0, .int 0, .int 0, .ref nb, .ref wy, .ref hd, .ref tk]])) 0 0 := by
  refine xe_of (by decide) (Nat.le_of_ble_eq_true rfl) ?_
  intro p e s m below meth c ls A Z hr hlocks hin hA hP hD hS hl
  obtain ⟨hx, hb, hml, hown, hK⟩ := id Z
  have hown : s.vm.findClass "QuorumStoreModel" = some m.cls := hown
  have hts := hK.1.at (args := ([.ref ma, .int n, .int a2] : List Value).toArray)
  have hl : lv_has ls 3 [(0, .ref ma), (1, .int n), (2, .int a2)] := hl
  refine lv_aload_n hx hb d_P_number_0 rfl (lv_at hl 0 rfl) ?_
  refine lv_iconst (v := 0) hx hb d_P_number_1 (by decide) ?_
  refine va_put (ci := 13) (v := .int 0) (ty := tyX13 0) (C := "QuorumStoreModel") (T := TX13) (N := 10) hx hb hts inX13 tyX13 okX13 nmX13 hown hK.2 hP hD hS 0 rfl rfl 0 (by decide) (hts _ k_995) (fun _ h9 => h9) rfl (by decide +kernel) rfl rfl (Nat.le_of_ble_eq_true rfl) d_P_number_2 (fun H locs hP hD hS => ?_)
  have hP : va_P D vwCl [zO 13 ma [.int 0, .int 0, .int 0, .int 0, .int 0, .int 0, .ref nb, .ref wy, .ref hd, .ref tk]] H := hP
  have hD : va_D A [zO 13 ma [.int 0, .int 0, .int 0, .int 0, .int 0, .int 0, .ref nb, .ref wy, .ref hd, .ref tk]] := hD
  refine lv_iload_n hx hb d_P_number_5 rfl (lv_at hl 1 rfl) ?_
  refine xr_call (xs_S (As := [.int n]) (rest := []) Z (C_P_noNode_1 l D t n hn) m_P_noNode k_1217 k_1218 rfl rfl ⟨Nat.le_of_ble_eq_true rfl, Nat.le_of_ble_eq_true rfl⟩ (xr_pre hK (hP.sub [] rfl)) rfl hl.1 rfl (Nat.le_of_ble_eq_true rfl) d_P_number_6 ⟨Nat.le_of_ble_eq_true rfl, Nat.le_of_ble_eq_true rfl⟩) ?_
  refine lv_if_ne (tgt := 22) hx hb d_P_number_9 (by decide) (fun _ => ?_) (fun c_1 => absurd c_1 (by decide))
  refine lv_aload_n hx hb d_P_number_22 rfl (lv_at hl 0 rfl) ?_
  refine lv_iconst (v := 1) hx hb d_P_number_23 (by decide) ?_
  refine xe_calli (wr := []) (xs_V (As := [.int 1]) (rest := []) Z (C_P_fail l D t ma nb wy hd tk 0 1 H.size) m_P_fail k_1034 k_1036 ks_33 rfl rfl ⟨Nat.le_of_ble_eq_true rfl, Nat.le_of_ble_eq_true rfl⟩ (va_recv hK.2 hP (ci := 13) (q0 := 0) rfl rfl) (xe_pre hK (hP.sub [0] rfl) (hD.sub [0] (by decide) rfl)) rfl hl.1 rfl (Nat.le_of_ble_eq_true rfl) d_P_number_24 ⟨Nat.le_of_ble_eq_true rfl, Nat.le_of_ble_eq_true rfl⟩) hP hD hS hA [0] [] rfl rfl (by decide) (by decide) (fun r_2 u_ H locs hw hP hD hS => ?_)
  have hP : va_P D vwCl [zO 13 ma [.int 1, .int 0, .int 0, .int 0, .int 0, .int 0, .ref nb, .ref wy, .ref hd, .ref tk]] H := hP
  have hD : va_D A [zO 13 ma [.int 1, .int 0, .int 0, .int 0, .int 0, .int 0, .ref nb, .ref wy, .ref hd, .ref tk]] := hD
  obtain rfl := hw
  refine lv_i2l (v := (0 : Int32).toInt64) hx hb d_P_number_27 rfl ?_
  exact W.lret hx hb hr (fun t ht hW => ⟨⟨0, (), rfl, rfl, by rw [ht]; exact hP, hD⟩, hS.F ht⟩) hS.2.2 d_P_number_28
theorem d_P_known_0 : decode c_P_known 0 = .ok (.aload_n 0, 1) := by decide +kernel
theorem d_P_known_1 : decode c_P_known 1 = .ok (.iconst 0, 1) := by decide +kernel
theorem d_P_known_2 : decode c_P_known 2 = .ok (.putfield 42, 3) := by decide +kernel
theorem d_P_known_5 : decode c_P_known 5 = .ok (.iload_n 1, 1) := by decide +kernel
theorem d_P_known_6 : decode c_P_known 6 = .ok (.invokestatic 317, 3) := by decide +kernel
theorem d_P_known_9 : decode c_P_known 9 = .ok (.ifCond .eq 7, 3) := by decide +kernel
theorem d_P_known_12 : decode c_P_known 12 = .ok (.iconst (-1), 1) := by decide +kernel
theorem d_P_known_13 : decode c_P_known 13 = .ok (.goto 16, 3) := by decide +kernel
theorem d_P_known_29 : decode c_P_known 29 = .ok (.istore 4, 2) := by decide +kernel
theorem d_P_known_31 : decode c_P_known 31 = .ok (.iload 4, 2) := by decide +kernel
theorem d_P_known_33 : decode c_P_known 33 = .ok (.ifCond .ge 9, 3) := by decide +kernel
theorem d_P_known_36 : decode c_P_known 36 = .ok (.aload_n 0, 1) := by decide +kernel
theorem d_P_known_37 : decode c_P_known 37 = .ok (.iconst 1, 1) := by decide +kernel
theorem d_P_known_38 : decode c_P_known 38 = .ok (.invokevirtual 298, 3) := by decide +kernel
theorem d_P_known_41 : decode c_P_known 41 = .ok (.ireturn, 1) := by decide +kernel
set_option maxHeartbeats 4000000 in
set_option maxRecDepth 100000 in
/-- known of no node -/
theorem C_P_known_1 (l : Launch) (D : va_G) (t : Nat → ClassId) (ma nb wy hd tk : Nat) (th : Int32) (n a2 a3 : Int32) (hn : n < 0 ∨ 7 ≤ n) : xe_C l D vwCl (xTY t) y_P_known c_P_known 6 (Option.some FieldType.int) ({ frames := 1, cells := 0, slots := 0, locals := 21 }) [.ref ma, .int n, .int a2, .int a3] [zO 13 ma [.int th, .int 0, .int 0, .int 0, .int 0, .int 0, .ref nb, .ref wy, .ref hd, .ref tk]] (xe_i D vwCl (fun (r : Int32) (_ : Unit) => r = 0) (fun _ => [zO 13 ma [.int 1, .int 0, .int 0, .int 0, .int 0, .int 0, .ref nb, .ref wy, .ref hd, .ref tk]])) 0 0 := by
  refine xe_of (by decide) (Nat.le_of_ble_eq_true rfl) ?_
  intro p e s m below meth c ls A Z hr hlocks hin hA hP hD hS hl
  obtain ⟨hx, hb, hml, hown, hK⟩ := id Z
  have hown : s.vm.findClass "QuorumStoreModel" = some m.cls := hown
  have hts := hK.1.at (args := ([.ref ma, .int n, .int a2, .int a3] : List Value).toArray)
  have hl : lv_has ls 6 [(0, .ref ma), (1, .int n), (2, .int a2), (3, .int a3)] := hl
  refine lv_aload_n hx hb d_P_known_0 rfl (lv_at hl 0 rfl) ?_
  refine lv_iconst (v := 0) hx hb d_P_known_1 (by decide) ?_
  refine va_put (ci := 13) (v := .int 0) (ty := tyX13 0) (C := "QuorumStoreModel") (T := TX13) (N := 10) hx hb hts inX13 tyX13 okX13 nmX13 hown hK.2 hP hD hS 0 rfl rfl 0 (by decide) (hts _ k_995) (fun _ h9 => h9) rfl (by decide +kernel) rfl rfl (Nat.le_of_ble_eq_true rfl) d_P_known_2 (fun H locs hP hD hS => ?_)
  have hP : va_P D vwCl [zO 13 ma [.int 0, .int 0, .int 0, .int 0, .int 0, .int 0, .ref nb, .ref wy, .ref hd, .ref tk]] H := hP
  have hD : va_D A [zO 13 ma [.int 0, .int 0, .int 0, .int 0, .int 0, .int 0, .ref nb, .ref wy, .ref hd, .ref tk]] := hD
  refine lv_iload_n hx hb d_P_known_5 rfl (lv_at hl 1 rfl) ?_
  refine xr_call (xs_S (As := [.int n]) (rest := []) Z (C_P_noNode_1 l D t n hn) m_P_noNode k_1217 k_1218 rfl rfl ⟨Nat.le_of_ble_eq_true rfl, Nat.le_of_ble_eq_true rfl⟩ (xr_pre hK (hP.sub [] rfl)) rfl hl.1 rfl (Nat.le_of_ble_eq_true rfl) d_P_known_6 ⟨Nat.le_of_ble_eq_true rfl, Nat.le_of_ble_eq_true rfl⟩) ?_
  refine lv_if_eq (tgt := 16) hx hb d_P_known_9 (by decide) (fun c_1 => absurd c_1 (by decide)) (fun _ => ?_)
  refine lv_iconst (v := (-1)) hx hb d_P_known_12 (by decide) ?_
  refine lv_goto (tgt := 29) hx hb d_P_known_13 (by decide) ?_
  refine lv_istore (lv' := [(4, .int ((-1))), (0, .ref ma), (1, .int n), (2, .int a2), (3, .int a3)]) hx hb d_P_known_29 hl (by decide) rfl (fun ls hl => ?_)
  refine lv_iload hx hb d_P_known_31 (lv_at hl 0 rfl) ?_
  refine lv_if_ge (tgt := 42) hx hb d_P_known_33 (by decide) (fun c_2 => absurd c_2 (by decide)) (fun _ => ?_)
  refine lv_aload_n hx hb d_P_known_36 rfl (lv_at hl 1 rfl) ?_
  refine lv_iconst (v := 1) hx hb d_P_known_37 (by decide) ?_
  refine xe_calli (wr := []) (xs_V (As := [.int 1]) (rest := []) Z (C_P_fail l D t ma nb wy hd tk 0 1 H.size) m_P_fail k_1034 k_1036 ks_33 rfl rfl ⟨Nat.le_of_ble_eq_true rfl, Nat.le_of_ble_eq_true rfl⟩ (va_recv hK.2 hP (ci := 13) (q0 := 0) rfl rfl) (xe_pre hK (hP.sub [0] rfl) (hD.sub [0] (by decide) rfl)) rfl hl.1 rfl (Nat.le_of_ble_eq_true rfl) d_P_known_38 ⟨Nat.le_of_ble_eq_true rfl, Nat.le_of_ble_eq_true rfl⟩) hP hD hS hA [0] [] rfl rfl (by decide) (by decide) (fun r_3 u_ H locs hw hP hD hS => ?_)
  have hP : va_P D vwCl [zO 13 ma [.int 1, .int 0, .int 0, .int 0, .int 0, .int 0, .ref nb, .ref wy, .ref hd, .ref tk]] H := hP
  have hD : va_D A [zO 13 ma [.int 1, .int 0, .int 0, .int 0, .int 0, .int 0, .ref nb, .ref wy, .ref hd, .ref tk]] := hD
  obtain rfl := hw
  exact W.iret hx hb hr (fun t ht hW => ⟨⟨0, (), rfl, rfl, by rw [ht]; exact hP, hD⟩, hS.F ht⟩) hS.2.2 d_P_known_41
theorem d_P_about_0 : decode c_P_about 0 = .ok (.aload_n 0, 1) := by decide +kernel
theorem d_P_about_1 : decode c_P_about 1 = .ok (.iconst 0, 1) := by decide +kernel
theorem d_P_about_2 : decode c_P_about 2 = .ok (.putfield 42, 3) := by decide +kernel
theorem d_P_about_5 : decode c_P_about 5 = .ok (.iload_n 1, 1) := by decide +kernel
theorem d_P_about_6 : decode c_P_about 6 = .ok (.invokestatic 317, 3) := by decide +kernel
theorem d_P_about_9 : decode c_P_about 9 = .ok (.ifCond .eq 9, 3) := by decide +kernel
theorem d_P_about_12 : decode c_P_about 12 = .ok (.aload_n 0, 1) := by decide +kernel
theorem d_P_about_13 : decode c_P_about 13 = .ok (.iconst 1, 1) := by decide +kernel
theorem d_P_about_14 : decode c_P_about 14 = .ok (.invokevirtual 298, 3) := by decide +kernel
theorem d_P_about_17 : decode c_P_about 17 = .ok (.ireturn, 1) := by decide +kernel
set_option maxHeartbeats 4000000 in
set_option maxRecDepth 100000 in
/-- about of no node -/
theorem C_P_about_1 (l : Launch) (D : va_G) (t : Nat → ClassId) (ma nb wy hd tk : Nat) (th : Int32) (n a2 : Int32) (hn : n < 0 ∨ 7 ≤ n) : xe_C l D vwCl (xTY t) y_P_about c_P_about 4 (Option.some FieldType.int) ({ frames := 1, cells := 0, slots := 0, locals := 21 }) [.ref ma, .int n, .int a2] [zO 13 ma [.int th, .int 0, .int 0, .int 0, .int 0, .int 0, .ref nb, .ref wy, .ref hd, .ref tk]] (xe_i D vwCl (fun (r : Int32) (_ : Unit) => r = 0) (fun _ => [zO 13 ma [.int 1, .int 0, .int 0, .int 0, .int 0, .int 0, .ref nb, .ref wy, .ref hd, .ref tk]])) 0 0 := by
  refine xe_of (by decide) (Nat.le_of_ble_eq_true rfl) ?_
  intro p e s m below meth c ls A Z hr hlocks hin hA hP hD hS hl
  obtain ⟨hx, hb, hml, hown, hK⟩ := id Z
  have hown : s.vm.findClass "QuorumStoreModel" = some m.cls := hown
  have hts := hK.1.at (args := ([.ref ma, .int n, .int a2] : List Value).toArray)
  have hl : lv_has ls 4 [(0, .ref ma), (1, .int n), (2, .int a2)] := hl
  refine lv_aload_n hx hb d_P_about_0 rfl (lv_at hl 0 rfl) ?_
  refine lv_iconst (v := 0) hx hb d_P_about_1 (by decide) ?_
  refine va_put (ci := 13) (v := .int 0) (ty := tyX13 0) (C := "QuorumStoreModel") (T := TX13) (N := 10) hx hb hts inX13 tyX13 okX13 nmX13 hown hK.2 hP hD hS 0 rfl rfl 0 (by decide) (hts _ k_995) (fun _ h9 => h9) rfl (by decide +kernel) rfl rfl (Nat.le_of_ble_eq_true rfl) d_P_about_2 (fun H locs hP hD hS => ?_)
  have hP : va_P D vwCl [zO 13 ma [.int 0, .int 0, .int 0, .int 0, .int 0, .int 0, .ref nb, .ref wy, .ref hd, .ref tk]] H := hP
  have hD : va_D A [zO 13 ma [.int 0, .int 0, .int 0, .int 0, .int 0, .int 0, .ref nb, .ref wy, .ref hd, .ref tk]] := hD
  refine lv_iload_n hx hb d_P_about_5 rfl (lv_at hl 1 rfl) ?_
  refine xr_call (xs_S (As := [.int n]) (rest := []) Z (C_P_noNode_1 l D t n hn) m_P_noNode k_1217 k_1218 rfl rfl ⟨Nat.le_of_ble_eq_true rfl, Nat.le_of_ble_eq_true rfl⟩ (xr_pre hK (hP.sub [] rfl)) rfl hl.1 rfl (Nat.le_of_ble_eq_true rfl) d_P_about_6 ⟨Nat.le_of_ble_eq_true rfl, Nat.le_of_ble_eq_true rfl⟩) ?_
  refine lv_if_eq (tgt := 18) hx hb d_P_about_9 (by decide) (fun c_1 => absurd c_1 (by decide)) (fun _ => ?_)
  refine lv_aload_n hx hb d_P_about_12 rfl (lv_at hl 0 rfl) ?_
  refine lv_iconst (v := 1) hx hb d_P_about_13 (by decide) ?_
  refine xe_calli (wr := []) (xs_V (As := [.int 1]) (rest := []) Z (C_P_fail l D t ma nb wy hd tk 0 1 H.size) m_P_fail k_1034 k_1036 ks_33 rfl rfl ⟨Nat.le_of_ble_eq_true rfl, Nat.le_of_ble_eq_true rfl⟩ (va_recv hK.2 hP (ci := 13) (q0 := 0) rfl rfl) (xe_pre hK (hP.sub [0] rfl) (hD.sub [0] (by decide) rfl)) rfl hl.1 rfl (Nat.le_of_ble_eq_true rfl) d_P_about_14 ⟨Nat.le_of_ble_eq_true rfl, Nat.le_of_ble_eq_true rfl⟩) hP hD hS hA [0] [] rfl rfl (by decide) (by decide) (fun r_2 u_ H locs hw hP hD hS => ?_)
  have hP : va_P D vwCl [zO 13 ma [.int 1, .int 0, .int 0, .int 0, .int 0, .int 0, .ref nb, .ref wy, .ref hd, .ref tk]] H := hP
  have hD : va_D A [zO 13 ma [.int 1, .int 0, .int 0, .int 0, .int 0, .int 0, .ref nb, .ref wy, .ref hd, .ref tk]] := hD
  obtain rfl := hw
  exact W.iret hx hb hr (fun t ht hW => ⟨⟨0, (), rfl, rfl, by rw [ht]; exact hP, hD⟩, hS.F ht⟩) hS.2.2 d_P_about_17
theorem d_P_fall_12 : decode c_P_fall 12 = .ok (.aload_n 0, 1) := by decide +kernel
theorem d_P_fall_13 : decode c_P_fall 13 = .ok (.getfield 11, 3) := by decide +kernel
theorem d_P_fall_16 : decode c_P_fall 16 = .ok (.iload_n 1, 1) := by decide +kernel
theorem d_P_fall_17 : decode c_P_fall 17 = .ok (.aaload, 1) := by decide +kernel
theorem d_P_fall_18 : decode c_P_fall 18 = .ok (.getfield 256, 3) := by decide +kernel
theorem d_P_fall_21 : decode c_P_fall 21 = .ok (.ifCond .ne 7, 3) := by decide +kernel
theorem d_P_fall_28 : decode c_P_fall 28 = .ok (.iconst 0, 1) := by decide +kernel
theorem d_P_fall_40 : decode c_P_fall 40 = .ok (.aload_n 0, 1) := by decide +kernel
theorem d_P_fall_41 : decode c_P_fall 41 = .ok (.getfield 11, 3) := by decide +kernel
theorem d_P_fall_44 : decode c_P_fall 44 = .ok (.iload_n 1, 1) := by decide +kernel
theorem d_P_fall_45 : decode c_P_fall 45 = .ok (.aaload, 1) := by decide +kernel
theorem d_P_fall_46 : decode c_P_fall 46 = .ok (.astore_n 2, 1) := by decide +kernel
theorem d_P_fall_47 : decode c_P_fall 47 = .ok (.aload_n 2, 1) := by decide +kernel
theorem d_P_fall_48 : decode c_P_fall 48 = .ok (.iconst 0, 1) := by decide +kernel
theorem d_P_fall_49 : decode c_P_fall 49 = .ok (.putfield 256, 3) := by decide +kernel
theorem d_P_fall_52 : decode c_P_fall 52 = .ok (.aload_n 2, 1) := by decide +kernel
theorem d_P_fall_53 : decode c_P_fall 53 = .ok (.iconst 0, 1) := by decide +kernel
theorem d_P_fall_54 : decode c_P_fall 54 = .ok (.putfield 173, 3) := by decide +kernel
theorem d_P_fall_57 : decode c_P_fall 57 = .ok (.aload_n 2, 1) := by decide +kernel
theorem d_P_fall_58 : decode c_P_fall 58 = .ok (.iconst 0, 1) := by decide +kernel
theorem d_P_fall_59 : decode c_P_fall 59 = .ok (.putfield 186, 3) := by decide +kernel
theorem d_P_fall_62 : decode c_P_fall 62 = .ok (.aload_n 2, 1) := by decide +kernel
theorem d_P_fall_63 : decode c_P_fall 63 = .ok (.iconst 0, 1) := by decide +kernel
theorem d_P_fall_64 : decode c_P_fall 64 = .ok (.putfield 219, 3) := by decide +kernel
theorem d_P_fall_67 : decode c_P_fall 67 = .ok (.aload_n 2, 1) := by decide +kernel
theorem d_P_fall_68 : decode c_P_fall 68 = .ok (.iconst (-1), 1) := by decide +kernel
theorem d_P_fall_69 : decode c_P_fall 69 = .ok (.putfield 216, 3) := by decide +kernel
theorem d_P_fall_72 : decode c_P_fall 72 = .ok (.aload_n 2, 1) := by decide +kernel
theorem d_P_fall_73 : decode c_P_fall 73 = .ok (.iconst 0, 1) := by decide +kernel
theorem d_P_fall_74 : decode c_P_fall 74 = .ok (.putfield 183, 3) := by decide +kernel
theorem d_P_fall_77 : decode c_P_fall 77 = .ok (.aload_n 2, 1) := by decide +kernel
theorem d_P_fall_78 : decode c_P_fall 78 = .ok (.iconst 0, 1) := by decide +kernel
theorem d_P_fall_79 : decode c_P_fall 79 = .ok (.putfield 201, 3) := by decide +kernel
theorem d_P_fall_82 : decode c_P_fall 82 = .ok (.aload_n 2, 1) := by decide +kernel
theorem d_P_fall_83 : decode c_P_fall 83 = .ok (.getfield 180, 3) := by decide +kernel
theorem d_P_fall_86 : decode c_P_fall 86 = .ok (.iconst 0, 1) := by decide +kernel
theorem d_P_fall_87 : decode c_P_fall 87 = .ok (.putfield 210, 3) := by decide +kernel
theorem d_P_fall_90 : decode c_P_fall 90 = .ok (.aload_n 2, 1) := by decide +kernel
theorem d_P_fall_91 : decode c_P_fall 91 = .ok (.getfield 177, 3) := by decide +kernel
theorem d_P_fall_94 : decode c_P_fall 94 = .ok (.iconst 0, 1) := by decide +kernel
theorem d_P_fall_95 : decode c_P_fall 95 = .ok (.putfield 210, 3) := by decide +kernel
theorem d_P_fall_98 : decode c_P_fall 98 = .ok (.aload_n 2, 1) := by decide +kernel
theorem d_P_fall_99 : decode c_P_fall 99 = .ok (.iconst 0, 1) := by decide +kernel
theorem d_P_fall_100 : decode c_P_fall 100 = .ok (.putfield 213, 3) := by decide +kernel
theorem d_P_fall_103 : decode c_P_fall 103 = .ok (.return_, 1) := by decide +kernel
set_option maxHeartbeats 4000000 in
set_option maxRecDepth 100000 in
/-- fall of a live node -/
theorem C_P_fall (l : Launch) (D : va_G) (t : Nat → ClassId) (ma nb wy hd tk : Nat) (th : Int32) (qq : Nat → Nat → Nat) (mk : Int32) (k : Nat) (hk : k < 7) : xe_C l D vwCl (xTY t) y_P_fall c_P_fall 3 (Option.none : Option FieldType) ({ frames := 1, cells := 0, slots := 0, locals := 20 }) [.ref ma, .int (nI k)] [zO 13 ma [.int th, .int 0, .int 0, .int 0, .int 0, .int 0, .ref nb, .ref wy, .ref hd, .ref tk], zA t 7 nb 7 (fun j => some (qq j 0)), zO 9 (qq k 0) [.int (nI k), .int 1, .int 0, .int 0, .int 0, .int 0, .int (nI (8 + 3 * k)), .int ((-1)), .int 0, .int 0, .ref ((qq k 1)), .ref ((qq k 7)), .ref ((qq k 11)), .ref ((qq k 15)), .ref ((qq k 19)), .ref ((qq k 23)), .int 0], zO 11 (qq k 1) [.int 0, .ref ((qq k 2)), .ref ((qq k 3)), .ref ((qq k 4)), .ref ((qq k 5)), .ref ((qq k 6)), .int 1], zJ t (qq k 2) 32 (fun _ => 1099511627776), zJ t (qq k 3) 8 (fun _ => 0), zI t (qq k 4) 8 (fun _ => 0), zI t (qq k 5) 4 (xm 1), zI t (qq k 6) 4 (xm mk), zO 10 (qq k 7) [.ref ((qq k 8)), .ref ((qq k 9)), .ref ((qq k 10)), .int 0], zI t (qq k 8) 8 (fun _ => 0), zI t (qq k 9) 8 (fun _ => 0), zA t 5 (qq k 10) 8 (fun _ => none), zO 10 (qq k 11) [.ref ((qq k 12)), .ref ((qq k 13)), .ref ((qq k 14)), .int 0], zI t (qq k 12) 8 (fun _ => 0), zI t (qq k 13) 8 (fun _ => 0), zA t 5 (qq k 14) 8 (fun _ => none), zO 10 (qq k 15) [.ref ((qq k 16)), .ref ((qq k 17)), .ref ((qq k 18)), .int 0], zI t (qq k 16) 8 (fun _ => 0), zI t (qq k 17) 8 (fun _ => 0), zA t 5 (qq k 18) 8 (fun _ => none), zO 10 (qq k 19) [.ref ((qq k 20)), .ref ((qq k 21)), .ref ((qq k 22)), .int 0], zI t (qq k 20) 8 (fun _ => 0), zI t (qq k 21) 8 (fun _ => 0), zA t 5 (qq k 22) 8 (fun _ => none), zA t 5 (qq k 23) 16 (fun _ => none)] (xe_v D vwCl (fun _ : Unit => True) (fun _ => [zO 13 ma [.int 0, .int 0, .int 0, .int 0, .int 0, .int 0, .ref nb, .ref wy, .ref hd, .ref tk]])) 0 0 := by
  refine xe_of (by decide) (Nat.le_of_ble_eq_true rfl) ?_
  intro p e s m below meth c ls A Z hr hlocks hin hA hP hD hS hl
  obtain ⟨hx, hb, hml, hown, hK⟩ := id Z
  have hown : s.vm.findClass "QuorumStoreModel" = some m.cls := hown
  have hts := hK.1.at (args := ([.ref ma, .int (nI k)] : List Value).toArray)
  have hl : lv_has ls 3 [(0, .ref ma), (1, .int (nI k))] := hl
  refine lv_aload_n hx hb d_P_fall_0 rfl (lv_at hl 0 rfl) ?_
  refine lv_iload_n hx hb d_P_fall_1 rfl (lv_at hl 1 rfl) ?_
  refine xr_call (xs_S (As := [.int (nI k)]) (rest := [.ref ma]) Z (C_P_noNode l D t k hk) m_P_noNode k_1217 k_1218 rfl rfl ⟨Nat.le_of_ble_eq_true rfl, Nat.le_of_ble_eq_true rfl⟩ (xr_pre hK (hP.sub [] rfl)) rfl hl.1 rfl (Nat.le_of_ble_eq_true rfl) d_P_fall_2 ⟨Nat.le_of_ble_eq_true rfl, Nat.le_of_ble_eq_true rfl⟩) ?_
  refine lv_if_eq (tgt := 12) hx hb d_P_fall_5 (by decide) (fun _ => ?_) (fun c_1 => absurd (by decide) c_1)
  refine lv_aload_n hx hb d_P_fall_12 rfl (lv_at hl 0 rfl) ?_
  refine va_get (ci := 13) (C := "QuorumStoreModel") (T := TX13) (N := 10) hx hb hts inX13 hown hK.2 hP 0 rfl rfl 6 (by decide) (hts _ k_1001) (fun _ h9 => h9) rfl d_P_fall_13 ?_
  refine lv_iload_n hx hb d_P_fall_16 rfl (lv_at hl 1 rfl) ?_
  refine va_aldq hx hb hK.2 hP 1 7 rfl rfl (vp_in_nI hk (by decide)) d_P_fall_17 ?_
  rw [nI_clamp (show k < 2 ^ 31 by omega)]
  refine va_get (ci := 9) (C := "QuorumStoreModel$Node") (T := TX9) (N := 17) hx hb hts inX9 hown hK.2 hP 2 rfl rfl 1 (by decide) (hts _ k_932) (fun _ h9 => h9) rfl d_P_fall_18 ?_
  refine lv_if_ne (tgt := 28) hx hb d_P_fall_21 (by decide) (fun _ => ?_) (fun c_2 => absurd c_2 (by decide))
  refine lv_iconst (v := 0) hx hb d_P_fall_28 (by decide) ?_
  refine va_put (ci := 13) (v := .int 0) (ty := tyX13 0) (C := "QuorumStoreModel") (T := TX13) (N := 10) hx hb hts inX13 tyX13 okX13 nmX13 hown hK.2 hP hD hS 0 rfl rfl 0 (by decide) (hts _ k_995) (fun _ h9 => h9) rfl (by decide +kernel) rfl rfl (Nat.le_of_ble_eq_true rfl) d_P_fall_29 (fun H locs hP hD hS => ?_)
  have hP : va_P D vwCl [zO 13 ma [.int 0, .int 0, .int 0, .int 0, .int 0, .int 0, .ref nb, .ref wy, .ref hd, .ref tk], zA t 7 nb 7 (fun j => some (qq j 0)), zO 9 (qq k 0) [.int (nI k), .int 1, .int 0, .int 0, .int 0, .int 0, .int (nI (8 + 3 * k)), .int ((-1)), .int 0, .int 0, .ref ((qq k 1)), .ref ((qq k 7)), .ref ((qq k 11)), .ref ((qq k 15)), .ref ((qq k 19)), .ref ((qq k 23)), .int 0], zO 11 (qq k 1) [.int 0, .ref ((qq k 2)), .ref ((qq k 3)), .ref ((qq k 4)), .ref ((qq k 5)), .ref ((qq k 6)), .int 1], zJ t (qq k 2) 32 (fun _ => 1099511627776), zJ t (qq k 3) 8 (fun _ => 0), zI t (qq k 4) 8 (fun _ => 0), zI t (qq k 5) 4 (xm 1), zI t (qq k 6) 4 (xm mk), zO 10 (qq k 7) [.ref ((qq k 8)), .ref ((qq k 9)), .ref ((qq k 10)), .int 0], zI t (qq k 8) 8 (fun _ => 0), zI t (qq k 9) 8 (fun _ => 0), zA t 5 (qq k 10) 8 (fun _ => none), zO 10 (qq k 11) [.ref ((qq k 12)), .ref ((qq k 13)), .ref ((qq k 14)), .int 0], zI t (qq k 12) 8 (fun _ => 0), zI t (qq k 13) 8 (fun _ => 0), zA t 5 (qq k 14) 8 (fun _ => none), zO 10 (qq k 15) [.ref ((qq k 16)), .ref ((qq k 17)), .ref ((qq k 18)), .int 0], zI t (qq k 16) 8 (fun _ => 0), zI t (qq k 17) 8 (fun _ => 0), zA t 5 (qq k 18) 8 (fun _ => none), zO 10 (qq k 19) [.ref ((qq k 20)), .ref ((qq k 21)), .ref ((qq k 22)), .int 0], zI t (qq k 20) 8 (fun _ => 0), zI t (qq k 21) 8 (fun _ => 0), zA t 5 (qq k 22) 8 (fun _ => none), zA t 5 (qq k 23) 16 (fun _ => none)] H := hP
  have hD : va_D A [zO 13 ma [.int 0, .int 0, .int 0, .int 0, .int 0, .int 0, .ref nb, .ref wy, .ref hd, .ref tk], zA t 7 nb 7 (fun j => some (qq j 0)), zO 9 (qq k 0) [.int (nI k), .int 1, .int 0, .int 0, .int 0, .int 0, .int (nI (8 + 3 * k)), .int ((-1)), .int 0, .int 0, .ref ((qq k 1)), .ref ((qq k 7)), .ref ((qq k 11)), .ref ((qq k 15)), .ref ((qq k 19)), .ref ((qq k 23)), .int 0], zO 11 (qq k 1) [.int 0, .ref ((qq k 2)), .ref ((qq k 3)), .ref ((qq k 4)), .ref ((qq k 5)), .ref ((qq k 6)), .int 1], zJ t (qq k 2) 32 (fun _ => 1099511627776), zJ t (qq k 3) 8 (fun _ => 0), zI t (qq k 4) 8 (fun _ => 0), zI t (qq k 5) 4 (xm 1), zI t (qq k 6) 4 (xm mk), zO 10 (qq k 7) [.ref ((qq k 8)), .ref ((qq k 9)), .ref ((qq k 10)), .int 0], zI t (qq k 8) 8 (fun _ => 0), zI t (qq k 9) 8 (fun _ => 0), zA t 5 (qq k 10) 8 (fun _ => none), zO 10 (qq k 11) [.ref ((qq k 12)), .ref ((qq k 13)), .ref ((qq k 14)), .int 0], zI t (qq k 12) 8 (fun _ => 0), zI t (qq k 13) 8 (fun _ => 0), zA t 5 (qq k 14) 8 (fun _ => none), zO 10 (qq k 15) [.ref ((qq k 16)), .ref ((qq k 17)), .ref ((qq k 18)), .int 0], zI t (qq k 16) 8 (fun _ => 0), zI t (qq k 17) 8 (fun _ => 0), zA t 5 (qq k 18) 8 (fun _ => none), zO 10 (qq k 19) [.ref ((qq k 20)), .ref ((qq k 21)), .ref ((qq k 22)), .int 0], zI t (qq k 20) 8 (fun _ => 0), zI t (qq k 21) 8 (fun _ => 0), zA t 5 (qq k 22) 8 (fun _ => none), zA t 5 (qq k 23) 16 (fun _ => none)] := hD
  refine lv_aload_n hx hb d_P_fall_32 rfl (lv_at hl 0 rfl) ?_
  refine va_get (ci := 13) (C := "QuorumStoreModel") (T := TX13) (N := 10) hx hb hts inX13 hown hK.2 hP 0 rfl rfl 0 (by decide) (hts _ k_995) (fun _ h9 => h9) rfl d_P_fall_33 ?_
  refine lv_if_le (tgt := 40) hx hb d_P_fall_36 (by decide) (fun _ => ?_) (fun c_3 => absurd (by decide) c_3)
  refine lv_aload_n hx hb d_P_fall_40 rfl (lv_at hl 0 rfl) ?_
  refine va_get (ci := 13) (C := "QuorumStoreModel") (T := TX13) (N := 10) hx hb hts inX13 hown hK.2 hP 0 rfl rfl 6 (by decide) (hts _ k_1001) (fun _ h9 => h9) rfl d_P_fall_41 ?_
  refine lv_iload_n hx hb d_P_fall_44 rfl (lv_at hl 1 rfl) ?_
  refine va_aldq hx hb hK.2 hP 1 7 rfl rfl (vp_in_nI hk (by decide)) d_P_fall_45 ?_
  rw [nI_clamp (show k < 2 ^ 31 by omega)]
  refine lv_astore_n (lv' := [(2, .ref ((qq k 0))), (0, .ref ma), (1, .int (nI k))]) hx hb d_P_fall_46 rfl hl (by decide) rfl (fun ls hl => ?_)
  refine lv_aload_n hx hb d_P_fall_47 rfl (lv_at hl 0 rfl) ?_
  refine lv_iconst (v := 0) hx hb d_P_fall_48 (by decide) ?_
  refine va_put (ci := 9) (v := .int 0) (ty := tyX9 1) (C := "QuorumStoreModel$Node") (T := TX9) (N := 17) hx hb hts inX9 tyX9 okX9 nmX9 hown hK.2 hP hD hS 2 rfl rfl 1 (by decide) (hts _ k_932) (fun _ h9 => h9) rfl (by decide +kernel) (by decide) (by decide) (Nat.le_of_ble_eq_true rfl) d_P_fall_49 (fun H locs hP hD hS => ?_)
  have hP : va_P D vwCl [zO 13 ma [.int 0, .int 0, .int 0, .int 0, .int 0, .int 0, .ref nb, .ref wy, .ref hd, .ref tk], zA t 7 nb 7 (fun j => some (qq j 0)), zO 9 (qq k 0) [.int (nI k), .int 0, .int 0, .int 0, .int 0, .int 0, .int (nI (8 + 3 * k)), .int ((-1)), .int 0, .int 0, .ref ((qq k 1)), .ref ((qq k 7)), .ref ((qq k 11)), .ref ((qq k 15)), .ref ((qq k 19)), .ref ((qq k 23)), .int 0], zO 11 (qq k 1) [.int 0, .ref ((qq k 2)), .ref ((qq k 3)), .ref ((qq k 4)), .ref ((qq k 5)), .ref ((qq k 6)), .int 1], zJ t (qq k 2) 32 (fun _ => 1099511627776), zJ t (qq k 3) 8 (fun _ => 0), zI t (qq k 4) 8 (fun _ => 0), zI t (qq k 5) 4 (xm 1), zI t (qq k 6) 4 (xm mk), zO 10 (qq k 7) [.ref ((qq k 8)), .ref ((qq k 9)), .ref ((qq k 10)), .int 0], zI t (qq k 8) 8 (fun _ => 0), zI t (qq k 9) 8 (fun _ => 0), zA t 5 (qq k 10) 8 (fun _ => none), zO 10 (qq k 11) [.ref ((qq k 12)), .ref ((qq k 13)), .ref ((qq k 14)), .int 0], zI t (qq k 12) 8 (fun _ => 0), zI t (qq k 13) 8 (fun _ => 0), zA t 5 (qq k 14) 8 (fun _ => none), zO 10 (qq k 15) [.ref ((qq k 16)), .ref ((qq k 17)), .ref ((qq k 18)), .int 0], zI t (qq k 16) 8 (fun _ => 0), zI t (qq k 17) 8 (fun _ => 0), zA t 5 (qq k 18) 8 (fun _ => none), zO 10 (qq k 19) [.ref ((qq k 20)), .ref ((qq k 21)), .ref ((qq k 22)), .int 0], zI t (qq k 20) 8 (fun _ => 0), zI t (qq k 21) 8 (fun _ => 0), zA t 5 (qq k 22) 8 (fun _ => none), zA t 5 (qq k 23) 16 (fun _ => none)] H := hP
  have hD : va_D A [zO 13 ma [.int 0, .int 0, .int 0, .int 0, .int 0, .int 0, .ref nb, .ref wy, .ref hd, .ref tk], zA t 7 nb 7 (fun j => some (qq j 0)), zO 9 (qq k 0) [.int (nI k), .int 0, .int 0, .int 0, .int 0, .int 0, .int (nI (8 + 3 * k)), .int ((-1)), .int 0, .int 0, .ref ((qq k 1)), .ref ((qq k 7)), .ref ((qq k 11)), .ref ((qq k 15)), .ref ((qq k 19)), .ref ((qq k 23)), .int 0], zO 11 (qq k 1) [.int 0, .ref ((qq k 2)), .ref ((qq k 3)), .ref ((qq k 4)), .ref ((qq k 5)), .ref ((qq k 6)), .int 1], zJ t (qq k 2) 32 (fun _ => 1099511627776), zJ t (qq k 3) 8 (fun _ => 0), zI t (qq k 4) 8 (fun _ => 0), zI t (qq k 5) 4 (xm 1), zI t (qq k 6) 4 (xm mk), zO 10 (qq k 7) [.ref ((qq k 8)), .ref ((qq k 9)), .ref ((qq k 10)), .int 0], zI t (qq k 8) 8 (fun _ => 0), zI t (qq k 9) 8 (fun _ => 0), zA t 5 (qq k 10) 8 (fun _ => none), zO 10 (qq k 11) [.ref ((qq k 12)), .ref ((qq k 13)), .ref ((qq k 14)), .int 0], zI t (qq k 12) 8 (fun _ => 0), zI t (qq k 13) 8 (fun _ => 0), zA t 5 (qq k 14) 8 (fun _ => none), zO 10 (qq k 15) [.ref ((qq k 16)), .ref ((qq k 17)), .ref ((qq k 18)), .int 0], zI t (qq k 16) 8 (fun _ => 0), zI t (qq k 17) 8 (fun _ => 0), zA t 5 (qq k 18) 8 (fun _ => none), zO 10 (qq k 19) [.ref ((qq k 20)), .ref ((qq k 21)), .ref ((qq k 22)), .int 0], zI t (qq k 20) 8 (fun _ => 0), zI t (qq k 21) 8 (fun _ => 0), zA t 5 (qq k 22) 8 (fun _ => none), zA t 5 (qq k 23) 16 (fun _ => none)] := hD
  refine lv_aload_n hx hb d_P_fall_52 rfl (lv_at hl 0 rfl) ?_
  refine lv_iconst (v := 0) hx hb d_P_fall_53 (by decide) ?_
  refine va_put (ci := 9) (v := .int 0) (ty := tyX9 2) (C := "QuorumStoreModel$Node") (T := TX9) (N := 17) hx hb hts inX9 tyX9 okX9 nmX9 hown hK.2 hP hD hS 2 rfl rfl 2 (by decide) (hts _ k_933) (fun _ h9 => h9) rfl (by decide +kernel) (by decide) (by decide) (Nat.le_of_ble_eq_true rfl) d_P_fall_54 (fun H locs hP hD hS => ?_)
  have hP : va_P D vwCl [zO 13 ma [.int 0, .int 0, .int 0, .int 0, .int 0, .int 0, .ref nb, .ref wy, .ref hd, .ref tk], zA t 7 nb 7 (fun j => some (qq j 0)), zO 9 (qq k 0) [.int (nI k), .int 0, .int 0, .int 0, .int 0, .int 0, .int (nI (8 + 3 * k)), .int ((-1)), .int 0, .int 0, .ref ((qq k 1)), .ref ((qq k 7)), .ref ((qq k 11)), .ref ((qq k 15)), .ref ((qq k 19)), .ref ((qq k 23)), .int 0], zO 11 (qq k 1) [.int 0, .ref ((qq k 2)), .ref ((qq k 3)), .ref ((qq k 4)), .ref ((qq k 5)), .ref ((qq k 6)), .int 1], zJ t (qq k 2) 32 (fun _ => 1099511627776), zJ t (qq k 3) 8 (fun _ => 0), zI t (qq k 4) 8 (fun _ => 0), zI t (qq k 5) 4 (xm 1), zI t (qq k 6) 4 (xm mk), zO 10 (qq k 7) [.ref ((qq k 8)), .ref ((qq k 9)), .ref ((qq k 10)), .int 0], zI t (qq k 8) 8 (fun _ => 0), zI t (qq k 9) 8 (fun _ => 0), zA t 5 (qq k 10) 8 (fun _ => none), zO 10 (qq k 11) [.ref ((qq k 12)), .ref ((qq k 13)), .ref ((qq k 14)), .int 0], zI t (qq k 12) 8 (fun _ => 0), zI t (qq k 13) 8 (fun _ => 0), zA t 5 (qq k 14) 8 (fun _ => none), zO 10 (qq k 15) [.ref ((qq k 16)), .ref ((qq k 17)), .ref ((qq k 18)), .int 0], zI t (qq k 16) 8 (fun _ => 0), zI t (qq k 17) 8 (fun _ => 0), zA t 5 (qq k 18) 8 (fun _ => none), zO 10 (qq k 19) [.ref ((qq k 20)), .ref ((qq k 21)), .ref ((qq k 22)), .int 0], zI t (qq k 20) 8 (fun _ => 0), zI t (qq k 21) 8 (fun _ => 0), zA t 5 (qq k 22) 8 (fun _ => none), zA t 5 (qq k 23) 16 (fun _ => none)] H := hP
  have hD : va_D A [zO 13 ma [.int 0, .int 0, .int 0, .int 0, .int 0, .int 0, .ref nb, .ref wy, .ref hd, .ref tk], zA t 7 nb 7 (fun j => some (qq j 0)), zO 9 (qq k 0) [.int (nI k), .int 0, .int 0, .int 0, .int 0, .int 0, .int (nI (8 + 3 * k)), .int ((-1)), .int 0, .int 0, .ref ((qq k 1)), .ref ((qq k 7)), .ref ((qq k 11)), .ref ((qq k 15)), .ref ((qq k 19)), .ref ((qq k 23)), .int 0], zO 11 (qq k 1) [.int 0, .ref ((qq k 2)), .ref ((qq k 3)), .ref ((qq k 4)), .ref ((qq k 5)), .ref ((qq k 6)), .int 1], zJ t (qq k 2) 32 (fun _ => 1099511627776), zJ t (qq k 3) 8 (fun _ => 0), zI t (qq k 4) 8 (fun _ => 0), zI t (qq k 5) 4 (xm 1), zI t (qq k 6) 4 (xm mk), zO 10 (qq k 7) [.ref ((qq k 8)), .ref ((qq k 9)), .ref ((qq k 10)), .int 0], zI t (qq k 8) 8 (fun _ => 0), zI t (qq k 9) 8 (fun _ => 0), zA t 5 (qq k 10) 8 (fun _ => none), zO 10 (qq k 11) [.ref ((qq k 12)), .ref ((qq k 13)), .ref ((qq k 14)), .int 0], zI t (qq k 12) 8 (fun _ => 0), zI t (qq k 13) 8 (fun _ => 0), zA t 5 (qq k 14) 8 (fun _ => none), zO 10 (qq k 15) [.ref ((qq k 16)), .ref ((qq k 17)), .ref ((qq k 18)), .int 0], zI t (qq k 16) 8 (fun _ => 0), zI t (qq k 17) 8 (fun _ => 0), zA t 5 (qq k 18) 8 (fun _ => none), zO 10 (qq k 19) [.ref ((qq k 20)), .ref ((qq k 21)), .ref ((qq k 22)), .int 0], zI t (qq k 20) 8 (fun _ => 0), zI t (qq k 21) 8 (fun _ => 0), zA t 5 (qq k 22) 8 (fun _ => none), zA t 5 (qq k 23) 16 (fun _ => none)] := hD
  refine lv_aload_n hx hb d_P_fall_57 rfl (lv_at hl 0 rfl) ?_
  refine lv_iconst (v := 0) hx hb d_P_fall_58 (by decide) ?_
  refine va_put (ci := 9) (v := .int 0) (ty := tyX9 5) (C := "QuorumStoreModel$Node") (T := TX9) (N := 17) hx hb hts inX9 tyX9 okX9 nmX9 hown hK.2 hP hD hS 2 rfl rfl 5 (by decide) (hts _ k_936) (fun _ h9 => h9) rfl (by decide +kernel) rfl rfl (Nat.le_of_ble_eq_true rfl) d_P_fall_59 (fun H locs hP hD hS => ?_)
  have hP : va_P D vwCl [zO 13 ma [.int 0, .int 0, .int 0, .int 0, .int 0, .int 0, .ref nb, .ref wy, .ref hd, .ref tk], zA t 7 nb 7 (fun j => some (qq j 0)), zO 9 (qq k 0) [.int (nI k), .int 0, .int 0, .int 0, .int 0, .int 0, .int (nI (8 + 3 * k)), .int ((-1)), .int 0, .int 0, .ref ((qq k 1)), .ref ((qq k 7)), .ref ((qq k 11)), .ref ((qq k 15)), .ref ((qq k 19)), .ref ((qq k 23)), .int 0], zO 11 (qq k 1) [.int 0, .ref ((qq k 2)), .ref ((qq k 3)), .ref ((qq k 4)), .ref ((qq k 5)), .ref ((qq k 6)), .int 1], zJ t (qq k 2) 32 (fun _ => 1099511627776), zJ t (qq k 3) 8 (fun _ => 0), zI t (qq k 4) 8 (fun _ => 0), zI t (qq k 5) 4 (xm 1), zI t (qq k 6) 4 (xm mk), zO 10 (qq k 7) [.ref ((qq k 8)), .ref ((qq k 9)), .ref ((qq k 10)), .int 0], zI t (qq k 8) 8 (fun _ => 0), zI t (qq k 9) 8 (fun _ => 0), zA t 5 (qq k 10) 8 (fun _ => none), zO 10 (qq k 11) [.ref ((qq k 12)), .ref ((qq k 13)), .ref ((qq k 14)), .int 0], zI t (qq k 12) 8 (fun _ => 0), zI t (qq k 13) 8 (fun _ => 0), zA t 5 (qq k 14) 8 (fun _ => none), zO 10 (qq k 15) [.ref ((qq k 16)), .ref ((qq k 17)), .ref ((qq k 18)), .int 0], zI t (qq k 16) 8 (fun _ => 0), zI t (qq k 17) 8 (fun _ => 0), zA t 5 (qq k 18) 8 (fun _ => none), zO 10 (qq k 19) [.ref ((qq k 20)), .ref ((qq k 21)), .ref ((qq k 22)), .int 0], zI t (qq k 20) 8 (fun _ => 0), zI t (qq k 21) 8 (fun _ => 0), zA t 5 (qq k 22) 8 (fun _ => none), zA t 5 (qq k 23) 16 (fun _ => none)] H := hP
  have hD : va_D A [zO 13 ma [.int 0, .int 0, .int 0, .int 0, .int 0, .int 0, .ref nb, .ref wy, .ref hd, .ref tk], zA t 7 nb 7 (fun j => some (qq j 0)), zO 9 (qq k 0) [.int (nI k), .int 0, .int 0, .int 0, .int 0, .int 0, .int (nI (8 + 3 * k)), .int ((-1)), .int 0, .int 0, .ref ((qq k 1)), .ref ((qq k 7)), .ref ((qq k 11)), .ref ((qq k 15)), .ref ((qq k 19)), .ref ((qq k 23)), .int 0], zO 11 (qq k 1) [.int 0, .ref ((qq k 2)), .ref ((qq k 3)), .ref ((qq k 4)), .ref ((qq k 5)), .ref ((qq k 6)), .int 1], zJ t (qq k 2) 32 (fun _ => 1099511627776), zJ t (qq k 3) 8 (fun _ => 0), zI t (qq k 4) 8 (fun _ => 0), zI t (qq k 5) 4 (xm 1), zI t (qq k 6) 4 (xm mk), zO 10 (qq k 7) [.ref ((qq k 8)), .ref ((qq k 9)), .ref ((qq k 10)), .int 0], zI t (qq k 8) 8 (fun _ => 0), zI t (qq k 9) 8 (fun _ => 0), zA t 5 (qq k 10) 8 (fun _ => none), zO 10 (qq k 11) [.ref ((qq k 12)), .ref ((qq k 13)), .ref ((qq k 14)), .int 0], zI t (qq k 12) 8 (fun _ => 0), zI t (qq k 13) 8 (fun _ => 0), zA t 5 (qq k 14) 8 (fun _ => none), zO 10 (qq k 15) [.ref ((qq k 16)), .ref ((qq k 17)), .ref ((qq k 18)), .int 0], zI t (qq k 16) 8 (fun _ => 0), zI t (qq k 17) 8 (fun _ => 0), zA t 5 (qq k 18) 8 (fun _ => none), zO 10 (qq k 19) [.ref ((qq k 20)), .ref ((qq k 21)), .ref ((qq k 22)), .int 0], zI t (qq k 20) 8 (fun _ => 0), zI t (qq k 21) 8 (fun _ => 0), zA t 5 (qq k 22) 8 (fun _ => none), zA t 5 (qq k 23) 16 (fun _ => none)] := hD
  refine lv_aload_n hx hb d_P_fall_62 rfl (lv_at hl 0 rfl) ?_
  refine lv_iconst (v := 0) hx hb d_P_fall_63 (by decide) ?_
  refine va_put (ci := 9) (v := .int 0) (ty := tyX9 6) (C := "QuorumStoreModel$Node") (T := TX9) (N := 17) hx hb hts inX9 tyX9 okX9 nmX9 hown hK.2 hP hD hS 2 rfl rfl 6 (by decide) (hts _ k_938) (fun _ h9 => h9) rfl (by decide +kernel) rfl rfl (Nat.le_of_ble_eq_true rfl) d_P_fall_64 (fun H locs hP hD hS => ?_)
  have hP : va_P D vwCl [zO 13 ma [.int 0, .int 0, .int 0, .int 0, .int 0, .int 0, .ref nb, .ref wy, .ref hd, .ref tk], zA t 7 nb 7 (fun j => some (qq j 0)), zO 9 (qq k 0) [.int (nI k), .int 0, .int 0, .int 0, .int 0, .int 0, .int 0, .int ((-1)), .int 0, .int 0, .ref ((qq k 1)), .ref ((qq k 7)), .ref ((qq k 11)), .ref ((qq k 15)), .ref ((qq k 19)), .ref ((qq k 23)), .int 0], zO 11 (qq k 1) [.int 0, .ref ((qq k 2)), .ref ((qq k 3)), .ref ((qq k 4)), .ref ((qq k 5)), .ref ((qq k 6)), .int 1], zJ t (qq k 2) 32 (fun _ => 1099511627776), zJ t (qq k 3) 8 (fun _ => 0), zI t (qq k 4) 8 (fun _ => 0), zI t (qq k 5) 4 (xm 1), zI t (qq k 6) 4 (xm mk), zO 10 (qq k 7) [.ref ((qq k 8)), .ref ((qq k 9)), .ref ((qq k 10)), .int 0], zI t (qq k 8) 8 (fun _ => 0), zI t (qq k 9) 8 (fun _ => 0), zA t 5 (qq k 10) 8 (fun _ => none), zO 10 (qq k 11) [.ref ((qq k 12)), .ref ((qq k 13)), .ref ((qq k 14)), .int 0], zI t (qq k 12) 8 (fun _ => 0), zI t (qq k 13) 8 (fun _ => 0), zA t 5 (qq k 14) 8 (fun _ => none), zO 10 (qq k 15) [.ref ((qq k 16)), .ref ((qq k 17)), .ref ((qq k 18)), .int 0], zI t (qq k 16) 8 (fun _ => 0), zI t (qq k 17) 8 (fun _ => 0), zA t 5 (qq k 18) 8 (fun _ => none), zO 10 (qq k 19) [.ref ((qq k 20)), .ref ((qq k 21)), .ref ((qq k 22)), .int 0], zI t (qq k 20) 8 (fun _ => 0), zI t (qq k 21) 8 (fun _ => 0), zA t 5 (qq k 22) 8 (fun _ => none), zA t 5 (qq k 23) 16 (fun _ => none)] H := hP
  have hD : va_D A [zO 13 ma [.int 0, .int 0, .int 0, .int 0, .int 0, .int 0, .ref nb, .ref wy, .ref hd, .ref tk], zA t 7 nb 7 (fun j => some (qq j 0)), zO 9 (qq k 0) [.int (nI k), .int 0, .int 0, .int 0, .int 0, .int 0, .int 0, .int ((-1)), .int 0, .int 0, .ref ((qq k 1)), .ref ((qq k 7)), .ref ((qq k 11)), .ref ((qq k 15)), .ref ((qq k 19)), .ref ((qq k 23)), .int 0], zO 11 (qq k 1) [.int 0, .ref ((qq k 2)), .ref ((qq k 3)), .ref ((qq k 4)), .ref ((qq k 5)), .ref ((qq k 6)), .int 1], zJ t (qq k 2) 32 (fun _ => 1099511627776), zJ t (qq k 3) 8 (fun _ => 0), zI t (qq k 4) 8 (fun _ => 0), zI t (qq k 5) 4 (xm 1), zI t (qq k 6) 4 (xm mk), zO 10 (qq k 7) [.ref ((qq k 8)), .ref ((qq k 9)), .ref ((qq k 10)), .int 0], zI t (qq k 8) 8 (fun _ => 0), zI t (qq k 9) 8 (fun _ => 0), zA t 5 (qq k 10) 8 (fun _ => none), zO 10 (qq k 11) [.ref ((qq k 12)), .ref ((qq k 13)), .ref ((qq k 14)), .int 0], zI t (qq k 12) 8 (fun _ => 0), zI t (qq k 13) 8 (fun _ => 0), zA t 5 (qq k 14) 8 (fun _ => none), zO 10 (qq k 15) [.ref ((qq k 16)), .ref ((qq k 17)), .ref ((qq k 18)), .int 0], zI t (qq k 16) 8 (fun _ => 0), zI t (qq k 17) 8 (fun _ => 0), zA t 5 (qq k 18) 8 (fun _ => none), zO 10 (qq k 19) [.ref ((qq k 20)), .ref ((qq k 21)), .ref ((qq k 22)), .int 0], zI t (qq k 20) 8 (fun _ => 0), zI t (qq k 21) 8 (fun _ => 0), zA t 5 (qq k 22) 8 (fun _ => none), zA t 5 (qq k 23) 16 (fun _ => none)] := hD
  refine lv_aload_n hx hb d_P_fall_67 rfl (lv_at hl 0 rfl) ?_
  refine lv_iconst (v := (-1)) hx hb d_P_fall_68 (by decide) ?_
  refine va_put (ci := 9) (v := .int ((-1))) (ty := tyX9 7) (C := "QuorumStoreModel$Node") (T := TX9) (N := 17) hx hb hts inX9 tyX9 okX9 nmX9 hown hK.2 hP hD hS 2 rfl rfl 7 (by decide) (hts _ k_940) (fun _ h9 => h9) rfl (by decide +kernel) rfl rfl (Nat.le_of_ble_eq_true rfl) d_P_fall_69 (fun H locs hP hD hS => ?_)
  have hP : va_P D vwCl [zO 13 ma [.int 0, .int 0, .int 0, .int 0, .int 0, .int 0, .ref nb, .ref wy, .ref hd, .ref tk], zA t 7 nb 7 (fun j => some (qq j 0)), zO 9 (qq k 0) [.int (nI k), .int 0, .int 0, .int 0, .int 0, .int 0, .int 0, .int ((-1)), .int 0, .int 0, .ref ((qq k 1)), .ref ((qq k 7)), .ref ((qq k 11)), .ref ((qq k 15)), .ref ((qq k 19)), .ref ((qq k 23)), .int 0], zO 11 (qq k 1) [.int 0, .ref ((qq k 2)), .ref ((qq k 3)), .ref ((qq k 4)), .ref ((qq k 5)), .ref ((qq k 6)), .int 1], zJ t (qq k 2) 32 (fun _ => 1099511627776), zJ t (qq k 3) 8 (fun _ => 0), zI t (qq k 4) 8 (fun _ => 0), zI t (qq k 5) 4 (xm 1), zI t (qq k 6) 4 (xm mk), zO 10 (qq k 7) [.ref ((qq k 8)), .ref ((qq k 9)), .ref ((qq k 10)), .int 0], zI t (qq k 8) 8 (fun _ => 0), zI t (qq k 9) 8 (fun _ => 0), zA t 5 (qq k 10) 8 (fun _ => none), zO 10 (qq k 11) [.ref ((qq k 12)), .ref ((qq k 13)), .ref ((qq k 14)), .int 0], zI t (qq k 12) 8 (fun _ => 0), zI t (qq k 13) 8 (fun _ => 0), zA t 5 (qq k 14) 8 (fun _ => none), zO 10 (qq k 15) [.ref ((qq k 16)), .ref ((qq k 17)), .ref ((qq k 18)), .int 0], zI t (qq k 16) 8 (fun _ => 0), zI t (qq k 17) 8 (fun _ => 0), zA t 5 (qq k 18) 8 (fun _ => none), zO 10 (qq k 19) [.ref ((qq k 20)), .ref ((qq k 21)), .ref ((qq k 22)), .int 0], zI t (qq k 20) 8 (fun _ => 0), zI t (qq k 21) 8 (fun _ => 0), zA t 5 (qq k 22) 8 (fun _ => none), zA t 5 (qq k 23) 16 (fun _ => none)] H := hP
  have hD : va_D A [zO 13 ma [.int 0, .int 0, .int 0, .int 0, .int 0, .int 0, .ref nb, .ref wy, .ref hd, .ref tk], zA t 7 nb 7 (fun j => some (qq j 0)), zO 9 (qq k 0) [.int (nI k), .int 0, .int 0, .int 0, .int 0, .int 0, .int 0, .int ((-1)), .int 0, .int 0, .ref ((qq k 1)), .ref ((qq k 7)), .ref ((qq k 11)), .ref ((qq k 15)), .ref ((qq k 19)), .ref ((qq k 23)), .int 0], zO 11 (qq k 1) [.int 0, .ref ((qq k 2)), .ref ((qq k 3)), .ref ((qq k 4)), .ref ((qq k 5)), .ref ((qq k 6)), .int 1], zJ t (qq k 2) 32 (fun _ => 1099511627776), zJ t (qq k 3) 8 (fun _ => 0), zI t (qq k 4) 8 (fun _ => 0), zI t (qq k 5) 4 (xm 1), zI t (qq k 6) 4 (xm mk), zO 10 (qq k 7) [.ref ((qq k 8)), .ref ((qq k 9)), .ref ((qq k 10)), .int 0], zI t (qq k 8) 8 (fun _ => 0), zI t (qq k 9) 8 (fun _ => 0), zA t 5 (qq k 10) 8 (fun _ => none), zO 10 (qq k 11) [.ref ((qq k 12)), .ref ((qq k 13)), .ref ((qq k 14)), .int 0], zI t (qq k 12) 8 (fun _ => 0), zI t (qq k 13) 8 (fun _ => 0), zA t 5 (qq k 14) 8 (fun _ => none), zO 10 (qq k 15) [.ref ((qq k 16)), .ref ((qq k 17)), .ref ((qq k 18)), .int 0], zI t (qq k 16) 8 (fun _ => 0), zI t (qq k 17) 8 (fun _ => 0), zA t 5 (qq k 18) 8 (fun _ => none), zO 10 (qq k 19) [.ref ((qq k 20)), .ref ((qq k 21)), .ref ((qq k 22)), .int 0], zI t (qq k 20) 8 (fun _ => 0), zI t (qq k 21) 8 (fun _ => 0), zA t 5 (qq k 22) 8 (fun _ => none), zA t 5 (qq k 23) 16 (fun _ => none)] := hD
  refine lv_aload_n hx hb d_P_fall_72 rfl (lv_at hl 0 rfl) ?_
  refine lv_iconst (v := 0) hx hb d_P_fall_73 (by decide) ?_
  refine va_put (ci := 9) (v := .int 0) (ty := tyX9 8) (C := "QuorumStoreModel$Node") (T := TX9) (N := 17) hx hb hts inX9 tyX9 okX9 nmX9 hown hK.2 hP hD hS 2 rfl rfl 8 (by decide) (hts _ k_941) (fun _ h9 => h9) rfl (by decide +kernel) rfl rfl (Nat.le_of_ble_eq_true rfl) d_P_fall_74 (fun H locs hP hD hS => ?_)
  have hP : va_P D vwCl [zO 13 ma [.int 0, .int 0, .int 0, .int 0, .int 0, .int 0, .ref nb, .ref wy, .ref hd, .ref tk], zA t 7 nb 7 (fun j => some (qq j 0)), zO 9 (qq k 0) [.int (nI k), .int 0, .int 0, .int 0, .int 0, .int 0, .int 0, .int ((-1)), .int 0, .int 0, .ref ((qq k 1)), .ref ((qq k 7)), .ref ((qq k 11)), .ref ((qq k 15)), .ref ((qq k 19)), .ref ((qq k 23)), .int 0], zO 11 (qq k 1) [.int 0, .ref ((qq k 2)), .ref ((qq k 3)), .ref ((qq k 4)), .ref ((qq k 5)), .ref ((qq k 6)), .int 1], zJ t (qq k 2) 32 (fun _ => 1099511627776), zJ t (qq k 3) 8 (fun _ => 0), zI t (qq k 4) 8 (fun _ => 0), zI t (qq k 5) 4 (xm 1), zI t (qq k 6) 4 (xm mk), zO 10 (qq k 7) [.ref ((qq k 8)), .ref ((qq k 9)), .ref ((qq k 10)), .int 0], zI t (qq k 8) 8 (fun _ => 0), zI t (qq k 9) 8 (fun _ => 0), zA t 5 (qq k 10) 8 (fun _ => none), zO 10 (qq k 11) [.ref ((qq k 12)), .ref ((qq k 13)), .ref ((qq k 14)), .int 0], zI t (qq k 12) 8 (fun _ => 0), zI t (qq k 13) 8 (fun _ => 0), zA t 5 (qq k 14) 8 (fun _ => none), zO 10 (qq k 15) [.ref ((qq k 16)), .ref ((qq k 17)), .ref ((qq k 18)), .int 0], zI t (qq k 16) 8 (fun _ => 0), zI t (qq k 17) 8 (fun _ => 0), zA t 5 (qq k 18) 8 (fun _ => none), zO 10 (qq k 19) [.ref ((qq k 20)), .ref ((qq k 21)), .ref ((qq k 22)), .int 0], zI t (qq k 20) 8 (fun _ => 0), zI t (qq k 21) 8 (fun _ => 0), zA t 5 (qq k 22) 8 (fun _ => none), zA t 5 (qq k 23) 16 (fun _ => none)] H := hP
  have hD : va_D A [zO 13 ma [.int 0, .int 0, .int 0, .int 0, .int 0, .int 0, .ref nb, .ref wy, .ref hd, .ref tk], zA t 7 nb 7 (fun j => some (qq j 0)), zO 9 (qq k 0) [.int (nI k), .int 0, .int 0, .int 0, .int 0, .int 0, .int 0, .int ((-1)), .int 0, .int 0, .ref ((qq k 1)), .ref ((qq k 7)), .ref ((qq k 11)), .ref ((qq k 15)), .ref ((qq k 19)), .ref ((qq k 23)), .int 0], zO 11 (qq k 1) [.int 0, .ref ((qq k 2)), .ref ((qq k 3)), .ref ((qq k 4)), .ref ((qq k 5)), .ref ((qq k 6)), .int 1], zJ t (qq k 2) 32 (fun _ => 1099511627776), zJ t (qq k 3) 8 (fun _ => 0), zI t (qq k 4) 8 (fun _ => 0), zI t (qq k 5) 4 (xm 1), zI t (qq k 6) 4 (xm mk), zO 10 (qq k 7) [.ref ((qq k 8)), .ref ((qq k 9)), .ref ((qq k 10)), .int 0], zI t (qq k 8) 8 (fun _ => 0), zI t (qq k 9) 8 (fun _ => 0), zA t 5 (qq k 10) 8 (fun _ => none), zO 10 (qq k 11) [.ref ((qq k 12)), .ref ((qq k 13)), .ref ((qq k 14)), .int 0], zI t (qq k 12) 8 (fun _ => 0), zI t (qq k 13) 8 (fun _ => 0), zA t 5 (qq k 14) 8 (fun _ => none), zO 10 (qq k 15) [.ref ((qq k 16)), .ref ((qq k 17)), .ref ((qq k 18)), .int 0], zI t (qq k 16) 8 (fun _ => 0), zI t (qq k 17) 8 (fun _ => 0), zA t 5 (qq k 18) 8 (fun _ => none), zO 10 (qq k 19) [.ref ((qq k 20)), .ref ((qq k 21)), .ref ((qq k 22)), .int 0], zI t (qq k 20) 8 (fun _ => 0), zI t (qq k 21) 8 (fun _ => 0), zA t 5 (qq k 22) 8 (fun _ => none), zA t 5 (qq k 23) 16 (fun _ => none)] := hD
  refine lv_aload_n hx hb d_P_fall_77 rfl (lv_at hl 0 rfl) ?_
  refine lv_iconst (v := 0) hx hb d_P_fall_78 (by decide) ?_
  refine va_put (ci := 9) (v := .int 0) (ty := tyX9 9) (C := "QuorumStoreModel$Node") (T := TX9) (N := 17) hx hb hts inX9 tyX9 okX9 nmX9 hown hK.2 hP hD hS 2 rfl rfl 9 (by decide) (hts _ k_942) (fun _ h9 => h9) rfl (by decide +kernel) rfl rfl (Nat.le_of_ble_eq_true rfl) d_P_fall_79 (fun H locs hP hD hS => ?_)
  have hP : va_P D vwCl [zO 13 ma [.int 0, .int 0, .int 0, .int 0, .int 0, .int 0, .ref nb, .ref wy, .ref hd, .ref tk], zA t 7 nb 7 (fun j => some (qq j 0)), zO 9 (qq k 0) [.int (nI k), .int 0, .int 0, .int 0, .int 0, .int 0, .int 0, .int ((-1)), .int 0, .int 0, .ref ((qq k 1)), .ref ((qq k 7)), .ref ((qq k 11)), .ref ((qq k 15)), .ref ((qq k 19)), .ref ((qq k 23)), .int 0], zO 11 (qq k 1) [.int 0, .ref ((qq k 2)), .ref ((qq k 3)), .ref ((qq k 4)), .ref ((qq k 5)), .ref ((qq k 6)), .int 1], zJ t (qq k 2) 32 (fun _ => 1099511627776), zJ t (qq k 3) 8 (fun _ => 0), zI t (qq k 4) 8 (fun _ => 0), zI t (qq k 5) 4 (xm 1), zI t (qq k 6) 4 (xm mk), zO 10 (qq k 7) [.ref ((qq k 8)), .ref ((qq k 9)), .ref ((qq k 10)), .int 0], zI t (qq k 8) 8 (fun _ => 0), zI t (qq k 9) 8 (fun _ => 0), zA t 5 (qq k 10) 8 (fun _ => none), zO 10 (qq k 11) [.ref ((qq k 12)), .ref ((qq k 13)), .ref ((qq k 14)), .int 0], zI t (qq k 12) 8 (fun _ => 0), zI t (qq k 13) 8 (fun _ => 0), zA t 5 (qq k 14) 8 (fun _ => none), zO 10 (qq k 15) [.ref ((qq k 16)), .ref ((qq k 17)), .ref ((qq k 18)), .int 0], zI t (qq k 16) 8 (fun _ => 0), zI t (qq k 17) 8 (fun _ => 0), zA t 5 (qq k 18) 8 (fun _ => none), zO 10 (qq k 19) [.ref ((qq k 20)), .ref ((qq k 21)), .ref ((qq k 22)), .int 0], zI t (qq k 20) 8 (fun _ => 0), zI t (qq k 21) 8 (fun _ => 0), zA t 5 (qq k 22) 8 (fun _ => none), zA t 5 (qq k 23) 16 (fun _ => none)] H := hP
  have hD : va_D A [zO 13 ma [.int 0, .int 0, .int 0, .int 0, .int 0, .int 0, .ref nb, .ref wy, .ref hd, .ref tk], zA t 7 nb 7 (fun j => some (qq j 0)), zO 9 (qq k 0) [.int (nI k), .int 0, .int 0, .int 0, .int 0, .int 0, .int 0, .int ((-1)), .int 0, .int 0, .ref ((qq k 1)), .ref ((qq k 7)), .ref ((qq k 11)), .ref ((qq k 15)), .ref ((qq k 19)), .ref ((qq k 23)), .int 0], zO 11 (qq k 1) [.int 0, .ref ((qq k 2)), .ref ((qq k 3)), .ref ((qq k 4)), .ref ((qq k 5)), .ref ((qq k 6)), .int 1], zJ t (qq k 2) 32 (fun _ => 1099511627776), zJ t (qq k 3) 8 (fun _ => 0), zI t (qq k 4) 8 (fun _ => 0), zI t (qq k 5) 4 (xm 1), zI t (qq k 6) 4 (xm mk), zO 10 (qq k 7) [.ref ((qq k 8)), .ref ((qq k 9)), .ref ((qq k 10)), .int 0], zI t (qq k 8) 8 (fun _ => 0), zI t (qq k 9) 8 (fun _ => 0), zA t 5 (qq k 10) 8 (fun _ => none), zO 10 (qq k 11) [.ref ((qq k 12)), .ref ((qq k 13)), .ref ((qq k 14)), .int 0], zI t (qq k 12) 8 (fun _ => 0), zI t (qq k 13) 8 (fun _ => 0), zA t 5 (qq k 14) 8 (fun _ => none), zO 10 (qq k 15) [.ref ((qq k 16)), .ref ((qq k 17)), .ref ((qq k 18)), .int 0], zI t (qq k 16) 8 (fun _ => 0), zI t (qq k 17) 8 (fun _ => 0), zA t 5 (qq k 18) 8 (fun _ => none), zO 10 (qq k 19) [.ref ((qq k 20)), .ref ((qq k 21)), .ref ((qq k 22)), .int 0], zI t (qq k 20) 8 (fun _ => 0), zI t (qq k 21) 8 (fun _ => 0), zA t 5 (qq k 22) 8 (fun _ => none), zA t 5 (qq k 23) 16 (fun _ => none)] := hD
  refine lv_aload_n hx hb d_P_fall_82 rfl (lv_at hl 0 rfl) ?_
  refine va_get (ci := 9) (C := "QuorumStoreModel$Node") (T := TX9) (N := 17) hx hb hts inX9 hown hK.2 hP 2 rfl rfl 13 (by decide) (hts _ k_950) (fun _ h9 => h9) rfl d_P_fall_83 ?_
  refine lv_iconst (v := 0) hx hb d_P_fall_86 (by decide) ?_
  refine va_put (ci := 10) (v := .int 0) (ty := tyX10 3) (C := "QuorumStoreModel$Slots") (T := TX10) (N := 4) hx hb hts inX10 tyX10 okX10 nmX10 hown hK.2 hP hD hS 17 rfl rfl 3 (by decide) (hts _ k_842) (fun _ h9 => h9) rfl (by decide +kernel) rfl rfl (Nat.le_of_ble_eq_true rfl) d_P_fall_87 (fun H locs hP hD hS => ?_)
  have hP : va_P D vwCl [zO 13 ma [.int 0, .int 0, .int 0, .int 0, .int 0, .int 0, .ref nb, .ref wy, .ref hd, .ref tk], zA t 7 nb 7 (fun j => some (qq j 0)), zO 9 (qq k 0) [.int (nI k), .int 0, .int 0, .int 0, .int 0, .int 0, .int 0, .int ((-1)), .int 0, .int 0, .ref ((qq k 1)), .ref ((qq k 7)), .ref ((qq k 11)), .ref ((qq k 15)), .ref ((qq k 19)), .ref ((qq k 23)), .int 0], zO 11 (qq k 1) [.int 0, .ref ((qq k 2)), .ref ((qq k 3)), .ref ((qq k 4)), .ref ((qq k 5)), .ref ((qq k 6)), .int 1], zJ t (qq k 2) 32 (fun _ => 1099511627776), zJ t (qq k 3) 8 (fun _ => 0), zI t (qq k 4) 8 (fun _ => 0), zI t (qq k 5) 4 (xm 1), zI t (qq k 6) 4 (xm mk), zO 10 (qq k 7) [.ref ((qq k 8)), .ref ((qq k 9)), .ref ((qq k 10)), .int 0], zI t (qq k 8) 8 (fun _ => 0), zI t (qq k 9) 8 (fun _ => 0), zA t 5 (qq k 10) 8 (fun _ => none), zO 10 (qq k 11) [.ref ((qq k 12)), .ref ((qq k 13)), .ref ((qq k 14)), .int 0], zI t (qq k 12) 8 (fun _ => 0), zI t (qq k 13) 8 (fun _ => 0), zA t 5 (qq k 14) 8 (fun _ => none), zO 10 (qq k 15) [.ref ((qq k 16)), .ref ((qq k 17)), .ref ((qq k 18)), .int 0], zI t (qq k 16) 8 (fun _ => 0), zI t (qq k 17) 8 (fun _ => 0), zA t 5 (qq k 18) 8 (fun _ => none), zO 10 (qq k 19) [.ref ((qq k 20)), .ref ((qq k 21)), .ref ((qq k 22)), .int 0], zI t (qq k 20) 8 (fun _ => 0), zI t (qq k 21) 8 (fun _ => 0), zA t 5 (qq k 22) 8 (fun _ => none), zA t 5 (qq k 23) 16 (fun _ => none)] H := hP
  have hD : va_D A [zO 13 ma [.int 0, .int 0, .int 0, .int 0, .int 0, .int 0, .ref nb, .ref wy, .ref hd, .ref tk], zA t 7 nb 7 (fun j => some (qq j 0)), zO 9 (qq k 0) [.int (nI k), .int 0, .int 0, .int 0, .int 0, .int 0, .int 0, .int ((-1)), .int 0, .int 0, .ref ((qq k 1)), .ref ((qq k 7)), .ref ((qq k 11)), .ref ((qq k 15)), .ref ((qq k 19)), .ref ((qq k 23)), .int 0], zO 11 (qq k 1) [.int 0, .ref ((qq k 2)), .ref ((qq k 3)), .ref ((qq k 4)), .ref ((qq k 5)), .ref ((qq k 6)), .int 1], zJ t (qq k 2) 32 (fun _ => 1099511627776), zJ t (qq k 3) 8 (fun _ => 0), zI t (qq k 4) 8 (fun _ => 0), zI t (qq k 5) 4 (xm 1), zI t (qq k 6) 4 (xm mk), zO 10 (qq k 7) [.ref ((qq k 8)), .ref ((qq k 9)), .ref ((qq k 10)), .int 0], zI t (qq k 8) 8 (fun _ => 0), zI t (qq k 9) 8 (fun _ => 0), zA t 5 (qq k 10) 8 (fun _ => none), zO 10 (qq k 11) [.ref ((qq k 12)), .ref ((qq k 13)), .ref ((qq k 14)), .int 0], zI t (qq k 12) 8 (fun _ => 0), zI t (qq k 13) 8 (fun _ => 0), zA t 5 (qq k 14) 8 (fun _ => none), zO 10 (qq k 15) [.ref ((qq k 16)), .ref ((qq k 17)), .ref ((qq k 18)), .int 0], zI t (qq k 16) 8 (fun _ => 0), zI t (qq k 17) 8 (fun _ => 0), zA t 5 (qq k 18) 8 (fun _ => none), zO 10 (qq k 19) [.ref ((qq k 20)), .ref ((qq k 21)), .ref ((qq k 22)), .int 0], zI t (qq k 20) 8 (fun _ => 0), zI t (qq k 21) 8 (fun _ => 0), zA t 5 (qq k 22) 8 (fun _ => none), zA t 5 (qq k 23) 16 (fun _ => none)] := hD
  refine lv_aload_n hx hb d_P_fall_90 rfl (lv_at hl 0 rfl) ?_
  refine va_get (ci := 9) (C := "QuorumStoreModel$Node") (T := TX9) (N := 17) hx hb hts inX9 hown hK.2 hP 2 rfl rfl 14 (by decide) (hts _ k_952) (fun _ h9 => h9) rfl d_P_fall_91 ?_
  refine lv_iconst (v := 0) hx hb d_P_fall_94 (by decide) ?_
  refine va_put (ci := 10) (v := .int 0) (ty := tyX10 3) (C := "QuorumStoreModel$Slots") (T := TX10) (N := 4) hx hb hts inX10 tyX10 okX10 nmX10 hown hK.2 hP hD hS 21 rfl rfl 3 (by decide) (hts _ k_842) (fun _ h9 => h9) rfl (by decide +kernel) rfl rfl (Nat.le_of_ble_eq_true rfl) d_P_fall_95 (fun H locs hP hD hS => ?_)
  have hP : va_P D vwCl [zO 13 ma [.int 0, .int 0, .int 0, .int 0, .int 0, .int 0, .ref nb, .ref wy, .ref hd, .ref tk], zA t 7 nb 7 (fun j => some (qq j 0)), zO 9 (qq k 0) [.int (nI k), .int 0, .int 0, .int 0, .int 0, .int 0, .int 0, .int ((-1)), .int 0, .int 0, .ref ((qq k 1)), .ref ((qq k 7)), .ref ((qq k 11)), .ref ((qq k 15)), .ref ((qq k 19)), .ref ((qq k 23)), .int 0], zO 11 (qq k 1) [.int 0, .ref ((qq k 2)), .ref ((qq k 3)), .ref ((qq k 4)), .ref ((qq k 5)), .ref ((qq k 6)), .int 1], zJ t (qq k 2) 32 (fun _ => 1099511627776), zJ t (qq k 3) 8 (fun _ => 0), zI t (qq k 4) 8 (fun _ => 0), zI t (qq k 5) 4 (xm 1), zI t (qq k 6) 4 (xm mk), zO 10 (qq k 7) [.ref ((qq k 8)), .ref ((qq k 9)), .ref ((qq k 10)), .int 0], zI t (qq k 8) 8 (fun _ => 0), zI t (qq k 9) 8 (fun _ => 0), zA t 5 (qq k 10) 8 (fun _ => none), zO 10 (qq k 11) [.ref ((qq k 12)), .ref ((qq k 13)), .ref ((qq k 14)), .int 0], zI t (qq k 12) 8 (fun _ => 0), zI t (qq k 13) 8 (fun _ => 0), zA t 5 (qq k 14) 8 (fun _ => none), zO 10 (qq k 15) [.ref ((qq k 16)), .ref ((qq k 17)), .ref ((qq k 18)), .int 0], zI t (qq k 16) 8 (fun _ => 0), zI t (qq k 17) 8 (fun _ => 0), zA t 5 (qq k 18) 8 (fun _ => none), zO 10 (qq k 19) [.ref ((qq k 20)), .ref ((qq k 21)), .ref ((qq k 22)), .int 0], zI t (qq k 20) 8 (fun _ => 0), zI t (qq k 21) 8 (fun _ => 0), zA t 5 (qq k 22) 8 (fun _ => none), zA t 5 (qq k 23) 16 (fun _ => none)] H := hP
  have hD : va_D A [zO 13 ma [.int 0, .int 0, .int 0, .int 0, .int 0, .int 0, .ref nb, .ref wy, .ref hd, .ref tk], zA t 7 nb 7 (fun j => some (qq j 0)), zO 9 (qq k 0) [.int (nI k), .int 0, .int 0, .int 0, .int 0, .int 0, .int 0, .int ((-1)), .int 0, .int 0, .ref ((qq k 1)), .ref ((qq k 7)), .ref ((qq k 11)), .ref ((qq k 15)), .ref ((qq k 19)), .ref ((qq k 23)), .int 0], zO 11 (qq k 1) [.int 0, .ref ((qq k 2)), .ref ((qq k 3)), .ref ((qq k 4)), .ref ((qq k 5)), .ref ((qq k 6)), .int 1], zJ t (qq k 2) 32 (fun _ => 1099511627776), zJ t (qq k 3) 8 (fun _ => 0), zI t (qq k 4) 8 (fun _ => 0), zI t (qq k 5) 4 (xm 1), zI t (qq k 6) 4 (xm mk), zO 10 (qq k 7) [.ref ((qq k 8)), .ref ((qq k 9)), .ref ((qq k 10)), .int 0], zI t (qq k 8) 8 (fun _ => 0), zI t (qq k 9) 8 (fun _ => 0), zA t 5 (qq k 10) 8 (fun _ => none), zO 10 (qq k 11) [.ref ((qq k 12)), .ref ((qq k 13)), .ref ((qq k 14)), .int 0], zI t (qq k 12) 8 (fun _ => 0), zI t (qq k 13) 8 (fun _ => 0), zA t 5 (qq k 14) 8 (fun _ => none), zO 10 (qq k 15) [.ref ((qq k 16)), .ref ((qq k 17)), .ref ((qq k 18)), .int 0], zI t (qq k 16) 8 (fun _ => 0), zI t (qq k 17) 8 (fun _ => 0), zA t 5 (qq k 18) 8 (fun _ => none), zO 10 (qq k 19) [.ref ((qq k 20)), .ref ((qq k 21)), .ref ((qq k 22)), .int 0], zI t (qq k 20) 8 (fun _ => 0), zI t (qq k 21) 8 (fun _ => 0), zA t 5 (qq k 22) 8 (fun _ => none), zA t 5 (qq k 23) 16 (fun _ => none)] := hD
  refine lv_aload_n hx hb d_P_fall_98 rfl (lv_at hl 0 rfl) ?_
  refine lv_iconst (v := 0) hx hb d_P_fall_99 (by decide) ?_
  refine va_put (ci := 9) (v := .int 0) (ty := tyX9 16) (C := "QuorumStoreModel$Node") (T := TX9) (N := 17) hx hb hts inX9 tyX9 okX9 nmX9 hown hK.2 hP hD hS 2 rfl rfl 16 (by decide) (hts _ k_955) (fun _ h9 => h9) rfl (by decide +kernel) rfl rfl (Nat.le_of_ble_eq_true rfl) d_P_fall_100 (fun H locs hP hD hS => ?_)
  have hP : va_P D vwCl [zO 13 ma [.int 0, .int 0, .int 0, .int 0, .int 0, .int 0, .ref nb, .ref wy, .ref hd, .ref tk], zA t 7 nb 7 (fun j => some (qq j 0)), zO 9 (qq k 0) [.int (nI k), .int 0, .int 0, .int 0, .int 0, .int 0, .int 0, .int ((-1)), .int 0, .int 0, .ref ((qq k 1)), .ref ((qq k 7)), .ref ((qq k 11)), .ref ((qq k 15)), .ref ((qq k 19)), .ref ((qq k 23)), .int 0], zO 11 (qq k 1) [.int 0, .ref ((qq k 2)), .ref ((qq k 3)), .ref ((qq k 4)), .ref ((qq k 5)), .ref ((qq k 6)), .int 1], zJ t (qq k 2) 32 (fun _ => 1099511627776), zJ t (qq k 3) 8 (fun _ => 0), zI t (qq k 4) 8 (fun _ => 0), zI t (qq k 5) 4 (xm 1), zI t (qq k 6) 4 (xm mk), zO 10 (qq k 7) [.ref ((qq k 8)), .ref ((qq k 9)), .ref ((qq k 10)), .int 0], zI t (qq k 8) 8 (fun _ => 0), zI t (qq k 9) 8 (fun _ => 0), zA t 5 (qq k 10) 8 (fun _ => none), zO 10 (qq k 11) [.ref ((qq k 12)), .ref ((qq k 13)), .ref ((qq k 14)), .int 0], zI t (qq k 12) 8 (fun _ => 0), zI t (qq k 13) 8 (fun _ => 0), zA t 5 (qq k 14) 8 (fun _ => none), zO 10 (qq k 15) [.ref ((qq k 16)), .ref ((qq k 17)), .ref ((qq k 18)), .int 0], zI t (qq k 16) 8 (fun _ => 0), zI t (qq k 17) 8 (fun _ => 0), zA t 5 (qq k 18) 8 (fun _ => none), zO 10 (qq k 19) [.ref ((qq k 20)), .ref ((qq k 21)), .ref ((qq k 22)), .int 0], zI t (qq k 20) 8 (fun _ => 0), zI t (qq k 21) 8 (fun _ => 0), zA t 5 (qq k 22) 8 (fun _ => none), zA t 5 (qq k 23) 16 (fun _ => none)] H := hP
  have hD : va_D A [zO 13 ma [.int 0, .int 0, .int 0, .int 0, .int 0, .int 0, .ref nb, .ref wy, .ref hd, .ref tk], zA t 7 nb 7 (fun j => some (qq j 0)), zO 9 (qq k 0) [.int (nI k), .int 0, .int 0, .int 0, .int 0, .int 0, .int 0, .int ((-1)), .int 0, .int 0, .ref ((qq k 1)), .ref ((qq k 7)), .ref ((qq k 11)), .ref ((qq k 15)), .ref ((qq k 19)), .ref ((qq k 23)), .int 0], zO 11 (qq k 1) [.int 0, .ref ((qq k 2)), .ref ((qq k 3)), .ref ((qq k 4)), .ref ((qq k 5)), .ref ((qq k 6)), .int 1], zJ t (qq k 2) 32 (fun _ => 1099511627776), zJ t (qq k 3) 8 (fun _ => 0), zI t (qq k 4) 8 (fun _ => 0), zI t (qq k 5) 4 (xm 1), zI t (qq k 6) 4 (xm mk), zO 10 (qq k 7) [.ref ((qq k 8)), .ref ((qq k 9)), .ref ((qq k 10)), .int 0], zI t (qq k 8) 8 (fun _ => 0), zI t (qq k 9) 8 (fun _ => 0), zA t 5 (qq k 10) 8 (fun _ => none), zO 10 (qq k 11) [.ref ((qq k 12)), .ref ((qq k 13)), .ref ((qq k 14)), .int 0], zI t (qq k 12) 8 (fun _ => 0), zI t (qq k 13) 8 (fun _ => 0), zA t 5 (qq k 14) 8 (fun _ => none), zO 10 (qq k 15) [.ref ((qq k 16)), .ref ((qq k 17)), .ref ((qq k 18)), .int 0], zI t (qq k 16) 8 (fun _ => 0), zI t (qq k 17) 8 (fun _ => 0), zA t 5 (qq k 18) 8 (fun _ => none), zO 10 (qq k 19) [.ref ((qq k 20)), .ref ((qq k 21)), .ref ((qq k 22)), .int 0], zI t (qq k 20) 8 (fun _ => 0), zI t (qq k 21) 8 (fun _ => 0), zA t 5 (qq k 22) 8 (fun _ => none), zA t 5 (qq k 23) 16 (fun _ => none)] := hD
  have hP := hP.sub (ws' := [zO 13 ma [.int 0, .int 0, .int 0, .int 0, .int 0, .int 0, .ref nb, .ref wy, .ref hd, .ref tk]]) [0] rfl
  have hD := hD.sub (ws' := [zO 13 ma [.int 0, .int 0, .int 0, .int 0, .int 0, .int 0, .ref nb, .ref wy, .ref hd, .ref tk]]) [0] (by decide) rfl
  exact W.vret hx hb hr (fun t ht hW => ⟨⟨(), rfl, trivial, by rw [ht]; exact hP, hD⟩, hS.F ht⟩) hS.2.2 d_P_fall_103
theorem d_P_rise_12 : decode c_P_rise 12 = .ok (.aload_n 0, 1) := by decide +kernel
theorem d_P_rise_13 : decode c_P_rise 13 = .ok (.getfield 11, 3) := by decide +kernel
theorem d_P_rise_16 : decode c_P_rise 16 = .ok (.iload_n 1, 1) := by decide +kernel
theorem d_P_rise_17 : decode c_P_rise 17 = .ok (.aaload, 1) := by decide +kernel
theorem d_P_rise_18 : decode c_P_rise 18 = .ok (.getfield 256, 3) := by decide +kernel
theorem d_P_rise_21 : decode c_P_rise 21 = .ok (.ifCond .eq 7, 3) := by decide +kernel
theorem d_P_rise_24 : decode c_P_rise 24 = .ok (.iconst 2, 1) := by decide +kernel
theorem d_P_rise_25 : decode c_P_rise 25 = .ok (.goto 4, 3) := by decide +kernel
set_option maxHeartbeats 4000000 in
set_option maxRecDepth 100000 in
/-- rise of a live node -/
theorem C_P_rise (l : Launch) (D : va_G) (t : Nat → ClassId) (ma nb wy hd tk : Nat) (th : Int32) (qq : Nat → Nat → Nat) (mk : Int32) (k : Nat) (hk : k < 7) : xe_C l D vwCl (xTY t) y_P_rise c_P_rise 2 (Option.none : Option FieldType) ({ frames := 1, cells := 0, slots := 0, locals := 20 }) [.ref ma, .int (nI k)] [zO 13 ma [.int th, .int 0, .int 0, .int 0, .int 0, .int 0, .ref nb, .ref wy, .ref hd, .ref tk], zA t 7 nb 7 (fun j => some (qq j 0)), zO 9 (qq k 0) [.int (nI k), .int 1, .int 0, .int 0, .int 0, .int 0, .int (nI (8 + 3 * k)), .int ((-1)), .int 0, .int 0, .ref ((qq k 1)), .ref ((qq k 7)), .ref ((qq k 11)), .ref ((qq k 15)), .ref ((qq k 19)), .ref ((qq k 23)), .int 0], zO 11 (qq k 1) [.int 0, .ref ((qq k 2)), .ref ((qq k 3)), .ref ((qq k 4)), .ref ((qq k 5)), .ref ((qq k 6)), .int 1], zJ t (qq k 2) 32 (fun _ => 1099511627776), zJ t (qq k 3) 8 (fun _ => 0), zI t (qq k 4) 8 (fun _ => 0), zI t (qq k 5) 4 (xm 1), zI t (qq k 6) 4 (xm mk), zO 10 (qq k 7) [.ref ((qq k 8)), .ref ((qq k 9)), .ref ((qq k 10)), .int 0], zI t (qq k 8) 8 (fun _ => 0), zI t (qq k 9) 8 (fun _ => 0), zA t 5 (qq k 10) 8 (fun _ => none), zO 10 (qq k 11) [.ref ((qq k 12)), .ref ((qq k 13)), .ref ((qq k 14)), .int 0], zI t (qq k 12) 8 (fun _ => 0), zI t (qq k 13) 8 (fun _ => 0), zA t 5 (qq k 14) 8 (fun _ => none), zO 10 (qq k 15) [.ref ((qq k 16)), .ref ((qq k 17)), .ref ((qq k 18)), .int 0], zI t (qq k 16) 8 (fun _ => 0), zI t (qq k 17) 8 (fun _ => 0), zA t 5 (qq k 18) 8 (fun _ => none), zO 10 (qq k 19) [.ref ((qq k 20)), .ref ((qq k 21)), .ref ((qq k 22)), .int 0], zI t (qq k 20) 8 (fun _ => 0), zI t (qq k 21) 8 (fun _ => 0), zA t 5 (qq k 22) 8 (fun _ => none), zA t 5 (qq k 23) 16 (fun _ => none)] (xe_v D vwCl (fun _ : Unit => True) (fun _ => [zO 13 ma [.int 2, .int 0, .int 0, .int 0, .int 0, .int 0, .ref nb, .ref wy, .ref hd, .ref tk]])) 0 0 := by
  refine xe_of (by decide) (Nat.le_of_ble_eq_true rfl) ?_
  intro p e s m below meth c ls A Z hr hlocks hin hA hP hD hS hl
  obtain ⟨hx, hb, hml, hown, hK⟩ := id Z
  have hown : s.vm.findClass "QuorumStoreModel" = some m.cls := hown
  have hts := hK.1.at (args := ([.ref ma, .int (nI k)] : List Value).toArray)
  have hl : lv_has ls 2 [(0, .ref ma), (1, .int (nI k))] := hl
  refine lv_aload_n hx hb d_P_rise_0 rfl (lv_at hl 0 rfl) ?_
  refine lv_iload_n hx hb d_P_rise_1 rfl (lv_at hl 1 rfl) ?_
  refine xr_call (xs_S (As := [.int (nI k)]) (rest := [.ref ma]) Z (C_P_noNode l D t k hk) m_P_noNode k_1217 k_1218 rfl rfl ⟨Nat.le_of_ble_eq_true rfl, Nat.le_of_ble_eq_true rfl⟩ (xr_pre hK (hP.sub [] rfl)) rfl hl.1 rfl (Nat.le_of_ble_eq_true rfl) d_P_rise_2 ⟨Nat.le_of_ble_eq_true rfl, Nat.le_of_ble_eq_true rfl⟩) ?_
  refine lv_if_eq (tgt := 12) hx hb d_P_rise_5 (by decide) (fun _ => ?_) (fun c_1 => absurd (by decide) c_1)
  refine lv_aload_n hx hb d_P_rise_12 rfl (lv_at hl 0 rfl) ?_
  refine va_get (ci := 13) (C := "QuorumStoreModel") (T := TX13) (N := 10) hx hb hts inX13 hown hK.2 hP 0 rfl rfl 6 (by decide) (hts _ k_1001) (fun _ h9 => h9) rfl d_P_rise_13 ?_
  refine lv_iload_n hx hb d_P_rise_16 rfl (lv_at hl 1 rfl) ?_
  refine va_aldq hx hb hK.2 hP 1 7 rfl rfl (vp_in_nI hk (by decide)) d_P_rise_17 ?_
  rw [nI_clamp (show k < 2 ^ 31 by omega)]
  refine va_get (ci := 9) (C := "QuorumStoreModel$Node") (T := TX9) (N := 17) hx hb hts inX9 hown hK.2 hP 2 rfl rfl 1 (by decide) (hts _ k_932) (fun _ h9 => h9) rfl d_P_rise_18 ?_
  refine lv_if_eq (tgt := 28) hx hb d_P_rise_21 (by decide) (fun c_2 => absurd c_2 (by decide)) (fun _ => ?_)
  refine lv_iconst (v := 2) hx hb d_P_rise_24 (by decide) ?_
  refine lv_goto (tgt := 29) hx hb d_P_rise_25 (by decide) ?_
  refine va_put (ci := 13) (v := .int 2) (ty := tyX13 0) (C := "QuorumStoreModel") (T := TX13) (N := 10) hx hb hts inX13 tyX13 okX13 nmX13 hown hK.2 hP hD hS 0 rfl rfl 0 (by decide) (hts _ k_995) (fun _ h9 => h9) rfl (by decide +kernel) rfl rfl (Nat.le_of_ble_eq_true rfl) d_P_rise_29 (fun H locs hP hD hS => ?_)
  have hP : va_P D vwCl [zO 13 ma [.int 2, .int 0, .int 0, .int 0, .int 0, .int 0, .ref nb, .ref wy, .ref hd, .ref tk], zA t 7 nb 7 (fun j => some (qq j 0)), zO 9 (qq k 0) [.int (nI k), .int 1, .int 0, .int 0, .int 0, .int 0, .int (nI (8 + 3 * k)), .int ((-1)), .int 0, .int 0, .ref ((qq k 1)), .ref ((qq k 7)), .ref ((qq k 11)), .ref ((qq k 15)), .ref ((qq k 19)), .ref ((qq k 23)), .int 0], zO 11 (qq k 1) [.int 0, .ref ((qq k 2)), .ref ((qq k 3)), .ref ((qq k 4)), .ref ((qq k 5)), .ref ((qq k 6)), .int 1], zJ t (qq k 2) 32 (fun _ => 1099511627776), zJ t (qq k 3) 8 (fun _ => 0), zI t (qq k 4) 8 (fun _ => 0), zI t (qq k 5) 4 (xm 1), zI t (qq k 6) 4 (xm mk), zO 10 (qq k 7) [.ref ((qq k 8)), .ref ((qq k 9)), .ref ((qq k 10)), .int 0], zI t (qq k 8) 8 (fun _ => 0), zI t (qq k 9) 8 (fun _ => 0), zA t 5 (qq k 10) 8 (fun _ => none), zO 10 (qq k 11) [.ref ((qq k 12)), .ref ((qq k 13)), .ref ((qq k 14)), .int 0], zI t (qq k 12) 8 (fun _ => 0), zI t (qq k 13) 8 (fun _ => 0), zA t 5 (qq k 14) 8 (fun _ => none), zO 10 (qq k 15) [.ref ((qq k 16)), .ref ((qq k 17)), .ref ((qq k 18)), .int 0], zI t (qq k 16) 8 (fun _ => 0), zI t (qq k 17) 8 (fun _ => 0), zA t 5 (qq k 18) 8 (fun _ => none), zO 10 (qq k 19) [.ref ((qq k 20)), .ref ((qq k 21)), .ref ((qq k 22)), .int 0], zI t (qq k 20) 8 (fun _ => 0), zI t (qq k 21) 8 (fun _ => 0), zA t 5 (qq k 22) 8 (fun _ => none), zA t 5 (qq k 23) 16 (fun _ => none)] H := hP
  have hD : va_D A [zO 13 ma [.int 2, .int 0, .int 0, .int 0, .int 0, .int 0, .ref nb, .ref wy, .ref hd, .ref tk], zA t 7 nb 7 (fun j => some (qq j 0)), zO 9 (qq k 0) [.int (nI k), .int 1, .int 0, .int 0, .int 0, .int 0, .int (nI (8 + 3 * k)), .int ((-1)), .int 0, .int 0, .ref ((qq k 1)), .ref ((qq k 7)), .ref ((qq k 11)), .ref ((qq k 15)), .ref ((qq k 19)), .ref ((qq k 23)), .int 0], zO 11 (qq k 1) [.int 0, .ref ((qq k 2)), .ref ((qq k 3)), .ref ((qq k 4)), .ref ((qq k 5)), .ref ((qq k 6)), .int 1], zJ t (qq k 2) 32 (fun _ => 1099511627776), zJ t (qq k 3) 8 (fun _ => 0), zI t (qq k 4) 8 (fun _ => 0), zI t (qq k 5) 4 (xm 1), zI t (qq k 6) 4 (xm mk), zO 10 (qq k 7) [.ref ((qq k 8)), .ref ((qq k 9)), .ref ((qq k 10)), .int 0], zI t (qq k 8) 8 (fun _ => 0), zI t (qq k 9) 8 (fun _ => 0), zA t 5 (qq k 10) 8 (fun _ => none), zO 10 (qq k 11) [.ref ((qq k 12)), .ref ((qq k 13)), .ref ((qq k 14)), .int 0], zI t (qq k 12) 8 (fun _ => 0), zI t (qq k 13) 8 (fun _ => 0), zA t 5 (qq k 14) 8 (fun _ => none), zO 10 (qq k 15) [.ref ((qq k 16)), .ref ((qq k 17)), .ref ((qq k 18)), .int 0], zI t (qq k 16) 8 (fun _ => 0), zI t (qq k 17) 8 (fun _ => 0), zA t 5 (qq k 18) 8 (fun _ => none), zO 10 (qq k 19) [.ref ((qq k 20)), .ref ((qq k 21)), .ref ((qq k 22)), .int 0], zI t (qq k 20) 8 (fun _ => 0), zI t (qq k 21) 8 (fun _ => 0), zA t 5 (qq k 22) 8 (fun _ => none), zA t 5 (qq k 23) 16 (fun _ => none)] := hD
  refine lv_aload_n hx hb d_P_rise_32 rfl (lv_at hl 0 rfl) ?_
  refine va_get (ci := 13) (C := "QuorumStoreModel") (T := TX13) (N := 10) hx hb hts inX13 hown hK.2 hP 0 rfl rfl 0 (by decide) (hts _ k_995) (fun _ h9 => h9) rfl d_P_rise_33 ?_
  refine lv_if_le (tgt := 40) hx hb d_P_rise_36 (by decide) (fun c_3 => absurd c_3 (by decide)) (fun _ => ?_)
  have hP := hP.sub (ws' := [zO 13 ma [.int 2, .int 0, .int 0, .int 0, .int 0, .int 0, .ref nb, .ref wy, .ref hd, .ref tk]]) [0] rfl
  have hD := hD.sub (ws' := [zO 13 ma [.int 2, .int 0, .int 0, .int 0, .int 0, .int 0, .ref nb, .ref wy, .ref hd, .ref tk]]) [0] (by decide) rfl
  exact W.vret hx hb hr (fun t ht hW => ⟨⟨(), rfl, trivial, by rw [ht]; exact hP, hD⟩, hS.F ht⟩) hS.2.2 d_P_rise_39
theorem d_P_ask_12 : decode c_P_ask 12 = .ok (.iload_n 2, 1) := by decide +kernel
theorem d_P_ask_13 : decode c_P_ask 13 = .ok (.ifCond .lt 9, 3) := by decide +kernel
theorem d_P_ask_16 : decode c_P_ask 16 = .ok (.iload_n 2, 1) := by decide +kernel
theorem d_P_ask_17 : decode c_P_ask 17 = .ok (.bipush 7, 2) := by decide +kernel
theorem d_P_ask_19 : decode c_P_ask 19 = .ok (.if_icmp .le 9, 3) := by decide +kernel
set_option maxHeartbeats 4000000 in
set_option maxRecDepth 100000 in
/-- ask of no client -/
theorem C_P_ask_2 (l : Launch) (D : va_G) (t : Nat → ClassId) (ma nb wy hd tk : Nat) (th : Int32) (k : Nat) (hk : k < 7) (a2 a3 a4 a5 a6 : Int32) (hc : a2 < 0 ∨ 8 ≤ a2) : xe_C l D vwCl (xTY t) y_P_ask c_P_ask 9 (Option.some FieldType.int) ({ frames := 1, cells := 0, slots := 0, locals := 21 }) [.ref ma, .int (nI k), .int a2, .int a3, .int a4, .int a5, .int a6] [zO 13 ma [.int th, .int 0, .int 0, .int 0, .int 0, .int 0, .ref nb, .ref wy, .ref hd, .ref tk]] (xe_i D vwCl (fun (r : Int32) (_ : Unit) => r = 0) (fun _ => [zO 13 ma [.int 1, .int 0, .int 0, .int 0, .int 0, .int 0, .ref nb, .ref wy, .ref hd, .ref tk]])) 0 0 := by
  refine xe_of (by decide) (Nat.le_of_ble_eq_true rfl) ?_
  intro p e s m below meth c ls A Z hr hlocks hin hA hP hD hS hl
  obtain ⟨hx, hb, hml, hown, hK⟩ := id Z
  have hown : s.vm.findClass "QuorumStoreModel" = some m.cls := hown
  have hts := hK.1.at (args := ([.ref ma, .int (nI k), .int a2, .int a3, .int a4, .int a5, .int a6] : List Value).toArray)
  have hl : lv_has ls 9 [(0, .ref ma), (1, .int (nI k)), (2, .int a2), (3, .int a3), (4, .int a4), (5, .int a5), (6, .int a6)] := hl
  refine lv_aload_n hx hb d_P_ask_0 rfl (lv_at hl 0 rfl) ?_
  refine lv_iconst (v := 0) hx hb d_P_ask_1 (by decide) ?_
  refine va_put (ci := 13) (v := .int 0) (ty := tyX13 0) (C := "QuorumStoreModel") (T := TX13) (N := 10) hx hb hts inX13 tyX13 okX13 nmX13 hown hK.2 hP hD hS 0 rfl rfl 0 (by decide) (hts _ k_995) (fun _ h9 => h9) rfl (by decide +kernel) rfl rfl (Nat.le_of_ble_eq_true rfl) d_P_ask_2 (fun H locs hP hD hS => ?_)
  have hP : va_P D vwCl [zO 13 ma [.int 0, .int 0, .int 0, .int 0, .int 0, .int 0, .ref nb, .ref wy, .ref hd, .ref tk]] H := hP
  have hD : va_D A [zO 13 ma [.int 0, .int 0, .int 0, .int 0, .int 0, .int 0, .ref nb, .ref wy, .ref hd, .ref tk]] := hD
  refine lv_iload_n hx hb d_P_ask_5 rfl (lv_at hl 1 rfl) ?_
  refine xr_call (xs_S (As := [.int (nI k)]) (rest := []) Z (C_P_noNode l D t k hk) m_P_noNode k_1217 k_1218 rfl rfl ⟨Nat.le_of_ble_eq_true rfl, Nat.le_of_ble_eq_true rfl⟩ (xr_pre hK (hP.sub [] rfl)) rfl hl.1 rfl (Nat.le_of_ble_eq_true rfl) d_P_ask_6 ⟨Nat.le_of_ble_eq_true rfl, Nat.le_of_ble_eq_true rfl⟩) ?_
  refine lv_if_ne (tgt := 22) hx hb d_P_ask_9 (by decide) (fun c_1 => absurd c_1 (by decide)) (fun _ => ?_)
  refine lv_iload_n hx hb d_P_ask_12 rfl (lv_at hl 2 rfl) ?_
  refine lv_if_lt (tgt := 22) hx hb d_P_ask_13 (by decide) (fun c_2 => ?_) (fun c_2 => ?_)
  · refine lv_aload_n hx hb d_P_ask_22 rfl (lv_at hl 0 rfl) ?_
    refine lv_iconst (v := 1) hx hb d_P_ask_23 (by decide) ?_
    refine xe_calli (wr := []) (xs_V (As := [.int 1]) (rest := []) Z (C_P_fail l D t ma nb wy hd tk 0 1 H.size) m_P_fail k_1034 k_1036 ks_33 rfl rfl ⟨Nat.le_of_ble_eq_true rfl, Nat.le_of_ble_eq_true rfl⟩ (va_recv hK.2 hP (ci := 13) (q0 := 0) rfl rfl) (xe_pre hK (hP.sub [0] rfl) (hD.sub [0] (by decide) rfl)) rfl hl.1 rfl (Nat.le_of_ble_eq_true rfl) d_P_ask_24 ⟨Nat.le_of_ble_eq_true rfl, Nat.le_of_ble_eq_true rfl⟩) hP hD hS hA [0] [] rfl rfl (by decide) (by decide) (fun r_3 u_ H locs hw hP hD hS => ?_)
    have hP : va_P D vwCl [zO 13 ma [.int 1, .int 0, .int 0, .int 0, .int 0, .int 0, .ref nb, .ref wy, .ref hd, .ref tk]] H := hP
    have hD : va_D A [zO 13 ma [.int 1, .int 0, .int 0, .int 0, .int 0, .int 0, .ref nb, .ref wy, .ref hd, .ref tk]] := hD
    obtain rfl := hw
    exact W.iret hx hb hr (fun t ht hW => ⟨⟨0, (), rfl, rfl, by rw [ht]; exact hP, hD⟩, hS.F ht⟩) hS.2.2 d_P_ask_27
  · refine lv_iload_n hx hb d_P_ask_16 rfl (lv_at hl 2 rfl) ?_
    refine lv_bipush (v := 7) hx hb d_P_ask_17 (by decide) ?_
    refine lv_icmp_le (tgt := 28) hx hb d_P_ask_19 (by decide) (fun c_4 => absurd c_4 (fun h9 => hc.elim c_2 (fun h8 => absurd (Int32.le_trans h8 h9) (by decide)))) (fun _ => ?_)
    refine lv_aload_n hx hb d_P_ask_22 rfl (lv_at hl 0 rfl) ?_
    refine lv_iconst (v := 1) hx hb d_P_ask_23 (by decide) ?_
    refine xe_calli (wr := []) (xs_V (As := [.int 1]) (rest := []) Z (C_P_fail l D t ma nb wy hd tk 0 1 H.size) m_P_fail k_1034 k_1036 ks_33 rfl rfl ⟨Nat.le_of_ble_eq_true rfl, Nat.le_of_ble_eq_true rfl⟩ (va_recv hK.2 hP (ci := 13) (q0 := 0) rfl rfl) (xe_pre hK (hP.sub [0] rfl) (hD.sub [0] (by decide) rfl)) rfl hl.1 rfl (Nat.le_of_ble_eq_true rfl) d_P_ask_24 ⟨Nat.le_of_ble_eq_true rfl, Nat.le_of_ble_eq_true rfl⟩) hP hD hS hA [0] [] rfl rfl (by decide) (by decide) (fun r_5 u_ H locs hw hP hD hS => ?_)
    have hP : va_P D vwCl [zO 13 ma [.int 1, .int 0, .int 0, .int 0, .int 0, .int 0, .ref nb, .ref wy, .ref hd, .ref tk]] H := hP
    have hD : va_D A [zO 13 ma [.int 1, .int 0, .int 0, .int 0, .int 0, .int 0, .ref nb, .ref wy, .ref hd, .ref tk]] := hD
    obtain rfl := hw
    exact W.iret hx hb hr (fun t ht hW => ⟨⟨0, (), rfl, rfl, by rw [ht]; exact hP, hD⟩, hS.F ht⟩) hS.2.2 d_P_ask_27
theorem d_P_ask_28 : decode c_P_ask 28 = .ok (.iload 4, 2) := by decide +kernel
theorem d_P_ask_30 : decode c_P_ask 30 = .ok (.iconst 1, 1) := by decide +kernel
theorem d_P_ask_31 : decode c_P_ask 31 = .ok (.if_icmp .lt 15, 3) := by decide +kernel
theorem d_P_ask_34 : decode c_P_ask 34 = .ok (.iload 4, 2) := by decide +kernel
theorem d_P_ask_36 : decode c_P_ask 36 = .ok (.bipush 6, 2) := by decide +kernel
theorem d_P_ask_38 : decode c_P_ask 38 = .ok (.if_icmp .gt 8, 3) := by decide +kernel
theorem d_P_ask_41 : decode c_P_ask 41 = .ok (.iload_n 3, 1) := by decide +kernel
theorem d_P_ask_42 : decode c_P_ask 42 = .ok (.iconst 1, 1) := by decide +kernel
theorem d_P_ask_43 : decode c_P_ask 43 = .ok (.if_icmp .ge 9, 3) := by decide +kernel
theorem d_P_ask_46 : decode c_P_ask 46 = .ok (.aload_n 0, 1) := by decide +kernel
theorem d_P_ask_47 : decode c_P_ask 47 = .ok (.iconst 2, 1) := by decide +kernel
theorem d_P_ask_48 : decode c_P_ask 48 = .ok (.invokevirtual 298, 3) := by decide +kernel
theorem d_P_ask_51 : decode c_P_ask 51 = .ok (.ireturn, 1) := by decide +kernel
set_option maxHeartbeats 4000000 in
set_option maxRecDepth 100000 in
/-- ask of a kind out of 1 .. 6, or seq below 1 -/
theorem C_P_ask_3 (l : Launch) (D : va_G) (t : Nat → ClassId) (ma nb wy hd tk : Nat) (th : Int32) (k : Nat) (hk : k < 7) (j : Nat) (hj : j < 8) (a3 a4 a5 a6 : Int32) (hc : a4 < 1 ∨ 6 < a4 ∨ a3 < 1) : xe_C l D vwCl (xTY t) y_P_ask c_P_ask 9 (Option.some FieldType.int) ({ frames := 1, cells := 0, slots := 0, locals := 21 }) [.ref ma, .int (nI k), .int (nI j), .int a3, .int a4, .int a5, .int a6] [zO 13 ma [.int th, .int 0, .int 0, .int 0, .int 0, .int 0, .ref nb, .ref wy, .ref hd, .ref tk]] (xe_i D vwCl (fun (r : Int32) (_ : Unit) => r = 0) (fun _ => [zO 13 ma [.int 2, .int 0, .int 0, .int 0, .int 0, .int 0, .ref nb, .ref wy, .ref hd, .ref tk]])) 0 0 := by
  refine xe_of (by decide) (Nat.le_of_ble_eq_true rfl) ?_
  intro p e s m below meth c ls A Z hr hlocks hin hA hP hD hS hl
  obtain ⟨hx, hb, hml, hown, hK⟩ := id Z
  have hown : s.vm.findClass "QuorumStoreModel" = some m.cls := hown
  have hts := hK.1.at (args := ([.ref ma, .int (nI k), .int (nI j), .int a3, .int a4, .int a5, .int a6] : List Value).toArray)
  have hl : lv_has ls 9 [(0, .ref ma), (1, .int (nI k)), (2, .int (nI j)), (3, .int a3), (4, .int a4), (5, .int a5), (6, .int a6)] := hl
  refine lv_aload_n hx hb d_P_ask_0 rfl (lv_at hl 0 rfl) ?_
  refine lv_iconst (v := 0) hx hb d_P_ask_1 (by decide) ?_
  refine va_put (ci := 13) (v := .int 0) (ty := tyX13 0) (C := "QuorumStoreModel") (T := TX13) (N := 10) hx hb hts inX13 tyX13 okX13 nmX13 hown hK.2 hP hD hS 0 rfl rfl 0 (by decide) (hts _ k_995) (fun _ h9 => h9) rfl (by decide +kernel) rfl rfl (Nat.le_of_ble_eq_true rfl) d_P_ask_2 (fun H locs hP hD hS => ?_)
  have hP : va_P D vwCl [zO 13 ma [.int 0, .int 0, .int 0, .int 0, .int 0, .int 0, .ref nb, .ref wy, .ref hd, .ref tk]] H := hP
  have hD : va_D A [zO 13 ma [.int 0, .int 0, .int 0, .int 0, .int 0, .int 0, .ref nb, .ref wy, .ref hd, .ref tk]] := hD
  refine lv_iload_n hx hb d_P_ask_5 rfl (lv_at hl 1 rfl) ?_
  refine xr_call (xs_S (As := [.int (nI k)]) (rest := []) Z (C_P_noNode l D t k hk) m_P_noNode k_1217 k_1218 rfl rfl ⟨Nat.le_of_ble_eq_true rfl, Nat.le_of_ble_eq_true rfl⟩ (xr_pre hK (hP.sub [] rfl)) rfl hl.1 rfl (Nat.le_of_ble_eq_true rfl) d_P_ask_6 ⟨Nat.le_of_ble_eq_true rfl, Nat.le_of_ble_eq_true rfl⟩) ?_
  refine lv_if_ne (tgt := 22) hx hb d_P_ask_9 (by decide) (fun c_1 => absurd c_1 (by decide)) (fun _ => ?_)
  refine lv_iload_n hx hb d_P_ask_12 rfl (lv_at hl 2 rfl) ?_
  refine lv_if_lt (tgt := 22) hx hb d_P_ask_13 (by decide) (fun c_2 => absurd c_2 (nI_pos (by omega))) (fun _ => ?_)
  refine lv_iload_n hx hb d_P_ask_16 rfl (lv_at hl 2 rfl) ?_
  refine lv_bipush (v := 7) hx hb d_P_ask_17 (by decide) ?_
  refine lv_icmp_le (tgt := 28) hx hb d_P_ask_19 (by decide) (fun _ => ?_) (fun c_3 => absurd (show nI j ≤ nI 7 from nI_le (by omega) (by decide)) c_3)
  refine lv_iload hx hb d_P_ask_28 (lv_at hl 4 rfl) ?_
  refine lv_iconst (v := 1) hx hb d_P_ask_30 (by decide) ?_
  refine lv_icmp_lt (tgt := 46) hx hb d_P_ask_31 (by decide) (fun c_4 => ?_) (fun c_4 => ?_)
  · refine lv_aload_n hx hb d_P_ask_46 rfl (lv_at hl 0 rfl) ?_
    refine lv_iconst (v := 2) hx hb d_P_ask_47 (by decide) ?_
    refine xe_calli (wr := []) (xs_V (As := [.int 2]) (rest := []) Z (C_P_fail l D t ma nb wy hd tk 0 2 H.size) m_P_fail k_1034 k_1036 ks_33 rfl rfl ⟨Nat.le_of_ble_eq_true rfl, Nat.le_of_ble_eq_true rfl⟩ (va_recv hK.2 hP (ci := 13) (q0 := 0) rfl rfl) (xe_pre hK (hP.sub [0] rfl) (hD.sub [0] (by decide) rfl)) rfl hl.1 rfl (Nat.le_of_ble_eq_true rfl) d_P_ask_48 ⟨Nat.le_of_ble_eq_true rfl, Nat.le_of_ble_eq_true rfl⟩) hP hD hS hA [0] [] rfl rfl (by decide) (by decide) (fun r_5 u_ H locs hw hP hD hS => ?_)
    have hP : va_P D vwCl [zO 13 ma [.int 2, .int 0, .int 0, .int 0, .int 0, .int 0, .ref nb, .ref wy, .ref hd, .ref tk]] H := hP
    have hD : va_D A [zO 13 ma [.int 2, .int 0, .int 0, .int 0, .int 0, .int 0, .ref nb, .ref wy, .ref hd, .ref tk]] := hD
    obtain rfl := hw
    exact W.iret hx hb hr (fun t ht hW => ⟨⟨0, (), rfl, rfl, by rw [ht]; exact hP, hD⟩, hS.F ht⟩) hS.2.2 d_P_ask_51
  · refine lv_iload hx hb d_P_ask_34 (lv_at hl 4 rfl) ?_
    refine lv_bipush (v := 6) hx hb d_P_ask_36 (by decide) ?_
    refine lv_icmp_gt (tgt := 46) hx hb d_P_ask_38 (by decide) (fun c_6 => ?_) (fun c_6 => ?_)
    · refine lv_aload_n hx hb d_P_ask_46 rfl (lv_at hl 0 rfl) ?_
      refine lv_iconst (v := 2) hx hb d_P_ask_47 (by decide) ?_
      refine xe_calli (wr := []) (xs_V (As := [.int 2]) (rest := []) Z (C_P_fail l D t ma nb wy hd tk 0 2 H.size) m_P_fail k_1034 k_1036 ks_33 rfl rfl ⟨Nat.le_of_ble_eq_true rfl, Nat.le_of_ble_eq_true rfl⟩ (va_recv hK.2 hP (ci := 13) (q0 := 0) rfl rfl) (xe_pre hK (hP.sub [0] rfl) (hD.sub [0] (by decide) rfl)) rfl hl.1 rfl (Nat.le_of_ble_eq_true rfl) d_P_ask_48 ⟨Nat.le_of_ble_eq_true rfl, Nat.le_of_ble_eq_true rfl⟩) hP hD hS hA [0] [] rfl rfl (by decide) (by decide) (fun r_7 u_ H locs hw hP hD hS => ?_)
      have hP : va_P D vwCl [zO 13 ma [.int 2, .int 0, .int 0, .int 0, .int 0, .int 0, .ref nb, .ref wy, .ref hd, .ref tk]] H := hP
      have hD : va_D A [zO 13 ma [.int 2, .int 0, .int 0, .int 0, .int 0, .int 0, .ref nb, .ref wy, .ref hd, .ref tk]] := hD
      obtain rfl := hw
      exact W.iret hx hb hr (fun t ht hW => ⟨⟨0, (), rfl, rfl, by rw [ht]; exact hP, hD⟩, hS.F ht⟩) hS.2.2 d_P_ask_51
    · refine lv_iload_n hx hb d_P_ask_41 rfl (lv_at hl 3 rfl) ?_
      refine lv_iconst (v := 1) hx hb d_P_ask_42 (by decide) ?_
      refine lv_icmp_ge (tgt := 52) hx hb d_P_ask_43 (by decide) (fun c_8 => absurd c_8 (fun h9 => hc.elim c_4 (fun h8 => h8.elim c_6 (fun h7 => Int32.not_le.mpr h7 h9)))) (fun _ => ?_)
      refine lv_aload_n hx hb d_P_ask_46 rfl (lv_at hl 0 rfl) ?_
      refine lv_iconst (v := 2) hx hb d_P_ask_47 (by decide) ?_
      refine xe_calli (wr := []) (xs_V (As := [.int 2]) (rest := []) Z (C_P_fail l D t ma nb wy hd tk 0 2 H.size) m_P_fail k_1034 k_1036 ks_33 rfl rfl ⟨Nat.le_of_ble_eq_true rfl, Nat.le_of_ble_eq_true rfl⟩ (va_recv hK.2 hP (ci := 13) (q0 := 0) rfl rfl) (xe_pre hK (hP.sub [0] rfl) (hD.sub [0] (by decide) rfl)) rfl hl.1 rfl (Nat.le_of_ble_eq_true rfl) d_P_ask_48 ⟨Nat.le_of_ble_eq_true rfl, Nat.le_of_ble_eq_true rfl⟩) hP hD hS hA [0] [] rfl rfl (by decide) (by decide) (fun r_9 u_ H locs hw hP hD hS => ?_)
      have hP : va_P D vwCl [zO 13 ma [.int 2, .int 0, .int 0, .int 0, .int 0, .int 0, .ref nb, .ref wy, .ref hd, .ref tk]] H := hP
      have hD : va_D A [zO 13 ma [.int 2, .int 0, .int 0, .int 0, .int 0, .int 0, .ref nb, .ref wy, .ref hd, .ref tk]] := hD
      obtain rfl := hw
      exact W.iret hx hb hr (fun t ht hW => ⟨⟨0, (), rfl, rfl, by rw [ht]; exact hP, hD⟩, hS.F ht⟩) hS.2.2 d_P_ask_51
theorem d_P_ask_52 : decode c_P_ask 52 = .ok (.aload_n 0, 1) := by decide +kernel
theorem d_P_ask_53 : decode c_P_ask 53 = .ok (.getfield 11, 3) := by decide +kernel
theorem d_P_ask_56 : decode c_P_ask 56 = .ok (.iload_n 1, 1) := by decide +kernel
theorem d_P_ask_57 : decode c_P_ask 57 = .ok (.aaload, 1) := by decide +kernel
theorem d_P_ask_58 : decode c_P_ask 58 = .ok (.astore 7, 2) := by decide +kernel
theorem d_P_ask_60 : decode c_P_ask 60 = .ok (.aload 7, 2) := by decide +kernel
theorem d_P_ask_62 : decode c_P_ask 62 = .ok (.getfield 256, 3) := by decide +kernel
theorem d_P_ask_65 : decode c_P_ask 65 = .ok (.ifCond .ne 9, 3) := by decide +kernel
theorem d_P_ask_74 : decode c_P_ask 74 = .ok (.aload 7, 2) := by decide +kernel
theorem d_P_ask_76 : decode c_P_ask 76 = .ok (.getfield 173, 3) := by decide +kernel
theorem d_P_ask_79 : decode c_P_ask 79 = .ok (.ifCond .eq 32, 3) := by decide +kernel
theorem d_P_ask_111 : decode c_P_ask 111 = .ok (.iconst (-1), 1) := by decide +kernel
theorem d_P_ask_112 : decode c_P_ask 112 = .ok (.ireturn, 1) := by decide +kernel
set_option maxHeartbeats 4000000 in
set_option maxRecDepth 100000 in
/-- ask of a node that does not lead -/
theorem C_P_ask (l : Launch) (D : va_G) (t : Nat → ClassId) (ma nb wy hd tk : Nat) (th : Int32) (qq : Nat → Nat → Nat) (mk : Int32) (k : Nat) (hk : k < 7) (j : Nat) (hj : j < 8) (a3 a4 a5 a6 : Int32) (h1 : ¬ a4 < 1) (h2 : ¬ 6 < a4) (h3 : 1 ≤ a3) : xe_C l D vwCl (xTY t) y_P_ask c_P_ask 9 (Option.some FieldType.int) ({ frames := 1, cells := 0, slots := 0, locals := 20 }) [.ref ma, .int (nI k), .int (nI j), .int a3, .int a4, .int a5, .int a6] [zO 13 ma [.int th, .int 0, .int 0, .int 0, .int 0, .int 0, .ref nb, .ref wy, .ref hd, .ref tk], zA t 7 nb 7 (fun j => some (qq j 0)), zO 9 (qq k 0) [.int (nI k), .int 1, .int 0, .int 0, .int 0, .int 0, .int (nI (8 + 3 * k)), .int ((-1)), .int 0, .int 0, .ref ((qq k 1)), .ref ((qq k 7)), .ref ((qq k 11)), .ref ((qq k 15)), .ref ((qq k 19)), .ref ((qq k 23)), .int 0], zO 11 (qq k 1) [.int 0, .ref ((qq k 2)), .ref ((qq k 3)), .ref ((qq k 4)), .ref ((qq k 5)), .ref ((qq k 6)), .int 1], zJ t (qq k 2) 32 (fun _ => 1099511627776), zJ t (qq k 3) 8 (fun _ => 0), zI t (qq k 4) 8 (fun _ => 0), zI t (qq k 5) 4 (xm 1), zI t (qq k 6) 4 (xm mk), zO 10 (qq k 7) [.ref ((qq k 8)), .ref ((qq k 9)), .ref ((qq k 10)), .int 0], zI t (qq k 8) 8 (fun _ => 0), zI t (qq k 9) 8 (fun _ => 0), zA t 5 (qq k 10) 8 (fun _ => none), zO 10 (qq k 11) [.ref ((qq k 12)), .ref ((qq k 13)), .ref ((qq k 14)), .int 0], zI t (qq k 12) 8 (fun _ => 0), zI t (qq k 13) 8 (fun _ => 0), zA t 5 (qq k 14) 8 (fun _ => none), zO 10 (qq k 15) [.ref ((qq k 16)), .ref ((qq k 17)), .ref ((qq k 18)), .int 0], zI t (qq k 16) 8 (fun _ => 0), zI t (qq k 17) 8 (fun _ => 0), zA t 5 (qq k 18) 8 (fun _ => none), zO 10 (qq k 19) [.ref ((qq k 20)), .ref ((qq k 21)), .ref ((qq k 22)), .int 0], zI t (qq k 20) 8 (fun _ => 0), zI t (qq k 21) 8 (fun _ => 0), zA t 5 (qq k 22) 8 (fun _ => none), zA t 5 (qq k 23) 16 (fun _ => none)] (xe_i D vwCl (fun (r : Int32) (_ : Unit) => r = (-1)) (fun _ => [zO 13 ma [.int 0, .int 0, .int 0, .int 0, .int 0, .int 0, .ref nb, .ref wy, .ref hd, .ref tk]])) 0 0 := by
  refine xe_of (by decide) (Nat.le_of_ble_eq_true rfl) ?_
  intro p e s m below meth c ls A Z hr hlocks hin hA hP hD hS hl
  obtain ⟨hx, hb, hml, hown, hK⟩ := id Z
  have hown : s.vm.findClass "QuorumStoreModel" = some m.cls := hown
  have hts := hK.1.at (args := ([.ref ma, .int (nI k), .int (nI j), .int a3, .int a4, .int a5, .int a6] : List Value).toArray)
  have hl : lv_has ls 9 [(0, .ref ma), (1, .int (nI k)), (2, .int (nI j)), (3, .int a3), (4, .int a4), (5, .int a5), (6, .int a6)] := hl
  refine lv_aload_n hx hb d_P_ask_0 rfl (lv_at hl 0 rfl) ?_
  refine lv_iconst (v := 0) hx hb d_P_ask_1 (by decide) ?_
  refine va_put (ci := 13) (v := .int 0) (ty := tyX13 0) (C := "QuorumStoreModel") (T := TX13) (N := 10) hx hb hts inX13 tyX13 okX13 nmX13 hown hK.2 hP hD hS 0 rfl rfl 0 (by decide) (hts _ k_995) (fun _ h9 => h9) rfl (by decide +kernel) rfl rfl (Nat.le_of_ble_eq_true rfl) d_P_ask_2 (fun H locs hP hD hS => ?_)
  have hP : va_P D vwCl [zO 13 ma [.int 0, .int 0, .int 0, .int 0, .int 0, .int 0, .ref nb, .ref wy, .ref hd, .ref tk], zA t 7 nb 7 (fun j => some (qq j 0)), zO 9 (qq k 0) [.int (nI k), .int 1, .int 0, .int 0, .int 0, .int 0, .int (nI (8 + 3 * k)), .int ((-1)), .int 0, .int 0, .ref ((qq k 1)), .ref ((qq k 7)), .ref ((qq k 11)), .ref ((qq k 15)), .ref ((qq k 19)), .ref ((qq k 23)), .int 0], zO 11 (qq k 1) [.int 0, .ref ((qq k 2)), .ref ((qq k 3)), .ref ((qq k 4)), .ref ((qq k 5)), .ref ((qq k 6)), .int 1], zJ t (qq k 2) 32 (fun _ => 1099511627776), zJ t (qq k 3) 8 (fun _ => 0), zI t (qq k 4) 8 (fun _ => 0), zI t (qq k 5) 4 (xm 1), zI t (qq k 6) 4 (xm mk), zO 10 (qq k 7) [.ref ((qq k 8)), .ref ((qq k 9)), .ref ((qq k 10)), .int 0], zI t (qq k 8) 8 (fun _ => 0), zI t (qq k 9) 8 (fun _ => 0), zA t 5 (qq k 10) 8 (fun _ => none), zO 10 (qq k 11) [.ref ((qq k 12)), .ref ((qq k 13)), .ref ((qq k 14)), .int 0], zI t (qq k 12) 8 (fun _ => 0), zI t (qq k 13) 8 (fun _ => 0), zA t 5 (qq k 14) 8 (fun _ => none), zO 10 (qq k 15) [.ref ((qq k 16)), .ref ((qq k 17)), .ref ((qq k 18)), .int 0], zI t (qq k 16) 8 (fun _ => 0), zI t (qq k 17) 8 (fun _ => 0), zA t 5 (qq k 18) 8 (fun _ => none), zO 10 (qq k 19) [.ref ((qq k 20)), .ref ((qq k 21)), .ref ((qq k 22)), .int 0], zI t (qq k 20) 8 (fun _ => 0), zI t (qq k 21) 8 (fun _ => 0), zA t 5 (qq k 22) 8 (fun _ => none), zA t 5 (qq k 23) 16 (fun _ => none)] H := hP
  have hD : va_D A [zO 13 ma [.int 0, .int 0, .int 0, .int 0, .int 0, .int 0, .ref nb, .ref wy, .ref hd, .ref tk], zA t 7 nb 7 (fun j => some (qq j 0)), zO 9 (qq k 0) [.int (nI k), .int 1, .int 0, .int 0, .int 0, .int 0, .int (nI (8 + 3 * k)), .int ((-1)), .int 0, .int 0, .ref ((qq k 1)), .ref ((qq k 7)), .ref ((qq k 11)), .ref ((qq k 15)), .ref ((qq k 19)), .ref ((qq k 23)), .int 0], zO 11 (qq k 1) [.int 0, .ref ((qq k 2)), .ref ((qq k 3)), .ref ((qq k 4)), .ref ((qq k 5)), .ref ((qq k 6)), .int 1], zJ t (qq k 2) 32 (fun _ => 1099511627776), zJ t (qq k 3) 8 (fun _ => 0), zI t (qq k 4) 8 (fun _ => 0), zI t (qq k 5) 4 (xm 1), zI t (qq k 6) 4 (xm mk), zO 10 (qq k 7) [.ref ((qq k 8)), .ref ((qq k 9)), .ref ((qq k 10)), .int 0], zI t (qq k 8) 8 (fun _ => 0), zI t (qq k 9) 8 (fun _ => 0), zA t 5 (qq k 10) 8 (fun _ => none), zO 10 (qq k 11) [.ref ((qq k 12)), .ref ((qq k 13)), .ref ((qq k 14)), .int 0], zI t (qq k 12) 8 (fun _ => 0), zI t (qq k 13) 8 (fun _ => 0), zA t 5 (qq k 14) 8 (fun _ => none), zO 10 (qq k 15) [.ref ((qq k 16)), .ref ((qq k 17)), .ref ((qq k 18)), .int 0], zI t (qq k 16) 8 (fun _ => 0), zI t (qq k 17) 8 (fun _ => 0), zA t 5 (qq k 18) 8 (fun _ => none), zO 10 (qq k 19) [.ref ((qq k 20)), .ref ((qq k 21)), .ref ((qq k 22)), .int 0], zI t (qq k 20) 8 (fun _ => 0), zI t (qq k 21) 8 (fun _ => 0), zA t 5 (qq k 22) 8 (fun _ => none), zA t 5 (qq k 23) 16 (fun _ => none)] := hD
  refine lv_iload_n hx hb d_P_ask_5 rfl (lv_at hl 1 rfl) ?_
  refine xr_call (xs_S (As := [.int (nI k)]) (rest := []) Z (C_P_noNode l D t k hk) m_P_noNode k_1217 k_1218 rfl rfl ⟨Nat.le_of_ble_eq_true rfl, Nat.le_of_ble_eq_true rfl⟩ (xr_pre hK (hP.sub [] rfl)) rfl hl.1 rfl (Nat.le_of_ble_eq_true rfl) d_P_ask_6 ⟨Nat.le_of_ble_eq_true rfl, Nat.le_of_ble_eq_true rfl⟩) ?_
  refine lv_if_ne (tgt := 22) hx hb d_P_ask_9 (by decide) (fun c_1 => absurd c_1 (by decide)) (fun _ => ?_)
  refine lv_iload_n hx hb d_P_ask_12 rfl (lv_at hl 2 rfl) ?_
  refine lv_if_lt (tgt := 22) hx hb d_P_ask_13 (by decide) (fun c_2 => absurd c_2 (nI_pos (by omega))) (fun _ => ?_)
  refine lv_iload_n hx hb d_P_ask_16 rfl (lv_at hl 2 rfl) ?_
  refine lv_bipush (v := 7) hx hb d_P_ask_17 (by decide) ?_
  refine lv_icmp_le (tgt := 28) hx hb d_P_ask_19 (by decide) (fun _ => ?_) (fun c_3 => absurd (show nI j ≤ nI 7 from nI_le (by omega) (by decide)) c_3)
  refine lv_iload hx hb d_P_ask_28 (lv_at hl 4 rfl) ?_
  refine lv_iconst (v := 1) hx hb d_P_ask_30 (by decide) ?_
  refine lv_icmp_lt (tgt := 46) hx hb d_P_ask_31 (by decide) (fun c_4 => absurd c_4 (h1)) (fun _ => ?_)
  refine lv_iload hx hb d_P_ask_34 (lv_at hl 4 rfl) ?_
  refine lv_bipush (v := 6) hx hb d_P_ask_36 (by decide) ?_
  refine lv_icmp_gt (tgt := 46) hx hb d_P_ask_38 (by decide) (fun c_5 => absurd c_5 (h2)) (fun _ => ?_)
  refine lv_iload_n hx hb d_P_ask_41 rfl (lv_at hl 3 rfl) ?_
  refine lv_iconst (v := 1) hx hb d_P_ask_42 (by decide) ?_
  refine lv_icmp_ge (tgt := 52) hx hb d_P_ask_43 (by decide) (fun _ => ?_) (fun c_6 => absurd (h3) c_6)
  refine lv_aload_n hx hb d_P_ask_52 rfl (lv_at hl 0 rfl) ?_
  refine va_get (ci := 13) (C := "QuorumStoreModel") (T := TX13) (N := 10) hx hb hts inX13 hown hK.2 hP 0 rfl rfl 6 (by decide) (hts _ k_1001) (fun _ h9 => h9) rfl d_P_ask_53 ?_
  refine lv_iload_n hx hb d_P_ask_56 rfl (lv_at hl 1 rfl) ?_
  refine va_aldq hx hb hK.2 hP 1 7 rfl rfl (vp_in_nI hk (by decide)) d_P_ask_57 ?_
  rw [nI_clamp (show k < 2 ^ 31 by omega)]
  refine lv_astore (lv' := [(7, .ref ((qq k 0))), (0, .ref ma), (1, .int (nI k)), (2, .int (nI j)), (3, .int a3), (4, .int a4), (5, .int a5), (6, .int a6)]) hx hb d_P_ask_58 hl (by decide) rfl (fun ls hl => ?_)
  refine lv_aload hx hb d_P_ask_60 (lv_at hl 0 rfl) ?_
  refine va_get (ci := 9) (C := "QuorumStoreModel$Node") (T := TX9) (N := 17) hx hb hts inX9 hown hK.2 hP 2 rfl rfl 1 (by decide) (hts _ k_932) (fun _ h9 => h9) rfl d_P_ask_62 ?_
  refine lv_if_ne (tgt := 74) hx hb d_P_ask_65 (by decide) (fun _ => ?_) (fun c_7 => absurd c_7 (by decide))
  refine lv_aload hx hb d_P_ask_74 (lv_at hl 0 rfl) ?_
  refine va_get (ci := 9) (C := "QuorumStoreModel$Node") (T := TX9) (N := 17) hx hb hts inX9 hown hK.2 hP 2 rfl rfl 2 (by decide) (hts _ k_933) (fun _ h9 => h9) rfl d_P_ask_76 ?_
  refine lv_if_eq (tgt := 111) hx hb d_P_ask_79 (by decide) (fun _ => ?_) (fun c_8 => absurd (by decide) c_8)
  refine lv_iconst (v := (-1)) hx hb d_P_ask_111 (by decide) ?_
  have hP := hP.sub (ws' := [zO 13 ma [.int 0, .int 0, .int 0, .int 0, .int 0, .int 0, .ref nb, .ref wy, .ref hd, .ref tk]]) [0] rfl
  have hD := hD.sub (ws' := [zO 13 ma [.int 0, .int 0, .int 0, .int 0, .int 0, .int 0, .ref nb, .ref wy, .ref hd, .ref tk]]) [0] (by decide) rfl
  exact W.iret hx hb hr (fun t ht hW => ⟨⟨(-1), (), rfl, rfl, by rw [ht]; exact hP, hD⟩, hS.F ht⟩) hS.2.2 d_P_ask_112
theorem d_P_answer_12 : decode c_P_answer 12 = .ok (.iload_n 2, 1) := by decide +kernel
theorem d_P_answer_13 : decode c_P_answer 13 = .ok (.ifCond .lt 9, 3) := by decide +kernel
theorem d_P_answer_16 : decode c_P_answer 16 = .ok (.iload_n 2, 1) := by decide +kernel
theorem d_P_answer_17 : decode c_P_answer 17 = .ok (.bipush 7, 2) := by decide +kernel
theorem d_P_answer_19 : decode c_P_answer 19 = .ok (.if_icmp .le 10, 3) := by decide +kernel
set_option maxHeartbeats 4000000 in
set_option maxRecDepth 100000 in
/-- answer of no client -/
theorem C_P_answer_2 (l : Launch) (D : va_G) (t : Nat → ClassId) (ma nb wy hd tk : Nat) (th : Int32) (k : Nat) (hk : k < 7) (a2 a3 : Int32) (hc : a2 < 0 ∨ 8 ≤ a2) : xe_C l D vwCl (xTY t) y_P_answer c_P_answer 4 (Option.some FieldType.long) ({ frames := 1, cells := 0, slots := 0, locals := 21 }) [.ref ma, .int (nI k), .int a2, .int a3] [zO 13 ma [.int th, .int 0, .int 0, .int 0, .int 0, .int 0, .ref nb, .ref wy, .ref hd, .ref tk]] (xe_l D vwCl (fun (r : Int64) (_ : Unit) => r = 0) (fun _ => [zO 13 ma [.int 1, .int 0, .int 0, .int 0, .int 0, .int 0, .ref nb, .ref wy, .ref hd, .ref tk]])) 0 0 := by
  refine xe_of (by decide) (Nat.le_of_ble_eq_true rfl) ?_
  intro p e s m below meth c ls A Z hr hlocks hin hA hP hD hS hl
  obtain ⟨hx, hb, hml, hown, hK⟩ := id Z
  have hown : s.vm.findClass "QuorumStoreModel" = some m.cls := hown
  have hts := hK.1.at (args := ([.ref ma, .int (nI k), .int a2, .int a3] : List Value).toArray)
  have hl : lv_has ls 4 [(0, .ref ma), (1, .int (nI k)), (2, .int a2), (3, .int a3)] := hl
  refine lv_aload_n hx hb d_P_answer_0 rfl (lv_at hl 0 rfl) ?_
  refine lv_iconst (v := 0) hx hb d_P_answer_1 (by decide) ?_
  refine va_put (ci := 13) (v := .int 0) (ty := tyX13 0) (C := "QuorumStoreModel") (T := TX13) (N := 10) hx hb hts inX13 tyX13 okX13 nmX13 hown hK.2 hP hD hS 0 rfl rfl 0 (by decide) (hts _ k_995) (fun _ h9 => h9) rfl (by decide +kernel) rfl rfl (Nat.le_of_ble_eq_true rfl) d_P_answer_2 (fun H locs hP hD hS => ?_)
  have hP : va_P D vwCl [zO 13 ma [.int 0, .int 0, .int 0, .int 0, .int 0, .int 0, .ref nb, .ref wy, .ref hd, .ref tk]] H := hP
  have hD : va_D A [zO 13 ma [.int 0, .int 0, .int 0, .int 0, .int 0, .int 0, .ref nb, .ref wy, .ref hd, .ref tk]] := hD
  refine lv_iload_n hx hb d_P_answer_5 rfl (lv_at hl 1 rfl) ?_
  refine xr_call (xs_S (As := [.int (nI k)]) (rest := []) Z (C_P_noNode l D t k hk) m_P_noNode k_1217 k_1218 rfl rfl ⟨Nat.le_of_ble_eq_true rfl, Nat.le_of_ble_eq_true rfl⟩ (xr_pre hK (hP.sub [] rfl)) rfl hl.1 rfl (Nat.le_of_ble_eq_true rfl) d_P_answer_6 ⟨Nat.le_of_ble_eq_true rfl, Nat.le_of_ble_eq_true rfl⟩) ?_
  refine lv_if_ne (tgt := 22) hx hb d_P_answer_9 (by decide) (fun c_1 => absurd c_1 (by decide)) (fun _ => ?_)
  refine lv_iload_n hx hb d_P_answer_12 rfl (lv_at hl 2 rfl) ?_
  refine lv_if_lt (tgt := 22) hx hb d_P_answer_13 (by decide) (fun c_2 => ?_) (fun c_2 => ?_)
  · refine lv_aload_n hx hb d_P_answer_22 rfl (lv_at hl 0 rfl) ?_
    refine lv_iconst (v := 1) hx hb d_P_answer_23 (by decide) ?_
    refine xe_calli (wr := []) (xs_V (As := [.int 1]) (rest := []) Z (C_P_fail l D t ma nb wy hd tk 0 1 H.size) m_P_fail k_1034 k_1036 ks_33 rfl rfl ⟨Nat.le_of_ble_eq_true rfl, Nat.le_of_ble_eq_true rfl⟩ (va_recv hK.2 hP (ci := 13) (q0 := 0) rfl rfl) (xe_pre hK (hP.sub [0] rfl) (hD.sub [0] (by decide) rfl)) rfl hl.1 rfl (Nat.le_of_ble_eq_true rfl) d_P_answer_24 ⟨Nat.le_of_ble_eq_true rfl, Nat.le_of_ble_eq_true rfl⟩) hP hD hS hA [0] [] rfl rfl (by decide) (by decide) (fun r_3 u_ H locs hw hP hD hS => ?_)
    have hP : va_P D vwCl [zO 13 ma [.int 1, .int 0, .int 0, .int 0, .int 0, .int 0, .ref nb, .ref wy, .ref hd, .ref tk]] H := hP
    have hD : va_D A [zO 13 ma [.int 1, .int 0, .int 0, .int 0, .int 0, .int 0, .ref nb, .ref wy, .ref hd, .ref tk]] := hD
    obtain rfl := hw
    refine lv_i2l (v := (0 : Int32).toInt64) hx hb d_P_answer_27 rfl ?_
    exact W.lret hx hb hr (fun t ht hW => ⟨⟨0, (), rfl, rfl, by rw [ht]; exact hP, hD⟩, hS.F ht⟩) hS.2.2 d_P_answer_28
  · refine lv_iload_n hx hb d_P_answer_16 rfl (lv_at hl 2 rfl) ?_
    refine lv_bipush (v := 7) hx hb d_P_answer_17 (by decide) ?_
    refine lv_icmp_le (tgt := 29) hx hb d_P_answer_19 (by decide) (fun c_4 => absurd c_4 (fun h9 => hc.elim c_2 (fun h8 => absurd (Int32.le_trans h8 h9) (by decide)))) (fun _ => ?_)
    refine lv_aload_n hx hb d_P_answer_22 rfl (lv_at hl 0 rfl) ?_
    refine lv_iconst (v := 1) hx hb d_P_answer_23 (by decide) ?_
    refine xe_calli (wr := []) (xs_V (As := [.int 1]) (rest := []) Z (C_P_fail l D t ma nb wy hd tk 0 1 H.size) m_P_fail k_1034 k_1036 ks_33 rfl rfl ⟨Nat.le_of_ble_eq_true rfl, Nat.le_of_ble_eq_true rfl⟩ (va_recv hK.2 hP (ci := 13) (q0 := 0) rfl rfl) (xe_pre hK (hP.sub [0] rfl) (hD.sub [0] (by decide) rfl)) rfl hl.1 rfl (Nat.le_of_ble_eq_true rfl) d_P_answer_24 ⟨Nat.le_of_ble_eq_true rfl, Nat.le_of_ble_eq_true rfl⟩) hP hD hS hA [0] [] rfl rfl (by decide) (by decide) (fun r_5 u_ H locs hw hP hD hS => ?_)
    have hP : va_P D vwCl [zO 13 ma [.int 1, .int 0, .int 0, .int 0, .int 0, .int 0, .ref nb, .ref wy, .ref hd, .ref tk]] H := hP
    have hD : va_D A [zO 13 ma [.int 1, .int 0, .int 0, .int 0, .int 0, .int 0, .ref nb, .ref wy, .ref hd, .ref tk]] := hD
    obtain rfl := hw
    refine lv_i2l (v := (0 : Int32).toInt64) hx hb d_P_answer_27 rfl ?_
    exact W.lret hx hb hr (fun t ht hW => ⟨⟨0, (), rfl, rfl, by rw [ht]; exact hP, hD⟩, hS.F ht⟩) hS.2.2 d_P_answer_28
theorem d_P_answer_29 : decode c_P_answer 29 = .ok (.iload_n 3, 1) := by decide +kernel
theorem d_P_answer_30 : decode c_P_answer 30 = .ok (.ifCond .lt 8, 3) := by decide +kernel
theorem d_P_answer_33 : decode c_P_answer 33 = .ok (.iload_n 3, 1) := by decide +kernel
theorem d_P_answer_34 : decode c_P_answer 34 = .ok (.iconst 1, 1) := by decide +kernel
theorem d_P_answer_35 : decode c_P_answer 35 = .ok (.if_icmp .le 10, 3) := by decide +kernel
theorem d_P_answer_38 : decode c_P_answer 38 = .ok (.aload_n 0, 1) := by decide +kernel
theorem d_P_answer_39 : decode c_P_answer 39 = .ok (.iconst 2, 1) := by decide +kernel
theorem d_P_answer_40 : decode c_P_answer 40 = .ok (.invokevirtual 298, 3) := by decide +kernel
theorem d_P_answer_43 : decode c_P_answer 43 = .ok (.i2l, 1) := by decide +kernel
theorem d_P_answer_44 : decode c_P_answer 44 = .ok (.lreturn, 1) := by decide +kernel
set_option maxHeartbeats 4000000 in
set_option maxRecDepth 100000 in
/-- answer: what is not 0 or 1 -/
theorem C_P_answer_3 (l : Launch) (D : va_G) (t : Nat → ClassId) (ma nb wy hd tk : Nat) (th : Int32) (k : Nat) (hk : k < 7) (j : Nat) (hj : j < 8) (a3 : Int32) (ha : ¬ a3 = 0) (hb2 : ¬ a3 = 1) : xe_C l D vwCl (xTY t) y_P_answer c_P_answer 4 (Option.some FieldType.long) ({ frames := 1, cells := 0, slots := 0, locals := 21 }) [.ref ma, .int (nI k), .int (nI j), .int a3] [zO 13 ma [.int th, .int 0, .int 0, .int 0, .int 0, .int 0, .ref nb, .ref wy, .ref hd, .ref tk]] (xe_l D vwCl (fun (r : Int64) (_ : Unit) => r = 0) (fun _ => [zO 13 ma [.int 2, .int 0, .int 0, .int 0, .int 0, .int 0, .ref nb, .ref wy, .ref hd, .ref tk]])) 0 0 := by
  refine xe_of (by decide) (Nat.le_of_ble_eq_true rfl) ?_
  intro p e s m below meth c ls A Z hr hlocks hin hA hP hD hS hl
  obtain ⟨hx, hb, hml, hown, hK⟩ := id Z
  have hown : s.vm.findClass "QuorumStoreModel" = some m.cls := hown
  have hts := hK.1.at (args := ([.ref ma, .int (nI k), .int (nI j), .int a3] : List Value).toArray)
  have hl : lv_has ls 4 [(0, .ref ma), (1, .int (nI k)), (2, .int (nI j)), (3, .int a3)] := hl
  refine lv_aload_n hx hb d_P_answer_0 rfl (lv_at hl 0 rfl) ?_
  refine lv_iconst (v := 0) hx hb d_P_answer_1 (by decide) ?_
  refine va_put (ci := 13) (v := .int 0) (ty := tyX13 0) (C := "QuorumStoreModel") (T := TX13) (N := 10) hx hb hts inX13 tyX13 okX13 nmX13 hown hK.2 hP hD hS 0 rfl rfl 0 (by decide) (hts _ k_995) (fun _ h9 => h9) rfl (by decide +kernel) rfl rfl (Nat.le_of_ble_eq_true rfl) d_P_answer_2 (fun H locs hP hD hS => ?_)
  have hP : va_P D vwCl [zO 13 ma [.int 0, .int 0, .int 0, .int 0, .int 0, .int 0, .ref nb, .ref wy, .ref hd, .ref tk]] H := hP
  have hD : va_D A [zO 13 ma [.int 0, .int 0, .int 0, .int 0, .int 0, .int 0, .ref nb, .ref wy, .ref hd, .ref tk]] := hD
  refine lv_iload_n hx hb d_P_answer_5 rfl (lv_at hl 1 rfl) ?_
  refine xr_call (xs_S (As := [.int (nI k)]) (rest := []) Z (C_P_noNode l D t k hk) m_P_noNode k_1217 k_1218 rfl rfl ⟨Nat.le_of_ble_eq_true rfl, Nat.le_of_ble_eq_true rfl⟩ (xr_pre hK (hP.sub [] rfl)) rfl hl.1 rfl (Nat.le_of_ble_eq_true rfl) d_P_answer_6 ⟨Nat.le_of_ble_eq_true rfl, Nat.le_of_ble_eq_true rfl⟩) ?_
  refine lv_if_ne (tgt := 22) hx hb d_P_answer_9 (by decide) (fun c_1 => absurd c_1 (by decide)) (fun _ => ?_)
  refine lv_iload_n hx hb d_P_answer_12 rfl (lv_at hl 2 rfl) ?_
  refine lv_if_lt (tgt := 22) hx hb d_P_answer_13 (by decide) (fun c_2 => absurd c_2 (nI_pos (by omega))) (fun _ => ?_)
  refine lv_iload_n hx hb d_P_answer_16 rfl (lv_at hl 2 rfl) ?_
  refine lv_bipush (v := 7) hx hb d_P_answer_17 (by decide) ?_
  refine lv_icmp_le (tgt := 29) hx hb d_P_answer_19 (by decide) (fun _ => ?_) (fun c_3 => absurd (show nI j ≤ nI 7 from nI_le (by omega) (by decide)) c_3)
  refine lv_iload_n hx hb d_P_answer_29 rfl (lv_at hl 3 rfl) ?_
  refine lv_if_lt (tgt := 38) hx hb d_P_answer_30 (by decide) (fun c_4 => ?_) (fun c_4 => ?_)
  · refine lv_aload_n hx hb d_P_answer_38 rfl (lv_at hl 0 rfl) ?_
    refine lv_iconst (v := 2) hx hb d_P_answer_39 (by decide) ?_
    refine xe_calli (wr := []) (xs_V (As := [.int 2]) (rest := []) Z (C_P_fail l D t ma nb wy hd tk 0 2 H.size) m_P_fail k_1034 k_1036 ks_33 rfl rfl ⟨Nat.le_of_ble_eq_true rfl, Nat.le_of_ble_eq_true rfl⟩ (va_recv hK.2 hP (ci := 13) (q0 := 0) rfl rfl) (xe_pre hK (hP.sub [0] rfl) (hD.sub [0] (by decide) rfl)) rfl hl.1 rfl (Nat.le_of_ble_eq_true rfl) d_P_answer_40 ⟨Nat.le_of_ble_eq_true rfl, Nat.le_of_ble_eq_true rfl⟩) hP hD hS hA [0] [] rfl rfl (by decide) (by decide) (fun r_5 u_ H locs hw hP hD hS => ?_)
    have hP : va_P D vwCl [zO 13 ma [.int 2, .int 0, .int 0, .int 0, .int 0, .int 0, .ref nb, .ref wy, .ref hd, .ref tk]] H := hP
    have hD : va_D A [zO 13 ma [.int 2, .int 0, .int 0, .int 0, .int 0, .int 0, .ref nb, .ref wy, .ref hd, .ref tk]] := hD
    obtain rfl := hw
    refine lv_i2l (v := (0 : Int32).toInt64) hx hb d_P_answer_43 rfl ?_
    exact W.lret hx hb hr (fun t ht hW => ⟨⟨0, (), rfl, rfl, by rw [ht]; exact hP, hD⟩, hS.F ht⟩) hS.2.2 d_P_answer_44
  · refine lv_iload_n hx hb d_P_answer_33 rfl (lv_at hl 3 rfl) ?_
    refine lv_iconst (v := 1) hx hb d_P_answer_34 (by decide) ?_
    refine lv_icmp_le (tgt := 45) hx hb d_P_answer_35 (by decide) (fun c_6 => absurd c_6 (fun h9 => (x_01 c_4 h9).elim ha hb2)) (fun _ => ?_)
    refine lv_aload_n hx hb d_P_answer_38 rfl (lv_at hl 0 rfl) ?_
    refine lv_iconst (v := 2) hx hb d_P_answer_39 (by decide) ?_
    refine xe_calli (wr := []) (xs_V (As := [.int 2]) (rest := []) Z (C_P_fail l D t ma nb wy hd tk 0 2 H.size) m_P_fail k_1034 k_1036 ks_33 rfl rfl ⟨Nat.le_of_ble_eq_true rfl, Nat.le_of_ble_eq_true rfl⟩ (va_recv hK.2 hP (ci := 13) (q0 := 0) rfl rfl) (xe_pre hK (hP.sub [0] rfl) (hD.sub [0] (by decide) rfl)) rfl hl.1 rfl (Nat.le_of_ble_eq_true rfl) d_P_answer_40 ⟨Nat.le_of_ble_eq_true rfl, Nat.le_of_ble_eq_true rfl⟩) hP hD hS hA [0] [] rfl rfl (by decide) (by decide) (fun r_7 u_ H locs hw hP hD hS => ?_)
    have hP : va_P D vwCl [zO 13 ma [.int 2, .int 0, .int 0, .int 0, .int 0, .int 0, .ref nb, .ref wy, .ref hd, .ref tk]] H := hP
    have hD : va_D A [zO 13 ma [.int 2, .int 0, .int 0, .int 0, .int 0, .int 0, .ref nb, .ref wy, .ref hd, .ref tk]] := hD
    obtain rfl := hw
    refine lv_i2l (v := (0 : Int32).toInt64) hx hb d_P_answer_43 rfl ?_
    exact W.lret hx hb hr (fun t ht hW => ⟨⟨0, (), rfl, rfl, by rw [ht]; exact hP, hD⟩, hS.F ht⟩) hS.2.2 d_P_answer_44
theorem d_P_answer_45 : decode c_P_answer 45 = .ok (.iload_n 3, 1) := by decide +kernel
theorem d_P_answer_46 : decode c_P_answer 46 = .ok (.ifCond .ne 21, 3) := by decide +kernel
theorem d_P_answer_49 : decode c_P_answer 49 = .ok (.aload_n 0, 1) := by decide +kernel
theorem d_P_answer_50 : decode c_P_answer 50 = .ok (.getfield 11, 3) := by decide +kernel
theorem d_P_answer_53 : decode c_P_answer 53 = .ok (.iload_n 1, 1) := by decide +kernel
theorem d_P_answer_54 : decode c_P_answer 54 = .ok (.aaload, 1) := by decide +kernel
theorem d_P_answer_55 : decode c_P_answer 55 = .ok (.getfield 32, 3) := by decide +kernel
theorem d_P_answer_58 : decode c_P_answer 58 = .ok (.getfield 132, 3) := by decide +kernel
theorem d_P_answer_61 : decode c_P_answer 61 = .ok (.iload_n 2, 1) := by decide +kernel
theorem d_P_answer_62 : decode c_P_answer 62 = .ok (.iaload, 1) := by decide +kernel
theorem d_P_answer_63 : decode c_P_answer 63 = .ok (.i2l, 1) := by decide +kernel
theorem d_P_answer_64 : decode c_P_answer 64 = .ok (.goto 17, 3) := by decide +kernel
theorem d_P_answer_81 : decode c_P_answer 81 = .ok (.lreturn, 1) := by decide +kernel
set_option maxHeartbeats 4000000 in
set_option maxRecDepth 100000 in
/-- answer on a new object -/
theorem C_P_answer_00 (l : Launch) (D : va_G) (t : Nat → ClassId) (ma nb wy hd tk : Nat) (th : Int32) (qq : Nat → Nat → Nat) (mk : Int32) (k : Nat) (hk : k < 7) (j : Nat) (hj : j < 8) : xe_C l D vwCl (xTY t) y_P_answer c_P_answer 4 (Option.some FieldType.long) ({ frames := 1, cells := 0, slots := 0, locals := 20 }) [.ref ma, .int (nI k), .int (nI j), .int 0] [zO 13 ma [.int th, .int 0, .int 0, .int 0, .int 0, .int 0, .ref nb, .ref wy, .ref hd, .ref tk], zA t 7 nb 7 (fun j => some (qq j 0)), zO 9 (qq k 0) [.int (nI k), .int 1, .int 0, .int 0, .int 0, .int 0, .int (nI (8 + 3 * k)), .int ((-1)), .int 0, .int 0, .ref ((qq k 1)), .ref ((qq k 7)), .ref ((qq k 11)), .ref ((qq k 15)), .ref ((qq k 19)), .ref ((qq k 23)), .int 0], zO 11 (qq k 1) [.int 0, .ref ((qq k 2)), .ref ((qq k 3)), .ref ((qq k 4)), .ref ((qq k 5)), .ref ((qq k 6)), .int 1], zJ t (qq k 2) 32 (fun _ => 1099511627776), zJ t (qq k 3) 8 (fun _ => 0), zI t (qq k 4) 8 (fun _ => 0), zI t (qq k 5) 4 (xm 1), zI t (qq k 6) 4 (xm mk), zO 10 (qq k 7) [.ref ((qq k 8)), .ref ((qq k 9)), .ref ((qq k 10)), .int 0], zI t (qq k 8) 8 (fun _ => 0), zI t (qq k 9) 8 (fun _ => 0), zA t 5 (qq k 10) 8 (fun _ => none), zO 10 (qq k 11) [.ref ((qq k 12)), .ref ((qq k 13)), .ref ((qq k 14)), .int 0], zI t (qq k 12) 8 (fun _ => 0), zI t (qq k 13) 8 (fun _ => 0), zA t 5 (qq k 14) 8 (fun _ => none), zO 10 (qq k 15) [.ref ((qq k 16)), .ref ((qq k 17)), .ref ((qq k 18)), .int 0], zI t (qq k 16) 8 (fun _ => 0), zI t (qq k 17) 8 (fun _ => 0), zA t 5 (qq k 18) 8 (fun _ => none), zO 10 (qq k 19) [.ref ((qq k 20)), .ref ((qq k 21)), .ref ((qq k 22)), .int 0], zI t (qq k 20) 8 (fun _ => 0), zI t (qq k 21) 8 (fun _ => 0), zA t 5 (qq k 22) 8 (fun _ => none), zA t 5 (qq k 23) 16 (fun _ => none)] (xe_l D vwCl (fun (r : Int64) (_ : Unit) => r = 0) (fun _ => [zO 13 ma [.int 0, .int 0, .int 0, .int 0, .int 0, .int 0, .ref nb, .ref wy, .ref hd, .ref tk]])) 0 0 := by
  refine xe_of (by decide) (Nat.le_of_ble_eq_true rfl) ?_
  intro p e s m below meth c ls A Z hr hlocks hin hA hP hD hS hl
  obtain ⟨hx, hb, hml, hown, hK⟩ := id Z
  have hown : s.vm.findClass "QuorumStoreModel" = some m.cls := hown
  have hts := hK.1.at (args := ([.ref ma, .int (nI k), .int (nI j), .int 0] : List Value).toArray)
  have hl : lv_has ls 4 [(0, .ref ma), (1, .int (nI k)), (2, .int (nI j)), (3, .int 0)] := hl
  refine lv_aload_n hx hb d_P_answer_0 rfl (lv_at hl 0 rfl) ?_
  refine lv_iconst (v := 0) hx hb d_P_answer_1 (by decide) ?_
  refine va_put (ci := 13) (v := .int 0) (ty := tyX13 0) (C := "QuorumStoreModel") (T := TX13) (N := 10) hx hb hts inX13 tyX13 okX13 nmX13 hown hK.2 hP hD hS 0 rfl rfl 0 (by decide) (hts _ k_995) (fun _ h9 => h9) rfl (by decide +kernel) rfl rfl (Nat.le_of_ble_eq_true rfl) d_P_answer_2 (fun H locs hP hD hS => ?_)
  have hP : va_P D vwCl [zO 13 ma [.int 0, .int 0, .int 0, .int 0, .int 0, .int 0, .ref nb, .ref wy, .ref hd, .ref tk], zA t 7 nb 7 (fun j => some (qq j 0)), zO 9 (qq k 0) [.int (nI k), .int 1, .int 0, .int 0, .int 0, .int 0, .int (nI (8 + 3 * k)), .int ((-1)), .int 0, .int 0, .ref ((qq k 1)), .ref ((qq k 7)), .ref ((qq k 11)), .ref ((qq k 15)), .ref ((qq k 19)), .ref ((qq k 23)), .int 0], zO 11 (qq k 1) [.int 0, .ref ((qq k 2)), .ref ((qq k 3)), .ref ((qq k 4)), .ref ((qq k 5)), .ref ((qq k 6)), .int 1], zJ t (qq k 2) 32 (fun _ => 1099511627776), zJ t (qq k 3) 8 (fun _ => 0), zI t (qq k 4) 8 (fun _ => 0), zI t (qq k 5) 4 (xm 1), zI t (qq k 6) 4 (xm mk), zO 10 (qq k 7) [.ref ((qq k 8)), .ref ((qq k 9)), .ref ((qq k 10)), .int 0], zI t (qq k 8) 8 (fun _ => 0), zI t (qq k 9) 8 (fun _ => 0), zA t 5 (qq k 10) 8 (fun _ => none), zO 10 (qq k 11) [.ref ((qq k 12)), .ref ((qq k 13)), .ref ((qq k 14)), .int 0], zI t (qq k 12) 8 (fun _ => 0), zI t (qq k 13) 8 (fun _ => 0), zA t 5 (qq k 14) 8 (fun _ => none), zO 10 (qq k 15) [.ref ((qq k 16)), .ref ((qq k 17)), .ref ((qq k 18)), .int 0], zI t (qq k 16) 8 (fun _ => 0), zI t (qq k 17) 8 (fun _ => 0), zA t 5 (qq k 18) 8 (fun _ => none), zO 10 (qq k 19) [.ref ((qq k 20)), .ref ((qq k 21)), .ref ((qq k 22)), .int 0], zI t (qq k 20) 8 (fun _ => 0), zI t (qq k 21) 8 (fun _ => 0), zA t 5 (qq k 22) 8 (fun _ => none), zA t 5 (qq k 23) 16 (fun _ => none)] H := hP
  have hD : va_D A [zO 13 ma [.int 0, .int 0, .int 0, .int 0, .int 0, .int 0, .ref nb, .ref wy, .ref hd, .ref tk], zA t 7 nb 7 (fun j => some (qq j 0)), zO 9 (qq k 0) [.int (nI k), .int 1, .int 0, .int 0, .int 0, .int 0, .int (nI (8 + 3 * k)), .int ((-1)), .int 0, .int 0, .ref ((qq k 1)), .ref ((qq k 7)), .ref ((qq k 11)), .ref ((qq k 15)), .ref ((qq k 19)), .ref ((qq k 23)), .int 0], zO 11 (qq k 1) [.int 0, .ref ((qq k 2)), .ref ((qq k 3)), .ref ((qq k 4)), .ref ((qq k 5)), .ref ((qq k 6)), .int 1], zJ t (qq k 2) 32 (fun _ => 1099511627776), zJ t (qq k 3) 8 (fun _ => 0), zI t (qq k 4) 8 (fun _ => 0), zI t (qq k 5) 4 (xm 1), zI t (qq k 6) 4 (xm mk), zO 10 (qq k 7) [.ref ((qq k 8)), .ref ((qq k 9)), .ref ((qq k 10)), .int 0], zI t (qq k 8) 8 (fun _ => 0), zI t (qq k 9) 8 (fun _ => 0), zA t 5 (qq k 10) 8 (fun _ => none), zO 10 (qq k 11) [.ref ((qq k 12)), .ref ((qq k 13)), .ref ((qq k 14)), .int 0], zI t (qq k 12) 8 (fun _ => 0), zI t (qq k 13) 8 (fun _ => 0), zA t 5 (qq k 14) 8 (fun _ => none), zO 10 (qq k 15) [.ref ((qq k 16)), .ref ((qq k 17)), .ref ((qq k 18)), .int 0], zI t (qq k 16) 8 (fun _ => 0), zI t (qq k 17) 8 (fun _ => 0), zA t 5 (qq k 18) 8 (fun _ => none), zO 10 (qq k 19) [.ref ((qq k 20)), .ref ((qq k 21)), .ref ((qq k 22)), .int 0], zI t (qq k 20) 8 (fun _ => 0), zI t (qq k 21) 8 (fun _ => 0), zA t 5 (qq k 22) 8 (fun _ => none), zA t 5 (qq k 23) 16 (fun _ => none)] := hD
  refine lv_iload_n hx hb d_P_answer_5 rfl (lv_at hl 1 rfl) ?_
  refine xr_call (xs_S (As := [.int (nI k)]) (rest := []) Z (C_P_noNode l D t k hk) m_P_noNode k_1217 k_1218 rfl rfl ⟨Nat.le_of_ble_eq_true rfl, Nat.le_of_ble_eq_true rfl⟩ (xr_pre hK (hP.sub [] rfl)) rfl hl.1 rfl (Nat.le_of_ble_eq_true rfl) d_P_answer_6 ⟨Nat.le_of_ble_eq_true rfl, Nat.le_of_ble_eq_true rfl⟩) ?_
  refine lv_if_ne (tgt := 22) hx hb d_P_answer_9 (by decide) (fun c_1 => absurd c_1 (by decide)) (fun _ => ?_)
  refine lv_iload_n hx hb d_P_answer_12 rfl (lv_at hl 2 rfl) ?_
  refine lv_if_lt (tgt := 22) hx hb d_P_answer_13 (by decide) (fun c_2 => absurd c_2 (nI_pos (by omega))) (fun _ => ?_)
  refine lv_iload_n hx hb d_P_answer_16 rfl (lv_at hl 2 rfl) ?_
  refine lv_bipush (v := 7) hx hb d_P_answer_17 (by decide) ?_
  refine lv_icmp_le (tgt := 29) hx hb d_P_answer_19 (by decide) (fun _ => ?_) (fun c_3 => absurd (show nI j ≤ nI 7 from nI_le (by omega) (by decide)) c_3)
  refine lv_iload_n hx hb d_P_answer_29 rfl (lv_at hl 3 rfl) ?_
  refine lv_if_lt (tgt := 38) hx hb d_P_answer_30 (by decide) (fun c_4 => absurd c_4 (by decide)) (fun _ => ?_)
  refine lv_iload_n hx hb d_P_answer_33 rfl (lv_at hl 3 rfl) ?_
  refine lv_iconst (v := 1) hx hb d_P_answer_34 (by decide) ?_
  refine lv_icmp_le (tgt := 45) hx hb d_P_answer_35 (by decide) (fun _ => ?_) (fun c_5 => absurd (by decide) c_5)
  refine lv_iload_n hx hb d_P_answer_45 rfl (lv_at hl 3 rfl) ?_
  refine lv_if_ne (tgt := 67) hx hb d_P_answer_46 (by decide) (fun c_6 => absurd c_6 (by decide)) (fun _ => ?_)
  refine lv_aload_n hx hb d_P_answer_49 rfl (lv_at hl 0 rfl) ?_
  refine va_get (ci := 13) (C := "QuorumStoreModel") (T := TX13) (N := 10) hx hb hts inX13 hown hK.2 hP 0 rfl rfl 6 (by decide) (hts _ k_1001) (fun _ h9 => h9) rfl d_P_answer_50 ?_
  refine lv_iload_n hx hb d_P_answer_53 rfl (lv_at hl 1 rfl) ?_
  refine va_aldq hx hb hK.2 hP 1 7 rfl rfl (vp_in_nI hk (by decide)) d_P_answer_54 ?_
  rw [nI_clamp (show k < 2 ^ 31 by omega)]
  refine va_get (ci := 9) (C := "QuorumStoreModel$Node") (T := TX9) (N := 17) hx hb hts inX9 hown hK.2 hP 2 rfl rfl 10 (by decide) (hts _ k_944) (fun _ h9 => h9) rfl d_P_answer_55 ?_
  refine va_get (ci := 11) (C := "QuorumStoreModel$State") (T := TX11) (N := 7) hx hb hts inX11 hown hK.2 hP 3 rfl rfl 3 (by decide) (hts _ k_866) (fun _ h9 => h9) rfl d_P_answer_58 ?_
  refine lv_iload_n hx hb d_P_answer_61 rfl (lv_at hl 2 rfl) ?_
  refine va_iald hx hb hK.2 hP 6 0 rfl rfl (vp_in_nI hj (by decide)) d_P_answer_62 ?_
  refine lv_i2l (v := (0 : Int32).toInt64) hx hb d_P_answer_63 rfl ?_
  refine lv_goto (tgt := 81) hx hb d_P_answer_64 (by decide) ?_
  have hP := hP.sub (ws' := [zO 13 ma [.int 0, .int 0, .int 0, .int 0, .int 0, .int 0, .ref nb, .ref wy, .ref hd, .ref tk]]) [0] rfl
  have hD := hD.sub (ws' := [zO 13 ma [.int 0, .int 0, .int 0, .int 0, .int 0, .int 0, .ref nb, .ref wy, .ref hd, .ref tk]]) [0] (by decide) rfl
  exact W.lret hx hb hr (fun t ht hW => ⟨⟨0, (), rfl, rfl, by rw [ht]; exact hP, hD⟩, hS.F ht⟩) hS.2.2 d_P_answer_81
theorem d_P_answer_67 : decode c_P_answer 67 = .ok (.aload_n 0, 1) := by decide +kernel
theorem d_P_answer_68 : decode c_P_answer 68 = .ok (.getfield 11, 3) := by decide +kernel
theorem d_P_answer_71 : decode c_P_answer 71 = .ok (.iload_n 1, 1) := by decide +kernel
theorem d_P_answer_72 : decode c_P_answer 72 = .ok (.aaload, 1) := by decide +kernel
theorem d_P_answer_73 : decode c_P_answer 73 = .ok (.getfield 32, 3) := by decide +kernel
theorem d_P_answer_76 : decode c_P_answer 76 = .ok (.getfield 154, 3) := by decide +kernel
theorem d_P_answer_79 : decode c_P_answer 79 = .ok (.iload_n 2, 1) := by decide +kernel
theorem d_P_answer_80 : decode c_P_answer 80 = .ok (.laload, 1) := by decide +kernel
set_option maxHeartbeats 4000000 in
set_option maxRecDepth 100000 in
/-- answer on a new object -/
theorem C_P_answer_01 (l : Launch) (D : va_G) (t : Nat → ClassId) (ma nb wy hd tk : Nat) (th : Int32) (qq : Nat → Nat → Nat) (mk : Int32) (k : Nat) (hk : k < 7) (j : Nat) (hj : j < 8) : xe_C l D vwCl (xTY t) y_P_answer c_P_answer 4 (Option.some FieldType.long) ({ frames := 1, cells := 0, slots := 0, locals := 20 }) [.ref ma, .int (nI k), .int (nI j), .int 1] [zO 13 ma [.int th, .int 0, .int 0, .int 0, .int 0, .int 0, .ref nb, .ref wy, .ref hd, .ref tk], zA t 7 nb 7 (fun j => some (qq j 0)), zO 9 (qq k 0) [.int (nI k), .int 1, .int 0, .int 0, .int 0, .int 0, .int (nI (8 + 3 * k)), .int ((-1)), .int 0, .int 0, .ref ((qq k 1)), .ref ((qq k 7)), .ref ((qq k 11)), .ref ((qq k 15)), .ref ((qq k 19)), .ref ((qq k 23)), .int 0], zO 11 (qq k 1) [.int 0, .ref ((qq k 2)), .ref ((qq k 3)), .ref ((qq k 4)), .ref ((qq k 5)), .ref ((qq k 6)), .int 1], zJ t (qq k 2) 32 (fun _ => 1099511627776), zJ t (qq k 3) 8 (fun _ => 0), zI t (qq k 4) 8 (fun _ => 0), zI t (qq k 5) 4 (xm 1), zI t (qq k 6) 4 (xm mk), zO 10 (qq k 7) [.ref ((qq k 8)), .ref ((qq k 9)), .ref ((qq k 10)), .int 0], zI t (qq k 8) 8 (fun _ => 0), zI t (qq k 9) 8 (fun _ => 0), zA t 5 (qq k 10) 8 (fun _ => none), zO 10 (qq k 11) [.ref ((qq k 12)), .ref ((qq k 13)), .ref ((qq k 14)), .int 0], zI t (qq k 12) 8 (fun _ => 0), zI t (qq k 13) 8 (fun _ => 0), zA t 5 (qq k 14) 8 (fun _ => none), zO 10 (qq k 15) [.ref ((qq k 16)), .ref ((qq k 17)), .ref ((qq k 18)), .int 0], zI t (qq k 16) 8 (fun _ => 0), zI t (qq k 17) 8 (fun _ => 0), zA t 5 (qq k 18) 8 (fun _ => none), zO 10 (qq k 19) [.ref ((qq k 20)), .ref ((qq k 21)), .ref ((qq k 22)), .int 0], zI t (qq k 20) 8 (fun _ => 0), zI t (qq k 21) 8 (fun _ => 0), zA t 5 (qq k 22) 8 (fun _ => none), zA t 5 (qq k 23) 16 (fun _ => none)] (xe_l D vwCl (fun (r : Int64) (_ : Unit) => r = 0) (fun _ => [zO 13 ma [.int 0, .int 0, .int 0, .int 0, .int 0, .int 0, .ref nb, .ref wy, .ref hd, .ref tk]])) 0 0 := by
  refine xe_of (by decide) (Nat.le_of_ble_eq_true rfl) ?_
  intro p e s m below meth c ls A Z hr hlocks hin hA hP hD hS hl
  obtain ⟨hx, hb, hml, hown, hK⟩ := id Z
  have hown : s.vm.findClass "QuorumStoreModel" = some m.cls := hown
  have hts := hK.1.at (args := ([.ref ma, .int (nI k), .int (nI j), .int 1] : List Value).toArray)
  have hl : lv_has ls 4 [(0, .ref ma), (1, .int (nI k)), (2, .int (nI j)), (3, .int 1)] := hl
  refine lv_aload_n hx hb d_P_answer_0 rfl (lv_at hl 0 rfl) ?_
  refine lv_iconst (v := 0) hx hb d_P_answer_1 (by decide) ?_
  refine va_put (ci := 13) (v := .int 0) (ty := tyX13 0) (C := "QuorumStoreModel") (T := TX13) (N := 10) hx hb hts inX13 tyX13 okX13 nmX13 hown hK.2 hP hD hS 0 rfl rfl 0 (by decide) (hts _ k_995) (fun _ h9 => h9) rfl (by decide +kernel) rfl rfl (Nat.le_of_ble_eq_true rfl) d_P_answer_2 (fun H locs hP hD hS => ?_)
  have hP : va_P D vwCl [zO 13 ma [.int 0, .int 0, .int 0, .int 0, .int 0, .int 0, .ref nb, .ref wy, .ref hd, .ref tk], zA t 7 nb 7 (fun j => some (qq j 0)), zO 9 (qq k 0) [.int (nI k), .int 1, .int 0, .int 0, .int 0, .int 0, .int (nI (8 + 3 * k)), .int ((-1)), .int 0, .int 0, .ref ((qq k 1)), .ref ((qq k 7)), .ref ((qq k 11)), .ref ((qq k 15)), .ref ((qq k 19)), .ref ((qq k 23)), .int 0], zO 11 (qq k 1) [.int 0, .ref ((qq k 2)), .ref ((qq k 3)), .ref ((qq k 4)), .ref ((qq k 5)), .ref ((qq k 6)), .int 1], zJ t (qq k 2) 32 (fun _ => 1099511627776), zJ t (qq k 3) 8 (fun _ => 0), zI t (qq k 4) 8 (fun _ => 0), zI t (qq k 5) 4 (xm 1), zI t (qq k 6) 4 (xm mk), zO 10 (qq k 7) [.ref ((qq k 8)), .ref ((qq k 9)), .ref ((qq k 10)), .int 0], zI t (qq k 8) 8 (fun _ => 0), zI t (qq k 9) 8 (fun _ => 0), zA t 5 (qq k 10) 8 (fun _ => none), zO 10 (qq k 11) [.ref ((qq k 12)), .ref ((qq k 13)), .ref ((qq k 14)), .int 0], zI t (qq k 12) 8 (fun _ => 0), zI t (qq k 13) 8 (fun _ => 0), zA t 5 (qq k 14) 8 (fun _ => none), zO 10 (qq k 15) [.ref ((qq k 16)), .ref ((qq k 17)), .ref ((qq k 18)), .int 0], zI t (qq k 16) 8 (fun _ => 0), zI t (qq k 17) 8 (fun _ => 0), zA t 5 (qq k 18) 8 (fun _ => none), zO 10 (qq k 19) [.ref ((qq k 20)), .ref ((qq k 21)), .ref ((qq k 22)), .int 0], zI t (qq k 20) 8 (fun _ => 0), zI t (qq k 21) 8 (fun _ => 0), zA t 5 (qq k 22) 8 (fun _ => none), zA t 5 (qq k 23) 16 (fun _ => none)] H := hP
  have hD : va_D A [zO 13 ma [.int 0, .int 0, .int 0, .int 0, .int 0, .int 0, .ref nb, .ref wy, .ref hd, .ref tk], zA t 7 nb 7 (fun j => some (qq j 0)), zO 9 (qq k 0) [.int (nI k), .int 1, .int 0, .int 0, .int 0, .int 0, .int (nI (8 + 3 * k)), .int ((-1)), .int 0, .int 0, .ref ((qq k 1)), .ref ((qq k 7)), .ref ((qq k 11)), .ref ((qq k 15)), .ref ((qq k 19)), .ref ((qq k 23)), .int 0], zO 11 (qq k 1) [.int 0, .ref ((qq k 2)), .ref ((qq k 3)), .ref ((qq k 4)), .ref ((qq k 5)), .ref ((qq k 6)), .int 1], zJ t (qq k 2) 32 (fun _ => 1099511627776), zJ t (qq k 3) 8 (fun _ => 0), zI t (qq k 4) 8 (fun _ => 0), zI t (qq k 5) 4 (xm 1), zI t (qq k 6) 4 (xm mk), zO 10 (qq k 7) [.ref ((qq k 8)), .ref ((qq k 9)), .ref ((qq k 10)), .int 0], zI t (qq k 8) 8 (fun _ => 0), zI t (qq k 9) 8 (fun _ => 0), zA t 5 (qq k 10) 8 (fun _ => none), zO 10 (qq k 11) [.ref ((qq k 12)), .ref ((qq k 13)), .ref ((qq k 14)), .int 0], zI t (qq k 12) 8 (fun _ => 0), zI t (qq k 13) 8 (fun _ => 0), zA t 5 (qq k 14) 8 (fun _ => none), zO 10 (qq k 15) [.ref ((qq k 16)), .ref ((qq k 17)), .ref ((qq k 18)), .int 0], zI t (qq k 16) 8 (fun _ => 0), zI t (qq k 17) 8 (fun _ => 0), zA t 5 (qq k 18) 8 (fun _ => none), zO 10 (qq k 19) [.ref ((qq k 20)), .ref ((qq k 21)), .ref ((qq k 22)), .int 0], zI t (qq k 20) 8 (fun _ => 0), zI t (qq k 21) 8 (fun _ => 0), zA t 5 (qq k 22) 8 (fun _ => none), zA t 5 (qq k 23) 16 (fun _ => none)] := hD
  refine lv_iload_n hx hb d_P_answer_5 rfl (lv_at hl 1 rfl) ?_
  refine xr_call (xs_S (As := [.int (nI k)]) (rest := []) Z (C_P_noNode l D t k hk) m_P_noNode k_1217 k_1218 rfl rfl ⟨Nat.le_of_ble_eq_true rfl, Nat.le_of_ble_eq_true rfl⟩ (xr_pre hK (hP.sub [] rfl)) rfl hl.1 rfl (Nat.le_of_ble_eq_true rfl) d_P_answer_6 ⟨Nat.le_of_ble_eq_true rfl, Nat.le_of_ble_eq_true rfl⟩) ?_
  refine lv_if_ne (tgt := 22) hx hb d_P_answer_9 (by decide) (fun c_1 => absurd c_1 (by decide)) (fun _ => ?_)
  refine lv_iload_n hx hb d_P_answer_12 rfl (lv_at hl 2 rfl) ?_
  refine lv_if_lt (tgt := 22) hx hb d_P_answer_13 (by decide) (fun c_2 => absurd c_2 (nI_pos (by omega))) (fun _ => ?_)
  refine lv_iload_n hx hb d_P_answer_16 rfl (lv_at hl 2 rfl) ?_
  refine lv_bipush (v := 7) hx hb d_P_answer_17 (by decide) ?_
  refine lv_icmp_le (tgt := 29) hx hb d_P_answer_19 (by decide) (fun _ => ?_) (fun c_3 => absurd (show nI j ≤ nI 7 from nI_le (by omega) (by decide)) c_3)
  refine lv_iload_n hx hb d_P_answer_29 rfl (lv_at hl 3 rfl) ?_
  refine lv_if_lt (tgt := 38) hx hb d_P_answer_30 (by decide) (fun c_4 => absurd c_4 (by decide)) (fun _ => ?_)
  refine lv_iload_n hx hb d_P_answer_33 rfl (lv_at hl 3 rfl) ?_
  refine lv_iconst (v := 1) hx hb d_P_answer_34 (by decide) ?_
  refine lv_icmp_le (tgt := 45) hx hb d_P_answer_35 (by decide) (fun _ => ?_) (fun c_5 => absurd (by decide) c_5)
  refine lv_iload_n hx hb d_P_answer_45 rfl (lv_at hl 3 rfl) ?_
  refine lv_if_ne (tgt := 67) hx hb d_P_answer_46 (by decide) (fun _ => ?_) (fun c_6 => absurd c_6 (by decide))
  refine lv_aload_n hx hb d_P_answer_67 rfl (lv_at hl 0 rfl) ?_
  refine va_get (ci := 13) (C := "QuorumStoreModel") (T := TX13) (N := 10) hx hb hts inX13 hown hK.2 hP 0 rfl rfl 6 (by decide) (hts _ k_1001) (fun _ h9 => h9) rfl d_P_answer_68 ?_
  refine lv_iload_n hx hb d_P_answer_71 rfl (lv_at hl 1 rfl) ?_
  refine va_aldq hx hb hK.2 hP 1 7 rfl rfl (vp_in_nI hk (by decide)) d_P_answer_72 ?_
  rw [nI_clamp (show k < 2 ^ 31 by omega)]
  refine va_get (ci := 9) (C := "QuorumStoreModel$Node") (T := TX9) (N := 17) hx hb hts inX9 hown hK.2 hP 2 rfl rfl 10 (by decide) (hts _ k_944) (fun _ h9 => h9) rfl d_P_answer_73 ?_
  refine va_get (ci := 11) (C := "QuorumStoreModel$State") (T := TX11) (N := 7) hx hb hts inX11 hown hK.2 hP 3 rfl rfl 2 (by decide) (hts _ k_864) (fun _ h9 => h9) rfl d_P_answer_76 ?_
  refine lv_iload_n hx hb d_P_answer_79 rfl (lv_at hl 2 rfl) ?_
  refine va_lald hx hb hK.2 hP 5 1 rfl rfl (vp_in_nI hj (by decide)) d_P_answer_80 ?_
  have hP := hP.sub (ws' := [zO 13 ma [.int 0, .int 0, .int 0, .int 0, .int 0, .int 0, .ref nb, .ref wy, .ref hd, .ref tk]]) [0] rfl
  have hD := hD.sub (ws' := [zO 13 ma [.int 0, .int 0, .int 0, .int 0, .int 0, .int 0, .ref nb, .ref wy, .ref hd, .ref tk]]) [0] (by decide) rfl
  exact W.lret hx hb hr (fun t ht hW => ⟨⟨0, (), rfl, rfl, by rw [ht]; exact hP, hD⟩, hS.F ht⟩) hS.2.2 d_P_answer_81
theorem d_P_number_12 : decode c_P_number 12 = .ok (.iload_n 2, 1) := by decide +kernel
theorem d_P_number_13 : decode c_P_number 13 = .ok (.ifCond .lt 9, 3) := by decide +kernel
theorem d_P_number_16 : decode c_P_number 16 = .ok (.iload_n 2, 1) := by decide +kernel
theorem d_P_number_17 : decode c_P_number 17 = .ok (.bipush 31, 2) := by decide +kernel
theorem d_P_number_19 : decode c_P_number 19 = .ok (.if_icmp .le 10, 3) := by decide +kernel
set_option maxHeartbeats 4000000 in
set_option maxRecDepth 100000 in
/-- number of no key -/
theorem C_P_number_2 (l : Launch) (D : va_G) (t : Nat → ClassId) (ma nb wy hd tk : Nat) (th : Int32) (k : Nat) (hk : k < 7) (a2 : Int32) (hn : a2 < 0 ∨ 32 ≤ a2) : xe_C l D vwCl (xTY t) y_P_number c_P_number 3 (Option.some FieldType.long) ({ frames := 1, cells := 0, slots := 0, locals := 21 }) [.ref ma, .int (nI k), .int a2] [zO 13 ma [.int th, .int 0, .int 0, .int 0, .int 0, .int 0, .ref nb, .ref wy, .ref hd, .ref tk]] (xe_l D vwCl (fun (r : Int64) (_ : Unit) => r = 0) (fun _ => [zO 13 ma [.int 1, .int 0, .int 0, .int 0, .int 0, .int 0, .ref nb, .ref wy, .ref hd, .ref tk]])) 0 0 := by
  refine xe_of (by decide) (Nat.le_of_ble_eq_true rfl) ?_
  intro p e s m below meth c ls A Z hr hlocks hin hA hP hD hS hl
  obtain ⟨hx, hb, hml, hown, hK⟩ := id Z
  have hown : s.vm.findClass "QuorumStoreModel" = some m.cls := hown
  have hts := hK.1.at (args := ([.ref ma, .int (nI k), .int a2] : List Value).toArray)
  have hl : lv_has ls 3 [(0, .ref ma), (1, .int (nI k)), (2, .int a2)] := hl
  refine lv_aload_n hx hb d_P_number_0 rfl (lv_at hl 0 rfl) ?_
  refine lv_iconst (v := 0) hx hb d_P_number_1 (by decide) ?_
  refine va_put (ci := 13) (v := .int 0) (ty := tyX13 0) (C := "QuorumStoreModel") (T := TX13) (N := 10) hx hb hts inX13 tyX13 okX13 nmX13 hown hK.2 hP hD hS 0 rfl rfl 0 (by decide) (hts _ k_995) (fun _ h9 => h9) rfl (by decide +kernel) rfl rfl (Nat.le_of_ble_eq_true rfl) d_P_number_2 (fun H locs hP hD hS => ?_)
  have hP : va_P D vwCl [zO 13 ma [.int 0, .int 0, .int 0, .int 0, .int 0, .int 0, .ref nb, .ref wy, .ref hd, .ref tk]] H := hP
  have hD : va_D A [zO 13 ma [.int 0, .int 0, .int 0, .int 0, .int 0, .int 0, .ref nb, .ref wy, .ref hd, .ref tk]] := hD
  refine lv_iload_n hx hb d_P_number_5 rfl (lv_at hl 1 rfl) ?_
  refine xr_call (xs_S (As := [.int (nI k)]) (rest := []) Z (C_P_noNode l D t k hk) m_P_noNode k_1217 k_1218 rfl rfl ⟨Nat.le_of_ble_eq_true rfl, Nat.le_of_ble_eq_true rfl⟩ (xr_pre hK (hP.sub [] rfl)) rfl hl.1 rfl (Nat.le_of_ble_eq_true rfl) d_P_number_6 ⟨Nat.le_of_ble_eq_true rfl, Nat.le_of_ble_eq_true rfl⟩) ?_
  refine lv_if_ne (tgt := 22) hx hb d_P_number_9 (by decide) (fun c_1 => absurd c_1 (by decide)) (fun _ => ?_)
  refine lv_iload_n hx hb d_P_number_12 rfl (lv_at hl 2 rfl) ?_
  refine lv_if_lt (tgt := 22) hx hb d_P_number_13 (by decide) (fun c_2 => ?_) (fun c_2 => ?_)
  · refine lv_aload_n hx hb d_P_number_22 rfl (lv_at hl 0 rfl) ?_
    refine lv_iconst (v := 1) hx hb d_P_number_23 (by decide) ?_
    refine xe_calli (wr := []) (xs_V (As := [.int 1]) (rest := []) Z (C_P_fail l D t ma nb wy hd tk 0 1 H.size) m_P_fail k_1034 k_1036 ks_33 rfl rfl ⟨Nat.le_of_ble_eq_true rfl, Nat.le_of_ble_eq_true rfl⟩ (va_recv hK.2 hP (ci := 13) (q0 := 0) rfl rfl) (xe_pre hK (hP.sub [0] rfl) (hD.sub [0] (by decide) rfl)) rfl hl.1 rfl (Nat.le_of_ble_eq_true rfl) d_P_number_24 ⟨Nat.le_of_ble_eq_true rfl, Nat.le_of_ble_eq_true rfl⟩) hP hD hS hA [0] [] rfl rfl (by decide) (by decide) (fun r_3 u_ H locs hw hP hD hS => ?_)
    have hP : va_P D vwCl [zO 13 ma [.int 1, .int 0, .int 0, .int 0, .int 0, .int 0, .ref nb, .ref wy, .ref hd, .ref tk]] H := hP
    have hD : va_D A [zO 13 ma [.int 1, .int 0, .int 0, .int 0, .int 0, .int 0, .ref nb, .ref wy, .ref hd, .ref tk]] := hD
    obtain rfl := hw
    refine lv_i2l (v := (0 : Int32).toInt64) hx hb d_P_number_27 rfl ?_
    exact W.lret hx hb hr (fun t ht hW => ⟨⟨0, (), rfl, rfl, by rw [ht]; exact hP, hD⟩, hS.F ht⟩) hS.2.2 d_P_number_28
  · refine lv_iload_n hx hb d_P_number_16 rfl (lv_at hl 2 rfl) ?_
    refine lv_bipush (v := 31) hx hb d_P_number_17 (by decide) ?_
    refine lv_icmp_le (tgt := 29) hx hb d_P_number_19 (by decide) (fun c_4 => absurd c_4 (fun h9 => hn.elim c_2 (fun h8 => absurd (Int32.le_trans h8 h9) (by decide)))) (fun _ => ?_)
    refine lv_aload_n hx hb d_P_number_22 rfl (lv_at hl 0 rfl) ?_
    refine lv_iconst (v := 1) hx hb d_P_number_23 (by decide) ?_
    refine xe_calli (wr := []) (xs_V (As := [.int 1]) (rest := []) Z (C_P_fail l D t ma nb wy hd tk 0 1 H.size) m_P_fail k_1034 k_1036 ks_33 rfl rfl ⟨Nat.le_of_ble_eq_true rfl, Nat.le_of_ble_eq_true rfl⟩ (va_recv hK.2 hP (ci := 13) (q0 := 0) rfl rfl) (xe_pre hK (hP.sub [0] rfl) (hD.sub [0] (by decide) rfl)) rfl hl.1 rfl (Nat.le_of_ble_eq_true rfl) d_P_number_24 ⟨Nat.le_of_ble_eq_true rfl, Nat.le_of_ble_eq_true rfl⟩) hP hD hS hA [0] [] rfl rfl (by decide) (by decide) (fun r_5 u_ H locs hw hP hD hS => ?_)
    have hP : va_P D vwCl [zO 13 ma [.int 1, .int 0, .int 0, .int 0, .int 0, .int 0, .ref nb, .ref wy, .ref hd, .ref tk]] H := hP
    have hD : va_D A [zO 13 ma [.int 1, .int 0, .int 0, .int 0, .int 0, .int 0, .ref nb, .ref wy, .ref hd, .ref tk]] := hD
    obtain rfl := hw
    refine lv_i2l (v := (0 : Int32).toInt64) hx hb d_P_number_27 rfl ?_
    exact W.lret hx hb hr (fun t ht hW => ⟨⟨0, (), rfl, rfl, by rw [ht]; exact hP, hD⟩, hS.F ht⟩) hS.2.2 d_P_number_28
theorem d_P_number_29 : decode c_P_number 29 = .ok (.aload_n 0, 1) := by decide +kernel
theorem d_P_number_30 : decode c_P_number 30 = .ok (.getfield 11, 3) := by decide +kernel
theorem d_P_number_33 : decode c_P_number 33 = .ok (.iload_n 1, 1) := by decide +kernel
theorem d_P_number_34 : decode c_P_number 34 = .ok (.aaload, 1) := by decide +kernel
theorem d_P_number_35 : decode c_P_number 35 = .ok (.getfield 32, 3) := by decide +kernel
theorem d_P_number_38 : decode c_P_number 38 = .ok (.getfield 139, 3) := by decide +kernel
theorem d_P_number_41 : decode c_P_number 41 = .ok (.iload_n 2, 1) := by decide +kernel
theorem d_P_number_42 : decode c_P_number 42 = .ok (.laload, 1) := by decide +kernel
theorem d_P_number_43 : decode c_P_number 43 = .ok (.lreturn, 1) := by decide +kernel
set_option maxHeartbeats 4000000 in
set_option maxRecDepth 100000 in
/-- number on a new object -/
theorem C_P_number (l : Launch) (D : va_G) (t : Nat → ClassId) (ma nb wy hd tk : Nat) (th : Int32) (qq : Nat → Nat → Nat) (mk : Int32) (k : Nat) (hk : k < 7) (j : Nat) (hj : j < 32) : xe_C l D vwCl (xTY t) y_P_number c_P_number 3 (Option.some FieldType.long) ({ frames := 1, cells := 0, slots := 0, locals := 20 }) [.ref ma, .int (nI k), .int (nI j)] [zO 13 ma [.int th, .int 0, .int 0, .int 0, .int 0, .int 0, .ref nb, .ref wy, .ref hd, .ref tk], zA t 7 nb 7 (fun j => some (qq j 0)), zO 9 (qq k 0) [.int (nI k), .int 1, .int 0, .int 0, .int 0, .int 0, .int (nI (8 + 3 * k)), .int ((-1)), .int 0, .int 0, .ref ((qq k 1)), .ref ((qq k 7)), .ref ((qq k 11)), .ref ((qq k 15)), .ref ((qq k 19)), .ref ((qq k 23)), .int 0], zO 11 (qq k 1) [.int 0, .ref ((qq k 2)), .ref ((qq k 3)), .ref ((qq k 4)), .ref ((qq k 5)), .ref ((qq k 6)), .int 1], zJ t (qq k 2) 32 (fun _ => 1099511627776), zJ t (qq k 3) 8 (fun _ => 0), zI t (qq k 4) 8 (fun _ => 0), zI t (qq k 5) 4 (xm 1), zI t (qq k 6) 4 (xm mk), zO 10 (qq k 7) [.ref ((qq k 8)), .ref ((qq k 9)), .ref ((qq k 10)), .int 0], zI t (qq k 8) 8 (fun _ => 0), zI t (qq k 9) 8 (fun _ => 0), zA t 5 (qq k 10) 8 (fun _ => none), zO 10 (qq k 11) [.ref ((qq k 12)), .ref ((qq k 13)), .ref ((qq k 14)), .int 0], zI t (qq k 12) 8 (fun _ => 0), zI t (qq k 13) 8 (fun _ => 0), zA t 5 (qq k 14) 8 (fun _ => none), zO 10 (qq k 15) [.ref ((qq k 16)), .ref ((qq k 17)), .ref ((qq k 18)), .int 0], zI t (qq k 16) 8 (fun _ => 0), zI t (qq k 17) 8 (fun _ => 0), zA t 5 (qq k 18) 8 (fun _ => none), zO 10 (qq k 19) [.ref ((qq k 20)), .ref ((qq k 21)), .ref ((qq k 22)), .int 0], zI t (qq k 20) 8 (fun _ => 0), zI t (qq k 21) 8 (fun _ => 0), zA t 5 (qq k 22) 8 (fun _ => none), zA t 5 (qq k 23) 16 (fun _ => none)] (xe_l D vwCl (fun (r : Int64) (_ : Unit) => r = 1099511627776) (fun _ => [zO 13 ma [.int 0, .int 0, .int 0, .int 0, .int 0, .int 0, .ref nb, .ref wy, .ref hd, .ref tk]])) 0 0 := by
  refine xe_of (by decide) (Nat.le_of_ble_eq_true rfl) ?_
  intro p e s m below meth c ls A Z hr hlocks hin hA hP hD hS hl
  obtain ⟨hx, hb, hml, hown, hK⟩ := id Z
  have hown : s.vm.findClass "QuorumStoreModel" = some m.cls := hown
  have hts := hK.1.at (args := ([.ref ma, .int (nI k), .int (nI j)] : List Value).toArray)
  have hl : lv_has ls 3 [(0, .ref ma), (1, .int (nI k)), (2, .int (nI j))] := hl
  refine lv_aload_n hx hb d_P_number_0 rfl (lv_at hl 0 rfl) ?_
  refine lv_iconst (v := 0) hx hb d_P_number_1 (by decide) ?_
  refine va_put (ci := 13) (v := .int 0) (ty := tyX13 0) (C := "QuorumStoreModel") (T := TX13) (N := 10) hx hb hts inX13 tyX13 okX13 nmX13 hown hK.2 hP hD hS 0 rfl rfl 0 (by decide) (hts _ k_995) (fun _ h9 => h9) rfl (by decide +kernel) rfl rfl (Nat.le_of_ble_eq_true rfl) d_P_number_2 (fun H locs hP hD hS => ?_)
  have hP : va_P D vwCl [zO 13 ma [.int 0, .int 0, .int 0, .int 0, .int 0, .int 0, .ref nb, .ref wy, .ref hd, .ref tk], zA t 7 nb 7 (fun j => some (qq j 0)), zO 9 (qq k 0) [.int (nI k), .int 1, .int 0, .int 0, .int 0, .int 0, .int (nI (8 + 3 * k)), .int ((-1)), .int 0, .int 0, .ref ((qq k 1)), .ref ((qq k 7)), .ref ((qq k 11)), .ref ((qq k 15)), .ref ((qq k 19)), .ref ((qq k 23)), .int 0], zO 11 (qq k 1) [.int 0, .ref ((qq k 2)), .ref ((qq k 3)), .ref ((qq k 4)), .ref ((qq k 5)), .ref ((qq k 6)), .int 1], zJ t (qq k 2) 32 (fun _ => 1099511627776), zJ t (qq k 3) 8 (fun _ => 0), zI t (qq k 4) 8 (fun _ => 0), zI t (qq k 5) 4 (xm 1), zI t (qq k 6) 4 (xm mk), zO 10 (qq k 7) [.ref ((qq k 8)), .ref ((qq k 9)), .ref ((qq k 10)), .int 0], zI t (qq k 8) 8 (fun _ => 0), zI t (qq k 9) 8 (fun _ => 0), zA t 5 (qq k 10) 8 (fun _ => none), zO 10 (qq k 11) [.ref ((qq k 12)), .ref ((qq k 13)), .ref ((qq k 14)), .int 0], zI t (qq k 12) 8 (fun _ => 0), zI t (qq k 13) 8 (fun _ => 0), zA t 5 (qq k 14) 8 (fun _ => none), zO 10 (qq k 15) [.ref ((qq k 16)), .ref ((qq k 17)), .ref ((qq k 18)), .int 0], zI t (qq k 16) 8 (fun _ => 0), zI t (qq k 17) 8 (fun _ => 0), zA t 5 (qq k 18) 8 (fun _ => none), zO 10 (qq k 19) [.ref ((qq k 20)), .ref ((qq k 21)), .ref ((qq k 22)), .int 0], zI t (qq k 20) 8 (fun _ => 0), zI t (qq k 21) 8 (fun _ => 0), zA t 5 (qq k 22) 8 (fun _ => none), zA t 5 (qq k 23) 16 (fun _ => none)] H := hP
  have hD : va_D A [zO 13 ma [.int 0, .int 0, .int 0, .int 0, .int 0, .int 0, .ref nb, .ref wy, .ref hd, .ref tk], zA t 7 nb 7 (fun j => some (qq j 0)), zO 9 (qq k 0) [.int (nI k), .int 1, .int 0, .int 0, .int 0, .int 0, .int (nI (8 + 3 * k)), .int ((-1)), .int 0, .int 0, .ref ((qq k 1)), .ref ((qq k 7)), .ref ((qq k 11)), .ref ((qq k 15)), .ref ((qq k 19)), .ref ((qq k 23)), .int 0], zO 11 (qq k 1) [.int 0, .ref ((qq k 2)), .ref ((qq k 3)), .ref ((qq k 4)), .ref ((qq k 5)), .ref ((qq k 6)), .int 1], zJ t (qq k 2) 32 (fun _ => 1099511627776), zJ t (qq k 3) 8 (fun _ => 0), zI t (qq k 4) 8 (fun _ => 0), zI t (qq k 5) 4 (xm 1), zI t (qq k 6) 4 (xm mk), zO 10 (qq k 7) [.ref ((qq k 8)), .ref ((qq k 9)), .ref ((qq k 10)), .int 0], zI t (qq k 8) 8 (fun _ => 0), zI t (qq k 9) 8 (fun _ => 0), zA t 5 (qq k 10) 8 (fun _ => none), zO 10 (qq k 11) [.ref ((qq k 12)), .ref ((qq k 13)), .ref ((qq k 14)), .int 0], zI t (qq k 12) 8 (fun _ => 0), zI t (qq k 13) 8 (fun _ => 0), zA t 5 (qq k 14) 8 (fun _ => none), zO 10 (qq k 15) [.ref ((qq k 16)), .ref ((qq k 17)), .ref ((qq k 18)), .int 0], zI t (qq k 16) 8 (fun _ => 0), zI t (qq k 17) 8 (fun _ => 0), zA t 5 (qq k 18) 8 (fun _ => none), zO 10 (qq k 19) [.ref ((qq k 20)), .ref ((qq k 21)), .ref ((qq k 22)), .int 0], zI t (qq k 20) 8 (fun _ => 0), zI t (qq k 21) 8 (fun _ => 0), zA t 5 (qq k 22) 8 (fun _ => none), zA t 5 (qq k 23) 16 (fun _ => none)] := hD
  refine lv_iload_n hx hb d_P_number_5 rfl (lv_at hl 1 rfl) ?_
  refine xr_call (xs_S (As := [.int (nI k)]) (rest := []) Z (C_P_noNode l D t k hk) m_P_noNode k_1217 k_1218 rfl rfl ⟨Nat.le_of_ble_eq_true rfl, Nat.le_of_ble_eq_true rfl⟩ (xr_pre hK (hP.sub [] rfl)) rfl hl.1 rfl (Nat.le_of_ble_eq_true rfl) d_P_number_6 ⟨Nat.le_of_ble_eq_true rfl, Nat.le_of_ble_eq_true rfl⟩) ?_
  refine lv_if_ne (tgt := 22) hx hb d_P_number_9 (by decide) (fun c_1 => absurd c_1 (by decide)) (fun _ => ?_)
  refine lv_iload_n hx hb d_P_number_12 rfl (lv_at hl 2 rfl) ?_
  refine lv_if_lt (tgt := 22) hx hb d_P_number_13 (by decide) (fun c_2 => absurd c_2 (nI_pos (by omega))) (fun _ => ?_)
  refine lv_iload_n hx hb d_P_number_16 rfl (lv_at hl 2 rfl) ?_
  refine lv_bipush (v := 31) hx hb d_P_number_17 (by decide) ?_
  refine lv_icmp_le (tgt := 29) hx hb d_P_number_19 (by decide) (fun _ => ?_) (fun c_3 => absurd (show nI j ≤ nI 31 from nI_le (by omega) (by decide)) c_3)
  refine lv_aload_n hx hb d_P_number_29 rfl (lv_at hl 0 rfl) ?_
  refine va_get (ci := 13) (C := "QuorumStoreModel") (T := TX13) (N := 10) hx hb hts inX13 hown hK.2 hP 0 rfl rfl 6 (by decide) (hts _ k_1001) (fun _ h9 => h9) rfl d_P_number_30 ?_
  refine lv_iload_n hx hb d_P_number_33 rfl (lv_at hl 1 rfl) ?_
  refine va_aldq hx hb hK.2 hP 1 7 rfl rfl (vp_in_nI hk (by decide)) d_P_number_34 ?_
  rw [nI_clamp (show k < 2 ^ 31 by omega)]
  refine va_get (ci := 9) (C := "QuorumStoreModel$Node") (T := TX9) (N := 17) hx hb hts inX9 hown hK.2 hP 2 rfl rfl 10 (by decide) (hts _ k_944) (fun _ h9 => h9) rfl d_P_number_35 ?_
  refine va_get (ci := 11) (C := "QuorumStoreModel$State") (T := TX11) (N := 7) hx hb hts inX11 hown hK.2 hP 3 rfl rfl 1 (by decide) (hts _ k_862) (fun _ h9 => h9) rfl d_P_number_38 ?_
  refine lv_iload_n hx hb d_P_number_41 rfl (lv_at hl 2 rfl) ?_
  refine va_lald hx hb hK.2 hP 4 1 rfl rfl (vp_in_nI hj (by decide)) d_P_number_42 ?_
  have hP := hP.sub (ws' := [zO 13 ma [.int 0, .int 0, .int 0, .int 0, .int 0, .int 0, .ref nb, .ref wy, .ref hd, .ref tk]]) [0] rfl
  have hD := hD.sub (ws' := [zO 13 ma [.int 0, .int 0, .int 0, .int 0, .int 0, .int 0, .ref nb, .ref wy, .ref hd, .ref tk]]) [0] (by decide) rfl
  exact W.lret hx hb hr (fun t ht hW => ⟨⟨1099511627776, (), rfl, rfl, by rw [ht]; exact hP, hD⟩, hS.F ht⟩) hS.2.2 d_P_number_43
theorem d_P_known_16 : decode c_P_known 16 = .ok (.aload_n 0, 1) := by decide +kernel
theorem d_P_known_17 : decode c_P_known 17 = .ok (.getfield 11, 3) := by decide +kernel
theorem d_P_known_20 : decode c_P_known 20 = .ok (.iload_n 1, 1) := by decide +kernel
theorem d_P_known_21 : decode c_P_known 21 = .ok (.aaload, 1) := by decide +kernel
theorem d_P_known_22 : decode c_P_known 22 = .ok (.getfield 98, 3) := by decide +kernel
theorem d_P_known_25 : decode c_P_known 25 = .ok (.iload_n 2, 1) := by decide +kernel
theorem d_P_known_26 : decode c_P_known 26 = .ok (.invokevirtual 102, 3) := by decide +kernel
set_option maxHeartbeats 4000000 in
set_option maxRecDepth 100000 in
/-- known on a new object -/
theorem C_P_known (l : Launch) (D : va_G) (t : Nat → ClassId) (ma nb wy hd tk : Nat) (th : Int32) (qq : Nat → Nat → Nat) (mk : Int32) (k : Nat) (hk : k < 7) (a2 a3 : Int32) : xe_C l D vwCl (xTY t) y_P_known c_P_known 6 (Option.some FieldType.int) ({ frames := 1, cells := 0, slots := 0, locals := 22 }) [.ref ma, .int (nI k), .int a2, .int a3] [zO 13 ma [.int th, .int 0, .int 0, .int 0, .int 0, .int 0, .ref nb, .ref wy, .ref hd, .ref tk], zA t 7 nb 7 (fun j => some (qq j 0)), zO 9 (qq k 0) [.int (nI k), .int 1, .int 0, .int 0, .int 0, .int 0, .int (nI (8 + 3 * k)), .int ((-1)), .int 0, .int 0, .ref ((qq k 1)), .ref ((qq k 7)), .ref ((qq k 11)), .ref ((qq k 15)), .ref ((qq k 19)), .ref ((qq k 23)), .int 0], zO 11 (qq k 1) [.int 0, .ref ((qq k 2)), .ref ((qq k 3)), .ref ((qq k 4)), .ref ((qq k 5)), .ref ((qq k 6)), .int 1], zJ t (qq k 2) 32 (fun _ => 1099511627776), zJ t (qq k 3) 8 (fun _ => 0), zI t (qq k 4) 8 (fun _ => 0), zI t (qq k 5) 4 (xm 1), zI t (qq k 6) 4 (xm mk), zO 10 (qq k 7) [.ref ((qq k 8)), .ref ((qq k 9)), .ref ((qq k 10)), .int 0], zI t (qq k 8) 8 (fun _ => 0), zI t (qq k 9) 8 (fun _ => 0), zA t 5 (qq k 10) 8 (fun _ => none), zO 10 (qq k 11) [.ref ((qq k 12)), .ref ((qq k 13)), .ref ((qq k 14)), .int 0], zI t (qq k 12) 8 (fun _ => 0), zI t (qq k 13) 8 (fun _ => 0), zA t 5 (qq k 14) 8 (fun _ => none), zO 10 (qq k 15) [.ref ((qq k 16)), .ref ((qq k 17)), .ref ((qq k 18)), .int 0], zI t (qq k 16) 8 (fun _ => 0), zI t (qq k 17) 8 (fun _ => 0), zA t 5 (qq k 18) 8 (fun _ => none), zO 10 (qq k 19) [.ref ((qq k 20)), .ref ((qq k 21)), .ref ((qq k 22)), .int 0], zI t (qq k 20) 8 (fun _ => 0), zI t (qq k 21) 8 (fun _ => 0), zA t 5 (qq k 22) 8 (fun _ => none), zA t 5 (qq k 23) 16 (fun _ => none)] (xe_i D vwCl (fun (r : Int32) (_ : Unit) => r = 0) (fun _ => [zO 13 ma [.int 1, .int 0, .int 0, .int 0, .int 0, .int 0, .ref nb, .ref wy, .ref hd, .ref tk]])) 0 0 := by
  refine xe_of (by decide) (Nat.le_of_ble_eq_true rfl) ?_
  intro p e s m below meth c ls A Z hr hlocks hin hA hP hD hS hl
  obtain ⟨hx, hb, hml, hown, hK⟩ := id Z
  have hown : s.vm.findClass "QuorumStoreModel" = some m.cls := hown
  have hts := hK.1.at (args := ([.ref ma, .int (nI k), .int a2, .int a3] : List Value).toArray)
  have hl : lv_has ls 6 [(0, .ref ma), (1, .int (nI k)), (2, .int a2), (3, .int a3)] := hl
  refine lv_aload_n hx hb d_P_known_0 rfl (lv_at hl 0 rfl) ?_
  refine lv_iconst (v := 0) hx hb d_P_known_1 (by decide) ?_
  refine va_put (ci := 13) (v := .int 0) (ty := tyX13 0) (C := "QuorumStoreModel") (T := TX13) (N := 10) hx hb hts inX13 tyX13 okX13 nmX13 hown hK.2 hP hD hS 0 rfl rfl 0 (by decide) (hts _ k_995) (fun _ h9 => h9) rfl (by decide +kernel) rfl rfl (Nat.le_of_ble_eq_true rfl) d_P_known_2 (fun H locs hP hD hS => ?_)
  have hP : va_P D vwCl [zO 13 ma [.int 0, .int 0, .int 0, .int 0, .int 0, .int 0, .ref nb, .ref wy, .ref hd, .ref tk], zA t 7 nb 7 (fun j => some (qq j 0)), zO 9 (qq k 0) [.int (nI k), .int 1, .int 0, .int 0, .int 0, .int 0, .int (nI (8 + 3 * k)), .int ((-1)), .int 0, .int 0, .ref ((qq k 1)), .ref ((qq k 7)), .ref ((qq k 11)), .ref ((qq k 15)), .ref ((qq k 19)), .ref ((qq k 23)), .int 0], zO 11 (qq k 1) [.int 0, .ref ((qq k 2)), .ref ((qq k 3)), .ref ((qq k 4)), .ref ((qq k 5)), .ref ((qq k 6)), .int 1], zJ t (qq k 2) 32 (fun _ => 1099511627776), zJ t (qq k 3) 8 (fun _ => 0), zI t (qq k 4) 8 (fun _ => 0), zI t (qq k 5) 4 (xm 1), zI t (qq k 6) 4 (xm mk), zO 10 (qq k 7) [.ref ((qq k 8)), .ref ((qq k 9)), .ref ((qq k 10)), .int 0], zI t (qq k 8) 8 (fun _ => 0), zI t (qq k 9) 8 (fun _ => 0), zA t 5 (qq k 10) 8 (fun _ => none), zO 10 (qq k 11) [.ref ((qq k 12)), .ref ((qq k 13)), .ref ((qq k 14)), .int 0], zI t (qq k 12) 8 (fun _ => 0), zI t (qq k 13) 8 (fun _ => 0), zA t 5 (qq k 14) 8 (fun _ => none), zO 10 (qq k 15) [.ref ((qq k 16)), .ref ((qq k 17)), .ref ((qq k 18)), .int 0], zI t (qq k 16) 8 (fun _ => 0), zI t (qq k 17) 8 (fun _ => 0), zA t 5 (qq k 18) 8 (fun _ => none), zO 10 (qq k 19) [.ref ((qq k 20)), .ref ((qq k 21)), .ref ((qq k 22)), .int 0], zI t (qq k 20) 8 (fun _ => 0), zI t (qq k 21) 8 (fun _ => 0), zA t 5 (qq k 22) 8 (fun _ => none), zA t 5 (qq k 23) 16 (fun _ => none)] H := hP
  have hD : va_D A [zO 13 ma [.int 0, .int 0, .int 0, .int 0, .int 0, .int 0, .ref nb, .ref wy, .ref hd, .ref tk], zA t 7 nb 7 (fun j => some (qq j 0)), zO 9 (qq k 0) [.int (nI k), .int 1, .int 0, .int 0, .int 0, .int 0, .int (nI (8 + 3 * k)), .int ((-1)), .int 0, .int 0, .ref ((qq k 1)), .ref ((qq k 7)), .ref ((qq k 11)), .ref ((qq k 15)), .ref ((qq k 19)), .ref ((qq k 23)), .int 0], zO 11 (qq k 1) [.int 0, .ref ((qq k 2)), .ref ((qq k 3)), .ref ((qq k 4)), .ref ((qq k 5)), .ref ((qq k 6)), .int 1], zJ t (qq k 2) 32 (fun _ => 1099511627776), zJ t (qq k 3) 8 (fun _ => 0), zI t (qq k 4) 8 (fun _ => 0), zI t (qq k 5) 4 (xm 1), zI t (qq k 6) 4 (xm mk), zO 10 (qq k 7) [.ref ((qq k 8)), .ref ((qq k 9)), .ref ((qq k 10)), .int 0], zI t (qq k 8) 8 (fun _ => 0), zI t (qq k 9) 8 (fun _ => 0), zA t 5 (qq k 10) 8 (fun _ => none), zO 10 (qq k 11) [.ref ((qq k 12)), .ref ((qq k 13)), .ref ((qq k 14)), .int 0], zI t (qq k 12) 8 (fun _ => 0), zI t (qq k 13) 8 (fun _ => 0), zA t 5 (qq k 14) 8 (fun _ => none), zO 10 (qq k 15) [.ref ((qq k 16)), .ref ((qq k 17)), .ref ((qq k 18)), .int 0], zI t (qq k 16) 8 (fun _ => 0), zI t (qq k 17) 8 (fun _ => 0), zA t 5 (qq k 18) 8 (fun _ => none), zO 10 (qq k 19) [.ref ((qq k 20)), .ref ((qq k 21)), .ref ((qq k 22)), .int 0], zI t (qq k 20) 8 (fun _ => 0), zI t (qq k 21) 8 (fun _ => 0), zA t 5 (qq k 22) 8 (fun _ => none), zA t 5 (qq k 23) 16 (fun _ => none)] := hD
  refine lv_iload_n hx hb d_P_known_5 rfl (lv_at hl 1 rfl) ?_
  refine xr_call (xs_S (As := [.int (nI k)]) (rest := []) Z (C_P_noNode l D t k hk) m_P_noNode k_1217 k_1218 rfl rfl ⟨Nat.le_of_ble_eq_true rfl, Nat.le_of_ble_eq_true rfl⟩ (xr_pre hK (hP.sub [] rfl)) rfl hl.1 rfl (Nat.le_of_ble_eq_true rfl) d_P_known_6 ⟨Nat.le_of_ble_eq_true rfl, Nat.le_of_ble_eq_true rfl⟩) ?_
  refine lv_if_eq (tgt := 16) hx hb d_P_known_9 (by decide) (fun _ => ?_) (fun c_1 => absurd (by decide) c_1)
  refine lv_aload_n hx hb d_P_known_16 rfl (lv_at hl 0 rfl) ?_
  refine va_get (ci := 13) (C := "QuorumStoreModel") (T := TX13) (N := 10) hx hb hts inX13 hown hK.2 hP 0 rfl rfl 6 (by decide) (hts _ k_1001) (fun _ h9 => h9) rfl d_P_known_17 ?_
  refine lv_iload_n hx hb d_P_known_20 rfl (lv_at hl 1 rfl) ?_
  refine va_aldq hx hb hK.2 hP 1 7 rfl rfl (vp_in_nI hk (by decide)) d_P_known_21 ?_
  rw [nI_clamp (show k < 2 ^ 31 by omega)]
  refine va_get (ci := 9) (C := "QuorumStoreModel$Node") (T := TX9) (N := 17) hx hb hts inX9 hown hK.2 hP 2 rfl rfl 12 (by decide) (hts _ k_948) (fun _ h9 => h9) rfl d_P_known_22 ?_
  refine lv_iload_n hx hb d_P_known_25 rfl (lv_at hl 2 rfl) ?_
  refine xr_call (xs_V (As := [.int a2]) (rest := []) Z (C_PR_find l D t (qq k 11) (qq k 12) (qq k 13) (qq k 14) a2) m_PR_find k_1060 k_1061 k_1062 rfl rfl ⟨Nat.le_of_ble_eq_true rfl, Nat.le_of_ble_eq_true rfl⟩ (va_recv hK.2 hP (ci := 10) (q0 := 13) rfl rfl) (xr_pre hK (hP.sub [13] rfl)) rfl hl.1 rfl (Nat.le_of_ble_eq_true rfl) d_P_known_26 ⟨Nat.le_of_ble_eq_true rfl, Nat.le_of_ble_eq_true rfl⟩) ?_
  refine lv_istore (lv' := [(4, .int ((-1))), (0, .ref ma), (1, .int (nI k)), (2, .int a2), (3, .int a3)]) hx hb d_P_known_29 hl (by decide) rfl (fun ls hl => ?_)
  refine lv_iload hx hb d_P_known_31 (lv_at hl 0 rfl) ?_
  refine lv_if_ge (tgt := 42) hx hb d_P_known_33 (by decide) (fun c_2 => absurd c_2 (by decide)) (fun _ => ?_)
  refine lv_aload_n hx hb d_P_known_36 rfl (lv_at hl 1 rfl) ?_
  refine lv_iconst (v := 1) hx hb d_P_known_37 (by decide) ?_
  refine xe_calli (wr := [zA t 7 nb 7 (fun j => some (qq j 0)), zO 9 (qq k 0) [.int (nI k), .int 1, .int 0, .int 0, .int 0, .int 0, .int (nI (8 + 3 * k)), .int ((-1)), .int 0, .int 0, .ref ((qq k 1)), .ref ((qq k 7)), .ref ((qq k 11)), .ref ((qq k 15)), .ref ((qq k 19)), .ref ((qq k 23)), .int 0], zO 11 (qq k 1) [.int 0, .ref ((qq k 2)), .ref ((qq k 3)), .ref ((qq k 4)), .ref ((qq k 5)), .ref ((qq k 6)), .int 1], zJ t (qq k 2) 32 (fun _ => 1099511627776), zJ t (qq k 3) 8 (fun _ => 0), zI t (qq k 4) 8 (fun _ => 0), zI t (qq k 5) 4 (xm 1), zI t (qq k 6) 4 (xm mk), zO 10 (qq k 7) [.ref ((qq k 8)), .ref ((qq k 9)), .ref ((qq k 10)), .int 0], zI t (qq k 8) 8 (fun _ => 0), zI t (qq k 9) 8 (fun _ => 0), zA t 5 (qq k 10) 8 (fun _ => none), zO 10 (qq k 11) [.ref ((qq k 12)), .ref ((qq k 13)), .ref ((qq k 14)), .int 0], zI t (qq k 12) 8 (fun _ => 0), zI t (qq k 13) 8 (fun _ => 0), zA t 5 (qq k 14) 8 (fun _ => none), zO 10 (qq k 15) [.ref ((qq k 16)), .ref ((qq k 17)), .ref ((qq k 18)), .int 0], zI t (qq k 16) 8 (fun _ => 0), zI t (qq k 17) 8 (fun _ => 0), zA t 5 (qq k 18) 8 (fun _ => none), zO 10 (qq k 19) [.ref ((qq k 20)), .ref ((qq k 21)), .ref ((qq k 22)), .int 0], zI t (qq k 20) 8 (fun _ => 0), zI t (qq k 21) 8 (fun _ => 0), zA t 5 (qq k 22) 8 (fun _ => none), zA t 5 (qq k 23) 16 (fun _ => none)]) (xs_V (As := [.int 1]) (rest := []) Z (C_P_fail l D t ma nb wy hd tk 0 1 H.size) m_P_fail k_1034 k_1036 ks_33 rfl rfl ⟨Nat.le_of_ble_eq_true rfl, Nat.le_of_ble_eq_true rfl⟩ (va_recv hK.2 hP (ci := 13) (q0 := 0) rfl rfl) (xe_pre hK (hP.sub [0] rfl) (hD.sub [0] (by decide) rfl)) rfl hl.1 rfl (Nat.le_of_ble_eq_true rfl) d_P_known_38 ⟨Nat.le_of_ble_eq_true rfl, Nat.le_of_ble_eq_true rfl⟩) hP hD hS hA [0] [1, 2, 3, 4, 5, 6, 7, 8, 9, 10, 11, 12, 13, 14, 15, 16, 17, 18, 19, 20, 21, 22, 23, 24, 25] rfl rfl (by decide) (by decide) (fun r_3 u_ H locs hw hP hD hS => ?_)
  have hP : va_P D vwCl [zA t 7 nb 7 (fun j => some (qq j 0)), zO 9 (qq k 0) [.int (nI k), .int 1, .int 0, .int 0, .int 0, .int 0, .int (nI (8 + 3 * k)), .int ((-1)), .int 0, .int 0, .ref ((qq k 1)), .ref ((qq k 7)), .ref ((qq k 11)), .ref ((qq k 15)), .ref ((qq k 19)), .ref ((qq k 23)), .int 0], zO 11 (qq k 1) [.int 0, .ref ((qq k 2)), .ref ((qq k 3)), .ref ((qq k 4)), .ref ((qq k 5)), .ref ((qq k 6)), .int 1], zJ t (qq k 2) 32 (fun _ => 1099511627776), zJ t (qq k 3) 8 (fun _ => 0), zI t (qq k 4) 8 (fun _ => 0), zI t (qq k 5) 4 (xm 1), zI t (qq k 6) 4 (xm mk), zO 10 (qq k 7) [.ref ((qq k 8)), .ref ((qq k 9)), .ref ((qq k 10)), .int 0], zI t (qq k 8) 8 (fun _ => 0), zI t (qq k 9) 8 (fun _ => 0), zA t 5 (qq k 10) 8 (fun _ => none), zO 10 (qq k 11) [.ref ((qq k 12)), .ref ((qq k 13)), .ref ((qq k 14)), .int 0], zI t (qq k 12) 8 (fun _ => 0), zI t (qq k 13) 8 (fun _ => 0), zA t 5 (qq k 14) 8 (fun _ => none), zO 10 (qq k 15) [.ref ((qq k 16)), .ref ((qq k 17)), .ref ((qq k 18)), .int 0], zI t (qq k 16) 8 (fun _ => 0), zI t (qq k 17) 8 (fun _ => 0), zA t 5 (qq k 18) 8 (fun _ => none), zO 10 (qq k 19) [.ref ((qq k 20)), .ref ((qq k 21)), .ref ((qq k 22)), .int 0], zI t (qq k 20) 8 (fun _ => 0), zI t (qq k 21) 8 (fun _ => 0), zA t 5 (qq k 22) 8 (fun _ => none), zA t 5 (qq k 23) 16 (fun _ => none), zO 13 ma [.int 1, .int 0, .int 0, .int 0, .int 0, .int 0, .ref nb, .ref wy, .ref hd, .ref tk]] H := hP
  have hD : va_D A [zA t 7 nb 7 (fun j => some (qq j 0)), zO 9 (qq k 0) [.int (nI k), .int 1, .int 0, .int 0, .int 0, .int 0, .int (nI (8 + 3 * k)), .int ((-1)), .int 0, .int 0, .ref ((qq k 1)), .ref ((qq k 7)), .ref ((qq k 11)), .ref ((qq k 15)), .ref ((qq k 19)), .ref ((qq k 23)), .int 0], zO 11 (qq k 1) [.int 0, .ref ((qq k 2)), .ref ((qq k 3)), .ref ((qq k 4)), .ref ((qq k 5)), .ref ((qq k 6)), .int 1], zJ t (qq k 2) 32 (fun _ => 1099511627776), zJ t (qq k 3) 8 (fun _ => 0), zI t (qq k 4) 8 (fun _ => 0), zI t (qq k 5) 4 (xm 1), zI t (qq k 6) 4 (xm mk), zO 10 (qq k 7) [.ref ((qq k 8)), .ref ((qq k 9)), .ref ((qq k 10)), .int 0], zI t (qq k 8) 8 (fun _ => 0), zI t (qq k 9) 8 (fun _ => 0), zA t 5 (qq k 10) 8 (fun _ => none), zO 10 (qq k 11) [.ref ((qq k 12)), .ref ((qq k 13)), .ref ((qq k 14)), .int 0], zI t (qq k 12) 8 (fun _ => 0), zI t (qq k 13) 8 (fun _ => 0), zA t 5 (qq k 14) 8 (fun _ => none), zO 10 (qq k 15) [.ref ((qq k 16)), .ref ((qq k 17)), .ref ((qq k 18)), .int 0], zI t (qq k 16) 8 (fun _ => 0), zI t (qq k 17) 8 (fun _ => 0), zA t 5 (qq k 18) 8 (fun _ => none), zO 10 (qq k 19) [.ref ((qq k 20)), .ref ((qq k 21)), .ref ((qq k 22)), .int 0], zI t (qq k 20) 8 (fun _ => 0), zI t (qq k 21) 8 (fun _ => 0), zA t 5 (qq k 22) 8 (fun _ => none), zA t 5 (qq k 23) 16 (fun _ => none), zO 13 ma [.int 1, .int 0, .int 0, .int 0, .int 0, .int 0, .ref nb, .ref wy, .ref hd, .ref tk]] := hD
  obtain rfl := hw
  have hP := hP.sub (ws' := [zO 13 ma [.int 1, .int 0, .int 0, .int 0, .int 0, .int 0, .ref nb, .ref wy, .ref hd, .ref tk]]) [25] rfl
  have hD := hD.sub (ws' := [zO 13 ma [.int 1, .int 0, .int 0, .int 0, .int 0, .int 0, .ref nb, .ref wy, .ref hd, .ref tk]]) [25] (by decide) rfl
  exact W.iret hx hb hr (fun t ht hW => ⟨⟨0, (), rfl, rfl, by rw [ht]; exact hP, hD⟩, hS.F ht⟩) hS.2.2 d_P_known_41
theorem d_P_about_18 : decode c_P_about 18 = .ok (.aload_n 0, 1) := by decide +kernel
theorem d_P_about_19 : decode c_P_about 19 = .ok (.getfield 11, 3) := by decide +kernel
theorem d_P_about_22 : decode c_P_about 22 = .ok (.iload_n 1, 1) := by decide +kernel
theorem d_P_about_23 : decode c_P_about 23 = .ok (.aaload, 1) := by decide +kernel
theorem d_P_about_24 : decode c_P_about 24 = .ok (.astore_n 3, 1) := by decide +kernel
theorem d_P_about_25 : decode c_P_about 25 = .ok (.iload_n 2, 1) := by decide +kernel
theorem d_P_about_26 : decode c_P_about 26 = .ok (.tableswitch 213 0 13 #[70, 83, 96, 101, 106, 114, 119, 136, 141, 146, 162, 178, 197, 205], 70) := by decide +kernel
theorem d_P_about_239 : decode c_P_about 239 = .ok (.aload_n 0, 1) := by decide +kernel
theorem d_P_about_240 : decode c_P_about 240 = .ok (.iconst 2, 1) := by decide +kernel
theorem d_P_about_241 : decode c_P_about 241 = .ok (.invokevirtual 298, 3) := by decide +kernel
theorem d_P_about_244 : decode c_P_about 244 = .ok (.ireturn, 1) := by decide +kernel
set_option maxHeartbeats 4000000 in
set_option maxRecDepth 100000 in
/-- about: what is not 0 .. 13 -/
theorem C_P_about_2 (l : Launch) (D : va_G) (t : Nat → ClassId) (ma nb wy hd tk : Nat) (th : Int32) (qq : Nat → Nat → Nat) (mk : Int32) (k : Nat) (hk : k < 7) (wh : Int32) (hw : wh.toInt < 0 ∨ 13 < wh.toInt) : xe_C l D vwCl (xTY t) y_P_about c_P_about 4 (Option.some FieldType.int) ({ frames := 1, cells := 0, slots := 0, locals := 21 }) [.ref ma, .int (nI k), .int wh] [zO 13 ma [.int th, .int 0, .int 0, .int 0, .int 0, .int 0, .ref nb, .ref wy, .ref hd, .ref tk], zA t 7 nb 7 (fun j => some (qq j 0)), zO 9 (qq k 0) [.int (nI k), .int 1, .int 0, .int 0, .int 0, .int 0, .int (nI (8 + 3 * k)), .int ((-1)), .int 0, .int 0, .ref ((qq k 1)), .ref ((qq k 7)), .ref ((qq k 11)), .ref ((qq k 15)), .ref ((qq k 19)), .ref ((qq k 23)), .int 0], zO 11 (qq k 1) [.int 0, .ref ((qq k 2)), .ref ((qq k 3)), .ref ((qq k 4)), .ref ((qq k 5)), .ref ((qq k 6)), .int 1], zJ t (qq k 2) 32 (fun _ => 1099511627776), zJ t (qq k 3) 8 (fun _ => 0), zI t (qq k 4) 8 (fun _ => 0), zI t (qq k 5) 4 (xm 1), zI t (qq k 6) 4 (xm mk), zO 10 (qq k 7) [.ref ((qq k 8)), .ref ((qq k 9)), .ref ((qq k 10)), .int 0], zI t (qq k 8) 8 (fun _ => 0), zI t (qq k 9) 8 (fun _ => 0), zA t 5 (qq k 10) 8 (fun _ => none), zO 10 (qq k 11) [.ref ((qq k 12)), .ref ((qq k 13)), .ref ((qq k 14)), .int 0], zI t (qq k 12) 8 (fun _ => 0), zI t (qq k 13) 8 (fun _ => 0), zA t 5 (qq k 14) 8 (fun _ => none), zO 10 (qq k 15) [.ref ((qq k 16)), .ref ((qq k 17)), .ref ((qq k 18)), .int 0], zI t (qq k 16) 8 (fun _ => 0), zI t (qq k 17) 8 (fun _ => 0), zA t 5 (qq k 18) 8 (fun _ => none), zO 10 (qq k 19) [.ref ((qq k 20)), .ref ((qq k 21)), .ref ((qq k 22)), .int 0], zI t (qq k 20) 8 (fun _ => 0), zI t (qq k 21) 8 (fun _ => 0), zA t 5 (qq k 22) 8 (fun _ => none), zA t 5 (qq k 23) 16 (fun _ => none)] (xe_i D vwCl (fun (r : Int32) (_ : Unit) => r = 0) (fun _ => [zO 13 ma [.int 2, .int 0, .int 0, .int 0, .int 0, .int 0, .ref nb, .ref wy, .ref hd, .ref tk]])) 0 0 := by
  refine xe_of (by decide) (Nat.le_of_ble_eq_true rfl) ?_
  intro p e s m below meth c ls A Z hr hlocks hin hA hP hD hS hl
  obtain ⟨hx, hb, hml, hown, hK⟩ := id Z
  have hown : s.vm.findClass "QuorumStoreModel" = some m.cls := hown
  have hts := hK.1.at (args := ([.ref ma, .int (nI k), .int wh] : List Value).toArray)
  have hl : lv_has ls 4 [(0, .ref ma), (1, .int (nI k)), (2, .int wh)] := hl
  refine lv_aload_n hx hb d_P_about_0 rfl (lv_at hl 0 rfl) ?_
  refine lv_iconst (v := 0) hx hb d_P_about_1 (by decide) ?_
  refine va_put (ci := 13) (v := .int 0) (ty := tyX13 0) (C := "QuorumStoreModel") (T := TX13) (N := 10) hx hb hts inX13 tyX13 okX13 nmX13 hown hK.2 hP hD hS 0 rfl rfl 0 (by decide) (hts _ k_995) (fun _ h9 => h9) rfl (by decide +kernel) rfl rfl (Nat.le_of_ble_eq_true rfl) d_P_about_2 (fun H locs hP hD hS => ?_)
  have hP : va_P D vwCl [zO 13 ma [.int 0, .int 0, .int 0, .int 0, .int 0, .int 0, .ref nb, .ref wy, .ref hd, .ref tk], zA t 7 nb 7 (fun j => some (qq j 0)), zO 9 (qq k 0) [.int (nI k), .int 1, .int 0, .int 0, .int 0, .int 0, .int (nI (8 + 3 * k)), .int ((-1)), .int 0, .int 0, .ref ((qq k 1)), .ref ((qq k 7)), .ref ((qq k 11)), .ref ((qq k 15)), .ref ((qq k 19)), .ref ((qq k 23)), .int 0], zO 11 (qq k 1) [.int 0, .ref ((qq k 2)), .ref ((qq k 3)), .ref ((qq k 4)), .ref ((qq k 5)), .ref ((qq k 6)), .int 1], zJ t (qq k 2) 32 (fun _ => 1099511627776), zJ t (qq k 3) 8 (fun _ => 0), zI t (qq k 4) 8 (fun _ => 0), zI t (qq k 5) 4 (xm 1), zI t (qq k 6) 4 (xm mk), zO 10 (qq k 7) [.ref ((qq k 8)), .ref ((qq k 9)), .ref ((qq k 10)), .int 0], zI t (qq k 8) 8 (fun _ => 0), zI t (qq k 9) 8 (fun _ => 0), zA t 5 (qq k 10) 8 (fun _ => none), zO 10 (qq k 11) [.ref ((qq k 12)), .ref ((qq k 13)), .ref ((qq k 14)), .int 0], zI t (qq k 12) 8 (fun _ => 0), zI t (qq k 13) 8 (fun _ => 0), zA t 5 (qq k 14) 8 (fun _ => none), zO 10 (qq k 15) [.ref ((qq k 16)), .ref ((qq k 17)), .ref ((qq k 18)), .int 0], zI t (qq k 16) 8 (fun _ => 0), zI t (qq k 17) 8 (fun _ => 0), zA t 5 (qq k 18) 8 (fun _ => none), zO 10 (qq k 19) [.ref ((qq k 20)), .ref ((qq k 21)), .ref ((qq k 22)), .int 0], zI t (qq k 20) 8 (fun _ => 0), zI t (qq k 21) 8 (fun _ => 0), zA t 5 (qq k 22) 8 (fun _ => none), zA t 5 (qq k 23) 16 (fun _ => none)] H := hP
  have hD : va_D A [zO 13 ma [.int 0, .int 0, .int 0, .int 0, .int 0, .int 0, .ref nb, .ref wy, .ref hd, .ref tk], zA t 7 nb 7 (fun j => some (qq j 0)), zO 9 (qq k 0) [.int (nI k), .int 1, .int 0, .int 0, .int 0, .int 0, .int (nI (8 + 3 * k)), .int ((-1)), .int 0, .int 0, .ref ((qq k 1)), .ref ((qq k 7)), .ref ((qq k 11)), .ref ((qq k 15)), .ref ((qq k 19)), .ref ((qq k 23)), .int 0], zO 11 (qq k 1) [.int 0, .ref ((qq k 2)), .ref ((qq k 3)), .ref ((qq k 4)), .ref ((qq k 5)), .ref ((qq k 6)), .int 1], zJ t (qq k 2) 32 (fun _ => 1099511627776), zJ t (qq k 3) 8 (fun _ => 0), zI t (qq k 4) 8 (fun _ => 0), zI t (qq k 5) 4 (xm 1), zI t (qq k 6) 4 (xm mk), zO 10 (qq k 7) [.ref ((qq k 8)), .ref ((qq k 9)), .ref ((qq k 10)), .int 0], zI t (qq k 8) 8 (fun _ => 0), zI t (qq k 9) 8 (fun _ => 0), zA t 5 (qq k 10) 8 (fun _ => none), zO 10 (qq k 11) [.ref ((qq k 12)), .ref ((qq k 13)), .ref ((qq k 14)), .int 0], zI t (qq k 12) 8 (fun _ => 0), zI t (qq k 13) 8 (fun _ => 0), zA t 5 (qq k 14) 8 (fun _ => none), zO 10 (qq k 15) [.ref ((qq k 16)), .ref ((qq k 17)), .ref ((qq k 18)), .int 0], zI t (qq k 16) 8 (fun _ => 0), zI t (qq k 17) 8 (fun _ => 0), zA t 5 (qq k 18) 8 (fun _ => none), zO 10 (qq k 19) [.ref ((qq k 20)), .ref ((qq k 21)), .ref ((qq k 22)), .int 0], zI t (qq k 20) 8 (fun _ => 0), zI t (qq k 21) 8 (fun _ => 0), zA t 5 (qq k 22) 8 (fun _ => none), zA t 5 (qq k 23) 16 (fun _ => none)] := hD
  refine lv_iload_n hx hb d_P_about_5 rfl (lv_at hl 1 rfl) ?_
  refine xr_call (xs_S (As := [.int (nI k)]) (rest := []) Z (C_P_noNode l D t k hk) m_P_noNode k_1217 k_1218 rfl rfl ⟨Nat.le_of_ble_eq_true rfl, Nat.le_of_ble_eq_true rfl⟩ (xr_pre hK (hP.sub [] rfl)) rfl hl.1 rfl (Nat.le_of_ble_eq_true rfl) d_P_about_6 ⟨Nat.le_of_ble_eq_true rfl, Nat.le_of_ble_eq_true rfl⟩) ?_
  refine lv_if_eq (tgt := 18) hx hb d_P_about_9 (by decide) (fun _ => ?_) (fun c_1 => absurd (by decide) c_1)
  refine lv_aload_n hx hb d_P_about_18 rfl (lv_at hl 0 rfl) ?_
  refine va_get (ci := 13) (C := "QuorumStoreModel") (T := TX13) (N := 10) hx hb hts inX13 hown hK.2 hP 0 rfl rfl 6 (by decide) (hts _ k_1001) (fun _ h9 => h9) rfl d_P_about_19 ?_
  refine lv_iload_n hx hb d_P_about_22 rfl (lv_at hl 1 rfl) ?_
  refine va_aldq hx hb hK.2 hP 1 7 rfl rfl (vp_in_nI hk (by decide)) d_P_about_23 ?_
  rw [nI_clamp (show k < 2 ^ 31 by omega)]
  refine lv_astore_n (lv' := [(3, .ref ((qq k 0))), (0, .ref ma), (1, .int (nI k)), (2, .int wh)]) hx hb d_P_about_24 rfl hl (by decide) rfl (fun ls hl => ?_)
  refine lv_iload_n hx hb d_P_about_25 rfl (lv_at hl 3 rfl) ?_
  refine lv_tableOut (tgt := 239) hx hb d_P_about_26 hw (by decide) ?_
  clear hw
  refine lv_aload_n hx hb d_P_about_239 rfl (lv_at hl 1 rfl) ?_
  refine lv_iconst (v := 2) hx hb d_P_about_240 (by decide) ?_
  refine xe_calli (wr := [zA t 7 nb 7 (fun j => some (qq j 0)), zO 9 (qq k 0) [.int (nI k), .int 1, .int 0, .int 0, .int 0, .int 0, .int (nI (8 + 3 * k)), .int ((-1)), .int 0, .int 0, .ref ((qq k 1)), .ref ((qq k 7)), .ref ((qq k 11)), .ref ((qq k 15)), .ref ((qq k 19)), .ref ((qq k 23)), .int 0], zO 11 (qq k 1) [.int 0, .ref ((qq k 2)), .ref ((qq k 3)), .ref ((qq k 4)), .ref ((qq k 5)), .ref ((qq k 6)), .int 1], zJ t (qq k 2) 32 (fun _ => 1099511627776), zJ t (qq k 3) 8 (fun _ => 0), zI t (qq k 4) 8 (fun _ => 0), zI t (qq k 5) 4 (xm 1), zI t (qq k 6) 4 (xm mk), zO 10 (qq k 7) [.ref ((qq k 8)), .ref ((qq k 9)), .ref ((qq k 10)), .int 0], zI t (qq k 8) 8 (fun _ => 0), zI t (qq k 9) 8 (fun _ => 0), zA t 5 (qq k 10) 8 (fun _ => none), zO 10 (qq k 11) [.ref ((qq k 12)), .ref ((qq k 13)), .ref ((qq k 14)), .int 0], zI t (qq k 12) 8 (fun _ => 0), zI t (qq k 13) 8 (fun _ => 0), zA t 5 (qq k 14) 8 (fun _ => none), zO 10 (qq k 15) [.ref ((qq k 16)), .ref ((qq k 17)), .ref ((qq k 18)), .int 0], zI t (qq k 16) 8 (fun _ => 0), zI t (qq k 17) 8 (fun _ => 0), zA t 5 (qq k 18) 8 (fun _ => none), zO 10 (qq k 19) [.ref ((qq k 20)), .ref ((qq k 21)), .ref ((qq k 22)), .int 0], zI t (qq k 20) 8 (fun _ => 0), zI t (qq k 21) 8 (fun _ => 0), zA t 5 (qq k 22) 8 (fun _ => none), zA t 5 (qq k 23) 16 (fun _ => none)]) (xs_V (As := [.int 2]) (rest := []) Z (C_P_fail l D t ma nb wy hd tk 0 2 H.size) m_P_fail k_1034 k_1036 ks_33 rfl rfl ⟨Nat.le_of_ble_eq_true rfl, Nat.le_of_ble_eq_true rfl⟩ (va_recv hK.2 hP (ci := 13) (q0 := 0) rfl rfl) (xe_pre hK (hP.sub [0] rfl) (hD.sub [0] (by decide) rfl)) rfl hl.1 rfl (Nat.le_of_ble_eq_true rfl) d_P_about_241 ⟨Nat.le_of_ble_eq_true rfl, Nat.le_of_ble_eq_true rfl⟩) hP hD hS hA [0] [1, 2, 3, 4, 5, 6, 7, 8, 9, 10, 11, 12, 13, 14, 15, 16, 17, 18, 19, 20, 21, 22, 23, 24, 25] rfl rfl (by decide) (by decide) (fun r_2 u_ H locs hw hP hD hS => ?_)
  have hP : va_P D vwCl [zA t 7 nb 7 (fun j => some (qq j 0)), zO 9 (qq k 0) [.int (nI k), .int 1, .int 0, .int 0, .int 0, .int 0, .int (nI (8 + 3 * k)), .int ((-1)), .int 0, .int 0, .ref ((qq k 1)), .ref ((qq k 7)), .ref ((qq k 11)), .ref ((qq k 15)), .ref ((qq k 19)), .ref ((qq k 23)), .int 0], zO 11 (qq k 1) [.int 0, .ref ((qq k 2)), .ref ((qq k 3)), .ref ((qq k 4)), .ref ((qq k 5)), .ref ((qq k 6)), .int 1], zJ t (qq k 2) 32 (fun _ => 1099511627776), zJ t (qq k 3) 8 (fun _ => 0), zI t (qq k 4) 8 (fun _ => 0), zI t (qq k 5) 4 (xm 1), zI t (qq k 6) 4 (xm mk), zO 10 (qq k 7) [.ref ((qq k 8)), .ref ((qq k 9)), .ref ((qq k 10)), .int 0], zI t (qq k 8) 8 (fun _ => 0), zI t (qq k 9) 8 (fun _ => 0), zA t 5 (qq k 10) 8 (fun _ => none), zO 10 (qq k 11) [.ref ((qq k 12)), .ref ((qq k 13)), .ref ((qq k 14)), .int 0], zI t (qq k 12) 8 (fun _ => 0), zI t (qq k 13) 8 (fun _ => 0), zA t 5 (qq k 14) 8 (fun _ => none), zO 10 (qq k 15) [.ref ((qq k 16)), .ref ((qq k 17)), .ref ((qq k 18)), .int 0], zI t (qq k 16) 8 (fun _ => 0), zI t (qq k 17) 8 (fun _ => 0), zA t 5 (qq k 18) 8 (fun _ => none), zO 10 (qq k 19) [.ref ((qq k 20)), .ref ((qq k 21)), .ref ((qq k 22)), .int 0], zI t (qq k 20) 8 (fun _ => 0), zI t (qq k 21) 8 (fun _ => 0), zA t 5 (qq k 22) 8 (fun _ => none), zA t 5 (qq k 23) 16 (fun _ => none), zO 13 ma [.int 2, .int 0, .int 0, .int 0, .int 0, .int 0, .ref nb, .ref wy, .ref hd, .ref tk]] H := hP
  have hD : va_D A [zA t 7 nb 7 (fun j => some (qq j 0)), zO 9 (qq k 0) [.int (nI k), .int 1, .int 0, .int 0, .int 0, .int 0, .int (nI (8 + 3 * k)), .int ((-1)), .int 0, .int 0, .ref ((qq k 1)), .ref ((qq k 7)), .ref ((qq k 11)), .ref ((qq k 15)), .ref ((qq k 19)), .ref ((qq k 23)), .int 0], zO 11 (qq k 1) [.int 0, .ref ((qq k 2)), .ref ((qq k 3)), .ref ((qq k 4)), .ref ((qq k 5)), .ref ((qq k 6)), .int 1], zJ t (qq k 2) 32 (fun _ => 1099511627776), zJ t (qq k 3) 8 (fun _ => 0), zI t (qq k 4) 8 (fun _ => 0), zI t (qq k 5) 4 (xm 1), zI t (qq k 6) 4 (xm mk), zO 10 (qq k 7) [.ref ((qq k 8)), .ref ((qq k 9)), .ref ((qq k 10)), .int 0], zI t (qq k 8) 8 (fun _ => 0), zI t (qq k 9) 8 (fun _ => 0), zA t 5 (qq k 10) 8 (fun _ => none), zO 10 (qq k 11) [.ref ((qq k 12)), .ref ((qq k 13)), .ref ((qq k 14)), .int 0], zI t (qq k 12) 8 (fun _ => 0), zI t (qq k 13) 8 (fun _ => 0), zA t 5 (qq k 14) 8 (fun _ => none), zO 10 (qq k 15) [.ref ((qq k 16)), .ref ((qq k 17)), .ref ((qq k 18)), .int 0], zI t (qq k 16) 8 (fun _ => 0), zI t (qq k 17) 8 (fun _ => 0), zA t 5 (qq k 18) 8 (fun _ => none), zO 10 (qq k 19) [.ref ((qq k 20)), .ref ((qq k 21)), .ref ((qq k 22)), .int 0], zI t (qq k 20) 8 (fun _ => 0), zI t (qq k 21) 8 (fun _ => 0), zA t 5 (qq k 22) 8 (fun _ => none), zA t 5 (qq k 23) 16 (fun _ => none), zO 13 ma [.int 2, .int 0, .int 0, .int 0, .int 0, .int 0, .ref nb, .ref wy, .ref hd, .ref tk]] := hD
  obtain rfl := hw
  have hP := hP.sub (ws' := [zO 13 ma [.int 2, .int 0, .int 0, .int 0, .int 0, .int 0, .ref nb, .ref wy, .ref hd, .ref tk]]) [25] rfl
  have hD := hD.sub (ws' := [zO 13 ma [.int 2, .int 0, .int 0, .int 0, .int 0, .int 0, .ref nb, .ref wy, .ref hd, .ref tk]]) [25] (by decide) rfl
  exact W.iret hx hb hr (fun t ht hW => ⟨⟨0, (), rfl, rfl, by rw [ht]; exact hP, hD⟩, hS.F ht⟩) hS.2.2 d_P_about_244
theorem d_P_about_96 : decode c_P_about 96 = .ok (.aload_n 3, 1) := by decide +kernel
theorem d_P_about_97 : decode c_P_about 97 = .ok (.getfield 256, 3) := by decide +kernel
theorem d_P_about_100 : decode c_P_about 100 = .ok (.ifCond .eq 7, 3) := by decide +kernel
theorem d_P_about_103 : decode c_P_about 103 = .ok (.iconst 1, 1) := by decide +kernel
theorem d_P_about_104 : decode c_P_about 104 = .ok (.goto 4, 3) := by decide +kernel
theorem d_P_about_108 : decode c_P_about 108 = .ok (.ireturn, 1) := by decide +kernel
set_option maxHeartbeats 4000000 in
set_option maxRecDepth 100000 in
/-- about 0 on a new object -/
theorem C_P_about_00 (l : Launch) (D : va_G) (t : Nat → ClassId) (ma nb wy hd tk : Nat) (th : Int32) (qq : Nat → Nat → Nat) (mk : Int32) (k : Nat) (hk : k < 7) : xe_C l D vwCl (xTY t) y_P_about c_P_about 4 (Option.some FieldType.int) ({ frames := 1, cells := 0, slots := 0, locals := 20 }) [.ref ma, .int (nI k), .int 0] [zO 13 ma [.int th, .int 0, .int 0, .int 0, .int 0, .int 0, .ref nb, .ref wy, .ref hd, .ref tk], zA t 7 nb 7 (fun j => some (qq j 0)), zO 9 (qq k 0) [.int (nI k), .int 1, .int 0, .int 0, .int 0, .int 0, .int (nI (8 + 3 * k)), .int ((-1)), .int 0, .int 0, .ref ((qq k 1)), .ref ((qq k 7)), .ref ((qq k 11)), .ref ((qq k 15)), .ref ((qq k 19)), .ref ((qq k 23)), .int 0], zO 11 (qq k 1) [.int 0, .ref ((qq k 2)), .ref ((qq k 3)), .ref ((qq k 4)), .ref ((qq k 5)), .ref ((qq k 6)), .int 1], zJ t (qq k 2) 32 (fun _ => 1099511627776), zJ t (qq k 3) 8 (fun _ => 0), zI t (qq k 4) 8 (fun _ => 0), zI t (qq k 5) 4 (xm 1), zI t (qq k 6) 4 (xm mk), zO 10 (qq k 7) [.ref ((qq k 8)), .ref ((qq k 9)), .ref ((qq k 10)), .int 0], zI t (qq k 8) 8 (fun _ => 0), zI t (qq k 9) 8 (fun _ => 0), zA t 5 (qq k 10) 8 (fun _ => none), zO 10 (qq k 11) [.ref ((qq k 12)), .ref ((qq k 13)), .ref ((qq k 14)), .int 0], zI t (qq k 12) 8 (fun _ => 0), zI t (qq k 13) 8 (fun _ => 0), zA t 5 (qq k 14) 8 (fun _ => none), zO 10 (qq k 15) [.ref ((qq k 16)), .ref ((qq k 17)), .ref ((qq k 18)), .int 0], zI t (qq k 16) 8 (fun _ => 0), zI t (qq k 17) 8 (fun _ => 0), zA t 5 (qq k 18) 8 (fun _ => none), zO 10 (qq k 19) [.ref ((qq k 20)), .ref ((qq k 21)), .ref ((qq k 22)), .int 0], zI t (qq k 20) 8 (fun _ => 0), zI t (qq k 21) 8 (fun _ => 0), zA t 5 (qq k 22) 8 (fun _ => none), zA t 5 (qq k 23) 16 (fun _ => none)] (xe_i D vwCl (fun (r : Int32) (_ : Unit) => r = 1) (fun _ => [zO 13 ma [.int 0, .int 0, .int 0, .int 0, .int 0, .int 0, .ref nb, .ref wy, .ref hd, .ref tk]])) 0 0 := by
  refine xe_of (by decide) (Nat.le_of_ble_eq_true rfl) ?_
  intro p e s m below meth c ls A Z hr hlocks hin hA hP hD hS hl
  obtain ⟨hx, hb, hml, hown, hK⟩ := id Z
  have hown : s.vm.findClass "QuorumStoreModel" = some m.cls := hown
  have hts := hK.1.at (args := ([.ref ma, .int (nI k), .int 0] : List Value).toArray)
  have hl : lv_has ls 4 [(0, .ref ma), (1, .int (nI k)), (2, .int 0)] := hl
  refine lv_aload_n hx hb d_P_about_0 rfl (lv_at hl 0 rfl) ?_
  refine lv_iconst (v := 0) hx hb d_P_about_1 (by decide) ?_
  refine va_put (ci := 13) (v := .int 0) (ty := tyX13 0) (C := "QuorumStoreModel") (T := TX13) (N := 10) hx hb hts inX13 tyX13 okX13 nmX13 hown hK.2 hP hD hS 0 rfl rfl 0 (by decide) (hts _ k_995) (fun _ h9 => h9) rfl (by decide +kernel) rfl rfl (Nat.le_of_ble_eq_true rfl) d_P_about_2 (fun H locs hP hD hS => ?_)
  have hP : va_P D vwCl [zO 13 ma [.int 0, .int 0, .int 0, .int 0, .int 0, .int 0, .ref nb, .ref wy, .ref hd, .ref tk], zA t 7 nb 7 (fun j => some (qq j 0)), zO 9 (qq k 0) [.int (nI k), .int 1, .int 0, .int 0, .int 0, .int 0, .int (nI (8 + 3 * k)), .int ((-1)), .int 0, .int 0, .ref ((qq k 1)), .ref ((qq k 7)), .ref ((qq k 11)), .ref ((qq k 15)), .ref ((qq k 19)), .ref ((qq k 23)), .int 0], zO 11 (qq k 1) [.int 0, .ref ((qq k 2)), .ref ((qq k 3)), .ref ((qq k 4)), .ref ((qq k 5)), .ref ((qq k 6)), .int 1], zJ t (qq k 2) 32 (fun _ => 1099511627776), zJ t (qq k 3) 8 (fun _ => 0), zI t (qq k 4) 8 (fun _ => 0), zI t (qq k 5) 4 (xm 1), zI t (qq k 6) 4 (xm mk), zO 10 (qq k 7) [.ref ((qq k 8)), .ref ((qq k 9)), .ref ((qq k 10)), .int 0], zI t (qq k 8) 8 (fun _ => 0), zI t (qq k 9) 8 (fun _ => 0), zA t 5 (qq k 10) 8 (fun _ => none), zO 10 (qq k 11) [.ref ((qq k 12)), .ref ((qq k 13)), .ref ((qq k 14)), .int 0], zI t (qq k 12) 8 (fun _ => 0), zI t (qq k 13) 8 (fun _ => 0), zA t 5 (qq k 14) 8 (fun _ => none), zO 10 (qq k 15) [.ref ((qq k 16)), .ref ((qq k 17)), .ref ((qq k 18)), .int 0], zI t (qq k 16) 8 (fun _ => 0), zI t (qq k 17) 8 (fun _ => 0), zA t 5 (qq k 18) 8 (fun _ => none), zO 10 (qq k 19) [.ref ((qq k 20)), .ref ((qq k 21)), .ref ((qq k 22)), .int 0], zI t (qq k 20) 8 (fun _ => 0), zI t (qq k 21) 8 (fun _ => 0), zA t 5 (qq k 22) 8 (fun _ => none), zA t 5 (qq k 23) 16 (fun _ => none)] H := hP
  have hD : va_D A [zO 13 ma [.int 0, .int 0, .int 0, .int 0, .int 0, .int 0, .ref nb, .ref wy, .ref hd, .ref tk], zA t 7 nb 7 (fun j => some (qq j 0)), zO 9 (qq k 0) [.int (nI k), .int 1, .int 0, .int 0, .int 0, .int 0, .int (nI (8 + 3 * k)), .int ((-1)), .int 0, .int 0, .ref ((qq k 1)), .ref ((qq k 7)), .ref ((qq k 11)), .ref ((qq k 15)), .ref ((qq k 19)), .ref ((qq k 23)), .int 0], zO 11 (qq k 1) [.int 0, .ref ((qq k 2)), .ref ((qq k 3)), .ref ((qq k 4)), .ref ((qq k 5)), .ref ((qq k 6)), .int 1], zJ t (qq k 2) 32 (fun _ => 1099511627776), zJ t (qq k 3) 8 (fun _ => 0), zI t (qq k 4) 8 (fun _ => 0), zI t (qq k 5) 4 (xm 1), zI t (qq k 6) 4 (xm mk), zO 10 (qq k 7) [.ref ((qq k 8)), .ref ((qq k 9)), .ref ((qq k 10)), .int 0], zI t (qq k 8) 8 (fun _ => 0), zI t (qq k 9) 8 (fun _ => 0), zA t 5 (qq k 10) 8 (fun _ => none), zO 10 (qq k 11) [.ref ((qq k 12)), .ref ((qq k 13)), .ref ((qq k 14)), .int 0], zI t (qq k 12) 8 (fun _ => 0), zI t (qq k 13) 8 (fun _ => 0), zA t 5 (qq k 14) 8 (fun _ => none), zO 10 (qq k 15) [.ref ((qq k 16)), .ref ((qq k 17)), .ref ((qq k 18)), .int 0], zI t (qq k 16) 8 (fun _ => 0), zI t (qq k 17) 8 (fun _ => 0), zA t 5 (qq k 18) 8 (fun _ => none), zO 10 (qq k 19) [.ref ((qq k 20)), .ref ((qq k 21)), .ref ((qq k 22)), .int 0], zI t (qq k 20) 8 (fun _ => 0), zI t (qq k 21) 8 (fun _ => 0), zA t 5 (qq k 22) 8 (fun _ => none), zA t 5 (qq k 23) 16 (fun _ => none)] := hD
  refine lv_iload_n hx hb d_P_about_5 rfl (lv_at hl 1 rfl) ?_
  refine xr_call (xs_S (As := [.int (nI k)]) (rest := []) Z (C_P_noNode l D t k hk) m_P_noNode k_1217 k_1218 rfl rfl ⟨Nat.le_of_ble_eq_true rfl, Nat.le_of_ble_eq_true rfl⟩ (xr_pre hK (hP.sub [] rfl)) rfl hl.1 rfl (Nat.le_of_ble_eq_true rfl) d_P_about_6 ⟨Nat.le_of_ble_eq_true rfl, Nat.le_of_ble_eq_true rfl⟩) ?_
  refine lv_if_eq (tgt := 18) hx hb d_P_about_9 (by decide) (fun _ => ?_) (fun c_1 => absurd (by decide) c_1)
  refine lv_aload_n hx hb d_P_about_18 rfl (lv_at hl 0 rfl) ?_
  refine va_get (ci := 13) (C := "QuorumStoreModel") (T := TX13) (N := 10) hx hb hts inX13 hown hK.2 hP 0 rfl rfl 6 (by decide) (hts _ k_1001) (fun _ h9 => h9) rfl d_P_about_19 ?_
  refine lv_iload_n hx hb d_P_about_22 rfl (lv_at hl 1 rfl) ?_
  refine va_aldq hx hb hK.2 hP 1 7 rfl rfl (vp_in_nI hk (by decide)) d_P_about_23 ?_
  rw [nI_clamp (show k < 2 ^ 31 by omega)]
  refine lv_astore_n (lv' := [(3, .ref ((qq k 0))), (0, .ref ma), (1, .int (nI k)), (2, .int 0)]) hx hb d_P_about_24 rfl hl (by decide) rfl (fun ls hl => ?_)
  refine lv_iload_n hx hb d_P_about_25 rfl (lv_at hl 3 rfl) ?_
  refine lv_tableIn (off := 70) (tgt := 96) hx hb d_P_about_26 (by decide) (by decide) (by decide) (by decide) ?_
  refine lv_aload_n hx hb d_P_about_96 rfl (lv_at hl 0 rfl) ?_
  refine va_get (ci := 9) (C := "QuorumStoreModel$Node") (T := TX9) (N := 17) hx hb hts inX9 hown hK.2 hP 2 rfl rfl 1 (by decide) (hts _ k_932) (fun _ h9 => h9) rfl d_P_about_97 ?_
  refine lv_if_eq (tgt := 107) hx hb d_P_about_100 (by decide) (fun c_2 => absurd c_2 (by decide)) (fun _ => ?_)
  refine lv_iconst (v := 1) hx hb d_P_about_103 (by decide) ?_
  refine lv_goto (tgt := 108) hx hb d_P_about_104 (by decide) ?_
  have hP := hP.sub (ws' := [zO 13 ma [.int 0, .int 0, .int 0, .int 0, .int 0, .int 0, .ref nb, .ref wy, .ref hd, .ref tk]]) [0] rfl
  have hD := hD.sub (ws' := [zO 13 ma [.int 0, .int 0, .int 0, .int 0, .int 0, .int 0, .ref nb, .ref wy, .ref hd, .ref tk]]) [0] (by decide) rfl
  exact W.iret hx hb hr (fun t ht hW => ⟨⟨1, (), rfl, rfl, by rw [ht]; exact hP, hD⟩, hS.F ht⟩) hS.2.2 d_P_about_108
theorem d_P_about_109 : decode c_P_about 109 = .ok (.aload_n 3, 1) := by decide +kernel
theorem d_P_about_110 : decode c_P_about 110 = .ok (.getfield 173, 3) := by decide +kernel
theorem d_P_about_113 : decode c_P_about 113 = .ok (.ifCond .eq 7, 3) := by decide +kernel
theorem d_P_about_120 : decode c_P_about 120 = .ok (.iconst 0, 1) := by decide +kernel
theorem d_P_about_121 : decode c_P_about 121 = .ok (.ireturn, 1) := by decide +kernel
set_option maxHeartbeats 4000000 in
set_option maxRecDepth 100000 in
/-- about 1 on a new object -/
theorem C_P_about_01 (l : Launch) (D : va_G) (t : Nat → ClassId) (ma nb wy hd tk : Nat) (th : Int32) (qq : Nat → Nat → Nat) (mk : Int32) (k : Nat) (hk : k < 7) : xe_C l D vwCl (xTY t) y_P_about c_P_about 4 (Option.some FieldType.int) ({ frames := 1, cells := 0, slots := 0, locals := 20 }) [.ref ma, .int (nI k), .int 1] [zO 13 ma [.int th, .int 0, .int 0, .int 0, .int 0, .int 0, .ref nb, .ref wy, .ref hd, .ref tk], zA t 7 nb 7 (fun j => some (qq j 0)), zO 9 (qq k 0) [.int (nI k), .int 1, .int 0, .int 0, .int 0, .int 0, .int (nI (8 + 3 * k)), .int ((-1)), .int 0, .int 0, .ref ((qq k 1)), .ref ((qq k 7)), .ref ((qq k 11)), .ref ((qq k 15)), .ref ((qq k 19)), .ref ((qq k 23)), .int 0], zO 11 (qq k 1) [.int 0, .ref ((qq k 2)), .ref ((qq k 3)), .ref ((qq k 4)), .ref ((qq k 5)), .ref ((qq k 6)), .int 1], zJ t (qq k 2) 32 (fun _ => 1099511627776), zJ t (qq k 3) 8 (fun _ => 0), zI t (qq k 4) 8 (fun _ => 0), zI t (qq k 5) 4 (xm 1), zI t (qq k 6) 4 (xm mk), zO 10 (qq k 7) [.ref ((qq k 8)), .ref ((qq k 9)), .ref ((qq k 10)), .int 0], zI t (qq k 8) 8 (fun _ => 0), zI t (qq k 9) 8 (fun _ => 0), zA t 5 (qq k 10) 8 (fun _ => none), zO 10 (qq k 11) [.ref ((qq k 12)), .ref ((qq k 13)), .ref ((qq k 14)), .int 0], zI t (qq k 12) 8 (fun _ => 0), zI t (qq k 13) 8 (fun _ => 0), zA t 5 (qq k 14) 8 (fun _ => none), zO 10 (qq k 15) [.ref ((qq k 16)), .ref ((qq k 17)), .ref ((qq k 18)), .int 0], zI t (qq k 16) 8 (fun _ => 0), zI t (qq k 17) 8 (fun _ => 0), zA t 5 (qq k 18) 8 (fun _ => none), zO 10 (qq k 19) [.ref ((qq k 20)), .ref ((qq k 21)), .ref ((qq k 22)), .int 0], zI t (qq k 20) 8 (fun _ => 0), zI t (qq k 21) 8 (fun _ => 0), zA t 5 (qq k 22) 8 (fun _ => none), zA t 5 (qq k 23) 16 (fun _ => none)] (xe_i D vwCl (fun (r : Int32) (_ : Unit) => r = 0) (fun _ => [zO 13 ma [.int 0, .int 0, .int 0, .int 0, .int 0, .int 0, .ref nb, .ref wy, .ref hd, .ref tk]])) 0 0 := by
  refine xe_of (by decide) (Nat.le_of_ble_eq_true rfl) ?_
  intro p e s m below meth c ls A Z hr hlocks hin hA hP hD hS hl
  obtain ⟨hx, hb, hml, hown, hK⟩ := id Z
  have hown : s.vm.findClass "QuorumStoreModel" = some m.cls := hown
  have hts := hK.1.at (args := ([.ref ma, .int (nI k), .int 1] : List Value).toArray)
  have hl : lv_has ls 4 [(0, .ref ma), (1, .int (nI k)), (2, .int 1)] := hl
  refine lv_aload_n hx hb d_P_about_0 rfl (lv_at hl 0 rfl) ?_
  refine lv_iconst (v := 0) hx hb d_P_about_1 (by decide) ?_
  refine va_put (ci := 13) (v := .int 0) (ty := tyX13 0) (C := "QuorumStoreModel") (T := TX13) (N := 10) hx hb hts inX13 tyX13 okX13 nmX13 hown hK.2 hP hD hS 0 rfl rfl 0 (by decide) (hts _ k_995) (fun _ h9 => h9) rfl (by decide +kernel) rfl rfl (Nat.le_of_ble_eq_true rfl) d_P_about_2 (fun H locs hP hD hS => ?_)
  have hP : va_P D vwCl [zO 13 ma [.int 0, .int 0, .int 0, .int 0, .int 0, .int 0, .ref nb, .ref wy, .ref hd, .ref tk], zA t 7 nb 7 (fun j => some (qq j 0)), zO 9 (qq k 0) [.int (nI k), .int 1, .int 0, .int 0, .int 0, .int 0, .int (nI (8 + 3 * k)), .int ((-1)), .int 0, .int 0, .ref ((qq k 1)), .ref ((qq k 7)), .ref ((qq k 11)), .ref ((qq k 15)), .ref ((qq k 19)), .ref ((qq k 23)), .int 0], zO 11 (qq k 1) [.int 0, .ref ((qq k 2)), .ref ((qq k 3)), .ref ((qq k 4)), .ref ((qq k 5)), .ref ((qq k 6)), .int 1], zJ t (qq k 2) 32 (fun _ => 1099511627776), zJ t (qq k 3) 8 (fun _ => 0), zI t (qq k 4) 8 (fun _ => 0), zI t (qq k 5) 4 (xm 1), zI t (qq k 6) 4 (xm mk), zO 10 (qq k 7) [.ref ((qq k 8)), .ref ((qq k 9)), .ref ((qq k 10)), .int 0], zI t (qq k 8) 8 (fun _ => 0), zI t (qq k 9) 8 (fun _ => 0), zA t 5 (qq k 10) 8 (fun _ => none), zO 10 (qq k 11) [.ref ((qq k 12)), .ref ((qq k 13)), .ref ((qq k 14)), .int 0], zI t (qq k 12) 8 (fun _ => 0), zI t (qq k 13) 8 (fun _ => 0), zA t 5 (qq k 14) 8 (fun _ => none), zO 10 (qq k 15) [.ref ((qq k 16)), .ref ((qq k 17)), .ref ((qq k 18)), .int 0], zI t (qq k 16) 8 (fun _ => 0), zI t (qq k 17) 8 (fun _ => 0), zA t 5 (qq k 18) 8 (fun _ => none), zO 10 (qq k 19) [.ref ((qq k 20)), .ref ((qq k 21)), .ref ((qq k 22)), .int 0], zI t (qq k 20) 8 (fun _ => 0), zI t (qq k 21) 8 (fun _ => 0), zA t 5 (qq k 22) 8 (fun _ => none), zA t 5 (qq k 23) 16 (fun _ => none)] H := hP
  have hD : va_D A [zO 13 ma [.int 0, .int 0, .int 0, .int 0, .int 0, .int 0, .ref nb, .ref wy, .ref hd, .ref tk], zA t 7 nb 7 (fun j => some (qq j 0)), zO 9 (qq k 0) [.int (nI k), .int 1, .int 0, .int 0, .int 0, .int 0, .int (nI (8 + 3 * k)), .int ((-1)), .int 0, .int 0, .ref ((qq k 1)), .ref ((qq k 7)), .ref ((qq k 11)), .ref ((qq k 15)), .ref ((qq k 19)), .ref ((qq k 23)), .int 0], zO 11 (qq k 1) [.int 0, .ref ((qq k 2)), .ref ((qq k 3)), .ref ((qq k 4)), .ref ((qq k 5)), .ref ((qq k 6)), .int 1], zJ t (qq k 2) 32 (fun _ => 1099511627776), zJ t (qq k 3) 8 (fun _ => 0), zI t (qq k 4) 8 (fun _ => 0), zI t (qq k 5) 4 (xm 1), zI t (qq k 6) 4 (xm mk), zO 10 (qq k 7) [.ref ((qq k 8)), .ref ((qq k 9)), .ref ((qq k 10)), .int 0], zI t (qq k 8) 8 (fun _ => 0), zI t (qq k 9) 8 (fun _ => 0), zA t 5 (qq k 10) 8 (fun _ => none), zO 10 (qq k 11) [.ref ((qq k 12)), .ref ((qq k 13)), .ref ((qq k 14)), .int 0], zI t (qq k 12) 8 (fun _ => 0), zI t (qq k 13) 8 (fun _ => 0), zA t 5 (qq k 14) 8 (fun _ => none), zO 10 (qq k 15) [.ref ((qq k 16)), .ref ((qq k 17)), .ref ((qq k 18)), .int 0], zI t (qq k 16) 8 (fun _ => 0), zI t (qq k 17) 8 (fun _ => 0), zA t 5 (qq k 18) 8 (fun _ => none), zO 10 (qq k 19) [.ref ((qq k 20)), .ref ((qq k 21)), .ref ((qq k 22)), .int 0], zI t (qq k 20) 8 (fun _ => 0), zI t (qq k 21) 8 (fun _ => 0), zA t 5 (qq k 22) 8 (fun _ => none), zA t 5 (qq k 23) 16 (fun _ => none)] := hD
  refine lv_iload_n hx hb d_P_about_5 rfl (lv_at hl 1 rfl) ?_
  refine xr_call (xs_S (As := [.int (nI k)]) (rest := []) Z (C_P_noNode l D t k hk) m_P_noNode k_1217 k_1218 rfl rfl ⟨Nat.le_of_ble_eq_true rfl, Nat.le_of_ble_eq_true rfl⟩ (xr_pre hK (hP.sub [] rfl)) rfl hl.1 rfl (Nat.le_of_ble_eq_true rfl) d_P_about_6 ⟨Nat.le_of_ble_eq_true rfl, Nat.le_of_ble_eq_true rfl⟩) ?_
  refine lv_if_eq (tgt := 18) hx hb d_P_about_9 (by decide) (fun _ => ?_) (fun c_1 => absurd (by decide) c_1)
  refine lv_aload_n hx hb d_P_about_18 rfl (lv_at hl 0 rfl) ?_
  refine va_get (ci := 13) (C := "QuorumStoreModel") (T := TX13) (N := 10) hx hb hts inX13 hown hK.2 hP 0 rfl rfl 6 (by decide) (hts _ k_1001) (fun _ h9 => h9) rfl d_P_about_19 ?_
  refine lv_iload_n hx hb d_P_about_22 rfl (lv_at hl 1 rfl) ?_
  refine va_aldq hx hb hK.2 hP 1 7 rfl rfl (vp_in_nI hk (by decide)) d_P_about_23 ?_
  rw [nI_clamp (show k < 2 ^ 31 by omega)]
  refine lv_astore_n (lv' := [(3, .ref ((qq k 0))), (0, .ref ma), (1, .int (nI k)), (2, .int 1)]) hx hb d_P_about_24 rfl hl (by decide) rfl (fun ls hl => ?_)
  refine lv_iload_n hx hb d_P_about_25 rfl (lv_at hl 3 rfl) ?_
  refine lv_tableIn (off := 83) (tgt := 109) hx hb d_P_about_26 (by decide) (by decide) (by decide) (by decide) ?_
  refine lv_aload_n hx hb d_P_about_109 rfl (lv_at hl 0 rfl) ?_
  refine va_get (ci := 9) (C := "QuorumStoreModel$Node") (T := TX9) (N := 17) hx hb hts inX9 hown hK.2 hP 2 rfl rfl 2 (by decide) (hts _ k_933) (fun _ h9 => h9) rfl d_P_about_110 ?_
  refine lv_if_eq (tgt := 120) hx hb d_P_about_113 (by decide) (fun _ => ?_) (fun c_2 => absurd (by decide) c_2)
  refine lv_iconst (v := 0) hx hb d_P_about_120 (by decide) ?_
  have hP := hP.sub (ws' := [zO 13 ma [.int 0, .int 0, .int 0, .int 0, .int 0, .int 0, .ref nb, .ref wy, .ref hd, .ref tk]]) [0] rfl
  have hD := hD.sub (ws' := [zO 13 ma [.int 0, .int 0, .int 0, .int 0, .int 0, .int 0, .ref nb, .ref wy, .ref hd, .ref tk]]) [0] (by decide) rfl
  exact W.iret hx hb hr (fun t ht hW => ⟨⟨0, (), rfl, rfl, by rw [ht]; exact hP, hD⟩, hS.F ht⟩) hS.2.2 d_P_about_121
theorem d_P_about_122 : decode c_P_about 122 = .ok (.aload_n 3, 1) := by decide +kernel
theorem d_P_about_123 : decode c_P_about 123 = .ok (.getfield 186, 3) := by decide +kernel
theorem d_P_about_126 : decode c_P_about 126 = .ok (.ireturn, 1) := by decide +kernel
set_option maxHeartbeats 4000000 in
set_option maxRecDepth 100000 in
/-- about 2 on a new object -/
theorem C_P_about_02 (l : Launch) (D : va_G) (t : Nat → ClassId) (ma nb wy hd tk : Nat) (th : Int32) (qq : Nat → Nat → Nat) (mk : Int32) (k : Nat) (hk : k < 7) : xe_C l D vwCl (xTY t) y_P_about c_P_about 4 (Option.some FieldType.int) ({ frames := 1, cells := 0, slots := 0, locals := 20 }) [.ref ma, .int (nI k), .int 2] [zO 13 ma [.int th, .int 0, .int 0, .int 0, .int 0, .int 0, .ref nb, .ref wy, .ref hd, .ref tk], zA t 7 nb 7 (fun j => some (qq j 0)), zO 9 (qq k 0) [.int (nI k), .int 1, .int 0, .int 0, .int 0, .int 0, .int (nI (8 + 3 * k)), .int ((-1)), .int 0, .int 0, .ref ((qq k 1)), .ref ((qq k 7)), .ref ((qq k 11)), .ref ((qq k 15)), .ref ((qq k 19)), .ref ((qq k 23)), .int 0], zO 11 (qq k 1) [.int 0, .ref ((qq k 2)), .ref ((qq k 3)), .ref ((qq k 4)), .ref ((qq k 5)), .ref ((qq k 6)), .int 1], zJ t (qq k 2) 32 (fun _ => 1099511627776), zJ t (qq k 3) 8 (fun _ => 0), zI t (qq k 4) 8 (fun _ => 0), zI t (qq k 5) 4 (xm 1), zI t (qq k 6) 4 (xm mk), zO 10 (qq k 7) [.ref ((qq k 8)), .ref ((qq k 9)), .ref ((qq k 10)), .int 0], zI t (qq k 8) 8 (fun _ => 0), zI t (qq k 9) 8 (fun _ => 0), zA t 5 (qq k 10) 8 (fun _ => none), zO 10 (qq k 11) [.ref ((qq k 12)), .ref ((qq k 13)), .ref ((qq k 14)), .int 0], zI t (qq k 12) 8 (fun _ => 0), zI t (qq k 13) 8 (fun _ => 0), zA t 5 (qq k 14) 8 (fun _ => none), zO 10 (qq k 15) [.ref ((qq k 16)), .ref ((qq k 17)), .ref ((qq k 18)), .int 0], zI t (qq k 16) 8 (fun _ => 0), zI t (qq k 17) 8 (fun _ => 0), zA t 5 (qq k 18) 8 (fun _ => none), zO 10 (qq k 19) [.ref ((qq k 20)), .ref ((qq k 21)), .ref ((qq k 22)), .int 0], zI t (qq k 20) 8 (fun _ => 0), zI t (qq k 21) 8 (fun _ => 0), zA t 5 (qq k 22) 8 (fun _ => none), zA t 5 (qq k 23) 16 (fun _ => none)] (xe_i D vwCl (fun (r : Int32) (_ : Unit) => r = 0) (fun _ => [zO 13 ma [.int 0, .int 0, .int 0, .int 0, .int 0, .int 0, .ref nb, .ref wy, .ref hd, .ref tk]])) 0 0 := by
  refine xe_of (by decide) (Nat.le_of_ble_eq_true rfl) ?_
  intro p e s m below meth c ls A Z hr hlocks hin hA hP hD hS hl
  obtain ⟨hx, hb, hml, hown, hK⟩ := id Z
  have hown : s.vm.findClass "QuorumStoreModel" = some m.cls := hown
  have hts := hK.1.at (args := ([.ref ma, .int (nI k), .int 2] : List Value).toArray)
  have hl : lv_has ls 4 [(0, .ref ma), (1, .int (nI k)), (2, .int 2)] := hl
  refine lv_aload_n hx hb d_P_about_0 rfl (lv_at hl 0 rfl) ?_
  refine lv_iconst (v := 0) hx hb d_P_about_1 (by decide) ?_
  refine va_put (ci := 13) (v := .int 0) (ty := tyX13 0) (C := "QuorumStoreModel") (T := TX13) (N := 10) hx hb hts inX13 tyX13 okX13 nmX13 hown hK.2 hP hD hS 0 rfl rfl 0 (by decide) (hts _ k_995) (fun _ h9 => h9) rfl (by decide +kernel) rfl rfl (Nat.le_of_ble_eq_true rfl) d_P_about_2 (fun H locs hP hD hS => ?_)
  have hP : va_P D vwCl [zO 13 ma [.int 0, .int 0, .int 0, .int 0, .int 0, .int 0, .ref nb, .ref wy, .ref hd, .ref tk], zA t 7 nb 7 (fun j => some (qq j 0)), zO 9 (qq k 0) [.int (nI k), .int 1, .int 0, .int 0, .int 0, .int 0, .int (nI (8 + 3 * k)), .int ((-1)), .int 0, .int 0, .ref ((qq k 1)), .ref ((qq k 7)), .ref ((qq k 11)), .ref ((qq k 15)), .ref ((qq k 19)), .ref ((qq k 23)), .int 0], zO 11 (qq k 1) [.int 0, .ref ((qq k 2)), .ref ((qq k 3)), .ref ((qq k 4)), .ref ((qq k 5)), .ref ((qq k 6)), .int 1], zJ t (qq k 2) 32 (fun _ => 1099511627776), zJ t (qq k 3) 8 (fun _ => 0), zI t (qq k 4) 8 (fun _ => 0), zI t (qq k 5) 4 (xm 1), zI t (qq k 6) 4 (xm mk), zO 10 (qq k 7) [.ref ((qq k 8)), .ref ((qq k 9)), .ref ((qq k 10)), .int 0], zI t (qq k 8) 8 (fun _ => 0), zI t (qq k 9) 8 (fun _ => 0), zA t 5 (qq k 10) 8 (fun _ => none), zO 10 (qq k 11) [.ref ((qq k 12)), .ref ((qq k 13)), .ref ((qq k 14)), .int 0], zI t (qq k 12) 8 (fun _ => 0), zI t (qq k 13) 8 (fun _ => 0), zA t 5 (qq k 14) 8 (fun _ => none), zO 10 (qq k 15) [.ref ((qq k 16)), .ref ((qq k 17)), .ref ((qq k 18)), .int 0], zI t (qq k 16) 8 (fun _ => 0), zI t (qq k 17) 8 (fun _ => 0), zA t 5 (qq k 18) 8 (fun _ => none), zO 10 (qq k 19) [.ref ((qq k 20)), .ref ((qq k 21)), .ref ((qq k 22)), .int 0], zI t (qq k 20) 8 (fun _ => 0), zI t (qq k 21) 8 (fun _ => 0), zA t 5 (qq k 22) 8 (fun _ => none), zA t 5 (qq k 23) 16 (fun _ => none)] H := hP
  have hD : va_D A [zO 13 ma [.int 0, .int 0, .int 0, .int 0, .int 0, .int 0, .ref nb, .ref wy, .ref hd, .ref tk], zA t 7 nb 7 (fun j => some (qq j 0)), zO 9 (qq k 0) [.int (nI k), .int 1, .int 0, .int 0, .int 0, .int 0, .int (nI (8 + 3 * k)), .int ((-1)), .int 0, .int 0, .ref ((qq k 1)), .ref ((qq k 7)), .ref ((qq k 11)), .ref ((qq k 15)), .ref ((qq k 19)), .ref ((qq k 23)), .int 0], zO 11 (qq k 1) [.int 0, .ref ((qq k 2)), .ref ((qq k 3)), .ref ((qq k 4)), .ref ((qq k 5)), .ref ((qq k 6)), .int 1], zJ t (qq k 2) 32 (fun _ => 1099511627776), zJ t (qq k 3) 8 (fun _ => 0), zI t (qq k 4) 8 (fun _ => 0), zI t (qq k 5) 4 (xm 1), zI t (qq k 6) 4 (xm mk), zO 10 (qq k 7) [.ref ((qq k 8)), .ref ((qq k 9)), .ref ((qq k 10)), .int 0], zI t (qq k 8) 8 (fun _ => 0), zI t (qq k 9) 8 (fun _ => 0), zA t 5 (qq k 10) 8 (fun _ => none), zO 10 (qq k 11) [.ref ((qq k 12)), .ref ((qq k 13)), .ref ((qq k 14)), .int 0], zI t (qq k 12) 8 (fun _ => 0), zI t (qq k 13) 8 (fun _ => 0), zA t 5 (qq k 14) 8 (fun _ => none), zO 10 (qq k 15) [.ref ((qq k 16)), .ref ((qq k 17)), .ref ((qq k 18)), .int 0], zI t (qq k 16) 8 (fun _ => 0), zI t (qq k 17) 8 (fun _ => 0), zA t 5 (qq k 18) 8 (fun _ => none), zO 10 (qq k 19) [.ref ((qq k 20)), .ref ((qq k 21)), .ref ((qq k 22)), .int 0], zI t (qq k 20) 8 (fun _ => 0), zI t (qq k 21) 8 (fun _ => 0), zA t 5 (qq k 22) 8 (fun _ => none), zA t 5 (qq k 23) 16 (fun _ => none)] := hD
  refine lv_iload_n hx hb d_P_about_5 rfl (lv_at hl 1 rfl) ?_
  refine xr_call (xs_S (As := [.int (nI k)]) (rest := []) Z (C_P_noNode l D t k hk) m_P_noNode k_1217 k_1218 rfl rfl ⟨Nat.le_of_ble_eq_true rfl, Nat.le_of_ble_eq_true rfl⟩ (xr_pre hK (hP.sub [] rfl)) rfl hl.1 rfl (Nat.le_of_ble_eq_true rfl) d_P_about_6 ⟨Nat.le_of_ble_eq_true rfl, Nat.le_of_ble_eq_true rfl⟩) ?_
  refine lv_if_eq (tgt := 18) hx hb d_P_about_9 (by decide) (fun _ => ?_) (fun c_1 => absurd (by decide) c_1)
  refine lv_aload_n hx hb d_P_about_18 rfl (lv_at hl 0 rfl) ?_
  refine va_get (ci := 13) (C := "QuorumStoreModel") (T := TX13) (N := 10) hx hb hts inX13 hown hK.2 hP 0 rfl rfl 6 (by decide) (hts _ k_1001) (fun _ h9 => h9) rfl d_P_about_19 ?_
  refine lv_iload_n hx hb d_P_about_22 rfl (lv_at hl 1 rfl) ?_
  refine va_aldq hx hb hK.2 hP 1 7 rfl rfl (vp_in_nI hk (by decide)) d_P_about_23 ?_
  rw [nI_clamp (show k < 2 ^ 31 by omega)]
  refine lv_astore_n (lv' := [(3, .ref ((qq k 0))), (0, .ref ma), (1, .int (nI k)), (2, .int 2)]) hx hb d_P_about_24 rfl hl (by decide) rfl (fun ls hl => ?_)
  refine lv_iload_n hx hb d_P_about_25 rfl (lv_at hl 3 rfl) ?_
  refine lv_tableIn (off := 96) (tgt := 122) hx hb d_P_about_26 (by decide) (by decide) (by decide) (by decide) ?_
  refine lv_aload_n hx hb d_P_about_122 rfl (lv_at hl 0 rfl) ?_
  refine va_get (ci := 9) (C := "QuorumStoreModel$Node") (T := TX9) (N := 17) hx hb hts inX9 hown hK.2 hP 2 rfl rfl 5 (by decide) (hts _ k_936) (fun _ h9 => h9) rfl d_P_about_123 ?_
  have hP := hP.sub (ws' := [zO 13 ma [.int 0, .int 0, .int 0, .int 0, .int 0, .int 0, .ref nb, .ref wy, .ref hd, .ref tk]]) [0] rfl
  have hD := hD.sub (ws' := [zO 13 ma [.int 0, .int 0, .int 0, .int 0, .int 0, .int 0, .ref nb, .ref wy, .ref hd, .ref tk]]) [0] (by decide) rfl
  exact W.iret hx hb hr (fun t ht hW => ⟨⟨0, (), rfl, rfl, by rw [ht]; exact hP, hD⟩, hS.F ht⟩) hS.2.2 d_P_about_126
theorem d_P_about_127 : decode c_P_about 127 = .ok (.aload_n 3, 1) := by decide +kernel
theorem d_P_about_128 : decode c_P_about 128 = .ok (.getfield 195, 3) := by decide +kernel
theorem d_P_about_131 : decode c_P_about 131 = .ok (.ireturn, 1) := by decide +kernel
set_option maxHeartbeats 4000000 in
set_option maxRecDepth 100000 in
/-- about 3 on a new object -/
theorem C_P_about_03 (l : Launch) (D : va_G) (t : Nat → ClassId) (ma nb wy hd tk : Nat) (th : Int32) (qq : Nat → Nat → Nat) (mk : Int32) (k : Nat) (hk : k < 7) : xe_C l D vwCl (xTY t) y_P_about c_P_about 4 (Option.some FieldType.int) ({ frames := 1, cells := 0, slots := 0, locals := 20 }) [.ref ma, .int (nI k), .int 3] [zO 13 ma [.int th, .int 0, .int 0, .int 0, .int 0, .int 0, .ref nb, .ref wy, .ref hd, .ref tk], zA t 7 nb 7 (fun j => some (qq j 0)), zO 9 (qq k 0) [.int (nI k), .int 1, .int 0, .int 0, .int 0, .int 0, .int (nI (8 + 3 * k)), .int ((-1)), .int 0, .int 0, .ref ((qq k 1)), .ref ((qq k 7)), .ref ((qq k 11)), .ref ((qq k 15)), .ref ((qq k 19)), .ref ((qq k 23)), .int 0], zO 11 (qq k 1) [.int 0, .ref ((qq k 2)), .ref ((qq k 3)), .ref ((qq k 4)), .ref ((qq k 5)), .ref ((qq k 6)), .int 1], zJ t (qq k 2) 32 (fun _ => 1099511627776), zJ t (qq k 3) 8 (fun _ => 0), zI t (qq k 4) 8 (fun _ => 0), zI t (qq k 5) 4 (xm 1), zI t (qq k 6) 4 (xm mk), zO 10 (qq k 7) [.ref ((qq k 8)), .ref ((qq k 9)), .ref ((qq k 10)), .int 0], zI t (qq k 8) 8 (fun _ => 0), zI t (qq k 9) 8 (fun _ => 0), zA t 5 (qq k 10) 8 (fun _ => none), zO 10 (qq k 11) [.ref ((qq k 12)), .ref ((qq k 13)), .ref ((qq k 14)), .int 0], zI t (qq k 12) 8 (fun _ => 0), zI t (qq k 13) 8 (fun _ => 0), zA t 5 (qq k 14) 8 (fun _ => none), zO 10 (qq k 15) [.ref ((qq k 16)), .ref ((qq k 17)), .ref ((qq k 18)), .int 0], zI t (qq k 16) 8 (fun _ => 0), zI t (qq k 17) 8 (fun _ => 0), zA t 5 (qq k 18) 8 (fun _ => none), zO 10 (qq k 19) [.ref ((qq k 20)), .ref ((qq k 21)), .ref ((qq k 22)), .int 0], zI t (qq k 20) 8 (fun _ => 0), zI t (qq k 21) 8 (fun _ => 0), zA t 5 (qq k 22) 8 (fun _ => none), zA t 5 (qq k 23) 16 (fun _ => none)] (xe_i D vwCl (fun (r : Int32) (_ : Unit) => r = 0) (fun _ => [zO 13 ma [.int 0, .int 0, .int 0, .int 0, .int 0, .int 0, .ref nb, .ref wy, .ref hd, .ref tk]])) 0 0 := by
  refine xe_of (by decide) (Nat.le_of_ble_eq_true rfl) ?_
  intro p e s m below meth c ls A Z hr hlocks hin hA hP hD hS hl
  obtain ⟨hx, hb, hml, hown, hK⟩ := id Z
  have hown : s.vm.findClass "QuorumStoreModel" = some m.cls := hown
  have hts := hK.1.at (args := ([.ref ma, .int (nI k), .int 3] : List Value).toArray)
  have hl : lv_has ls 4 [(0, .ref ma), (1, .int (nI k)), (2, .int 3)] := hl
  refine lv_aload_n hx hb d_P_about_0 rfl (lv_at hl 0 rfl) ?_
  refine lv_iconst (v := 0) hx hb d_P_about_1 (by decide) ?_
  refine va_put (ci := 13) (v := .int 0) (ty := tyX13 0) (C := "QuorumStoreModel") (T := TX13) (N := 10) hx hb hts inX13 tyX13 okX13 nmX13 hown hK.2 hP hD hS 0 rfl rfl 0 (by decide) (hts _ k_995) (fun _ h9 => h9) rfl (by decide +kernel) rfl rfl (Nat.le_of_ble_eq_true rfl) d_P_about_2 (fun H locs hP hD hS => ?_)
  have hP : va_P D vwCl [zO 13 ma [.int 0, .int 0, .int 0, .int 0, .int 0, .int 0, .ref nb, .ref wy, .ref hd, .ref tk], zA t 7 nb 7 (fun j => some (qq j 0)), zO 9 (qq k 0) [.int (nI k), .int 1, .int 0, .int 0, .int 0, .int 0, .int (nI (8 + 3 * k)), .int ((-1)), .int 0, .int 0, .ref ((qq k 1)), .ref ((qq k 7)), .ref ((qq k 11)), .ref ((qq k 15)), .ref ((qq k 19)), .ref ((qq k 23)), .int 0], zO 11 (qq k 1) [.int 0, .ref ((qq k 2)), .ref ((qq k 3)), .ref ((qq k 4)), .ref ((qq k 5)), .ref ((qq k 6)), .int 1], zJ t (qq k 2) 32 (fun _ => 1099511627776), zJ t (qq k 3) 8 (fun _ => 0), zI t (qq k 4) 8 (fun _ => 0), zI t (qq k 5) 4 (xm 1), zI t (qq k 6) 4 (xm mk), zO 10 (qq k 7) [.ref ((qq k 8)), .ref ((qq k 9)), .ref ((qq k 10)), .int 0], zI t (qq k 8) 8 (fun _ => 0), zI t (qq k 9) 8 (fun _ => 0), zA t 5 (qq k 10) 8 (fun _ => none), zO 10 (qq k 11) [.ref ((qq k 12)), .ref ((qq k 13)), .ref ((qq k 14)), .int 0], zI t (qq k 12) 8 (fun _ => 0), zI t (qq k 13) 8 (fun _ => 0), zA t 5 (qq k 14) 8 (fun _ => none), zO 10 (qq k 15) [.ref ((qq k 16)), .ref ((qq k 17)), .ref ((qq k 18)), .int 0], zI t (qq k 16) 8 (fun _ => 0), zI t (qq k 17) 8 (fun _ => 0), zA t 5 (qq k 18) 8 (fun _ => none), zO 10 (qq k 19) [.ref ((qq k 20)), .ref ((qq k 21)), .ref ((qq k 22)), .int 0], zI t (qq k 20) 8 (fun _ => 0), zI t (qq k 21) 8 (fun _ => 0), zA t 5 (qq k 22) 8 (fun _ => none), zA t 5 (qq k 23) 16 (fun _ => none)] H := hP
  have hD : va_D A [zO 13 ma [.int 0, .int 0, .int 0, .int 0, .int 0, .int 0, .ref nb, .ref wy, .ref hd, .ref tk], zA t 7 nb 7 (fun j => some (qq j 0)), zO 9 (qq k 0) [.int (nI k), .int 1, .int 0, .int 0, .int 0, .int 0, .int (nI (8 + 3 * k)), .int ((-1)), .int 0, .int 0, .ref ((qq k 1)), .ref ((qq k 7)), .ref ((qq k 11)), .ref ((qq k 15)), .ref ((qq k 19)), .ref ((qq k 23)), .int 0], zO 11 (qq k 1) [.int 0, .ref ((qq k 2)), .ref ((qq k 3)), .ref ((qq k 4)), .ref ((qq k 5)), .ref ((qq k 6)), .int 1], zJ t (qq k 2) 32 (fun _ => 1099511627776), zJ t (qq k 3) 8 (fun _ => 0), zI t (qq k 4) 8 (fun _ => 0), zI t (qq k 5) 4 (xm 1), zI t (qq k 6) 4 (xm mk), zO 10 (qq k 7) [.ref ((qq k 8)), .ref ((qq k 9)), .ref ((qq k 10)), .int 0], zI t (qq k 8) 8 (fun _ => 0), zI t (qq k 9) 8 (fun _ => 0), zA t 5 (qq k 10) 8 (fun _ => none), zO 10 (qq k 11) [.ref ((qq k 12)), .ref ((qq k 13)), .ref ((qq k 14)), .int 0], zI t (qq k 12) 8 (fun _ => 0), zI t (qq k 13) 8 (fun _ => 0), zA t 5 (qq k 14) 8 (fun _ => none), zO 10 (qq k 15) [.ref ((qq k 16)), .ref ((qq k 17)), .ref ((qq k 18)), .int 0], zI t (qq k 16) 8 (fun _ => 0), zI t (qq k 17) 8 (fun _ => 0), zA t 5 (qq k 18) 8 (fun _ => none), zO 10 (qq k 19) [.ref ((qq k 20)), .ref ((qq k 21)), .ref ((qq k 22)), .int 0], zI t (qq k 20) 8 (fun _ => 0), zI t (qq k 21) 8 (fun _ => 0), zA t 5 (qq k 22) 8 (fun _ => none), zA t 5 (qq k 23) 16 (fun _ => none)] := hD
  refine lv_iload_n hx hb d_P_about_5 rfl (lv_at hl 1 rfl) ?_
  refine xr_call (xs_S (As := [.int (nI k)]) (rest := []) Z (C_P_noNode l D t k hk) m_P_noNode k_1217 k_1218 rfl rfl ⟨Nat.le_of_ble_eq_true rfl, Nat.le_of_ble_eq_true rfl⟩ (xr_pre hK (hP.sub [] rfl)) rfl hl.1 rfl (Nat.le_of_ble_eq_true rfl) d_P_about_6 ⟨Nat.le_of_ble_eq_true rfl, Nat.le_of_ble_eq_true rfl⟩) ?_
  refine lv_if_eq (tgt := 18) hx hb d_P_about_9 (by decide) (fun _ => ?_) (fun c_1 => absurd (by decide) c_1)
  refine lv_aload_n hx hb d_P_about_18 rfl (lv_at hl 0 rfl) ?_
  refine va_get (ci := 13) (C := "QuorumStoreModel") (T := TX13) (N := 10) hx hb hts inX13 hown hK.2 hP 0 rfl rfl 6 (by decide) (hts _ k_1001) (fun _ h9 => h9) rfl d_P_about_19 ?_
  refine lv_iload_n hx hb d_P_about_22 rfl (lv_at hl 1 rfl) ?_
  refine va_aldq hx hb hK.2 hP 1 7 rfl rfl (vp_in_nI hk (by decide)) d_P_about_23 ?_
  rw [nI_clamp (show k < 2 ^ 31 by omega)]
  refine lv_astore_n (lv' := [(3, .ref ((qq k 0))), (0, .ref ma), (1, .int (nI k)), (2, .int 3)]) hx hb d_P_about_24 rfl hl (by decide) rfl (fun ls hl => ?_)
  refine lv_iload_n hx hb d_P_about_25 rfl (lv_at hl 3 rfl) ?_
  refine lv_tableIn (off := 101) (tgt := 127) hx hb d_P_about_26 (by decide) (by decide) (by decide) (by decide) ?_
  refine lv_aload_n hx hb d_P_about_127 rfl (lv_at hl 0 rfl) ?_
  refine va_get (ci := 9) (C := "QuorumStoreModel$Node") (T := TX9) (N := 17) hx hb hts inX9 hown hK.2 hP 2 rfl rfl 3 (by decide) (hts _ k_934) (fun _ h9 => h9) rfl d_P_about_128 ?_
  have hP := hP.sub (ws' := [zO 13 ma [.int 0, .int 0, .int 0, .int 0, .int 0, .int 0, .ref nb, .ref wy, .ref hd, .ref tk]]) [0] rfl
  have hD := hD.sub (ws' := [zO 13 ma [.int 0, .int 0, .int 0, .int 0, .int 0, .int 0, .ref nb, .ref wy, .ref hd, .ref tk]]) [0] (by decide) rfl
  exact W.iret hx hb hr (fun t ht hW => ⟨⟨0, (), rfl, rfl, by rw [ht]; exact hP, hD⟩, hS.F ht⟩) hS.2.2 d_P_about_131
theorem d_P_about_132 : decode c_P_about 132 = .ok (.aload_n 3, 1) := by decide +kernel
theorem d_P_about_133 : decode c_P_about 133 = .ok (.getfield 32, 3) := by decide +kernel
theorem d_P_about_136 : decode c_P_about 136 = .ok (.getfield 92, 3) := by decide +kernel
theorem d_P_about_139 : decode c_P_about 139 = .ok (.ireturn, 1) := by decide +kernel
set_option maxHeartbeats 4000000 in
set_option maxRecDepth 100000 in
/-- about 4 on a new object -/
theorem C_P_about_04 (l : Launch) (D : va_G) (t : Nat → ClassId) (ma nb wy hd tk : Nat) (th : Int32) (qq : Nat → Nat → Nat) (mk : Int32) (k : Nat) (hk : k < 7) : xe_C l D vwCl (xTY t) y_P_about c_P_about 4 (Option.some FieldType.int) ({ frames := 1, cells := 0, slots := 0, locals := 20 }) [.ref ma, .int (nI k), .int 4] [zO 13 ma [.int th, .int 0, .int 0, .int 0, .int 0, .int 0, .ref nb, .ref wy, .ref hd, .ref tk], zA t 7 nb 7 (fun j => some (qq j 0)), zO 9 (qq k 0) [.int (nI k), .int 1, .int 0, .int 0, .int 0, .int 0, .int (nI (8 + 3 * k)), .int ((-1)), .int 0, .int 0, .ref ((qq k 1)), .ref ((qq k 7)), .ref ((qq k 11)), .ref ((qq k 15)), .ref ((qq k 19)), .ref ((qq k 23)), .int 0], zO 11 (qq k 1) [.int 0, .ref ((qq k 2)), .ref ((qq k 3)), .ref ((qq k 4)), .ref ((qq k 5)), .ref ((qq k 6)), .int 1], zJ t (qq k 2) 32 (fun _ => 1099511627776), zJ t (qq k 3) 8 (fun _ => 0), zI t (qq k 4) 8 (fun _ => 0), zI t (qq k 5) 4 (xm 1), zI t (qq k 6) 4 (xm mk), zO 10 (qq k 7) [.ref ((qq k 8)), .ref ((qq k 9)), .ref ((qq k 10)), .int 0], zI t (qq k 8) 8 (fun _ => 0), zI t (qq k 9) 8 (fun _ => 0), zA t 5 (qq k 10) 8 (fun _ => none), zO 10 (qq k 11) [.ref ((qq k 12)), .ref ((qq k 13)), .ref ((qq k 14)), .int 0], zI t (qq k 12) 8 (fun _ => 0), zI t (qq k 13) 8 (fun _ => 0), zA t 5 (qq k 14) 8 (fun _ => none), zO 10 (qq k 15) [.ref ((qq k 16)), .ref ((qq k 17)), .ref ((qq k 18)), .int 0], zI t (qq k 16) 8 (fun _ => 0), zI t (qq k 17) 8 (fun _ => 0), zA t 5 (qq k 18) 8 (fun _ => none), zO 10 (qq k 19) [.ref ((qq k 20)), .ref ((qq k 21)), .ref ((qq k 22)), .int 0], zI t (qq k 20) 8 (fun _ => 0), zI t (qq k 21) 8 (fun _ => 0), zA t 5 (qq k 22) 8 (fun _ => none), zA t 5 (qq k 23) 16 (fun _ => none)] (xe_i D vwCl (fun (r : Int32) (_ : Unit) => r = 0) (fun _ => [zO 13 ma [.int 0, .int 0, .int 0, .int 0, .int 0, .int 0, .ref nb, .ref wy, .ref hd, .ref tk]])) 0 0 := by
  refine xe_of (by decide) (Nat.le_of_ble_eq_true rfl) ?_
  intro p e s m below meth c ls A Z hr hlocks hin hA hP hD hS hl
  obtain ⟨hx, hb, hml, hown, hK⟩ := id Z
  have hown : s.vm.findClass "QuorumStoreModel" = some m.cls := hown
  have hts := hK.1.at (args := ([.ref ma, .int (nI k), .int 4] : List Value).toArray)
  have hl : lv_has ls 4 [(0, .ref ma), (1, .int (nI k)), (2, .int 4)] := hl
  refine lv_aload_n hx hb d_P_about_0 rfl (lv_at hl 0 rfl) ?_
  refine lv_iconst (v := 0) hx hb d_P_about_1 (by decide) ?_
  refine va_put (ci := 13) (v := .int 0) (ty := tyX13 0) (C := "QuorumStoreModel") (T := TX13) (N := 10) hx hb hts inX13 tyX13 okX13 nmX13 hown hK.2 hP hD hS 0 rfl rfl 0 (by decide) (hts _ k_995) (fun _ h9 => h9) rfl (by decide +kernel) rfl rfl (Nat.le_of_ble_eq_true rfl) d_P_about_2 (fun H locs hP hD hS => ?_)
  have hP : va_P D vwCl [zO 13 ma [.int 0, .int 0, .int 0, .int 0, .int 0, .int 0, .ref nb, .ref wy, .ref hd, .ref tk], zA t 7 nb 7 (fun j => some (qq j 0)), zO 9 (qq k 0) [.int (nI k), .int 1, .int 0, .int 0, .int 0, .int 0, .int (nI (8 + 3 * k)), .int ((-1)), .int 0, .int 0, .ref ((qq k 1)), .ref ((qq k 7)), .ref ((qq k 11)), .ref ((qq k 15)), .ref ((qq k 19)), .ref ((qq k 23)), .int 0], zO 11 (qq k 1) [.int 0, .ref ((qq k 2)), .ref ((qq k 3)), .ref ((qq k 4)), .ref ((qq k 5)), .ref ((qq k 6)), .int 1], zJ t (qq k 2) 32 (fun _ => 1099511627776), zJ t (qq k 3) 8 (fun _ => 0), zI t (qq k 4) 8 (fun _ => 0), zI t (qq k 5) 4 (xm 1), zI t (qq k 6) 4 (xm mk), zO 10 (qq k 7) [.ref ((qq k 8)), .ref ((qq k 9)), .ref ((qq k 10)), .int 0], zI t (qq k 8) 8 (fun _ => 0), zI t (qq k 9) 8 (fun _ => 0), zA t 5 (qq k 10) 8 (fun _ => none), zO 10 (qq k 11) [.ref ((qq k 12)), .ref ((qq k 13)), .ref ((qq k 14)), .int 0], zI t (qq k 12) 8 (fun _ => 0), zI t (qq k 13) 8 (fun _ => 0), zA t 5 (qq k 14) 8 (fun _ => none), zO 10 (qq k 15) [.ref ((qq k 16)), .ref ((qq k 17)), .ref ((qq k 18)), .int 0], zI t (qq k 16) 8 (fun _ => 0), zI t (qq k 17) 8 (fun _ => 0), zA t 5 (qq k 18) 8 (fun _ => none), zO 10 (qq k 19) [.ref ((qq k 20)), .ref ((qq k 21)), .ref ((qq k 22)), .int 0], zI t (qq k 20) 8 (fun _ => 0), zI t (qq k 21) 8 (fun _ => 0), zA t 5 (qq k 22) 8 (fun _ => none), zA t 5 (qq k 23) 16 (fun _ => none)] H := hP
  have hD : va_D A [zO 13 ma [.int 0, .int 0, .int 0, .int 0, .int 0, .int 0, .ref nb, .ref wy, .ref hd, .ref tk], zA t 7 nb 7 (fun j => some (qq j 0)), zO 9 (qq k 0) [.int (nI k), .int 1, .int 0, .int 0, .int 0, .int 0, .int (nI (8 + 3 * k)), .int ((-1)), .int 0, .int 0, .ref ((qq k 1)), .ref ((qq k 7)), .ref ((qq k 11)), .ref ((qq k 15)), .ref ((qq k 19)), .ref ((qq k 23)), .int 0], zO 11 (qq k 1) [.int 0, .ref ((qq k 2)), .ref ((qq k 3)), .ref ((qq k 4)), .ref ((qq k 5)), .ref ((qq k 6)), .int 1], zJ t (qq k 2) 32 (fun _ => 1099511627776), zJ t (qq k 3) 8 (fun _ => 0), zI t (qq k 4) 8 (fun _ => 0), zI t (qq k 5) 4 (xm 1), zI t (qq k 6) 4 (xm mk), zO 10 (qq k 7) [.ref ((qq k 8)), .ref ((qq k 9)), .ref ((qq k 10)), .int 0], zI t (qq k 8) 8 (fun _ => 0), zI t (qq k 9) 8 (fun _ => 0), zA t 5 (qq k 10) 8 (fun _ => none), zO 10 (qq k 11) [.ref ((qq k 12)), .ref ((qq k 13)), .ref ((qq k 14)), .int 0], zI t (qq k 12) 8 (fun _ => 0), zI t (qq k 13) 8 (fun _ => 0), zA t 5 (qq k 14) 8 (fun _ => none), zO 10 (qq k 15) [.ref ((qq k 16)), .ref ((qq k 17)), .ref ((qq k 18)), .int 0], zI t (qq k 16) 8 (fun _ => 0), zI t (qq k 17) 8 (fun _ => 0), zA t 5 (qq k 18) 8 (fun _ => none), zO 10 (qq k 19) [.ref ((qq k 20)), .ref ((qq k 21)), .ref ((qq k 22)), .int 0], zI t (qq k 20) 8 (fun _ => 0), zI t (qq k 21) 8 (fun _ => 0), zA t 5 (qq k 22) 8 (fun _ => none), zA t 5 (qq k 23) 16 (fun _ => none)] := hD
  refine lv_iload_n hx hb d_P_about_5 rfl (lv_at hl 1 rfl) ?_
  refine xr_call (xs_S (As := [.int (nI k)]) (rest := []) Z (C_P_noNode l D t k hk) m_P_noNode k_1217 k_1218 rfl rfl ⟨Nat.le_of_ble_eq_true rfl, Nat.le_of_ble_eq_true rfl⟩ (xr_pre hK (hP.sub [] rfl)) rfl hl.1 rfl (Nat.le_of_ble_eq_true rfl) d_P_about_6 ⟨Nat.le_of_ble_eq_true rfl, Nat.le_of_ble_eq_true rfl⟩) ?_
  refine lv_if_eq (tgt := 18) hx hb d_P_about_9 (by decide) (fun _ => ?_) (fun c_1 => absurd (by decide) c_1)
  refine lv_aload_n hx hb d_P_about_18 rfl (lv_at hl 0 rfl) ?_
  refine va_get (ci := 13) (C := "QuorumStoreModel") (T := TX13) (N := 10) hx hb hts inX13 hown hK.2 hP 0 rfl rfl 6 (by decide) (hts _ k_1001) (fun _ h9 => h9) rfl d_P_about_19 ?_
  refine lv_iload_n hx hb d_P_about_22 rfl (lv_at hl 1 rfl) ?_
  refine va_aldq hx hb hK.2 hP 1 7 rfl rfl (vp_in_nI hk (by decide)) d_P_about_23 ?_
  rw [nI_clamp (show k < 2 ^ 31 by omega)]
  refine lv_astore_n (lv' := [(3, .ref ((qq k 0))), (0, .ref ma), (1, .int (nI k)), (2, .int 4)]) hx hb d_P_about_24 rfl hl (by decide) rfl (fun ls hl => ?_)
  refine lv_iload_n hx hb d_P_about_25 rfl (lv_at hl 3 rfl) ?_
  refine lv_tableIn (off := 106) (tgt := 132) hx hb d_P_about_26 (by decide) (by decide) (by decide) (by decide) ?_
  refine lv_aload_n hx hb d_P_about_132 rfl (lv_at hl 0 rfl) ?_
  refine va_get (ci := 9) (C := "QuorumStoreModel$Node") (T := TX9) (N := 17) hx hb hts inX9 hown hK.2 hP 2 rfl rfl 10 (by decide) (hts _ k_944) (fun _ h9 => h9) rfl d_P_about_133 ?_
  refine va_get (ci := 11) (C := "QuorumStoreModel$State") (T := TX11) (N := 7) hx hb hts inX11 hown hK.2 hP 3 rfl rfl 0 (by decide) (hts _ k_860) (fun _ h9 => h9) rfl d_P_about_136 ?_
  have hP := hP.sub (ws' := [zO 13 ma [.int 0, .int 0, .int 0, .int 0, .int 0, .int 0, .ref nb, .ref wy, .ref hd, .ref tk]]) [0] rfl
  have hD := hD.sub (ws' := [zO 13 ma [.int 0, .int 0, .int 0, .int 0, .int 0, .int 0, .ref nb, .ref wy, .ref hd, .ref tk]]) [0] (by decide) rfl
  exact W.iret hx hb hr (fun t ht hW => ⟨⟨0, (), rfl, rfl, by rw [ht]; exact hP, hD⟩, hS.F ht⟩) hS.2.2 d_P_about_139
theorem d_P_about_140 : decode c_P_about 140 = .ok (.aload_n 3, 1) := by decide +kernel
theorem d_P_about_141 : decode c_P_about 141 = .ok (.getfield 123, 3) := by decide +kernel
theorem d_P_about_144 : decode c_P_about 144 = .ok (.ireturn, 1) := by decide +kernel
set_option maxHeartbeats 4000000 in
set_option maxRecDepth 100000 in
/-- about 5 on a new object -/
theorem C_P_about_05 (l : Launch) (D : va_G) (t : Nat → ClassId) (ma nb wy hd tk : Nat) (th : Int32) (qq : Nat → Nat → Nat) (mk : Int32) (k : Nat) (hk : k < 7) : xe_C l D vwCl (xTY t) y_P_about c_P_about 4 (Option.some FieldType.int) ({ frames := 1, cells := 0, slots := 0, locals := 20 }) [.ref ma, .int (nI k), .int 5] [zO 13 ma [.int th, .int 0, .int 0, .int 0, .int 0, .int 0, .ref nb, .ref wy, .ref hd, .ref tk], zA t 7 nb 7 (fun j => some (qq j 0)), zO 9 (qq k 0) [.int (nI k), .int 1, .int 0, .int 0, .int 0, .int 0, .int (nI (8 + 3 * k)), .int ((-1)), .int 0, .int 0, .ref ((qq k 1)), .ref ((qq k 7)), .ref ((qq k 11)), .ref ((qq k 15)), .ref ((qq k 19)), .ref ((qq k 23)), .int 0], zO 11 (qq k 1) [.int 0, .ref ((qq k 2)), .ref ((qq k 3)), .ref ((qq k 4)), .ref ((qq k 5)), .ref ((qq k 6)), .int 1], zJ t (qq k 2) 32 (fun _ => 1099511627776), zJ t (qq k 3) 8 (fun _ => 0), zI t (qq k 4) 8 (fun _ => 0), zI t (qq k 5) 4 (xm 1), zI t (qq k 6) 4 (xm mk), zO 10 (qq k 7) [.ref ((qq k 8)), .ref ((qq k 9)), .ref ((qq k 10)), .int 0], zI t (qq k 8) 8 (fun _ => 0), zI t (qq k 9) 8 (fun _ => 0), zA t 5 (qq k 10) 8 (fun _ => none), zO 10 (qq k 11) [.ref ((qq k 12)), .ref ((qq k 13)), .ref ((qq k 14)), .int 0], zI t (qq k 12) 8 (fun _ => 0), zI t (qq k 13) 8 (fun _ => 0), zA t 5 (qq k 14) 8 (fun _ => none), zO 10 (qq k 15) [.ref ((qq k 16)), .ref ((qq k 17)), .ref ((qq k 18)), .int 0], zI t (qq k 16) 8 (fun _ => 0), zI t (qq k 17) 8 (fun _ => 0), zA t 5 (qq k 18) 8 (fun _ => none), zO 10 (qq k 19) [.ref ((qq k 20)), .ref ((qq k 21)), .ref ((qq k 22)), .int 0], zI t (qq k 20) 8 (fun _ => 0), zI t (qq k 21) 8 (fun _ => 0), zA t 5 (qq k 22) 8 (fun _ => none), zA t 5 (qq k 23) 16 (fun _ => none)] (xe_i D vwCl (fun (r : Int32) (_ : Unit) => r = 0) (fun _ => [zO 13 ma [.int 0, .int 0, .int 0, .int 0, .int 0, .int 0, .ref nb, .ref wy, .ref hd, .ref tk]])) 0 0 := by
  refine xe_of (by decide) (Nat.le_of_ble_eq_true rfl) ?_
  intro p e s m below meth c ls A Z hr hlocks hin hA hP hD hS hl
  obtain ⟨hx, hb, hml, hown, hK⟩ := id Z
  have hown : s.vm.findClass "QuorumStoreModel" = some m.cls := hown
  have hts := hK.1.at (args := ([.ref ma, .int (nI k), .int 5] : List Value).toArray)
  have hl : lv_has ls 4 [(0, .ref ma), (1, .int (nI k)), (2, .int 5)] := hl
  refine lv_aload_n hx hb d_P_about_0 rfl (lv_at hl 0 rfl) ?_
  refine lv_iconst (v := 0) hx hb d_P_about_1 (by decide) ?_
  refine va_put (ci := 13) (v := .int 0) (ty := tyX13 0) (C := "QuorumStoreModel") (T := TX13) (N := 10) hx hb hts inX13 tyX13 okX13 nmX13 hown hK.2 hP hD hS 0 rfl rfl 0 (by decide) (hts _ k_995) (fun _ h9 => h9) rfl (by decide +kernel) rfl rfl (Nat.le_of_ble_eq_true rfl) d_P_about_2 (fun H locs hP hD hS => ?_)
  have hP : va_P D vwCl [zO 13 ma [.int 0, .int 0, .int 0, .int 0, .int 0, .int 0, .ref nb, .ref wy, .ref hd, .ref tk], zA t 7 nb 7 (fun j => some (qq j 0)), zO 9 (qq k 0) [.int (nI k), .int 1, .int 0, .int 0, .int 0, .int 0, .int (nI (8 + 3 * k)), .int ((-1)), .int 0, .int 0, .ref ((qq k 1)), .ref ((qq k 7)), .ref ((qq k 11)), .ref ((qq k 15)), .ref ((qq k 19)), .ref ((qq k 23)), .int 0], zO 11 (qq k 1) [.int 0, .ref ((qq k 2)), .ref ((qq k 3)), .ref ((qq k 4)), .ref ((qq k 5)), .ref ((qq k 6)), .int 1], zJ t (qq k 2) 32 (fun _ => 1099511627776), zJ t (qq k 3) 8 (fun _ => 0), zI t (qq k 4) 8 (fun _ => 0), zI t (qq k 5) 4 (xm 1), zI t (qq k 6) 4 (xm mk), zO 10 (qq k 7) [.ref ((qq k 8)), .ref ((qq k 9)), .ref ((qq k 10)), .int 0], zI t (qq k 8) 8 (fun _ => 0), zI t (qq k 9) 8 (fun _ => 0), zA t 5 (qq k 10) 8 (fun _ => none), zO 10 (qq k 11) [.ref ((qq k 12)), .ref ((qq k 13)), .ref ((qq k 14)), .int 0], zI t (qq k 12) 8 (fun _ => 0), zI t (qq k 13) 8 (fun _ => 0), zA t 5 (qq k 14) 8 (fun _ => none), zO 10 (qq k 15) [.ref ((qq k 16)), .ref ((qq k 17)), .ref ((qq k 18)), .int 0], zI t (qq k 16) 8 (fun _ => 0), zI t (qq k 17) 8 (fun _ => 0), zA t 5 (qq k 18) 8 (fun _ => none), zO 10 (qq k 19) [.ref ((qq k 20)), .ref ((qq k 21)), .ref ((qq k 22)), .int 0], zI t (qq k 20) 8 (fun _ => 0), zI t (qq k 21) 8 (fun _ => 0), zA t 5 (qq k 22) 8 (fun _ => none), zA t 5 (qq k 23) 16 (fun _ => none)] H := hP
  have hD : va_D A [zO 13 ma [.int 0, .int 0, .int 0, .int 0, .int 0, .int 0, .ref nb, .ref wy, .ref hd, .ref tk], zA t 7 nb 7 (fun j => some (qq j 0)), zO 9 (qq k 0) [.int (nI k), .int 1, .int 0, .int 0, .int 0, .int 0, .int (nI (8 + 3 * k)), .int ((-1)), .int 0, .int 0, .ref ((qq k 1)), .ref ((qq k 7)), .ref ((qq k 11)), .ref ((qq k 15)), .ref ((qq k 19)), .ref ((qq k 23)), .int 0], zO 11 (qq k 1) [.int 0, .ref ((qq k 2)), .ref ((qq k 3)), .ref ((qq k 4)), .ref ((qq k 5)), .ref ((qq k 6)), .int 1], zJ t (qq k 2) 32 (fun _ => 1099511627776), zJ t (qq k 3) 8 (fun _ => 0), zI t (qq k 4) 8 (fun _ => 0), zI t (qq k 5) 4 (xm 1), zI t (qq k 6) 4 (xm mk), zO 10 (qq k 7) [.ref ((qq k 8)), .ref ((qq k 9)), .ref ((qq k 10)), .int 0], zI t (qq k 8) 8 (fun _ => 0), zI t (qq k 9) 8 (fun _ => 0), zA t 5 (qq k 10) 8 (fun _ => none), zO 10 (qq k 11) [.ref ((qq k 12)), .ref ((qq k 13)), .ref ((qq k 14)), .int 0], zI t (qq k 12) 8 (fun _ => 0), zI t (qq k 13) 8 (fun _ => 0), zA t 5 (qq k 14) 8 (fun _ => none), zO 10 (qq k 15) [.ref ((qq k 16)), .ref ((qq k 17)), .ref ((qq k 18)), .int 0], zI t (qq k 16) 8 (fun _ => 0), zI t (qq k 17) 8 (fun _ => 0), zA t 5 (qq k 18) 8 (fun _ => none), zO 10 (qq k 19) [.ref ((qq k 20)), .ref ((qq k 21)), .ref ((qq k 22)), .int 0], zI t (qq k 20) 8 (fun _ => 0), zI t (qq k 21) 8 (fun _ => 0), zA t 5 (qq k 22) 8 (fun _ => none), zA t 5 (qq k 23) 16 (fun _ => none)] := hD
  refine lv_iload_n hx hb d_P_about_5 rfl (lv_at hl 1 rfl) ?_
  refine xr_call (xs_S (As := [.int (nI k)]) (rest := []) Z (C_P_noNode l D t k hk) m_P_noNode k_1217 k_1218 rfl rfl ⟨Nat.le_of_ble_eq_true rfl, Nat.le_of_ble_eq_true rfl⟩ (xr_pre hK (hP.sub [] rfl)) rfl hl.1 rfl (Nat.le_of_ble_eq_true rfl) d_P_about_6 ⟨Nat.le_of_ble_eq_true rfl, Nat.le_of_ble_eq_true rfl⟩) ?_
  refine lv_if_eq (tgt := 18) hx hb d_P_about_9 (by decide) (fun _ => ?_) (fun c_1 => absurd (by decide) c_1)
  refine lv_aload_n hx hb d_P_about_18 rfl (lv_at hl 0 rfl) ?_
  refine va_get (ci := 13) (C := "QuorumStoreModel") (T := TX13) (N := 10) hx hb hts inX13 hown hK.2 hP 0 rfl rfl 6 (by decide) (hts _ k_1001) (fun _ h9 => h9) rfl d_P_about_19 ?_
  refine lv_iload_n hx hb d_P_about_22 rfl (lv_at hl 1 rfl) ?_
  refine va_aldq hx hb hK.2 hP 1 7 rfl rfl (vp_in_nI hk (by decide)) d_P_about_23 ?_
  rw [nI_clamp (show k < 2 ^ 31 by omega)]
  refine lv_astore_n (lv' := [(3, .ref ((qq k 0))), (0, .ref ma), (1, .int (nI k)), (2, .int 5)]) hx hb d_P_about_24 rfl hl (by decide) rfl (fun ls hl => ?_)
  refine lv_iload_n hx hb d_P_about_25 rfl (lv_at hl 3 rfl) ?_
  refine lv_tableIn (off := 114) (tgt := 140) hx hb d_P_about_26 (by decide) (by decide) (by decide) (by decide) ?_
  refine lv_aload_n hx hb d_P_about_140 rfl (lv_at hl 0 rfl) ?_
  refine va_get (ci := 9) (C := "QuorumStoreModel$Node") (T := TX9) (N := 17) hx hb hts inX9 hown hK.2 hP 2 rfl rfl 4 (by decide) (hts _ k_935) (fun _ h9 => h9) rfl d_P_about_141 ?_
  have hP := hP.sub (ws' := [zO 13 ma [.int 0, .int 0, .int 0, .int 0, .int 0, .int 0, .ref nb, .ref wy, .ref hd, .ref tk]]) [0] rfl
  have hD := hD.sub (ws' := [zO 13 ma [.int 0, .int 0, .int 0, .int 0, .int 0, .int 0, .ref nb, .ref wy, .ref hd, .ref tk]]) [0] (by decide) rfl
  exact W.iret hx hb hr (fun t ht hW => ⟨⟨0, (), rfl, rfl, by rw [ht]; exact hP, hD⟩, hS.F ht⟩) hS.2.2 d_P_about_144
theorem d_P_about_145 : decode c_P_about 145 = .ok (.aload_n 3, 1) := by decide +kernel
theorem d_P_about_146 : decode c_P_about 146 = .ok (.getfield 32, 3) := by decide +kernel
theorem d_P_about_149 : decode c_P_about 149 = .ok (.aload_n 3, 1) := by decide +kernel
theorem d_P_about_150 : decode c_P_about 150 = .ok (.getfield 32, 3) := by decide +kernel
theorem d_P_about_153 : decode c_P_about 153 = .ok (.getfield 92, 3) := by decide +kernel
theorem d_P_about_156 : decode c_P_about 156 = .ok (.iconst 1, 1) := by decide +kernel
theorem d_P_about_157 : decode c_P_about 157 = .ok (.iadd, 1) := by decide +kernel
theorem d_P_about_158 : decode c_P_about 158 = .ok (.invokevirtual 95, 3) := by decide +kernel
theorem d_P_about_161 : decode c_P_about 161 = .ok (.ireturn, 1) := by decide +kernel
set_option maxHeartbeats 4000000 in
set_option maxRecDepth 100000 in
/-- about 6 on a new object -/
theorem C_P_about_06 (l : Launch) (D : va_G) (t : Nat → ClassId) (ma nb wy hd tk : Nat) (th : Int32) (qq : Nat → Nat → Nat) (mk : Int32) (k : Nat) (hk : k < 7) : xe_C l D vwCl (xTY t) y_P_about c_P_about 4 (Option.some FieldType.int) ({ frames := 1, cells := 0, slots := 0, locals := 23 }) [.ref ma, .int (nI k), .int 6] [zO 13 ma [.int th, .int 0, .int 0, .int 0, .int 0, .int 0, .ref nb, .ref wy, .ref hd, .ref tk], zA t 7 nb 7 (fun j => some (qq j 0)), zO 9 (qq k 0) [.int (nI k), .int 1, .int 0, .int 0, .int 0, .int 0, .int (nI (8 + 3 * k)), .int ((-1)), .int 0, .int 0, .ref ((qq k 1)), .ref ((qq k 7)), .ref ((qq k 11)), .ref ((qq k 15)), .ref ((qq k 19)), .ref ((qq k 23)), .int 0], zO 11 (qq k 1) [.int 0, .ref ((qq k 2)), .ref ((qq k 3)), .ref ((qq k 4)), .ref ((qq k 5)), .ref ((qq k 6)), .int 1], zJ t (qq k 2) 32 (fun _ => 1099511627776), zJ t (qq k 3) 8 (fun _ => 0), zI t (qq k 4) 8 (fun _ => 0), zI t (qq k 5) 4 (xm 1), zI t (qq k 6) 4 (xm mk), zO 10 (qq k 7) [.ref ((qq k 8)), .ref ((qq k 9)), .ref ((qq k 10)), .int 0], zI t (qq k 8) 8 (fun _ => 0), zI t (qq k 9) 8 (fun _ => 0), zA t 5 (qq k 10) 8 (fun _ => none), zO 10 (qq k 11) [.ref ((qq k 12)), .ref ((qq k 13)), .ref ((qq k 14)), .int 0], zI t (qq k 12) 8 (fun _ => 0), zI t (qq k 13) 8 (fun _ => 0), zA t 5 (qq k 14) 8 (fun _ => none), zO 10 (qq k 15) [.ref ((qq k 16)), .ref ((qq k 17)), .ref ((qq k 18)), .int 0], zI t (qq k 16) 8 (fun _ => 0), zI t (qq k 17) 8 (fun _ => 0), zA t 5 (qq k 18) 8 (fun _ => none), zO 10 (qq k 19) [.ref ((qq k 20)), .ref ((qq k 21)), .ref ((qq k 22)), .int 0], zI t (qq k 20) 8 (fun _ => 0), zI t (qq k 21) 8 (fun _ => 0), zA t 5 (qq k 22) 8 (fun _ => none), zA t 5 (qq k 23) 16 (fun _ => none)] (xe_i D vwCl (fun (r : Int32) (_ : Unit) => r = mk) (fun _ => [zO 13 ma [.int 0, .int 0, .int 0, .int 0, .int 0, .int 0, .ref nb, .ref wy, .ref hd, .ref tk]])) 0 0 := by
  refine xe_of (by decide) (Nat.le_of_ble_eq_true rfl) ?_
  intro p e s m below meth c ls A Z hr hlocks hin hA hP hD hS hl
  obtain ⟨hx, hb, hml, hown, hK⟩ := id Z
  have hown : s.vm.findClass "QuorumStoreModel" = some m.cls := hown
  have hts := hK.1.at (args := ([.ref ma, .int (nI k), .int 6] : List Value).toArray)
  have hl : lv_has ls 4 [(0, .ref ma), (1, .int (nI k)), (2, .int 6)] := hl
  refine lv_aload_n hx hb d_P_about_0 rfl (lv_at hl 0 rfl) ?_
  refine lv_iconst (v := 0) hx hb d_P_about_1 (by decide) ?_
  refine va_put (ci := 13) (v := .int 0) (ty := tyX13 0) (C := "QuorumStoreModel") (T := TX13) (N := 10) hx hb hts inX13 tyX13 okX13 nmX13 hown hK.2 hP hD hS 0 rfl rfl 0 (by decide) (hts _ k_995) (fun _ h9 => h9) rfl (by decide +kernel) rfl rfl (Nat.le_of_ble_eq_true rfl) d_P_about_2 (fun H locs hP hD hS => ?_)
  have hP : va_P D vwCl [zO 13 ma [.int 0, .int 0, .int 0, .int 0, .int 0, .int 0, .ref nb, .ref wy, .ref hd, .ref tk], zA t 7 nb 7 (fun j => some (qq j 0)), zO 9 (qq k 0) [.int (nI k), .int 1, .int 0, .int 0, .int 0, .int 0, .int (nI (8 + 3 * k)), .int ((-1)), .int 0, .int 0, .ref ((qq k 1)), .ref ((qq k 7)), .ref ((qq k 11)), .ref ((qq k 15)), .ref ((qq k 19)), .ref ((qq k 23)), .int 0], zO 11 (qq k 1) [.int 0, .ref ((qq k 2)), .ref ((qq k 3)), .ref ((qq k 4)), .ref ((qq k 5)), .ref ((qq k 6)), .int 1], zJ t (qq k 2) 32 (fun _ => 1099511627776), zJ t (qq k 3) 8 (fun _ => 0), zI t (qq k 4) 8 (fun _ => 0), zI t (qq k 5) 4 (xm 1), zI t (qq k 6) 4 (xm mk), zO 10 (qq k 7) [.ref ((qq k 8)), .ref ((qq k 9)), .ref ((qq k 10)), .int 0], zI t (qq k 8) 8 (fun _ => 0), zI t (qq k 9) 8 (fun _ => 0), zA t 5 (qq k 10) 8 (fun _ => none), zO 10 (qq k 11) [.ref ((qq k 12)), .ref ((qq k 13)), .ref ((qq k 14)), .int 0], zI t (qq k 12) 8 (fun _ => 0), zI t (qq k 13) 8 (fun _ => 0), zA t 5 (qq k 14) 8 (fun _ => none), zO 10 (qq k 15) [.ref ((qq k 16)), .ref ((qq k 17)), .ref ((qq k 18)), .int 0], zI t (qq k 16) 8 (fun _ => 0), zI t (qq k 17) 8 (fun _ => 0), zA t 5 (qq k 18) 8 (fun _ => none), zO 10 (qq k 19) [.ref ((qq k 20)), .ref ((qq k 21)), .ref ((qq k 22)), .int 0], zI t (qq k 20) 8 (fun _ => 0), zI t (qq k 21) 8 (fun _ => 0), zA t 5 (qq k 22) 8 (fun _ => none), zA t 5 (qq k 23) 16 (fun _ => none)] H := hP
  have hD : va_D A [zO 13 ma [.int 0, .int 0, .int 0, .int 0, .int 0, .int 0, .ref nb, .ref wy, .ref hd, .ref tk], zA t 7 nb 7 (fun j => some (qq j 0)), zO 9 (qq k 0) [.int (nI k), .int 1, .int 0, .int 0, .int 0, .int 0, .int (nI (8 + 3 * k)), .int ((-1)), .int 0, .int 0, .ref ((qq k 1)), .ref ((qq k 7)), .ref ((qq k 11)), .ref ((qq k 15)), .ref ((qq k 19)), .ref ((qq k 23)), .int 0], zO 11 (qq k 1) [.int 0, .ref ((qq k 2)), .ref ((qq k 3)), .ref ((qq k 4)), .ref ((qq k 5)), .ref ((qq k 6)), .int 1], zJ t (qq k 2) 32 (fun _ => 1099511627776), zJ t (qq k 3) 8 (fun _ => 0), zI t (qq k 4) 8 (fun _ => 0), zI t (qq k 5) 4 (xm 1), zI t (qq k 6) 4 (xm mk), zO 10 (qq k 7) [.ref ((qq k 8)), .ref ((qq k 9)), .ref ((qq k 10)), .int 0], zI t (qq k 8) 8 (fun _ => 0), zI t (qq k 9) 8 (fun _ => 0), zA t 5 (qq k 10) 8 (fun _ => none), zO 10 (qq k 11) [.ref ((qq k 12)), .ref ((qq k 13)), .ref ((qq k 14)), .int 0], zI t (qq k 12) 8 (fun _ => 0), zI t (qq k 13) 8 (fun _ => 0), zA t 5 (qq k 14) 8 (fun _ => none), zO 10 (qq k 15) [.ref ((qq k 16)), .ref ((qq k 17)), .ref ((qq k 18)), .int 0], zI t (qq k 16) 8 (fun _ => 0), zI t (qq k 17) 8 (fun _ => 0), zA t 5 (qq k 18) 8 (fun _ => none), zO 10 (qq k 19) [.ref ((qq k 20)), .ref ((qq k 21)), .ref ((qq k 22)), .int 0], zI t (qq k 20) 8 (fun _ => 0), zI t (qq k 21) 8 (fun _ => 0), zA t 5 (qq k 22) 8 (fun _ => none), zA t 5 (qq k 23) 16 (fun _ => none)] := hD
  refine lv_iload_n hx hb d_P_about_5 rfl (lv_at hl 1 rfl) ?_
  refine xr_call (xs_S (As := [.int (nI k)]) (rest := []) Z (C_P_noNode l D t k hk) m_P_noNode k_1217 k_1218 rfl rfl ⟨Nat.le_of_ble_eq_true rfl, Nat.le_of_ble_eq_true rfl⟩ (xr_pre hK (hP.sub [] rfl)) rfl hl.1 rfl (Nat.le_of_ble_eq_true rfl) d_P_about_6 ⟨Nat.le_of_ble_eq_true rfl, Nat.le_of_ble_eq_true rfl⟩) ?_
  refine lv_if_eq (tgt := 18) hx hb d_P_about_9 (by decide) (fun _ => ?_) (fun c_1 => absurd (by decide) c_1)
  refine lv_aload_n hx hb d_P_about_18 rfl (lv_at hl 0 rfl) ?_
  refine va_get (ci := 13) (C := "QuorumStoreModel") (T := TX13) (N := 10) hx hb hts inX13 hown hK.2 hP 0 rfl rfl 6 (by decide) (hts _ k_1001) (fun _ h9 => h9) rfl d_P_about_19 ?_
  refine lv_iload_n hx hb d_P_about_22 rfl (lv_at hl 1 rfl) ?_
  refine va_aldq hx hb hK.2 hP 1 7 rfl rfl (vp_in_nI hk (by decide)) d_P_about_23 ?_
  rw [nI_clamp (show k < 2 ^ 31 by omega)]
  refine lv_astore_n (lv' := [(3, .ref ((qq k 0))), (0, .ref ma), (1, .int (nI k)), (2, .int 6)]) hx hb d_P_about_24 rfl hl (by decide) rfl (fun ls hl => ?_)
  refine lv_iload_n hx hb d_P_about_25 rfl (lv_at hl 3 rfl) ?_
  refine lv_tableIn (off := 119) (tgt := 145) hx hb d_P_about_26 (by decide) (by decide) (by decide) (by decide) ?_
  refine lv_aload_n hx hb d_P_about_145 rfl (lv_at hl 0 rfl) ?_
  refine va_get (ci := 9) (C := "QuorumStoreModel$Node") (T := TX9) (N := 17) hx hb hts inX9 hown hK.2 hP 2 rfl rfl 10 (by decide) (hts _ k_944) (fun _ h9 => h9) rfl d_P_about_146 ?_
  refine lv_aload_n hx hb d_P_about_149 rfl (lv_at hl 0 rfl) ?_
  refine va_get (ci := 9) (C := "QuorumStoreModel$Node") (T := TX9) (N := 17) hx hb hts inX9 hown hK.2 hP 2 rfl rfl 10 (by decide) (hts _ k_944) (fun _ h9 => h9) rfl d_P_about_150 ?_
  refine va_get (ci := 11) (C := "QuorumStoreModel$State") (T := TX11) (N := 7) hx hb hts inX11 hown hK.2 hP 3 rfl rfl 0 (by decide) (hts _ k_860) (fun _ h9 => h9) rfl d_P_about_153 ?_
  refine lv_iconst (v := 1) hx hb d_P_about_156 (by decide) ?_
  refine lv_iadd hx hb d_P_about_157 ?_
  refine xr_call (xs_V (As := [.int ((0) + (1))]) (rest := []) Z (C_PS_config_I l D t (qq k 1) (qq k 2) (qq k 3) (qq k 4) (qq k 5) (qq k 6) _ _ _ _ _ _) m_PS_config_I k_1042 k_1043 k_1044 rfl rfl ⟨Nat.le_of_ble_eq_true rfl, Nat.le_of_ble_eq_true rfl⟩ (va_recv hK.2 hP (ci := 11) (q0 := 3) rfl rfl) (xr_pre hK (hP.sub [3, 4, 5, 6, 7, 8] rfl)) rfl hl.1 rfl (Nat.le_of_ble_eq_true rfl) d_P_about_158 ⟨Nat.le_of_ble_eq_true rfl, Nat.le_of_ble_eq_true rfl⟩) ?_
  have hP := hP.sub (ws' := [zO 13 ma [.int 0, .int 0, .int 0, .int 0, .int 0, .int 0, .ref nb, .ref wy, .ref hd, .ref tk]]) [0] rfl
  have hD := hD.sub (ws' := [zO 13 ma [.int 0, .int 0, .int 0, .int 0, .int 0, .int 0, .ref nb, .ref wy, .ref hd, .ref tk]]) [0] (by decide) rfl
  exact W.iret hx hb hr (fun t ht hW => ⟨⟨mk, (), rfl, rfl, by rw [ht]; exact hP, hD⟩, hS.F ht⟩) hS.2.2 d_P_about_161
theorem d_P_about_162 : decode c_P_about 162 = .ok (.aload_n 3, 1) := by decide +kernel
theorem d_P_about_163 : decode c_P_about 163 = .ok (.getfield 216, 3) := by decide +kernel
theorem d_P_about_166 : decode c_P_about 166 = .ok (.ireturn, 1) := by decide +kernel
set_option maxHeartbeats 4000000 in
set_option maxRecDepth 100000 in
/-- about 7 on a new object -/
theorem C_P_about_07 (l : Launch) (D : va_G) (t : Nat → ClassId) (ma nb wy hd tk : Nat) (th : Int32) (qq : Nat → Nat → Nat) (mk : Int32) (k : Nat) (hk : k < 7) : xe_C l D vwCl (xTY t) y_P_about c_P_about 4 (Option.some FieldType.int) ({ frames := 1, cells := 0, slots := 0, locals := 20 }) [.ref ma, .int (nI k), .int 7] [zO 13 ma [.int th, .int 0, .int 0, .int 0, .int 0, .int 0, .ref nb, .ref wy, .ref hd, .ref tk], zA t 7 nb 7 (fun j => some (qq j 0)), zO 9 (qq k 0) [.int (nI k), .int 1, .int 0, .int 0, .int 0, .int 0, .int (nI (8 + 3 * k)), .int ((-1)), .int 0, .int 0, .ref ((qq k 1)), .ref ((qq k 7)), .ref ((qq k 11)), .ref ((qq k 15)), .ref ((qq k 19)), .ref ((qq k 23)), .int 0], zO 11 (qq k 1) [.int 0, .ref ((qq k 2)), .ref ((qq k 3)), .ref ((qq k 4)), .ref ((qq k 5)), .ref ((qq k 6)), .int 1], zJ t (qq k 2) 32 (fun _ => 1099511627776), zJ t (qq k 3) 8 (fun _ => 0), zI t (qq k 4) 8 (fun _ => 0), zI t (qq k 5) 4 (xm 1), zI t (qq k 6) 4 (xm mk), zO 10 (qq k 7) [.ref ((qq k 8)), .ref ((qq k 9)), .ref ((qq k 10)), .int 0], zI t (qq k 8) 8 (fun _ => 0), zI t (qq k 9) 8 (fun _ => 0), zA t 5 (qq k 10) 8 (fun _ => none), zO 10 (qq k 11) [.ref ((qq k 12)), .ref ((qq k 13)), .ref ((qq k 14)), .int 0], zI t (qq k 12) 8 (fun _ => 0), zI t (qq k 13) 8 (fun _ => 0), zA t 5 (qq k 14) 8 (fun _ => none), zO 10 (qq k 15) [.ref ((qq k 16)), .ref ((qq k 17)), .ref ((qq k 18)), .int 0], zI t (qq k 16) 8 (fun _ => 0), zI t (qq k 17) 8 (fun _ => 0), zA t 5 (qq k 18) 8 (fun _ => none), zO 10 (qq k 19) [.ref ((qq k 20)), .ref ((qq k 21)), .ref ((qq k 22)), .int 0], zI t (qq k 20) 8 (fun _ => 0), zI t (qq k 21) 8 (fun _ => 0), zA t 5 (qq k 22) 8 (fun _ => none), zA t 5 (qq k 23) 16 (fun _ => none)] (xe_i D vwCl (fun (r : Int32) (_ : Unit) => r = (-1)) (fun _ => [zO 13 ma [.int 0, .int 0, .int 0, .int 0, .int 0, .int 0, .ref nb, .ref wy, .ref hd, .ref tk]])) 0 0 := by
  refine xe_of (by decide) (Nat.le_of_ble_eq_true rfl) ?_
  intro p e s m below meth c ls A Z hr hlocks hin hA hP hD hS hl
  obtain ⟨hx, hb, hml, hown, hK⟩ := id Z
  have hown : s.vm.findClass "QuorumStoreModel" = some m.cls := hown
  have hts := hK.1.at (args := ([.ref ma, .int (nI k), .int 7] : List Value).toArray)
  have hl : lv_has ls 4 [(0, .ref ma), (1, .int (nI k)), (2, .int 7)] := hl
  refine lv_aload_n hx hb d_P_about_0 rfl (lv_at hl 0 rfl) ?_
  refine lv_iconst (v := 0) hx hb d_P_about_1 (by decide) ?_
  refine va_put (ci := 13) (v := .int 0) (ty := tyX13 0) (C := "QuorumStoreModel") (T := TX13) (N := 10) hx hb hts inX13 tyX13 okX13 nmX13 hown hK.2 hP hD hS 0 rfl rfl 0 (by decide) (hts _ k_995) (fun _ h9 => h9) rfl (by decide +kernel) rfl rfl (Nat.le_of_ble_eq_true rfl) d_P_about_2 (fun H locs hP hD hS => ?_)
  have hP : va_P D vwCl [zO 13 ma [.int 0, .int 0, .int 0, .int 0, .int 0, .int 0, .ref nb, .ref wy, .ref hd, .ref tk], zA t 7 nb 7 (fun j => some (qq j 0)), zO 9 (qq k 0) [.int (nI k), .int 1, .int 0, .int 0, .int 0, .int 0, .int (nI (8 + 3 * k)), .int ((-1)), .int 0, .int 0, .ref ((qq k 1)), .ref ((qq k 7)), .ref ((qq k 11)), .ref ((qq k 15)), .ref ((qq k 19)), .ref ((qq k 23)), .int 0], zO 11 (qq k 1) [.int 0, .ref ((qq k 2)), .ref ((qq k 3)), .ref ((qq k 4)), .ref ((qq k 5)), .ref ((qq k 6)), .int 1], zJ t (qq k 2) 32 (fun _ => 1099511627776), zJ t (qq k 3) 8 (fun _ => 0), zI t (qq k 4) 8 (fun _ => 0), zI t (qq k 5) 4 (xm 1), zI t (qq k 6) 4 (xm mk), zO 10 (qq k 7) [.ref ((qq k 8)), .ref ((qq k 9)), .ref ((qq k 10)), .int 0], zI t (qq k 8) 8 (fun _ => 0), zI t (qq k 9) 8 (fun _ => 0), zA t 5 (qq k 10) 8 (fun _ => none), zO 10 (qq k 11) [.ref ((qq k 12)), .ref ((qq k 13)), .ref ((qq k 14)), .int 0], zI t (qq k 12) 8 (fun _ => 0), zI t (qq k 13) 8 (fun _ => 0), zA t 5 (qq k 14) 8 (fun _ => none), zO 10 (qq k 15) [.ref ((qq k 16)), .ref ((qq k 17)), .ref ((qq k 18)), .int 0], zI t (qq k 16) 8 (fun _ => 0), zI t (qq k 17) 8 (fun _ => 0), zA t 5 (qq k 18) 8 (fun _ => none), zO 10 (qq k 19) [.ref ((qq k 20)), .ref ((qq k 21)), .ref ((qq k 22)), .int 0], zI t (qq k 20) 8 (fun _ => 0), zI t (qq k 21) 8 (fun _ => 0), zA t 5 (qq k 22) 8 (fun _ => none), zA t 5 (qq k 23) 16 (fun _ => none)] H := hP
  have hD : va_D A [zO 13 ma [.int 0, .int 0, .int 0, .int 0, .int 0, .int 0, .ref nb, .ref wy, .ref hd, .ref tk], zA t 7 nb 7 (fun j => some (qq j 0)), zO 9 (qq k 0) [.int (nI k), .int 1, .int 0, .int 0, .int 0, .int 0, .int (nI (8 + 3 * k)), .int ((-1)), .int 0, .int 0, .ref ((qq k 1)), .ref ((qq k 7)), .ref ((qq k 11)), .ref ((qq k 15)), .ref ((qq k 19)), .ref ((qq k 23)), .int 0], zO 11 (qq k 1) [.int 0, .ref ((qq k 2)), .ref ((qq k 3)), .ref ((qq k 4)), .ref ((qq k 5)), .ref ((qq k 6)), .int 1], zJ t (qq k 2) 32 (fun _ => 1099511627776), zJ t (qq k 3) 8 (fun _ => 0), zI t (qq k 4) 8 (fun _ => 0), zI t (qq k 5) 4 (xm 1), zI t (qq k 6) 4 (xm mk), zO 10 (qq k 7) [.ref ((qq k 8)), .ref ((qq k 9)), .ref ((qq k 10)), .int 0], zI t (qq k 8) 8 (fun _ => 0), zI t (qq k 9) 8 (fun _ => 0), zA t 5 (qq k 10) 8 (fun _ => none), zO 10 (qq k 11) [.ref ((qq k 12)), .ref ((qq k 13)), .ref ((qq k 14)), .int 0], zI t (qq k 12) 8 (fun _ => 0), zI t (qq k 13) 8 (fun _ => 0), zA t 5 (qq k 14) 8 (fun _ => none), zO 10 (qq k 15) [.ref ((qq k 16)), .ref ((qq k 17)), .ref ((qq k 18)), .int 0], zI t (qq k 16) 8 (fun _ => 0), zI t (qq k 17) 8 (fun _ => 0), zA t 5 (qq k 18) 8 (fun _ => none), zO 10 (qq k 19) [.ref ((qq k 20)), .ref ((qq k 21)), .ref ((qq k 22)), .int 0], zI t (qq k 20) 8 (fun _ => 0), zI t (qq k 21) 8 (fun _ => 0), zA t 5 (qq k 22) 8 (fun _ => none), zA t 5 (qq k 23) 16 (fun _ => none)] := hD
  refine lv_iload_n hx hb d_P_about_5 rfl (lv_at hl 1 rfl) ?_
  refine xr_call (xs_S (As := [.int (nI k)]) (rest := []) Z (C_P_noNode l D t k hk) m_P_noNode k_1217 k_1218 rfl rfl ⟨Nat.le_of_ble_eq_true rfl, Nat.le_of_ble_eq_true rfl⟩ (xr_pre hK (hP.sub [] rfl)) rfl hl.1 rfl (Nat.le_of_ble_eq_true rfl) d_P_about_6 ⟨Nat.le_of_ble_eq_true rfl, Nat.le_of_ble_eq_true rfl⟩) ?_
  refine lv_if_eq (tgt := 18) hx hb d_P_about_9 (by decide) (fun _ => ?_) (fun c_1 => absurd (by decide) c_1)
  refine lv_aload_n hx hb d_P_about_18 rfl (lv_at hl 0 rfl) ?_
  refine va_get (ci := 13) (C := "QuorumStoreModel") (T := TX13) (N := 10) hx hb hts inX13 hown hK.2 hP 0 rfl rfl 6 (by decide) (hts _ k_1001) (fun _ h9 => h9) rfl d_P_about_19 ?_
  refine lv_iload_n hx hb d_P_about_22 rfl (lv_at hl 1 rfl) ?_
  refine va_aldq hx hb hK.2 hP 1 7 rfl rfl (vp_in_nI hk (by decide)) d_P_about_23 ?_
  rw [nI_clamp (show k < 2 ^ 31 by omega)]
  refine lv_astore_n (lv' := [(3, .ref ((qq k 0))), (0, .ref ma), (1, .int (nI k)), (2, .int 7)]) hx hb d_P_about_24 rfl hl (by decide) rfl (fun ls hl => ?_)
  refine lv_iload_n hx hb d_P_about_25 rfl (lv_at hl 3 rfl) ?_
  refine lv_tableIn (off := 136) (tgt := 162) hx hb d_P_about_26 (by decide) (by decide) (by decide) (by decide) ?_
  refine lv_aload_n hx hb d_P_about_162 rfl (lv_at hl 0 rfl) ?_
  refine va_get (ci := 9) (C := "QuorumStoreModel$Node") (T := TX9) (N := 17) hx hb hts inX9 hown hK.2 hP 2 rfl rfl 7 (by decide) (hts _ k_940) (fun _ h9 => h9) rfl d_P_about_163 ?_
  have hP := hP.sub (ws' := [zO 13 ma [.int 0, .int 0, .int 0, .int 0, .int 0, .int 0, .ref nb, .ref wy, .ref hd, .ref tk]]) [0] rfl
  have hD := hD.sub (ws' := [zO 13 ma [.int 0, .int 0, .int 0, .int 0, .int 0, .int 0, .ref nb, .ref wy, .ref hd, .ref tk]]) [0] (by decide) rfl
  exact W.iret hx hb hr (fun t ht hW => ⟨⟨(-1), (), rfl, rfl, by rw [ht]; exact hP, hD⟩, hS.F ht⟩) hS.2.2 d_P_about_166
theorem d_P_about_167 : decode c_P_about 167 = .ok (.aload_n 3, 1) := by decide +kernel
theorem d_P_about_168 : decode c_P_about 168 = .ok (.getfield 219, 3) := by decide +kernel
theorem d_P_about_171 : decode c_P_about 171 = .ok (.ireturn, 1) := by decide +kernel
set_option maxHeartbeats 4000000 in
set_option maxRecDepth 100000 in
/-- about 8 on a new object -/
theorem C_P_about_08 (l : Launch) (D : va_G) (t : Nat → ClassId) (ma nb wy hd tk : Nat) (th : Int32) (qq : Nat → Nat → Nat) (mk : Int32) (k : Nat) (hk : k < 7) : xe_C l D vwCl (xTY t) y_P_about c_P_about 4 (Option.some FieldType.int) ({ frames := 1, cells := 0, slots := 0, locals := 20 }) [.ref ma, .int (nI k), .int 8] [zO 13 ma [.int th, .int 0, .int 0, .int 0, .int 0, .int 0, .ref nb, .ref wy, .ref hd, .ref tk], zA t 7 nb 7 (fun j => some (qq j 0)), zO 9 (qq k 0) [.int (nI k), .int 1, .int 0, .int 0, .int 0, .int 0, .int (nI (8 + 3 * k)), .int ((-1)), .int 0, .int 0, .ref ((qq k 1)), .ref ((qq k 7)), .ref ((qq k 11)), .ref ((qq k 15)), .ref ((qq k 19)), .ref ((qq k 23)), .int 0], zO 11 (qq k 1) [.int 0, .ref ((qq k 2)), .ref ((qq k 3)), .ref ((qq k 4)), .ref ((qq k 5)), .ref ((qq k 6)), .int 1], zJ t (qq k 2) 32 (fun _ => 1099511627776), zJ t (qq k 3) 8 (fun _ => 0), zI t (qq k 4) 8 (fun _ => 0), zI t (qq k 5) 4 (xm 1), zI t (qq k 6) 4 (xm mk), zO 10 (qq k 7) [.ref ((qq k 8)), .ref ((qq k 9)), .ref ((qq k 10)), .int 0], zI t (qq k 8) 8 (fun _ => 0), zI t (qq k 9) 8 (fun _ => 0), zA t 5 (qq k 10) 8 (fun _ => none), zO 10 (qq k 11) [.ref ((qq k 12)), .ref ((qq k 13)), .ref ((qq k 14)), .int 0], zI t (qq k 12) 8 (fun _ => 0), zI t (qq k 13) 8 (fun _ => 0), zA t 5 (qq k 14) 8 (fun _ => none), zO 10 (qq k 15) [.ref ((qq k 16)), .ref ((qq k 17)), .ref ((qq k 18)), .int 0], zI t (qq k 16) 8 (fun _ => 0), zI t (qq k 17) 8 (fun _ => 0), zA t 5 (qq k 18) 8 (fun _ => none), zO 10 (qq k 19) [.ref ((qq k 20)), .ref ((qq k 21)), .ref ((qq k 22)), .int 0], zI t (qq k 20) 8 (fun _ => 0), zI t (qq k 21) 8 (fun _ => 0), zA t 5 (qq k 22) 8 (fun _ => none), zA t 5 (qq k 23) 16 (fun _ => none)] (xe_i D vwCl (fun (r : Int32) (_ : Unit) => r = nI (8 + 3 * k)) (fun _ => [zO 13 ma [.int 0, .int 0, .int 0, .int 0, .int 0, .int 0, .ref nb, .ref wy, .ref hd, .ref tk]])) 0 0 := by
  refine xe_of (by decide) (Nat.le_of_ble_eq_true rfl) ?_
  intro p e s m below meth c ls A Z hr hlocks hin hA hP hD hS hl
  obtain ⟨hx, hb, hml, hown, hK⟩ := id Z
  have hown : s.vm.findClass "QuorumStoreModel" = some m.cls := hown
  have hts := hK.1.at (args := ([.ref ma, .int (nI k), .int 8] : List Value).toArray)
  have hl : lv_has ls 4 [(0, .ref ma), (1, .int (nI k)), (2, .int 8)] := hl
  refine lv_aload_n hx hb d_P_about_0 rfl (lv_at hl 0 rfl) ?_
  refine lv_iconst (v := 0) hx hb d_P_about_1 (by decide) ?_
  refine va_put (ci := 13) (v := .int 0) (ty := tyX13 0) (C := "QuorumStoreModel") (T := TX13) (N := 10) hx hb hts inX13 tyX13 okX13 nmX13 hown hK.2 hP hD hS 0 rfl rfl 0 (by decide) (hts _ k_995) (fun _ h9 => h9) rfl (by decide +kernel) rfl rfl (Nat.le_of_ble_eq_true rfl) d_P_about_2 (fun H locs hP hD hS => ?_)
  have hP : va_P D vwCl [zO 13 ma [.int 0, .int 0, .int 0, .int 0, .int 0, .int 0, .ref nb, .ref wy, .ref hd, .ref tk], zA t 7 nb 7 (fun j => some (qq j 0)), zO 9 (qq k 0) [.int (nI k), .int 1, .int 0, .int 0, .int 0, .int 0, .int (nI (8 + 3 * k)), .int ((-1)), .int 0, .int 0, .ref ((qq k 1)), .ref ((qq k 7)), .ref ((qq k 11)), .ref ((qq k 15)), .ref ((qq k 19)), .ref ((qq k 23)), .int 0], zO 11 (qq k 1) [.int 0, .ref ((qq k 2)), .ref ((qq k 3)), .ref ((qq k 4)), .ref ((qq k 5)), .ref ((qq k 6)), .int 1], zJ t (qq k 2) 32 (fun _ => 1099511627776), zJ t (qq k 3) 8 (fun _ => 0), zI t (qq k 4) 8 (fun _ => 0), zI t (qq k 5) 4 (xm 1), zI t (qq k 6) 4 (xm mk), zO 10 (qq k 7) [.ref ((qq k 8)), .ref ((qq k 9)), .ref ((qq k 10)), .int 0], zI t (qq k 8) 8 (fun _ => 0), zI t (qq k 9) 8 (fun _ => 0), zA t 5 (qq k 10) 8 (fun _ => none), zO 10 (qq k 11) [.ref ((qq k 12)), .ref ((qq k 13)), .ref ((qq k 14)), .int 0], zI t (qq k 12) 8 (fun _ => 0), zI t (qq k 13) 8 (fun _ => 0), zA t 5 (qq k 14) 8 (fun _ => none), zO 10 (qq k 15) [.ref ((qq k 16)), .ref ((qq k 17)), .ref ((qq k 18)), .int 0], zI t (qq k 16) 8 (fun _ => 0), zI t (qq k 17) 8 (fun _ => 0), zA t 5 (qq k 18) 8 (fun _ => none), zO 10 (qq k 19) [.ref ((qq k 20)), .ref ((qq k 21)), .ref ((qq k 22)), .int 0], zI t (qq k 20) 8 (fun _ => 0), zI t (qq k 21) 8 (fun _ => 0), zA t 5 (qq k 22) 8 (fun _ => none), zA t 5 (qq k 23) 16 (fun _ => none)] H := hP
  have hD : va_D A [zO 13 ma [.int 0, .int 0, .int 0, .int 0, .int 0, .int 0, .ref nb, .ref wy, .ref hd, .ref tk], zA t 7 nb 7 (fun j => some (qq j 0)), zO 9 (qq k 0) [.int (nI k), .int 1, .int 0, .int 0, .int 0, .int 0, .int (nI (8 + 3 * k)), .int ((-1)), .int 0, .int 0, .ref ((qq k 1)), .ref ((qq k 7)), .ref ((qq k 11)), .ref ((qq k 15)), .ref ((qq k 19)), .ref ((qq k 23)), .int 0], zO 11 (qq k 1) [.int 0, .ref ((qq k 2)), .ref ((qq k 3)), .ref ((qq k 4)), .ref ((qq k 5)), .ref ((qq k 6)), .int 1], zJ t (qq k 2) 32 (fun _ => 1099511627776), zJ t (qq k 3) 8 (fun _ => 0), zI t (qq k 4) 8 (fun _ => 0), zI t (qq k 5) 4 (xm 1), zI t (qq k 6) 4 (xm mk), zO 10 (qq k 7) [.ref ((qq k 8)), .ref ((qq k 9)), .ref ((qq k 10)), .int 0], zI t (qq k 8) 8 (fun _ => 0), zI t (qq k 9) 8 (fun _ => 0), zA t 5 (qq k 10) 8 (fun _ => none), zO 10 (qq k 11) [.ref ((qq k 12)), .ref ((qq k 13)), .ref ((qq k 14)), .int 0], zI t (qq k 12) 8 (fun _ => 0), zI t (qq k 13) 8 (fun _ => 0), zA t 5 (qq k 14) 8 (fun _ => none), zO 10 (qq k 15) [.ref ((qq k 16)), .ref ((qq k 17)), .ref ((qq k 18)), .int 0], zI t (qq k 16) 8 (fun _ => 0), zI t (qq k 17) 8 (fun _ => 0), zA t 5 (qq k 18) 8 (fun _ => none), zO 10 (qq k 19) [.ref ((qq k 20)), .ref ((qq k 21)), .ref ((qq k 22)), .int 0], zI t (qq k 20) 8 (fun _ => 0), zI t (qq k 21) 8 (fun _ => 0), zA t 5 (qq k 22) 8 (fun _ => none), zA t 5 (qq k 23) 16 (fun _ => none)] := hD
  refine lv_iload_n hx hb d_P_about_5 rfl (lv_at hl 1 rfl) ?_
  refine xr_call (xs_S (As := [.int (nI k)]) (rest := []) Z (C_P_noNode l D t k hk) m_P_noNode k_1217 k_1218 rfl rfl ⟨Nat.le_of_ble_eq_true rfl, Nat.le_of_ble_eq_true rfl⟩ (xr_pre hK (hP.sub [] rfl)) rfl hl.1 rfl (Nat.le_of_ble_eq_true rfl) d_P_about_6 ⟨Nat.le_of_ble_eq_true rfl, Nat.le_of_ble_eq_true rfl⟩) ?_
  refine lv_if_eq (tgt := 18) hx hb d_P_about_9 (by decide) (fun _ => ?_) (fun c_1 => absurd (by decide) c_1)
  refine lv_aload_n hx hb d_P_about_18 rfl (lv_at hl 0 rfl) ?_
  refine va_get (ci := 13) (C := "QuorumStoreModel") (T := TX13) (N := 10) hx hb hts inX13 hown hK.2 hP 0 rfl rfl 6 (by decide) (hts _ k_1001) (fun _ h9 => h9) rfl d_P_about_19 ?_
  refine lv_iload_n hx hb d_P_about_22 rfl (lv_at hl 1 rfl) ?_
  refine va_aldq hx hb hK.2 hP 1 7 rfl rfl (vp_in_nI hk (by decide)) d_P_about_23 ?_
  rw [nI_clamp (show k < 2 ^ 31 by omega)]
  refine lv_astore_n (lv' := [(3, .ref ((qq k 0))), (0, .ref ma), (1, .int (nI k)), (2, .int 8)]) hx hb d_P_about_24 rfl hl (by decide) rfl (fun ls hl => ?_)
  refine lv_iload_n hx hb d_P_about_25 rfl (lv_at hl 3 rfl) ?_
  refine lv_tableIn (off := 141) (tgt := 167) hx hb d_P_about_26 (by decide) (by decide) (by decide) (by decide) ?_
  refine lv_aload_n hx hb d_P_about_167 rfl (lv_at hl 0 rfl) ?_
  refine va_get (ci := 9) (C := "QuorumStoreModel$Node") (T := TX9) (N := 17) hx hb hts inX9 hown hK.2 hP 2 rfl rfl 6 (by decide) (hts _ k_938) (fun _ h9 => h9) rfl d_P_about_168 ?_
  have hP := hP.sub (ws' := [zO 13 ma [.int 0, .int 0, .int 0, .int 0, .int 0, .int 0, .ref nb, .ref wy, .ref hd, .ref tk]]) [0] rfl
  have hD := hD.sub (ws' := [zO 13 ma [.int 0, .int 0, .int 0, .int 0, .int 0, .int 0, .ref nb, .ref wy, .ref hd, .ref tk]]) [0] (by decide) rfl
  exact W.iret hx hb hr (fun t ht hW => ⟨⟨nI (8 + 3 * k), (), rfl, rfl, by rw [ht]; exact hP, hD⟩, hS.F ht⟩) hS.2.2 d_P_about_171
theorem d_P_about_172 : decode c_P_about 172 = .ok (.aload_n 3, 1) := by decide +kernel
theorem d_P_about_173 : decode c_P_about 173 = .ok (.getfield 173, 3) := by decide +kernel
theorem d_P_about_176 : decode c_P_about 176 = .ok (.ifCond .eq 10, 3) := by decide +kernel
theorem d_P_about_186 : decode c_P_about 186 = .ok (.iconst 0, 1) := by decide +kernel
theorem d_P_about_187 : decode c_P_about 187 = .ok (.ireturn, 1) := by decide +kernel
set_option maxHeartbeats 4000000 in
set_option maxRecDepth 100000 in
/-- about 9 on a new object -/
theorem C_P_about_09 (l : Launch) (D : va_G) (t : Nat → ClassId) (ma nb wy hd tk : Nat) (th : Int32) (qq : Nat → Nat → Nat) (mk : Int32) (k : Nat) (hk : k < 7) : xe_C l D vwCl (xTY t) y_P_about c_P_about 4 (Option.some FieldType.int) ({ frames := 1, cells := 0, slots := 0, locals := 20 }) [.ref ma, .int (nI k), .int 9] [zO 13 ma [.int th, .int 0, .int 0, .int 0, .int 0, .int 0, .ref nb, .ref wy, .ref hd, .ref tk], zA t 7 nb 7 (fun j => some (qq j 0)), zO 9 (qq k 0) [.int (nI k), .int 1, .int 0, .int 0, .int 0, .int 0, .int (nI (8 + 3 * k)), .int ((-1)), .int 0, .int 0, .ref ((qq k 1)), .ref ((qq k 7)), .ref ((qq k 11)), .ref ((qq k 15)), .ref ((qq k 19)), .ref ((qq k 23)), .int 0], zO 11 (qq k 1) [.int 0, .ref ((qq k 2)), .ref ((qq k 3)), .ref ((qq k 4)), .ref ((qq k 5)), .ref ((qq k 6)), .int 1], zJ t (qq k 2) 32 (fun _ => 1099511627776), zJ t (qq k 3) 8 (fun _ => 0), zI t (qq k 4) 8 (fun _ => 0), zI t (qq k 5) 4 (xm 1), zI t (qq k 6) 4 (xm mk), zO 10 (qq k 7) [.ref ((qq k 8)), .ref ((qq k 9)), .ref ((qq k 10)), .int 0], zI t (qq k 8) 8 (fun _ => 0), zI t (qq k 9) 8 (fun _ => 0), zA t 5 (qq k 10) 8 (fun _ => none), zO 10 (qq k 11) [.ref ((qq k 12)), .ref ((qq k 13)), .ref ((qq k 14)), .int 0], zI t (qq k 12) 8 (fun _ => 0), zI t (qq k 13) 8 (fun _ => 0), zA t 5 (qq k 14) 8 (fun _ => none), zO 10 (qq k 15) [.ref ((qq k 16)), .ref ((qq k 17)), .ref ((qq k 18)), .int 0], zI t (qq k 16) 8 (fun _ => 0), zI t (qq k 17) 8 (fun _ => 0), zA t 5 (qq k 18) 8 (fun _ => none), zO 10 (qq k 19) [.ref ((qq k 20)), .ref ((qq k 21)), .ref ((qq k 22)), .int 0], zI t (qq k 20) 8 (fun _ => 0), zI t (qq k 21) 8 (fun _ => 0), zA t 5 (qq k 22) 8 (fun _ => none), zA t 5 (qq k 23) 16 (fun _ => none)] (xe_i D vwCl (fun (r : Int32) (_ : Unit) => r = 0) (fun _ => [zO 13 ma [.int 0, .int 0, .int 0, .int 0, .int 0, .int 0, .ref nb, .ref wy, .ref hd, .ref tk]])) 0 0 := by
  refine xe_of (by decide) (Nat.le_of_ble_eq_true rfl) ?_
  intro p e s m below meth c ls A Z hr hlocks hin hA hP hD hS hl
  obtain ⟨hx, hb, hml, hown, hK⟩ := id Z
  have hown : s.vm.findClass "QuorumStoreModel" = some m.cls := hown
  have hts := hK.1.at (args := ([.ref ma, .int (nI k), .int 9] : List Value).toArray)
  have hl : lv_has ls 4 [(0, .ref ma), (1, .int (nI k)), (2, .int 9)] := hl
  refine lv_aload_n hx hb d_P_about_0 rfl (lv_at hl 0 rfl) ?_
  refine lv_iconst (v := 0) hx hb d_P_about_1 (by decide) ?_
  refine va_put (ci := 13) (v := .int 0) (ty := tyX13 0) (C := "QuorumStoreModel") (T := TX13) (N := 10) hx hb hts inX13 tyX13 okX13 nmX13 hown hK.2 hP hD hS 0 rfl rfl 0 (by decide) (hts _ k_995) (fun _ h9 => h9) rfl (by decide +kernel) rfl rfl (Nat.le_of_ble_eq_true rfl) d_P_about_2 (fun H locs hP hD hS => ?_)
  have hP : va_P D vwCl [zO 13 ma [.int 0, .int 0, .int 0, .int 0, .int 0, .int 0, .ref nb, .ref wy, .ref hd, .ref tk], zA t 7 nb 7 (fun j => some (qq j 0)), zO 9 (qq k 0) [.int (nI k), .int 1, .int 0, .int 0, .int 0, .int 0, .int (nI (8 + 3 * k)), .int ((-1)), .int 0, .int 0, .ref ((qq k 1)), .ref ((qq k 7)), .ref ((qq k 11)), .ref ((qq k 15)), .ref ((qq k 19)), .ref ((qq k 23)), .int 0], zO 11 (qq k 1) [.int 0, .ref ((qq k 2)), .ref ((qq k 3)), .ref ((qq k 4)), .ref ((qq k 5)), .ref ((qq k 6)), .int 1], zJ t (qq k 2) 32 (fun _ => 1099511627776), zJ t (qq k 3) 8 (fun _ => 0), zI t (qq k 4) 8 (fun _ => 0), zI t (qq k 5) 4 (xm 1), zI t (qq k 6) 4 (xm mk), zO 10 (qq k 7) [.ref ((qq k 8)), .ref ((qq k 9)), .ref ((qq k 10)), .int 0], zI t (qq k 8) 8 (fun _ => 0), zI t (qq k 9) 8 (fun _ => 0), zA t 5 (qq k 10) 8 (fun _ => none), zO 10 (qq k 11) [.ref ((qq k 12)), .ref ((qq k 13)), .ref ((qq k 14)), .int 0], zI t (qq k 12) 8 (fun _ => 0), zI t (qq k 13) 8 (fun _ => 0), zA t 5 (qq k 14) 8 (fun _ => none), zO 10 (qq k 15) [.ref ((qq k 16)), .ref ((qq k 17)), .ref ((qq k 18)), .int 0], zI t (qq k 16) 8 (fun _ => 0), zI t (qq k 17) 8 (fun _ => 0), zA t 5 (qq k 18) 8 (fun _ => none), zO 10 (qq k 19) [.ref ((qq k 20)), .ref ((qq k 21)), .ref ((qq k 22)), .int 0], zI t (qq k 20) 8 (fun _ => 0), zI t (qq k 21) 8 (fun _ => 0), zA t 5 (qq k 22) 8 (fun _ => none), zA t 5 (qq k 23) 16 (fun _ => none)] H := hP
  have hD : va_D A [zO 13 ma [.int 0, .int 0, .int 0, .int 0, .int 0, .int 0, .ref nb, .ref wy, .ref hd, .ref tk], zA t 7 nb 7 (fun j => some (qq j 0)), zO 9 (qq k 0) [.int (nI k), .int 1, .int 0, .int 0, .int 0, .int 0, .int (nI (8 + 3 * k)), .int ((-1)), .int 0, .int 0, .ref ((qq k 1)), .ref ((qq k 7)), .ref ((qq k 11)), .ref ((qq k 15)), .ref ((qq k 19)), .ref ((qq k 23)), .int 0], zO 11 (qq k 1) [.int 0, .ref ((qq k 2)), .ref ((qq k 3)), .ref ((qq k 4)), .ref ((qq k 5)), .ref ((qq k 6)), .int 1], zJ t (qq k 2) 32 (fun _ => 1099511627776), zJ t (qq k 3) 8 (fun _ => 0), zI t (qq k 4) 8 (fun _ => 0), zI t (qq k 5) 4 (xm 1), zI t (qq k 6) 4 (xm mk), zO 10 (qq k 7) [.ref ((qq k 8)), .ref ((qq k 9)), .ref ((qq k 10)), .int 0], zI t (qq k 8) 8 (fun _ => 0), zI t (qq k 9) 8 (fun _ => 0), zA t 5 (qq k 10) 8 (fun _ => none), zO 10 (qq k 11) [.ref ((qq k 12)), .ref ((qq k 13)), .ref ((qq k 14)), .int 0], zI t (qq k 12) 8 (fun _ => 0), zI t (qq k 13) 8 (fun _ => 0), zA t 5 (qq k 14) 8 (fun _ => none), zO 10 (qq k 15) [.ref ((qq k 16)), .ref ((qq k 17)), .ref ((qq k 18)), .int 0], zI t (qq k 16) 8 (fun _ => 0), zI t (qq k 17) 8 (fun _ => 0), zA t 5 (qq k 18) 8 (fun _ => none), zO 10 (qq k 19) [.ref ((qq k 20)), .ref ((qq k 21)), .ref ((qq k 22)), .int 0], zI t (qq k 20) 8 (fun _ => 0), zI t (qq k 21) 8 (fun _ => 0), zA t 5 (qq k 22) 8 (fun _ => none), zA t 5 (qq k 23) 16 (fun _ => none)] := hD
  refine lv_iload_n hx hb d_P_about_5 rfl (lv_at hl 1 rfl) ?_
  refine xr_call (xs_S (As := [.int (nI k)]) (rest := []) Z (C_P_noNode l D t k hk) m_P_noNode k_1217 k_1218 rfl rfl ⟨Nat.le_of_ble_eq_true rfl, Nat.le_of_ble_eq_true rfl⟩ (xr_pre hK (hP.sub [] rfl)) rfl hl.1 rfl (Nat.le_of_ble_eq_true rfl) d_P_about_6 ⟨Nat.le_of_ble_eq_true rfl, Nat.le_of_ble_eq_true rfl⟩) ?_
  refine lv_if_eq (tgt := 18) hx hb d_P_about_9 (by decide) (fun _ => ?_) (fun c_1 => absurd (by decide) c_1)
  refine lv_aload_n hx hb d_P_about_18 rfl (lv_at hl 0 rfl) ?_
  refine va_get (ci := 13) (C := "QuorumStoreModel") (T := TX13) (N := 10) hx hb hts inX13 hown hK.2 hP 0 rfl rfl 6 (by decide) (hts _ k_1001) (fun _ h9 => h9) rfl d_P_about_19 ?_
  refine lv_iload_n hx hb d_P_about_22 rfl (lv_at hl 1 rfl) ?_
  refine va_aldq hx hb hK.2 hP 1 7 rfl rfl (vp_in_nI hk (by decide)) d_P_about_23 ?_
  rw [nI_clamp (show k < 2 ^ 31 by omega)]
  refine lv_astore_n (lv' := [(3, .ref ((qq k 0))), (0, .ref ma), (1, .int (nI k)), (2, .int 9)]) hx hb d_P_about_24 rfl hl (by decide) rfl (fun ls hl => ?_)
  refine lv_iload_n hx hb d_P_about_25 rfl (lv_at hl 3 rfl) ?_
  refine lv_tableIn (off := 146) (tgt := 172) hx hb d_P_about_26 (by decide) (by decide) (by decide) (by decide) ?_
  refine lv_aload_n hx hb d_P_about_172 rfl (lv_at hl 0 rfl) ?_
  refine va_get (ci := 9) (C := "QuorumStoreModel$Node") (T := TX9) (N := 17) hx hb hts inX9 hown hK.2 hP 2 rfl rfl 2 (by decide) (hts _ k_933) (fun _ h9 => h9) rfl d_P_about_173 ?_
  refine lv_if_eq (tgt := 186) hx hb d_P_about_176 (by decide) (fun _ => ?_) (fun c_2 => absurd (by decide) c_2)
  refine lv_iconst (v := 0) hx hb d_P_about_186 (by decide) ?_
  have hP := hP.sub (ws' := [zO 13 ma [.int 0, .int 0, .int 0, .int 0, .int 0, .int 0, .ref nb, .ref wy, .ref hd, .ref tk]]) [0] rfl
  have hD := hD.sub (ws' := [zO 13 ma [.int 0, .int 0, .int 0, .int 0, .int 0, .int 0, .ref nb, .ref wy, .ref hd, .ref tk]]) [0] (by decide) rfl
  exact W.iret hx hb hr (fun t ht hW => ⟨⟨0, (), rfl, rfl, by rw [ht]; exact hP, hD⟩, hS.F ht⟩) hS.2.2 d_P_about_187
theorem d_P_about_188 : decode c_P_about 188 = .ok (.aload_n 3, 1) := by decide +kernel
theorem d_P_about_189 : decode c_P_about 189 = .ok (.getfield 173, 3) := by decide +kernel
theorem d_P_about_192 : decode c_P_about 192 = .ok (.ifCond .eq 10, 3) := by decide +kernel
theorem d_P_about_202 : decode c_P_about 202 = .ok (.iconst 0, 1) := by decide +kernel
theorem d_P_about_203 : decode c_P_about 203 = .ok (.ireturn, 1) := by decide +kernel
set_option maxHeartbeats 4000000 in
set_option maxRecDepth 100000 in
/-- about 10 on a new object -/
theorem C_P_about_010 (l : Launch) (D : va_G) (t : Nat → ClassId) (ma nb wy hd tk : Nat) (th : Int32) (qq : Nat → Nat → Nat) (mk : Int32) (k : Nat) (hk : k < 7) : xe_C l D vwCl (xTY t) y_P_about c_P_about 4 (Option.some FieldType.int) ({ frames := 1, cells := 0, slots := 0, locals := 20 }) [.ref ma, .int (nI k), .int 10] [zO 13 ma [.int th, .int 0, .int 0, .int 0, .int 0, .int 0, .ref nb, .ref wy, .ref hd, .ref tk], zA t 7 nb 7 (fun j => some (qq j 0)), zO 9 (qq k 0) [.int (nI k), .int 1, .int 0, .int 0, .int 0, .int 0, .int (nI (8 + 3 * k)), .int ((-1)), .int 0, .int 0, .ref ((qq k 1)), .ref ((qq k 7)), .ref ((qq k 11)), .ref ((qq k 15)), .ref ((qq k 19)), .ref ((qq k 23)), .int 0], zO 11 (qq k 1) [.int 0, .ref ((qq k 2)), .ref ((qq k 3)), .ref ((qq k 4)), .ref ((qq k 5)), .ref ((qq k 6)), .int 1], zJ t (qq k 2) 32 (fun _ => 1099511627776), zJ t (qq k 3) 8 (fun _ => 0), zI t (qq k 4) 8 (fun _ => 0), zI t (qq k 5) 4 (xm 1), zI t (qq k 6) 4 (xm mk), zO 10 (qq k 7) [.ref ((qq k 8)), .ref ((qq k 9)), .ref ((qq k 10)), .int 0], zI t (qq k 8) 8 (fun _ => 0), zI t (qq k 9) 8 (fun _ => 0), zA t 5 (qq k 10) 8 (fun _ => none), zO 10 (qq k 11) [.ref ((qq k 12)), .ref ((qq k 13)), .ref ((qq k 14)), .int 0], zI t (qq k 12) 8 (fun _ => 0), zI t (qq k 13) 8 (fun _ => 0), zA t 5 (qq k 14) 8 (fun _ => none), zO 10 (qq k 15) [.ref ((qq k 16)), .ref ((qq k 17)), .ref ((qq k 18)), .int 0], zI t (qq k 16) 8 (fun _ => 0), zI t (qq k 17) 8 (fun _ => 0), zA t 5 (qq k 18) 8 (fun _ => none), zO 10 (qq k 19) [.ref ((qq k 20)), .ref ((qq k 21)), .ref ((qq k 22)), .int 0], zI t (qq k 20) 8 (fun _ => 0), zI t (qq k 21) 8 (fun _ => 0), zA t 5 (qq k 22) 8 (fun _ => none), zA t 5 (qq k 23) 16 (fun _ => none)] (xe_i D vwCl (fun (r : Int32) (_ : Unit) => r = 0) (fun _ => [zO 13 ma [.int 0, .int 0, .int 0, .int 0, .int 0, .int 0, .ref nb, .ref wy, .ref hd, .ref tk]])) 0 0 := by
  refine xe_of (by decide) (Nat.le_of_ble_eq_true rfl) ?_
  intro p e s m below meth c ls A Z hr hlocks hin hA hP hD hS hl
  obtain ⟨hx, hb, hml, hown, hK⟩ := id Z
  have hown : s.vm.findClass "QuorumStoreModel" = some m.cls := hown
  have hts := hK.1.at (args := ([.ref ma, .int (nI k), .int 10] : List Value).toArray)
  have hl : lv_has ls 4 [(0, .ref ma), (1, .int (nI k)), (2, .int 10)] := hl
  refine lv_aload_n hx hb d_P_about_0 rfl (lv_at hl 0 rfl) ?_
  refine lv_iconst (v := 0) hx hb d_P_about_1 (by decide) ?_
  refine va_put (ci := 13) (v := .int 0) (ty := tyX13 0) (C := "QuorumStoreModel") (T := TX13) (N := 10) hx hb hts inX13 tyX13 okX13 nmX13 hown hK.2 hP hD hS 0 rfl rfl 0 (by decide) (hts _ k_995) (fun _ h9 => h9) rfl (by decide +kernel) rfl rfl (Nat.le_of_ble_eq_true rfl) d_P_about_2 (fun H locs hP hD hS => ?_)
  have hP : va_P D vwCl [zO 13 ma [.int 0, .int 0, .int 0, .int 0, .int 0, .int 0, .ref nb, .ref wy, .ref hd, .ref tk], zA t 7 nb 7 (fun j => some (qq j 0)), zO 9 (qq k 0) [.int (nI k), .int 1, .int 0, .int 0, .int 0, .int 0, .int (nI (8 + 3 * k)), .int ((-1)), .int 0, .int 0, .ref ((qq k 1)), .ref ((qq k 7)), .ref ((qq k 11)), .ref ((qq k 15)), .ref ((qq k 19)), .ref ((qq k 23)), .int 0], zO 11 (qq k 1) [.int 0, .ref ((qq k 2)), .ref ((qq k 3)), .ref ((qq k 4)), .ref ((qq k 5)), .ref ((qq k 6)), .int 1], zJ t (qq k 2) 32 (fun _ => 1099511627776), zJ t (qq k 3) 8 (fun _ => 0), zI t (qq k 4) 8 (fun _ => 0), zI t (qq k 5) 4 (xm 1), zI t (qq k 6) 4 (xm mk), zO 10 (qq k 7) [.ref ((qq k 8)), .ref ((qq k 9)), .ref ((qq k 10)), .int 0], zI t (qq k 8) 8 (fun _ => 0), zI t (qq k 9) 8 (fun _ => 0), zA t 5 (qq k 10) 8 (fun _ => none), zO 10 (qq k 11) [.ref ((qq k 12)), .ref ((qq k 13)), .ref ((qq k 14)), .int 0], zI t (qq k 12) 8 (fun _ => 0), zI t (qq k 13) 8 (fun _ => 0), zA t 5 (qq k 14) 8 (fun _ => none), zO 10 (qq k 15) [.ref ((qq k 16)), .ref ((qq k 17)), .ref ((qq k 18)), .int 0], zI t (qq k 16) 8 (fun _ => 0), zI t (qq k 17) 8 (fun _ => 0), zA t 5 (qq k 18) 8 (fun _ => none), zO 10 (qq k 19) [.ref ((qq k 20)), .ref ((qq k 21)), .ref ((qq k 22)), .int 0], zI t (qq k 20) 8 (fun _ => 0), zI t (qq k 21) 8 (fun _ => 0), zA t 5 (qq k 22) 8 (fun _ => none), zA t 5 (qq k 23) 16 (fun _ => none)] H := hP
  have hD : va_D A [zO 13 ma [.int 0, .int 0, .int 0, .int 0, .int 0, .int 0, .ref nb, .ref wy, .ref hd, .ref tk], zA t 7 nb 7 (fun j => some (qq j 0)), zO 9 (qq k 0) [.int (nI k), .int 1, .int 0, .int 0, .int 0, .int 0, .int (nI (8 + 3 * k)), .int ((-1)), .int 0, .int 0, .ref ((qq k 1)), .ref ((qq k 7)), .ref ((qq k 11)), .ref ((qq k 15)), .ref ((qq k 19)), .ref ((qq k 23)), .int 0], zO 11 (qq k 1) [.int 0, .ref ((qq k 2)), .ref ((qq k 3)), .ref ((qq k 4)), .ref ((qq k 5)), .ref ((qq k 6)), .int 1], zJ t (qq k 2) 32 (fun _ => 1099511627776), zJ t (qq k 3) 8 (fun _ => 0), zI t (qq k 4) 8 (fun _ => 0), zI t (qq k 5) 4 (xm 1), zI t (qq k 6) 4 (xm mk), zO 10 (qq k 7) [.ref ((qq k 8)), .ref ((qq k 9)), .ref ((qq k 10)), .int 0], zI t (qq k 8) 8 (fun _ => 0), zI t (qq k 9) 8 (fun _ => 0), zA t 5 (qq k 10) 8 (fun _ => none), zO 10 (qq k 11) [.ref ((qq k 12)), .ref ((qq k 13)), .ref ((qq k 14)), .int 0], zI t (qq k 12) 8 (fun _ => 0), zI t (qq k 13) 8 (fun _ => 0), zA t 5 (qq k 14) 8 (fun _ => none), zO 10 (qq k 15) [.ref ((qq k 16)), .ref ((qq k 17)), .ref ((qq k 18)), .int 0], zI t (qq k 16) 8 (fun _ => 0), zI t (qq k 17) 8 (fun _ => 0), zA t 5 (qq k 18) 8 (fun _ => none), zO 10 (qq k 19) [.ref ((qq k 20)), .ref ((qq k 21)), .ref ((qq k 22)), .int 0], zI t (qq k 20) 8 (fun _ => 0), zI t (qq k 21) 8 (fun _ => 0), zA t 5 (qq k 22) 8 (fun _ => none), zA t 5 (qq k 23) 16 (fun _ => none)] := hD
  refine lv_iload_n hx hb d_P_about_5 rfl (lv_at hl 1 rfl) ?_
  refine xr_call (xs_S (As := [.int (nI k)]) (rest := []) Z (C_P_noNode l D t k hk) m_P_noNode k_1217 k_1218 rfl rfl ⟨Nat.le_of_ble_eq_true rfl, Nat.le_of_ble_eq_true rfl⟩ (xr_pre hK (hP.sub [] rfl)) rfl hl.1 rfl (Nat.le_of_ble_eq_true rfl) d_P_about_6 ⟨Nat.le_of_ble_eq_true rfl, Nat.le_of_ble_eq_true rfl⟩) ?_
  refine lv_if_eq (tgt := 18) hx hb d_P_about_9 (by decide) (fun _ => ?_) (fun c_1 => absurd (by decide) c_1)
  refine lv_aload_n hx hb d_P_about_18 rfl (lv_at hl 0 rfl) ?_
  refine va_get (ci := 13) (C := "QuorumStoreModel") (T := TX13) (N := 10) hx hb hts inX13 hown hK.2 hP 0 rfl rfl 6 (by decide) (hts _ k_1001) (fun _ h9 => h9) rfl d_P_about_19 ?_
  refine lv_iload_n hx hb d_P_about_22 rfl (lv_at hl 1 rfl) ?_
  refine va_aldq hx hb hK.2 hP 1 7 rfl rfl (vp_in_nI hk (by decide)) d_P_about_23 ?_
  rw [nI_clamp (show k < 2 ^ 31 by omega)]
  refine lv_astore_n (lv' := [(3, .ref ((qq k 0))), (0, .ref ma), (1, .int (nI k)), (2, .int 10)]) hx hb d_P_about_24 rfl hl (by decide) rfl (fun ls hl => ?_)
  refine lv_iload_n hx hb d_P_about_25 rfl (lv_at hl 3 rfl) ?_
  refine lv_tableIn (off := 162) (tgt := 188) hx hb d_P_about_26 (by decide) (by decide) (by decide) (by decide) ?_
  refine lv_aload_n hx hb d_P_about_188 rfl (lv_at hl 0 rfl) ?_
  refine va_get (ci := 9) (C := "QuorumStoreModel$Node") (T := TX9) (N := 17) hx hb hts inX9 hown hK.2 hP 2 rfl rfl 2 (by decide) (hts _ k_933) (fun _ h9 => h9) rfl d_P_about_189 ?_
  refine lv_if_eq (tgt := 202) hx hb d_P_about_192 (by decide) (fun _ => ?_) (fun c_2 => absurd (by decide) c_2)
  refine lv_iconst (v := 0) hx hb d_P_about_202 (by decide) ?_
  have hP := hP.sub (ws' := [zO 13 ma [.int 0, .int 0, .int 0, .int 0, .int 0, .int 0, .ref nb, .ref wy, .ref hd, .ref tk]]) [0] rfl
  have hD := hD.sub (ws' := [zO 13 ma [.int 0, .int 0, .int 0, .int 0, .int 0, .int 0, .ref nb, .ref wy, .ref hd, .ref tk]]) [0] (by decide) rfl
  exact W.iret hx hb hr (fun t ht hW => ⟨⟨0, (), rfl, rfl, by rw [ht]; exact hP, hD⟩, hS.F ht⟩) hS.2.2 d_P_about_203
theorem d_P_about_204 : decode c_P_about 204 = .ok (.aload_n 3, 1) := by decide +kernel
theorem d_P_about_205 : decode c_P_about 205 = .ok (.getfield 173, 3) := by decide +kernel
theorem d_P_about_208 : decode c_P_about 208 = .ok (.ifCond .eq 13, 3) := by decide +kernel
theorem d_P_about_221 : decode c_P_about 221 = .ok (.iconst 0, 1) := by decide +kernel
theorem d_P_about_222 : decode c_P_about 222 = .ok (.ireturn, 1) := by decide +kernel
set_option maxHeartbeats 4000000 in
set_option maxRecDepth 100000 in
/-- about 11 on a new object -/
theorem C_P_about_011 (l : Launch) (D : va_G) (t : Nat → ClassId) (ma nb wy hd tk : Nat) (th : Int32) (qq : Nat → Nat → Nat) (mk : Int32) (k : Nat) (hk : k < 7) : xe_C l D vwCl (xTY t) y_P_about c_P_about 4 (Option.some FieldType.int) ({ frames := 1, cells := 0, slots := 0, locals := 20 }) [.ref ma, .int (nI k), .int 11] [zO 13 ma [.int th, .int 0, .int 0, .int 0, .int 0, .int 0, .ref nb, .ref wy, .ref hd, .ref tk], zA t 7 nb 7 (fun j => some (qq j 0)), zO 9 (qq k 0) [.int (nI k), .int 1, .int 0, .int 0, .int 0, .int 0, .int (nI (8 + 3 * k)), .int ((-1)), .int 0, .int 0, .ref ((qq k 1)), .ref ((qq k 7)), .ref ((qq k 11)), .ref ((qq k 15)), .ref ((qq k 19)), .ref ((qq k 23)), .int 0], zO 11 (qq k 1) [.int 0, .ref ((qq k 2)), .ref ((qq k 3)), .ref ((qq k 4)), .ref ((qq k 5)), .ref ((qq k 6)), .int 1], zJ t (qq k 2) 32 (fun _ => 1099511627776), zJ t (qq k 3) 8 (fun _ => 0), zI t (qq k 4) 8 (fun _ => 0), zI t (qq k 5) 4 (xm 1), zI t (qq k 6) 4 (xm mk), zO 10 (qq k 7) [.ref ((qq k 8)), .ref ((qq k 9)), .ref ((qq k 10)), .int 0], zI t (qq k 8) 8 (fun _ => 0), zI t (qq k 9) 8 (fun _ => 0), zA t 5 (qq k 10) 8 (fun _ => none), zO 10 (qq k 11) [.ref ((qq k 12)), .ref ((qq k 13)), .ref ((qq k 14)), .int 0], zI t (qq k 12) 8 (fun _ => 0), zI t (qq k 13) 8 (fun _ => 0), zA t 5 (qq k 14) 8 (fun _ => none), zO 10 (qq k 15) [.ref ((qq k 16)), .ref ((qq k 17)), .ref ((qq k 18)), .int 0], zI t (qq k 16) 8 (fun _ => 0), zI t (qq k 17) 8 (fun _ => 0), zA t 5 (qq k 18) 8 (fun _ => none), zO 10 (qq k 19) [.ref ((qq k 20)), .ref ((qq k 21)), .ref ((qq k 22)), .int 0], zI t (qq k 20) 8 (fun _ => 0), zI t (qq k 21) 8 (fun _ => 0), zA t 5 (qq k 22) 8 (fun _ => none), zA t 5 (qq k 23) 16 (fun _ => none)] (xe_i D vwCl (fun (r : Int32) (_ : Unit) => r = 0) (fun _ => [zO 13 ma [.int 0, .int 0, .int 0, .int 0, .int 0, .int 0, .ref nb, .ref wy, .ref hd, .ref tk]])) 0 0 := by
  refine xe_of (by decide) (Nat.le_of_ble_eq_true rfl) ?_
  intro p e s m below meth c ls A Z hr hlocks hin hA hP hD hS hl
  obtain ⟨hx, hb, hml, hown, hK⟩ := id Z
  have hown : s.vm.findClass "QuorumStoreModel" = some m.cls := hown
  have hts := hK.1.at (args := ([.ref ma, .int (nI k), .int 11] : List Value).toArray)
  have hl : lv_has ls 4 [(0, .ref ma), (1, .int (nI k)), (2, .int 11)] := hl
  refine lv_aload_n hx hb d_P_about_0 rfl (lv_at hl 0 rfl) ?_
  refine lv_iconst (v := 0) hx hb d_P_about_1 (by decide) ?_
  refine va_put (ci := 13) (v := .int 0) (ty := tyX13 0) (C := "QuorumStoreModel") (T := TX13) (N := 10) hx hb hts inX13 tyX13 okX13 nmX13 hown hK.2 hP hD hS 0 rfl rfl 0 (by decide) (hts _ k_995) (fun _ h9 => h9) rfl (by decide +kernel) rfl rfl (Nat.le_of_ble_eq_true rfl) d_P_about_2 (fun H locs hP hD hS => ?_)
  have hP : va_P D vwCl [zO 13 ma [.int 0, .int 0, .int 0, .int 0, .int 0, .int 0, .ref nb, .ref wy, .ref hd, .ref tk], zA t 7 nb 7 (fun j => some (qq j 0)), zO 9 (qq k 0) [.int (nI k), .int 1, .int 0, .int 0, .int 0, .int 0, .int (nI (8 + 3 * k)), .int ((-1)), .int 0, .int 0, .ref ((qq k 1)), .ref ((qq k 7)), .ref ((qq k 11)), .ref ((qq k 15)), .ref ((qq k 19)), .ref ((qq k 23)), .int 0], zO 11 (qq k 1) [.int 0, .ref ((qq k 2)), .ref ((qq k 3)), .ref ((qq k 4)), .ref ((qq k 5)), .ref ((qq k 6)), .int 1], zJ t (qq k 2) 32 (fun _ => 1099511627776), zJ t (qq k 3) 8 (fun _ => 0), zI t (qq k 4) 8 (fun _ => 0), zI t (qq k 5) 4 (xm 1), zI t (qq k 6) 4 (xm mk), zO 10 (qq k 7) [.ref ((qq k 8)), .ref ((qq k 9)), .ref ((qq k 10)), .int 0], zI t (qq k 8) 8 (fun _ => 0), zI t (qq k 9) 8 (fun _ => 0), zA t 5 (qq k 10) 8 (fun _ => none), zO 10 (qq k 11) [.ref ((qq k 12)), .ref ((qq k 13)), .ref ((qq k 14)), .int 0], zI t (qq k 12) 8 (fun _ => 0), zI t (qq k 13) 8 (fun _ => 0), zA t 5 (qq k 14) 8 (fun _ => none), zO 10 (qq k 15) [.ref ((qq k 16)), .ref ((qq k 17)), .ref ((qq k 18)), .int 0], zI t (qq k 16) 8 (fun _ => 0), zI t (qq k 17) 8 (fun _ => 0), zA t 5 (qq k 18) 8 (fun _ => none), zO 10 (qq k 19) [.ref ((qq k 20)), .ref ((qq k 21)), .ref ((qq k 22)), .int 0], zI t (qq k 20) 8 (fun _ => 0), zI t (qq k 21) 8 (fun _ => 0), zA t 5 (qq k 22) 8 (fun _ => none), zA t 5 (qq k 23) 16 (fun _ => none)] H := hP
  have hD : va_D A [zO 13 ma [.int 0, .int 0, .int 0, .int 0, .int 0, .int 0, .ref nb, .ref wy, .ref hd, .ref tk], zA t 7 nb 7 (fun j => some (qq j 0)), zO 9 (qq k 0) [.int (nI k), .int 1, .int 0, .int 0, .int 0, .int 0, .int (nI (8 + 3 * k)), .int ((-1)), .int 0, .int 0, .ref ((qq k 1)), .ref ((qq k 7)), .ref ((qq k 11)), .ref ((qq k 15)), .ref ((qq k 19)), .ref ((qq k 23)), .int 0], zO 11 (qq k 1) [.int 0, .ref ((qq k 2)), .ref ((qq k 3)), .ref ((qq k 4)), .ref ((qq k 5)), .ref ((qq k 6)), .int 1], zJ t (qq k 2) 32 (fun _ => 1099511627776), zJ t (qq k 3) 8 (fun _ => 0), zI t (qq k 4) 8 (fun _ => 0), zI t (qq k 5) 4 (xm 1), zI t (qq k 6) 4 (xm mk), zO 10 (qq k 7) [.ref ((qq k 8)), .ref ((qq k 9)), .ref ((qq k 10)), .int 0], zI t (qq k 8) 8 (fun _ => 0), zI t (qq k 9) 8 (fun _ => 0), zA t 5 (qq k 10) 8 (fun _ => none), zO 10 (qq k 11) [.ref ((qq k 12)), .ref ((qq k 13)), .ref ((qq k 14)), .int 0], zI t (qq k 12) 8 (fun _ => 0), zI t (qq k 13) 8 (fun _ => 0), zA t 5 (qq k 14) 8 (fun _ => none), zO 10 (qq k 15) [.ref ((qq k 16)), .ref ((qq k 17)), .ref ((qq k 18)), .int 0], zI t (qq k 16) 8 (fun _ => 0), zI t (qq k 17) 8 (fun _ => 0), zA t 5 (qq k 18) 8 (fun _ => none), zO 10 (qq k 19) [.ref ((qq k 20)), .ref ((qq k 21)), .ref ((qq k 22)), .int 0], zI t (qq k 20) 8 (fun _ => 0), zI t (qq k 21) 8 (fun _ => 0), zA t 5 (qq k 22) 8 (fun _ => none), zA t 5 (qq k 23) 16 (fun _ => none)] := hD
  refine lv_iload_n hx hb d_P_about_5 rfl (lv_at hl 1 rfl) ?_
  refine xr_call (xs_S (As := [.int (nI k)]) (rest := []) Z (C_P_noNode l D t k hk) m_P_noNode k_1217 k_1218 rfl rfl ⟨Nat.le_of_ble_eq_true rfl, Nat.le_of_ble_eq_true rfl⟩ (xr_pre hK (hP.sub [] rfl)) rfl hl.1 rfl (Nat.le_of_ble_eq_true rfl) d_P_about_6 ⟨Nat.le_of_ble_eq_true rfl, Nat.le_of_ble_eq_true rfl⟩) ?_
  refine lv_if_eq (tgt := 18) hx hb d_P_about_9 (by decide) (fun _ => ?_) (fun c_1 => absurd (by decide) c_1)
  refine lv_aload_n hx hb d_P_about_18 rfl (lv_at hl 0 rfl) ?_
  refine va_get (ci := 13) (C := "QuorumStoreModel") (T := TX13) (N := 10) hx hb hts inX13 hown hK.2 hP 0 rfl rfl 6 (by decide) (hts _ k_1001) (fun _ h9 => h9) rfl d_P_about_19 ?_
  refine lv_iload_n hx hb d_P_about_22 rfl (lv_at hl 1 rfl) ?_
  refine va_aldq hx hb hK.2 hP 1 7 rfl rfl (vp_in_nI hk (by decide)) d_P_about_23 ?_
  rw [nI_clamp (show k < 2 ^ 31 by omega)]
  refine lv_astore_n (lv' := [(3, .ref ((qq k 0))), (0, .ref ma), (1, .int (nI k)), (2, .int 11)]) hx hb d_P_about_24 rfl hl (by decide) rfl (fun ls hl => ?_)
  refine lv_iload_n hx hb d_P_about_25 rfl (lv_at hl 3 rfl) ?_
  refine lv_tableIn (off := 178) (tgt := 204) hx hb d_P_about_26 (by decide) (by decide) (by decide) (by decide) ?_
  refine lv_aload_n hx hb d_P_about_204 rfl (lv_at hl 0 rfl) ?_
  refine va_get (ci := 9) (C := "QuorumStoreModel$Node") (T := TX9) (N := 17) hx hb hts inX9 hown hK.2 hP 2 rfl rfl 2 (by decide) (hts _ k_933) (fun _ h9 => h9) rfl d_P_about_205 ?_
  refine lv_if_eq (tgt := 221) hx hb d_P_about_208 (by decide) (fun _ => ?_) (fun c_2 => absurd (by decide) c_2)
  refine lv_iconst (v := 0) hx hb d_P_about_221 (by decide) ?_
  have hP := hP.sub (ws' := [zO 13 ma [.int 0, .int 0, .int 0, .int 0, .int 0, .int 0, .ref nb, .ref wy, .ref hd, .ref tk]]) [0] rfl
  have hD := hD.sub (ws' := [zO 13 ma [.int 0, .int 0, .int 0, .int 0, .int 0, .int 0, .ref nb, .ref wy, .ref hd, .ref tk]]) [0] (by decide) rfl
  exact W.iret hx hb hr (fun t ht hW => ⟨⟨0, (), rfl, rfl, by rw [ht]; exact hP, hD⟩, hS.F ht⟩) hS.2.2 d_P_about_222
theorem d_P_about_223 : decode c_P_about 223 = .ok (.aload_n 3, 1) := by decide +kernel
theorem d_P_about_224 : decode c_P_about 224 = .ok (.getfield 117, 3) := by decide +kernel
theorem d_P_about_227 : decode c_P_about 227 = .ok (.getfield 210, 3) := by decide +kernel
theorem d_P_about_230 : decode c_P_about 230 = .ok (.ireturn, 1) := by decide +kernel
set_option maxHeartbeats 4000000 in
set_option maxRecDepth 100000 in
/-- about 12 on a new object -/
theorem C_P_about_012 (l : Launch) (D : va_G) (t : Nat → ClassId) (ma nb wy hd tk : Nat) (th : Int32) (qq : Nat → Nat → Nat) (mk : Int32) (k : Nat) (hk : k < 7) : xe_C l D vwCl (xTY t) y_P_about c_P_about 4 (Option.some FieldType.int) ({ frames := 1, cells := 0, slots := 0, locals := 20 }) [.ref ma, .int (nI k), .int 12] [zO 13 ma [.int th, .int 0, .int 0, .int 0, .int 0, .int 0, .ref nb, .ref wy, .ref hd, .ref tk], zA t 7 nb 7 (fun j => some (qq j 0)), zO 9 (qq k 0) [.int (nI k), .int 1, .int 0, .int 0, .int 0, .int 0, .int (nI (8 + 3 * k)), .int ((-1)), .int 0, .int 0, .ref ((qq k 1)), .ref ((qq k 7)), .ref ((qq k 11)), .ref ((qq k 15)), .ref ((qq k 19)), .ref ((qq k 23)), .int 0], zO 11 (qq k 1) [.int 0, .ref ((qq k 2)), .ref ((qq k 3)), .ref ((qq k 4)), .ref ((qq k 5)), .ref ((qq k 6)), .int 1], zJ t (qq k 2) 32 (fun _ => 1099511627776), zJ t (qq k 3) 8 (fun _ => 0), zI t (qq k 4) 8 (fun _ => 0), zI t (qq k 5) 4 (xm 1), zI t (qq k 6) 4 (xm mk), zO 10 (qq k 7) [.ref ((qq k 8)), .ref ((qq k 9)), .ref ((qq k 10)), .int 0], zI t (qq k 8) 8 (fun _ => 0), zI t (qq k 9) 8 (fun _ => 0), zA t 5 (qq k 10) 8 (fun _ => none), zO 10 (qq k 11) [.ref ((qq k 12)), .ref ((qq k 13)), .ref ((qq k 14)), .int 0], zI t (qq k 12) 8 (fun _ => 0), zI t (qq k 13) 8 (fun _ => 0), zA t 5 (qq k 14) 8 (fun _ => none), zO 10 (qq k 15) [.ref ((qq k 16)), .ref ((qq k 17)), .ref ((qq k 18)), .int 0], zI t (qq k 16) 8 (fun _ => 0), zI t (qq k 17) 8 (fun _ => 0), zA t 5 (qq k 18) 8 (fun _ => none), zO 10 (qq k 19) [.ref ((qq k 20)), .ref ((qq k 21)), .ref ((qq k 22)), .int 0], zI t (qq k 20) 8 (fun _ => 0), zI t (qq k 21) 8 (fun _ => 0), zA t 5 (qq k 22) 8 (fun _ => none), zA t 5 (qq k 23) 16 (fun _ => none)] (xe_i D vwCl (fun (r : Int32) (_ : Unit) => r = 0) (fun _ => [zO 13 ma [.int 0, .int 0, .int 0, .int 0, .int 0, .int 0, .ref nb, .ref wy, .ref hd, .ref tk]])) 0 0 := by
  refine xe_of (by decide) (Nat.le_of_ble_eq_true rfl) ?_
  intro p e s m below meth c ls A Z hr hlocks hin hA hP hD hS hl
  obtain ⟨hx, hb, hml, hown, hK⟩ := id Z
  have hown : s.vm.findClass "QuorumStoreModel" = some m.cls := hown
  have hts := hK.1.at (args := ([.ref ma, .int (nI k), .int 12] : List Value).toArray)
  have hl : lv_has ls 4 [(0, .ref ma), (1, .int (nI k)), (2, .int 12)] := hl
  refine lv_aload_n hx hb d_P_about_0 rfl (lv_at hl 0 rfl) ?_
  refine lv_iconst (v := 0) hx hb d_P_about_1 (by decide) ?_
  refine va_put (ci := 13) (v := .int 0) (ty := tyX13 0) (C := "QuorumStoreModel") (T := TX13) (N := 10) hx hb hts inX13 tyX13 okX13 nmX13 hown hK.2 hP hD hS 0 rfl rfl 0 (by decide) (hts _ k_995) (fun _ h9 => h9) rfl (by decide +kernel) rfl rfl (Nat.le_of_ble_eq_true rfl) d_P_about_2 (fun H locs hP hD hS => ?_)
  have hP : va_P D vwCl [zO 13 ma [.int 0, .int 0, .int 0, .int 0, .int 0, .int 0, .ref nb, .ref wy, .ref hd, .ref tk], zA t 7 nb 7 (fun j => some (qq j 0)), zO 9 (qq k 0) [.int (nI k), .int 1, .int 0, .int 0, .int 0, .int 0, .int (nI (8 + 3 * k)), .int ((-1)), .int 0, .int 0, .ref ((qq k 1)), .ref ((qq k 7)), .ref ((qq k 11)), .ref ((qq k 15)), .ref ((qq k 19)), .ref ((qq k 23)), .int 0], zO 11 (qq k 1) [.int 0, .ref ((qq k 2)), .ref ((qq k 3)), .ref ((qq k 4)), .ref ((qq k 5)), .ref ((qq k 6)), .int 1], zJ t (qq k 2) 32 (fun _ => 1099511627776), zJ t (qq k 3) 8 (fun _ => 0), zI t (qq k 4) 8 (fun _ => 0), zI t (qq k 5) 4 (xm 1), zI t (qq k 6) 4 (xm mk), zO 10 (qq k 7) [.ref ((qq k 8)), .ref ((qq k 9)), .ref ((qq k 10)), .int 0], zI t (qq k 8) 8 (fun _ => 0), zI t (qq k 9) 8 (fun _ => 0), zA t 5 (qq k 10) 8 (fun _ => none), zO 10 (qq k 11) [.ref ((qq k 12)), .ref ((qq k 13)), .ref ((qq k 14)), .int 0], zI t (qq k 12) 8 (fun _ => 0), zI t (qq k 13) 8 (fun _ => 0), zA t 5 (qq k 14) 8 (fun _ => none), zO 10 (qq k 15) [.ref ((qq k 16)), .ref ((qq k 17)), .ref ((qq k 18)), .int 0], zI t (qq k 16) 8 (fun _ => 0), zI t (qq k 17) 8 (fun _ => 0), zA t 5 (qq k 18) 8 (fun _ => none), zO 10 (qq k 19) [.ref ((qq k 20)), .ref ((qq k 21)), .ref ((qq k 22)), .int 0], zI t (qq k 20) 8 (fun _ => 0), zI t (qq k 21) 8 (fun _ => 0), zA t 5 (qq k 22) 8 (fun _ => none), zA t 5 (qq k 23) 16 (fun _ => none)] H := hP
  have hD : va_D A [zO 13 ma [.int 0, .int 0, .int 0, .int 0, .int 0, .int 0, .ref nb, .ref wy, .ref hd, .ref tk], zA t 7 nb 7 (fun j => some (qq j 0)), zO 9 (qq k 0) [.int (nI k), .int 1, .int 0, .int 0, .int 0, .int 0, .int (nI (8 + 3 * k)), .int ((-1)), .int 0, .int 0, .ref ((qq k 1)), .ref ((qq k 7)), .ref ((qq k 11)), .ref ((qq k 15)), .ref ((qq k 19)), .ref ((qq k 23)), .int 0], zO 11 (qq k 1) [.int 0, .ref ((qq k 2)), .ref ((qq k 3)), .ref ((qq k 4)), .ref ((qq k 5)), .ref ((qq k 6)), .int 1], zJ t (qq k 2) 32 (fun _ => 1099511627776), zJ t (qq k 3) 8 (fun _ => 0), zI t (qq k 4) 8 (fun _ => 0), zI t (qq k 5) 4 (xm 1), zI t (qq k 6) 4 (xm mk), zO 10 (qq k 7) [.ref ((qq k 8)), .ref ((qq k 9)), .ref ((qq k 10)), .int 0], zI t (qq k 8) 8 (fun _ => 0), zI t (qq k 9) 8 (fun _ => 0), zA t 5 (qq k 10) 8 (fun _ => none), zO 10 (qq k 11) [.ref ((qq k 12)), .ref ((qq k 13)), .ref ((qq k 14)), .int 0], zI t (qq k 12) 8 (fun _ => 0), zI t (qq k 13) 8 (fun _ => 0), zA t 5 (qq k 14) 8 (fun _ => none), zO 10 (qq k 15) [.ref ((qq k 16)), .ref ((qq k 17)), .ref ((qq k 18)), .int 0], zI t (qq k 16) 8 (fun _ => 0), zI t (qq k 17) 8 (fun _ => 0), zA t 5 (qq k 18) 8 (fun _ => none), zO 10 (qq k 19) [.ref ((qq k 20)), .ref ((qq k 21)), .ref ((qq k 22)), .int 0], zI t (qq k 20) 8 (fun _ => 0), zI t (qq k 21) 8 (fun _ => 0), zA t 5 (qq k 22) 8 (fun _ => none), zA t 5 (qq k 23) 16 (fun _ => none)] := hD
  refine lv_iload_n hx hb d_P_about_5 rfl (lv_at hl 1 rfl) ?_
  refine xr_call (xs_S (As := [.int (nI k)]) (rest := []) Z (C_P_noNode l D t k hk) m_P_noNode k_1217 k_1218 rfl rfl ⟨Nat.le_of_ble_eq_true rfl, Nat.le_of_ble_eq_true rfl⟩ (xr_pre hK (hP.sub [] rfl)) rfl hl.1 rfl (Nat.le_of_ble_eq_true rfl) d_P_about_6 ⟨Nat.le_of_ble_eq_true rfl, Nat.le_of_ble_eq_true rfl⟩) ?_
  refine lv_if_eq (tgt := 18) hx hb d_P_about_9 (by decide) (fun _ => ?_) (fun c_1 => absurd (by decide) c_1)
  refine lv_aload_n hx hb d_P_about_18 rfl (lv_at hl 0 rfl) ?_
  refine va_get (ci := 13) (C := "QuorumStoreModel") (T := TX13) (N := 10) hx hb hts inX13 hown hK.2 hP 0 rfl rfl 6 (by decide) (hts _ k_1001) (fun _ h9 => h9) rfl d_P_about_19 ?_
  refine lv_iload_n hx hb d_P_about_22 rfl (lv_at hl 1 rfl) ?_
  refine va_aldq hx hb hK.2 hP 1 7 rfl rfl (vp_in_nI hk (by decide)) d_P_about_23 ?_
  rw [nI_clamp (show k < 2 ^ 31 by omega)]
  refine lv_astore_n (lv' := [(3, .ref ((qq k 0))), (0, .ref ma), (1, .int (nI k)), (2, .int 12)]) hx hb d_P_about_24 rfl hl (by decide) rfl (fun ls hl => ?_)
  refine lv_iload_n hx hb d_P_about_25 rfl (lv_at hl 3 rfl) ?_
  refine lv_tableIn (off := 197) (tgt := 223) hx hb d_P_about_26 (by decide) (by decide) (by decide) (by decide) ?_
  refine lv_aload_n hx hb d_P_about_223 rfl (lv_at hl 0 rfl) ?_
  refine va_get (ci := 9) (C := "QuorumStoreModel$Node") (T := TX9) (N := 17) hx hb hts inX9 hown hK.2 hP 2 rfl rfl 11 (by decide) (hts _ k_946) (fun _ h9 => h9) rfl d_P_about_224 ?_
  refine va_get (ci := 10) (C := "QuorumStoreModel$Slots") (T := TX10) (N := 4) hx hb hts inX10 hown hK.2 hP 9 rfl rfl 3 (by decide) (hts _ k_842) (fun _ h9 => h9) rfl d_P_about_227 ?_
  have hP := hP.sub (ws' := [zO 13 ma [.int 0, .int 0, .int 0, .int 0, .int 0, .int 0, .ref nb, .ref wy, .ref hd, .ref tk]]) [0] rfl
  have hD := hD.sub (ws' := [zO 13 ma [.int 0, .int 0, .int 0, .int 0, .int 0, .int 0, .ref nb, .ref wy, .ref hd, .ref tk]]) [0] (by decide) rfl
  exact W.iret hx hb hr (fun t ht hW => ⟨⟨0, (), rfl, rfl, by rw [ht]; exact hP, hD⟩, hS.F ht⟩) hS.2.2 d_P_about_230
theorem d_P_about_231 : decode c_P_about 231 = .ok (.aload_n 3, 1) := by decide +kernel
theorem d_P_about_232 : decode c_P_about 232 = .ok (.getfield 32, 3) := by decide +kernel
theorem d_P_about_235 : decode c_P_about 235 = .ok (.getfield 324, 3) := by decide +kernel
theorem d_P_about_238 : decode c_P_about 238 = .ok (.ireturn, 1) := by decide +kernel
set_option maxHeartbeats 4000000 in
set_option maxRecDepth 100000 in
/-- about 13 on a new object -/
theorem C_P_about_013 (l : Launch) (D : va_G) (t : Nat → ClassId) (ma nb wy hd tk : Nat) (th : Int32) (qq : Nat → Nat → Nat) (mk : Int32) (k : Nat) (hk : k < 7) : xe_C l D vwCl (xTY t) y_P_about c_P_about 4 (Option.some FieldType.int) ({ frames := 1, cells := 0, slots := 0, locals := 20 }) [.ref ma, .int (nI k), .int 13] [zO 13 ma [.int th, .int 0, .int 0, .int 0, .int 0, .int 0, .ref nb, .ref wy, .ref hd, .ref tk], zA t 7 nb 7 (fun j => some (qq j 0)), zO 9 (qq k 0) [.int (nI k), .int 1, .int 0, .int 0, .int 0, .int 0, .int (nI (8 + 3 * k)), .int ((-1)), .int 0, .int 0, .ref ((qq k 1)), .ref ((qq k 7)), .ref ((qq k 11)), .ref ((qq k 15)), .ref ((qq k 19)), .ref ((qq k 23)), .int 0], zO 11 (qq k 1) [.int 0, .ref ((qq k 2)), .ref ((qq k 3)), .ref ((qq k 4)), .ref ((qq k 5)), .ref ((qq k 6)), .int 1], zJ t (qq k 2) 32 (fun _ => 1099511627776), zJ t (qq k 3) 8 (fun _ => 0), zI t (qq k 4) 8 (fun _ => 0), zI t (qq k 5) 4 (xm 1), zI t (qq k 6) 4 (xm mk), zO 10 (qq k 7) [.ref ((qq k 8)), .ref ((qq k 9)), .ref ((qq k 10)), .int 0], zI t (qq k 8) 8 (fun _ => 0), zI t (qq k 9) 8 (fun _ => 0), zA t 5 (qq k 10) 8 (fun _ => none), zO 10 (qq k 11) [.ref ((qq k 12)), .ref ((qq k 13)), .ref ((qq k 14)), .int 0], zI t (qq k 12) 8 (fun _ => 0), zI t (qq k 13) 8 (fun _ => 0), zA t 5 (qq k 14) 8 (fun _ => none), zO 10 (qq k 15) [.ref ((qq k 16)), .ref ((qq k 17)), .ref ((qq k 18)), .int 0], zI t (qq k 16) 8 (fun _ => 0), zI t (qq k 17) 8 (fun _ => 0), zA t 5 (qq k 18) 8 (fun _ => none), zO 10 (qq k 19) [.ref ((qq k 20)), .ref ((qq k 21)), .ref ((qq k 22)), .int 0], zI t (qq k 20) 8 (fun _ => 0), zI t (qq k 21) 8 (fun _ => 0), zA t 5 (qq k 22) 8 (fun _ => none), zA t 5 (qq k 23) 16 (fun _ => none)] (xe_i D vwCl (fun (r : Int32) (_ : Unit) => r = 1) (fun _ => [zO 13 ma [.int 0, .int 0, .int 0, .int 0, .int 0, .int 0, .ref nb, .ref wy, .ref hd, .ref tk]])) 0 0 := by
  refine xe_of (by decide) (Nat.le_of_ble_eq_true rfl) ?_
  intro p e s m below meth c ls A Z hr hlocks hin hA hP hD hS hl
  obtain ⟨hx, hb, hml, hown, hK⟩ := id Z
  have hown : s.vm.findClass "QuorumStoreModel" = some m.cls := hown
  have hts := hK.1.at (args := ([.ref ma, .int (nI k), .int 13] : List Value).toArray)
  have hl : lv_has ls 4 [(0, .ref ma), (1, .int (nI k)), (2, .int 13)] := hl
  refine lv_aload_n hx hb d_P_about_0 rfl (lv_at hl 0 rfl) ?_
  refine lv_iconst (v := 0) hx hb d_P_about_1 (by decide) ?_
  refine va_put (ci := 13) (v := .int 0) (ty := tyX13 0) (C := "QuorumStoreModel") (T := TX13) (N := 10) hx hb hts inX13 tyX13 okX13 nmX13 hown hK.2 hP hD hS 0 rfl rfl 0 (by decide) (hts _ k_995) (fun _ h9 => h9) rfl (by decide +kernel) rfl rfl (Nat.le_of_ble_eq_true rfl) d_P_about_2 (fun H locs hP hD hS => ?_)
  have hP : va_P D vwCl [zO 13 ma [.int 0, .int 0, .int 0, .int 0, .int 0, .int 0, .ref nb, .ref wy, .ref hd, .ref tk], zA t 7 nb 7 (fun j => some (qq j 0)), zO 9 (qq k 0) [.int (nI k), .int 1, .int 0, .int 0, .int 0, .int 0, .int (nI (8 + 3 * k)), .int ((-1)), .int 0, .int 0, .ref ((qq k 1)), .ref ((qq k 7)), .ref ((qq k 11)), .ref ((qq k 15)), .ref ((qq k 19)), .ref ((qq k 23)), .int 0], zO 11 (qq k 1) [.int 0, .ref ((qq k 2)), .ref ((qq k 3)), .ref ((qq k 4)), .ref ((qq k 5)), .ref ((qq k 6)), .int 1], zJ t (qq k 2) 32 (fun _ => 1099511627776), zJ t (qq k 3) 8 (fun _ => 0), zI t (qq k 4) 8 (fun _ => 0), zI t (qq k 5) 4 (xm 1), zI t (qq k 6) 4 (xm mk), zO 10 (qq k 7) [.ref ((qq k 8)), .ref ((qq k 9)), .ref ((qq k 10)), .int 0], zI t (qq k 8) 8 (fun _ => 0), zI t (qq k 9) 8 (fun _ => 0), zA t 5 (qq k 10) 8 (fun _ => none), zO 10 (qq k 11) [.ref ((qq k 12)), .ref ((qq k 13)), .ref ((qq k 14)), .int 0], zI t (qq k 12) 8 (fun _ => 0), zI t (qq k 13) 8 (fun _ => 0), zA t 5 (qq k 14) 8 (fun _ => none), zO 10 (qq k 15) [.ref ((qq k 16)), .ref ((qq k 17)), .ref ((qq k 18)), .int 0], zI t (qq k 16) 8 (fun _ => 0), zI t (qq k 17) 8 (fun _ => 0), zA t 5 (qq k 18) 8 (fun _ => none), zO 10 (qq k 19) [.ref ((qq k 20)), .ref ((qq k 21)), .ref ((qq k 22)), .int 0], zI t (qq k 20) 8 (fun _ => 0), zI t (qq k 21) 8 (fun _ => 0), zA t 5 (qq k 22) 8 (fun _ => none), zA t 5 (qq k 23) 16 (fun _ => none)] H := hP
  have hD : va_D A [zO 13 ma [.int 0, .int 0, .int 0, .int 0, .int 0, .int 0, .ref nb, .ref wy, .ref hd, .ref tk], zA t 7 nb 7 (fun j => some (qq j 0)), zO 9 (qq k 0) [.int (nI k), .int 1, .int 0, .int 0, .int 0, .int 0, .int (nI (8 + 3 * k)), .int ((-1)), .int 0, .int 0, .ref ((qq k 1)), .ref ((qq k 7)), .ref ((qq k 11)), .ref ((qq k 15)), .ref ((qq k 19)), .ref ((qq k 23)), .int 0], zO 11 (qq k 1) [.int 0, .ref ((qq k 2)), .ref ((qq k 3)), .ref ((qq k 4)), .ref ((qq k 5)), .ref ((qq k 6)), .int 1], zJ t (qq k 2) 32 (fun _ => 1099511627776), zJ t (qq k 3) 8 (fun _ => 0), zI t (qq k 4) 8 (fun _ => 0), zI t (qq k 5) 4 (xm 1), zI t (qq k 6) 4 (xm mk), zO 10 (qq k 7) [.ref ((qq k 8)), .ref ((qq k 9)), .ref ((qq k 10)), .int 0], zI t (qq k 8) 8 (fun _ => 0), zI t (qq k 9) 8 (fun _ => 0), zA t 5 (qq k 10) 8 (fun _ => none), zO 10 (qq k 11) [.ref ((qq k 12)), .ref ((qq k 13)), .ref ((qq k 14)), .int 0], zI t (qq k 12) 8 (fun _ => 0), zI t (qq k 13) 8 (fun _ => 0), zA t 5 (qq k 14) 8 (fun _ => none), zO 10 (qq k 15) [.ref ((qq k 16)), .ref ((qq k 17)), .ref ((qq k 18)), .int 0], zI t (qq k 16) 8 (fun _ => 0), zI t (qq k 17) 8 (fun _ => 0), zA t 5 (qq k 18) 8 (fun _ => none), zO 10 (qq k 19) [.ref ((qq k 20)), .ref ((qq k 21)), .ref ((qq k 22)), .int 0], zI t (qq k 20) 8 (fun _ => 0), zI t (qq k 21) 8 (fun _ => 0), zA t 5 (qq k 22) 8 (fun _ => none), zA t 5 (qq k 23) 16 (fun _ => none)] := hD
  refine lv_iload_n hx hb d_P_about_5 rfl (lv_at hl 1 rfl) ?_
  refine xr_call (xs_S (As := [.int (nI k)]) (rest := []) Z (C_P_noNode l D t k hk) m_P_noNode k_1217 k_1218 rfl rfl ⟨Nat.le_of_ble_eq_true rfl, Nat.le_of_ble_eq_true rfl⟩ (xr_pre hK (hP.sub [] rfl)) rfl hl.1 rfl (Nat.le_of_ble_eq_true rfl) d_P_about_6 ⟨Nat.le_of_ble_eq_true rfl, Nat.le_of_ble_eq_true rfl⟩) ?_
  refine lv_if_eq (tgt := 18) hx hb d_P_about_9 (by decide) (fun _ => ?_) (fun c_1 => absurd (by decide) c_1)
  refine lv_aload_n hx hb d_P_about_18 rfl (lv_at hl 0 rfl) ?_
  refine va_get (ci := 13) (C := "QuorumStoreModel") (T := TX13) (N := 10) hx hb hts inX13 hown hK.2 hP 0 rfl rfl 6 (by decide) (hts _ k_1001) (fun _ h9 => h9) rfl d_P_about_19 ?_
  refine lv_iload_n hx hb d_P_about_22 rfl (lv_at hl 1 rfl) ?_
  refine va_aldq hx hb hK.2 hP 1 7 rfl rfl (vp_in_nI hk (by decide)) d_P_about_23 ?_
  rw [nI_clamp (show k < 2 ^ 31 by omega)]
  refine lv_astore_n (lv' := [(3, .ref ((qq k 0))), (0, .ref ma), (1, .int (nI k)), (2, .int 13)]) hx hb d_P_about_24 rfl hl (by decide) rfl (fun ls hl => ?_)
  refine lv_iload_n hx hb d_P_about_25 rfl (lv_at hl 3 rfl) ?_
  refine lv_tableIn (off := 205) (tgt := 231) hx hb d_P_about_26 (by decide) (by decide) (by decide) (by decide) ?_
  refine lv_aload_n hx hb d_P_about_231 rfl (lv_at hl 0 rfl) ?_
  refine va_get (ci := 9) (C := "QuorumStoreModel$Node") (T := TX9) (N := 17) hx hb hts inX9 hown hK.2 hP 2 rfl rfl 10 (by decide) (hts _ k_944) (fun _ h9 => h9) rfl d_P_about_232 ?_
  refine va_get (ci := 11) (C := "QuorumStoreModel$State") (T := TX11) (N := 7) hx hb hts inX11 hown hK.2 hP 3 rfl rfl 6 (by decide) (hts _ k_870) (fun _ h9 => h9) rfl d_P_about_235 ?_
  have hP := hP.sub (ws' := [zO 13 ma [.int 0, .int 0, .int 0, .int 0, .int 0, .int 0, .ref nb, .ref wy, .ref hd, .ref tk]]) [0] rfl
  have hD := hD.sub (ws' := [zO 13 ma [.int 0, .int 0, .int 0, .int 0, .int 0, .int 0, .ref nb, .ref wy, .ref hd, .ref tk]]) [0] (by decide) rfl
  exact W.iret hx hb hr (fun t ht hW => ⟨⟨1, (), rfl, rfl, by rw [ht]; exact hP, hD⟩, hS.F ht⟩) hS.2.2 d_P_about_238
theorem d_P_count_0 : decode c_P_count 0 = .ok (.aload_n 0, 1) := by decide +kernel
theorem d_P_count_1 : decode c_P_count 1 = .ok (.iconst 0, 1) := by decide +kernel
theorem d_P_count_2 : decode c_P_count 2 = .ok (.putfield 42, 3) := by decide +kernel
theorem d_P_count_5 : decode c_P_count 5 = .ok (.iload_n 1, 1) := by decide +kernel
theorem d_P_count_6 : decode c_P_count 6 = .ok (.tableswitch 50 0 3 #[30, 35, 40, 45], 30) := by decide +kernel
theorem d_P_count_56 : decode c_P_count 56 = .ok (.iconst (-1), 1) := by decide +kernel
theorem d_P_count_57 : decode c_P_count 57 = .ok (.ireturn, 1) := by decide +kernel
set_option maxHeartbeats 4000000 in
set_option maxRecDepth 100000 in
/-- count: -1 -/
theorem C_P_count_no (l : Launch) (D : va_G) (t : Nat → ClassId) (ma nb wy hd tk : Nat) (th : Int32) (wh : Int32) (hw : wh.toInt < 0 ∨ 3 < wh.toInt) : xe_C l D vwCl (xTY t) y_P_count c_P_count 2 (Option.some FieldType.int) ({ frames := 0, cells := 0, slots := 0, locals := 0 }) [.ref ma, .int wh] [zO 13 ma [.int th, .int 0, .int 0, .int 0, .int 0, .int 0, .ref nb, .ref wy, .ref hd, .ref tk]] (xe_i D vwCl (fun (r : Int32) (_ : Unit) => r = (-1)) (fun _ => [zO 13 ma [.int 0, .int 0, .int 0, .int 0, .int 0, .int 0, .ref nb, .ref wy, .ref hd, .ref tk]])) 0 0 := by
  refine xe_of (by decide) (Nat.le_of_ble_eq_true rfl) ?_
  intro p e s m below meth c ls A Z hr hlocks hin hA hP hD hS hl
  obtain ⟨hx, hb, hml, hown, hK⟩ := id Z
  have hown : s.vm.findClass "QuorumStoreModel" = some m.cls := hown
  have hts := hK.1.at (args := ([.ref ma, .int wh] : List Value).toArray)
  have hl : lv_has ls 2 [(0, .ref ma), (1, .int wh)] := hl
  refine lv_aload_n hx hb d_P_count_0 rfl (lv_at hl 0 rfl) ?_
  refine lv_iconst (v := 0) hx hb d_P_count_1 (by decide) ?_
  refine va_put (ci := 13) (v := .int 0) (ty := tyX13 0) (C := "QuorumStoreModel") (T := TX13) (N := 10) hx hb hts inX13 tyX13 okX13 nmX13 hown hK.2 hP hD hS 0 rfl rfl 0 (by decide) (hts _ k_995) (fun _ h9 => h9) rfl (by decide +kernel) rfl rfl (Nat.le_of_ble_eq_true rfl) d_P_count_2 (fun H locs hP hD hS => ?_)
  have hP : va_P D vwCl [zO 13 ma [.int 0, .int 0, .int 0, .int 0, .int 0, .int 0, .ref nb, .ref wy, .ref hd, .ref tk]] H := hP
  have hD : va_D A [zO 13 ma [.int 0, .int 0, .int 0, .int 0, .int 0, .int 0, .ref nb, .ref wy, .ref hd, .ref tk]] := hD
  refine lv_iload_n hx hb d_P_count_5 rfl (lv_at hl 1 rfl) ?_
  refine lv_tableOut (tgt := 56) hx hb d_P_count_6 hw (by decide) ?_
  refine lv_iconst (v := (-1)) hx hb d_P_count_56 (by decide) ?_
  exact W.iret hx hb hr (fun t ht hW => ⟨⟨(-1), (), rfl, rfl, by rw [ht]; exact hP, hD⟩, hS.F ht⟩) hS.2.2 d_P_count_57
theorem d_P_count_36 : decode c_P_count 36 = .ok (.aload_n 0, 1) := by decide +kernel
theorem d_P_count_37 : decode c_P_count 37 = .ok (.getfield 49, 3) := by decide +kernel
theorem d_P_count_40 : decode c_P_count 40 = .ok (.ireturn, 1) := by decide +kernel
set_option maxHeartbeats 4000000 in
set_option maxRecDepth 100000 in
/-- count on a new object -/
theorem C_P_count_00 (l : Launch) (D : va_G) (t : Nat → ClassId) (ma nb wy hd tk : Nat) (th : Int32) : xe_C l D vwCl (xTY t) y_P_count c_P_count 2 (Option.some FieldType.int) ({ frames := 0, cells := 0, slots := 0, locals := 0 }) [.ref ma, .int 0] [zO 13 ma [.int th, .int 0, .int 0, .int 0, .int 0, .int 0, .ref nb, .ref wy, .ref hd, .ref tk]] (xe_i D vwCl (fun (r : Int32) (_ : Unit) => r = 0) (fun _ => [zO 13 ma [.int 0, .int 0, .int 0, .int 0, .int 0, .int 0, .ref nb, .ref wy, .ref hd, .ref tk]])) 0 0 := by
  refine xe_of (by decide) (Nat.le_of_ble_eq_true rfl) ?_
  intro p e s m below meth c ls A Z hr hlocks hin hA hP hD hS hl
  obtain ⟨hx, hb, hml, hown, hK⟩ := id Z
  have hown : s.vm.findClass "QuorumStoreModel" = some m.cls := hown
  have hts := hK.1.at (args := ([.ref ma, .int 0] : List Value).toArray)
  have hl : lv_has ls 2 [(0, .ref ma), (1, .int 0)] := hl
  refine lv_aload_n hx hb d_P_count_0 rfl (lv_at hl 0 rfl) ?_
  refine lv_iconst (v := 0) hx hb d_P_count_1 (by decide) ?_
  refine va_put (ci := 13) (v := .int 0) (ty := tyX13 0) (C := "QuorumStoreModel") (T := TX13) (N := 10) hx hb hts inX13 tyX13 okX13 nmX13 hown hK.2 hP hD hS 0 rfl rfl 0 (by decide) (hts _ k_995) (fun _ h9 => h9) rfl (by decide +kernel) rfl rfl (Nat.le_of_ble_eq_true rfl) d_P_count_2 (fun H locs hP hD hS => ?_)
  have hP : va_P D vwCl [zO 13 ma [.int 0, .int 0, .int 0, .int 0, .int 0, .int 0, .ref nb, .ref wy, .ref hd, .ref tk]] H := hP
  have hD : va_D A [zO 13 ma [.int 0, .int 0, .int 0, .int 0, .int 0, .int 0, .ref nb, .ref wy, .ref hd, .ref tk]] := hD
  refine lv_iload_n hx hb d_P_count_5 rfl (lv_at hl 1 rfl) ?_
  refine lv_tableIn (off := 30) (tgt := 36) hx hb d_P_count_6 (by decide) (by decide) (by decide) (by decide) ?_
  refine lv_aload_n hx hb d_P_count_36 rfl (lv_at hl 0 rfl) ?_
  refine va_get (ci := 13) (C := "QuorumStoreModel") (T := TX13) (N := 10) hx hb hts inX13 hown hK.2 hP 0 rfl rfl 5 (by decide) (hts _ k_1000) (fun _ h9 => h9) rfl d_P_count_37 ?_
  exact W.iret hx hb hr (fun t ht hW => ⟨⟨0, (), rfl, rfl, by rw [ht]; exact hP, hD⟩, hS.F ht⟩) hS.2.2 d_P_count_40
theorem d_P_count_41 : decode c_P_count 41 = .ok (.aload_n 0, 1) := by decide +kernel
theorem d_P_count_42 : decode c_P_count 42 = .ok (.getfield 46, 3) := by decide +kernel
theorem d_P_count_45 : decode c_P_count 45 = .ok (.ireturn, 1) := by decide +kernel
set_option maxHeartbeats 4000000 in
set_option maxRecDepth 100000 in
/-- count on a new object -/
theorem C_P_count_01 (l : Launch) (D : va_G) (t : Nat → ClassId) (ma nb wy hd tk : Nat) (th : Int32) : xe_C l D vwCl (xTY t) y_P_count c_P_count 2 (Option.some FieldType.int) ({ frames := 0, cells := 0, slots := 0, locals := 0 }) [.ref ma, .int 1] [zO 13 ma [.int th, .int 0, .int 0, .int 0, .int 0, .int 0, .ref nb, .ref wy, .ref hd, .ref tk]] (xe_i D vwCl (fun (r : Int32) (_ : Unit) => r = 0) (fun _ => [zO 13 ma [.int 0, .int 0, .int 0, .int 0, .int 0, .int 0, .ref nb, .ref wy, .ref hd, .ref tk]])) 0 0 := by
  refine xe_of (by decide) (Nat.le_of_ble_eq_true rfl) ?_
  intro p e s m below meth c ls A Z hr hlocks hin hA hP hD hS hl
  obtain ⟨hx, hb, hml, hown, hK⟩ := id Z
  have hown : s.vm.findClass "QuorumStoreModel" = some m.cls := hown
  have hts := hK.1.at (args := ([.ref ma, .int 1] : List Value).toArray)
  have hl : lv_has ls 2 [(0, .ref ma), (1, .int 1)] := hl
  refine lv_aload_n hx hb d_P_count_0 rfl (lv_at hl 0 rfl) ?_
  refine lv_iconst (v := 0) hx hb d_P_count_1 (by decide) ?_
  refine va_put (ci := 13) (v := .int 0) (ty := tyX13 0) (C := "QuorumStoreModel") (T := TX13) (N := 10) hx hb hts inX13 tyX13 okX13 nmX13 hown hK.2 hP hD hS 0 rfl rfl 0 (by decide) (hts _ k_995) (fun _ h9 => h9) rfl (by decide +kernel) rfl rfl (Nat.le_of_ble_eq_true rfl) d_P_count_2 (fun H locs hP hD hS => ?_)
  have hP : va_P D vwCl [zO 13 ma [.int 0, .int 0, .int 0, .int 0, .int 0, .int 0, .ref nb, .ref wy, .ref hd, .ref tk]] H := hP
  have hD : va_D A [zO 13 ma [.int 0, .int 0, .int 0, .int 0, .int 0, .int 0, .ref nb, .ref wy, .ref hd, .ref tk]] := hD
  refine lv_iload_n hx hb d_P_count_5 rfl (lv_at hl 1 rfl) ?_
  refine lv_tableIn (off := 35) (tgt := 41) hx hb d_P_count_6 (by decide) (by decide) (by decide) (by decide) ?_
  refine lv_aload_n hx hb d_P_count_41 rfl (lv_at hl 0 rfl) ?_
  refine va_get (ci := 13) (C := "QuorumStoreModel") (T := TX13) (N := 10) hx hb hts inX13 hown hK.2 hP 0 rfl rfl 2 (by decide) (hts _ k_997) (fun _ h9 => h9) rfl d_P_count_42 ?_
  exact W.iret hx hb hr (fun t ht hW => ⟨⟨0, (), rfl, rfl, by rw [ht]; exact hP, hD⟩, hS.F ht⟩) hS.2.2 d_P_count_45
theorem d_P_count_46 : decode c_P_count 46 = .ok (.aload_n 0, 1) := by decide +kernel
theorem d_P_count_47 : decode c_P_count 47 = .ok (.getfield 52, 3) := by decide +kernel
theorem d_P_count_50 : decode c_P_count 50 = .ok (.ireturn, 1) := by decide +kernel
set_option maxHeartbeats 4000000 in
set_option maxRecDepth 100000 in
/-- count on a new object -/
theorem C_P_count_02 (l : Launch) (D : va_G) (t : Nat → ClassId) (ma nb wy hd tk : Nat) (th : Int32) : xe_C l D vwCl (xTY t) y_P_count c_P_count 2 (Option.some FieldType.int) ({ frames := 0, cells := 0, slots := 0, locals := 0 }) [.ref ma, .int 2] [zO 13 ma [.int th, .int 0, .int 0, .int 0, .int 0, .int 0, .ref nb, .ref wy, .ref hd, .ref tk]] (xe_i D vwCl (fun (r : Int32) (_ : Unit) => r = 0) (fun _ => [zO 13 ma [.int 0, .int 0, .int 0, .int 0, .int 0, .int 0, .ref nb, .ref wy, .ref hd, .ref tk]])) 0 0 := by
  refine xe_of (by decide) (Nat.le_of_ble_eq_true rfl) ?_
  intro p e s m below meth c ls A Z hr hlocks hin hA hP hD hS hl
  obtain ⟨hx, hb, hml, hown, hK⟩ := id Z
  have hown : s.vm.findClass "QuorumStoreModel" = some m.cls := hown
  have hts := hK.1.at (args := ([.ref ma, .int 2] : List Value).toArray)
  have hl : lv_has ls 2 [(0, .ref ma), (1, .int 2)] := hl
  refine lv_aload_n hx hb d_P_count_0 rfl (lv_at hl 0 rfl) ?_
  refine lv_iconst (v := 0) hx hb d_P_count_1 (by decide) ?_
  refine va_put (ci := 13) (v := .int 0) (ty := tyX13 0) (C := "QuorumStoreModel") (T := TX13) (N := 10) hx hb hts inX13 tyX13 okX13 nmX13 hown hK.2 hP hD hS 0 rfl rfl 0 (by decide) (hts _ k_995) (fun _ h9 => h9) rfl (by decide +kernel) rfl rfl (Nat.le_of_ble_eq_true rfl) d_P_count_2 (fun H locs hP hD hS => ?_)
  have hP : va_P D vwCl [zO 13 ma [.int 0, .int 0, .int 0, .int 0, .int 0, .int 0, .ref nb, .ref wy, .ref hd, .ref tk]] H := hP
  have hD : va_D A [zO 13 ma [.int 0, .int 0, .int 0, .int 0, .int 0, .int 0, .ref nb, .ref wy, .ref hd, .ref tk]] := hD
  refine lv_iload_n hx hb d_P_count_5 rfl (lv_at hl 1 rfl) ?_
  refine lv_tableIn (off := 40) (tgt := 46) hx hb d_P_count_6 (by decide) (by decide) (by decide) (by decide) ?_
  refine lv_aload_n hx hb d_P_count_46 rfl (lv_at hl 0 rfl) ?_
  refine va_get (ci := 13) (C := "QuorumStoreModel") (T := TX13) (N := 10) hx hb hts inX13 hown hK.2 hP 0 rfl rfl 3 (by decide) (hts _ k_998) (fun _ h9 => h9) rfl d_P_count_47 ?_
  exact W.iret hx hb hr (fun t ht hW => ⟨⟨0, (), rfl, rfl, by rw [ht]; exact hP, hD⟩, hS.F ht⟩) hS.2.2 d_P_count_50
theorem d_P_count_51 : decode c_P_count 51 = .ok (.aload_n 0, 1) := by decide +kernel
theorem d_P_count_52 : decode c_P_count 52 = .ok (.getfield 311, 3) := by decide +kernel
theorem d_P_count_55 : decode c_P_count 55 = .ok (.ireturn, 1) := by decide +kernel
set_option maxHeartbeats 4000000 in
set_option maxRecDepth 100000 in
/-- count on a new object -/
theorem C_P_count_03 (l : Launch) (D : va_G) (t : Nat → ClassId) (ma nb wy hd tk : Nat) (th : Int32) : xe_C l D vwCl (xTY t) y_P_count c_P_count 2 (Option.some FieldType.int) ({ frames := 0, cells := 0, slots := 0, locals := 0 }) [.ref ma, .int 3] [zO 13 ma [.int th, .int 0, .int 0, .int 0, .int 0, .int 0, .ref nb, .ref wy, .ref hd, .ref tk]] (xe_i D vwCl (fun (r : Int32) (_ : Unit) => r = 0) (fun _ => [zO 13 ma [.int 0, .int 0, .int 0, .int 0, .int 0, .int 0, .ref nb, .ref wy, .ref hd, .ref tk]])) 0 0 := by
  refine xe_of (by decide) (Nat.le_of_ble_eq_true rfl) ?_
  intro p e s m below meth c ls A Z hr hlocks hin hA hP hD hS hl
  obtain ⟨hx, hb, hml, hown, hK⟩ := id Z
  have hown : s.vm.findClass "QuorumStoreModel" = some m.cls := hown
  have hts := hK.1.at (args := ([.ref ma, .int 3] : List Value).toArray)
  have hl : lv_has ls 2 [(0, .ref ma), (1, .int 3)] := hl
  refine lv_aload_n hx hb d_P_count_0 rfl (lv_at hl 0 rfl) ?_
  refine lv_iconst (v := 0) hx hb d_P_count_1 (by decide) ?_
  refine va_put (ci := 13) (v := .int 0) (ty := tyX13 0) (C := "QuorumStoreModel") (T := TX13) (N := 10) hx hb hts inX13 tyX13 okX13 nmX13 hown hK.2 hP hD hS 0 rfl rfl 0 (by decide) (hts _ k_995) (fun _ h9 => h9) rfl (by decide +kernel) rfl rfl (Nat.le_of_ble_eq_true rfl) d_P_count_2 (fun H locs hP hD hS => ?_)
  have hP : va_P D vwCl [zO 13 ma [.int 0, .int 0, .int 0, .int 0, .int 0, .int 0, .ref nb, .ref wy, .ref hd, .ref tk]] H := hP
  have hD : va_D A [zO 13 ma [.int 0, .int 0, .int 0, .int 0, .int 0, .int 0, .ref nb, .ref wy, .ref hd, .ref tk]] := hD
  refine lv_iload_n hx hb d_P_count_5 rfl (lv_at hl 1 rfl) ?_
  refine lv_tableIn (off := 45) (tgt := 51) hx hb d_P_count_6 (by decide) (by decide) (by decide) (by decide) ?_
  refine lv_aload_n hx hb d_P_count_51 rfl (lv_at hl 0 rfl) ?_
  refine va_get (ci := 13) (C := "QuorumStoreModel") (T := TX13) (N := 10) hx hb hts inX13 hown hK.2 hP 0 rfl rfl 4 (by decide) (hts _ k_999) (fun _ h9 => h9) rfl d_P_count_52 ?_
  exact W.iret hx hb hr (fun t ht hW => ⟨⟨0, (), rfl, rfl, by rw [ht]; exact hP, hD⟩, hS.F ht⟩) hS.2.2 d_P_count_55
