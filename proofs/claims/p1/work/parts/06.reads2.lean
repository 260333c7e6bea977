/-! More methods of the class that only read. -/
theorem d_JI_bitCount_0 : decode c_JI_bitCount 0 = .ok (.iload_n 0, 1) := by decide +kernel
theorem d_JI_bitCount_1 : decode c_JI_bitCount 1 = .ok (.iload_n 0, 1) := by decide +kernel
theorem d_JI_bitCount_2 : decode c_JI_bitCount 2 = .ok (.iconst 1, 1) := by decide +kernel
theorem d_JI_bitCount_3 : decode c_JI_bitCount 3 = .ok (.iushr, 1) := by decide +kernel
theorem d_JI_bitCount_4 : decode c_JI_bitCount 4 = .ok (.ldc_w 265, 3) := by decide +kernel
theorem d_JI_bitCount_7 : decode c_JI_bitCount 7 = .ok (.iand, 1) := by decide +kernel
theorem d_JI_bitCount_8 : decode c_JI_bitCount 8 = .ok (.isub, 1) := by decide +kernel
theorem d_JI_bitCount_9 : decode c_JI_bitCount 9 = .ok (.istore_n 0, 1) := by decide +kernel
theorem d_JI_bitCount_10 : decode c_JI_bitCount 10 = .ok (.iload_n 0, 1) := by decide +kernel
theorem d_JI_bitCount_11 : decode c_JI_bitCount 11 = .ok (.ldc_w 266, 3) := by decide +kernel
theorem d_JI_bitCount_14 : decode c_JI_bitCount 14 = .ok (.iand, 1) := by decide +kernel
theorem d_JI_bitCount_15 : decode c_JI_bitCount 15 = .ok (.iload_n 0, 1) := by decide +kernel
theorem d_JI_bitCount_16 : decode c_JI_bitCount 16 = .ok (.iconst 2, 1) := by decide +kernel
theorem d_JI_bitCount_17 : decode c_JI_bitCount 17 = .ok (.iushr, 1) := by decide +kernel
theorem d_JI_bitCount_18 : decode c_JI_bitCount 18 = .ok (.ldc_w 266, 3) := by decide +kernel
theorem d_JI_bitCount_21 : decode c_JI_bitCount 21 = .ok (.iand, 1) := by decide +kernel
theorem d_JI_bitCount_22 : decode c_JI_bitCount 22 = .ok (.iadd, 1) := by decide +kernel
theorem d_JI_bitCount_23 : decode c_JI_bitCount 23 = .ok (.istore_n 0, 1) := by decide +kernel
theorem d_JI_bitCount_24 : decode c_JI_bitCount 24 = .ok (.iload_n 0, 1) := by decide +kernel
theorem d_JI_bitCount_25 : decode c_JI_bitCount 25 = .ok (.iload_n 0, 1) := by decide +kernel
theorem d_JI_bitCount_26 : decode c_JI_bitCount 26 = .ok (.iconst 4, 1) := by decide +kernel
theorem d_JI_bitCount_27 : decode c_JI_bitCount 27 = .ok (.iushr, 1) := by decide +kernel
theorem d_JI_bitCount_28 : decode c_JI_bitCount 28 = .ok (.iadd, 1) := by decide +kernel
theorem d_JI_bitCount_29 : decode c_JI_bitCount 29 = .ok (.ldc_w 267, 3) := by decide +kernel
theorem d_JI_bitCount_32 : decode c_JI_bitCount 32 = .ok (.iand, 1) := by decide +kernel
theorem d_JI_bitCount_33 : decode c_JI_bitCount 33 = .ok (.istore_n 0, 1) := by decide +kernel
theorem d_JI_bitCount_34 : decode c_JI_bitCount 34 = .ok (.iload_n 0, 1) := by decide +kernel
theorem d_JI_bitCount_35 : decode c_JI_bitCount 35 = .ok (.iload_n 0, 1) := by decide +kernel
theorem d_JI_bitCount_36 : decode c_JI_bitCount 36 = .ok (.bipush 8, 2) := by decide +kernel
theorem d_JI_bitCount_38 : decode c_JI_bitCount 38 = .ok (.iushr, 1) := by decide +kernel
theorem d_JI_bitCount_39 : decode c_JI_bitCount 39 = .ok (.iadd, 1) := by decide +kernel
theorem d_JI_bitCount_40 : decode c_JI_bitCount 40 = .ok (.istore_n 0, 1) := by decide +kernel
theorem d_JI_bitCount_41 : decode c_JI_bitCount 41 = .ok (.iload_n 0, 1) := by decide +kernel
theorem d_JI_bitCount_42 : decode c_JI_bitCount 42 = .ok (.iload_n 0, 1) := by decide +kernel
theorem d_JI_bitCount_43 : decode c_JI_bitCount 43 = .ok (.bipush 16, 2) := by decide +kernel
theorem d_JI_bitCount_45 : decode c_JI_bitCount 45 = .ok (.iushr, 1) := by decide +kernel
theorem d_JI_bitCount_46 : decode c_JI_bitCount 46 = .ok (.iadd, 1) := by decide +kernel
theorem d_JI_bitCount_47 : decode c_JI_bitCount 47 = .ok (.istore_n 0, 1) := by decide +kernel
theorem d_JI_bitCount_48 : decode c_JI_bitCount 48 = .ok (.iload_n 0, 1) := by decide +kernel
theorem d_JI_bitCount_49 : decode c_JI_bitCount 49 = .ok (.bipush 63, 2) := by decide +kernel
theorem d_JI_bitCount_51 : decode c_JI_bitCount 51 = .ok (.iand, 1) := by decide +kernel
theorem d_JI_bitCount_52 : decode c_JI_bitCount 52 = .ok (.ireturn, 1) := by decide +kernel
set_option maxHeartbeats 4000000 in
set_option maxRecDepth 100000 in
/-- bitCount: it returns a number -/
theorem C_JI_bitCount (l : Launch) (D : va_G) (t : Nat → ClassId) (x : Int32) : xr_C l D vwCl (xTY t) y_JI_bitCount c_JI_bitCount 1 (Option.some FieldType.int) ({ frames := 0, cells := 0, slots := 0, locals := 0 }) [.int x] [] (xr_P (fun v => ∃ b : Int32, v = some (.int b))) := by
  refine xr_of (by decide) (Nat.le_of_ble_eq_true rfl) ?_
  intro p e s m below meth c ls Z hr hlocks hP hl
  obtain ⟨hx, hb, hml, hown, hK⟩ := id Z
  have hown : s.vm.findClass "java/lang/Integer" = some m.cls := hown
  have hts := hK.1.at (args := ([.int x] : List Value).toArray)
  have hl : lv_has ls 1 [(0, .int x)] := hl
  refine lv_iload_n hx hb d_JI_bitCount_0 rfl (lv_at hl 0 rfl) ?_
  refine lv_iload_n hx hb d_JI_bitCount_1 rfl (lv_at hl 0 rfl) ?_
  refine lv_iconst (v := 1) hx hb d_JI_bitCount_2 (by decide) ?_
  refine lv_iushr (v := ((x : Int32).toUInt32 >>> ((1 : Int32).toUInt32 &&& Int32.toUInt32 31)).toInt32) hx hb d_JI_bitCount_3 rfl ?_
  refine lv_ldcw (v := 1431655765) hx hb hown (hts _ k_488) d_JI_bitCount_4 ?_
  refine lv_iand hx hb d_JI_bitCount_7 ?_
  refine lv_isub hx hb d_JI_bitCount_8 ?_
  refine lv_topi (fun z_1 _ => ?_)
  refine lv_istore_n (lv' := [(0, .int z_1)]) hx hb d_JI_bitCount_9 rfl hl (by decide) rfl (fun ls hl => ?_)
  refine lv_iload_n hx hb d_JI_bitCount_10 rfl (lv_at hl 0 rfl) ?_
  refine lv_ldcw (v := 858993459) hx hb hown (hts _ k_489) d_JI_bitCount_11 ?_
  refine lv_iand hx hb d_JI_bitCount_14 ?_
  refine lv_iload_n hx hb d_JI_bitCount_15 rfl (lv_at hl 0 rfl) ?_
  refine lv_iconst (v := 2) hx hb d_JI_bitCount_16 (by decide) ?_
  refine lv_iushr (v := ((z_1 : Int32).toUInt32 >>> ((2 : Int32).toUInt32 &&& Int32.toUInt32 31)).toInt32) hx hb d_JI_bitCount_17 rfl ?_
  refine lv_ldcw (v := 858993459) hx hb hown (hts _ k_489) d_JI_bitCount_18 ?_
  refine lv_iand hx hb d_JI_bitCount_21 ?_
  refine lv_iadd hx hb d_JI_bitCount_22 ?_
  refine lv_topi (fun z_2 _ => ?_)
  refine lv_istore_n (lv' := [(0, .int z_2)]) hx hb d_JI_bitCount_23 rfl hl (by decide) rfl (fun ls hl => ?_)
  refine lv_iload_n hx hb d_JI_bitCount_24 rfl (lv_at hl 0 rfl) ?_
  refine lv_iload_n hx hb d_JI_bitCount_25 rfl (lv_at hl 0 rfl) ?_
  refine lv_iconst (v := 4) hx hb d_JI_bitCount_26 (by decide) ?_
  refine lv_iushr (v := ((z_2 : Int32).toUInt32 >>> ((4 : Int32).toUInt32 &&& Int32.toUInt32 31)).toInt32) hx hb d_JI_bitCount_27 rfl ?_
  refine lv_iadd hx hb d_JI_bitCount_28 ?_
  refine lv_ldcw (v := 252645135) hx hb hown (hts _ k_490) d_JI_bitCount_29 ?_
  refine lv_iand hx hb d_JI_bitCount_32 ?_
  refine lv_topi (fun z_3 _ => ?_)
  refine lv_istore_n (lv' := [(0, .int z_3)]) hx hb d_JI_bitCount_33 rfl hl (by decide) rfl (fun ls hl => ?_)
  refine lv_iload_n hx hb d_JI_bitCount_34 rfl (lv_at hl 0 rfl) ?_
  refine lv_iload_n hx hb d_JI_bitCount_35 rfl (lv_at hl 0 rfl) ?_
  refine lv_bipush (v := 8) hx hb d_JI_bitCount_36 (by decide) ?_
  refine lv_iushr (v := ((z_3 : Int32).toUInt32 >>> ((8 : Int32).toUInt32 &&& Int32.toUInt32 31)).toInt32) hx hb d_JI_bitCount_38 rfl ?_
  refine lv_iadd hx hb d_JI_bitCount_39 ?_
  refine lv_topi (fun z_4 _ => ?_)
  refine lv_istore_n (lv' := [(0, .int z_4)]) hx hb d_JI_bitCount_40 rfl hl (by decide) rfl (fun ls hl => ?_)
  refine lv_iload_n hx hb d_JI_bitCount_41 rfl (lv_at hl 0 rfl) ?_
  refine lv_iload_n hx hb d_JI_bitCount_42 rfl (lv_at hl 0 rfl) ?_
  refine lv_bipush (v := 16) hx hb d_JI_bitCount_43 (by decide) ?_
  refine lv_iushr (v := ((z_4 : Int32).toUInt32 >>> ((16 : Int32).toUInt32 &&& Int32.toUInt32 31)).toInt32) hx hb d_JI_bitCount_45 rfl ?_
  refine lv_iadd hx hb d_JI_bitCount_46 ?_
  refine lv_topi (fun z_5 _ => ?_)
  refine lv_istore_n (lv' := [(0, .int z_5)]) hx hb d_JI_bitCount_47 rfl hl (by decide) rfl (fun ls hl => ?_)
  refine lv_iload_n hx hb d_JI_bitCount_48 rfl (lv_at hl 0 rfl) ?_
  refine lv_bipush (v := 63) hx hb d_JI_bitCount_49 (by decide) ?_
  refine lv_iand hx hb d_JI_bitCount_51 ?_
  exact W.iret hx hb hr (fun t ht _ => ⟨⟨_, rfl, ⟨_, rfl⟩⟩, ht⟩) (fun q h => by cases h) d_JI_bitCount_52
theorem d_Q_isMajority_0 : decode c_Q_isMajority 0 = .ok (.iconst 2, 1) := by decide +kernel
theorem d_Q_isMajority_1 : decode c_Q_isMajority 1 = .ok (.iload_n 0, 1) := by decide +kernel
theorem d_Q_isMajority_2 : decode c_Q_isMajority 2 = .ok (.iload_n 1, 1) := by decide +kernel
theorem d_Q_isMajority_3 : decode c_Q_isMajority 3 = .ok (.iand, 1) := by decide +kernel
theorem d_Q_isMajority_4 : decode c_Q_isMajority 4 = .ok (.invokestatic 246, 3) := by decide +kernel
theorem d_Q_isMajority_7 : decode c_Q_isMajority 7 = .ok (.imul, 1) := by decide +kernel
theorem d_Q_isMajority_8 : decode c_Q_isMajority 8 = .ok (.iload_n 0, 1) := by decide +kernel
theorem d_Q_isMajority_9 : decode c_Q_isMajority 9 = .ok (.invokestatic 246, 3) := by decide +kernel
theorem d_Q_isMajority_12 : decode c_Q_isMajority 12 = .ok (.if_icmp .le 7, 3) := by decide +kernel
theorem d_Q_isMajority_15 : decode c_Q_isMajority 15 = .ok (.iconst 1, 1) := by decide +kernel
theorem d_Q_isMajority_16 : decode c_Q_isMajority 16 = .ok (.goto 4, 3) := by decide +kernel
theorem d_Q_isMajority_19 : decode c_Q_isMajority 19 = .ok (.iconst 0, 1) := by decide +kernel
theorem d_Q_isMajority_20 : decode c_Q_isMajority 20 = .ok (.ireturn, 1) := by decide +kernel
set_option maxHeartbeats 4000000 in
set_option maxRecDepth 100000 in
/-- isMajority: it returns 0 or 1 -/
theorem C_Q_isMajority (l : Launch) (D : va_G) (t : Nat → ClassId) (a b : Int32) : xr_C l D vwCl (xTY t) y_Q_isMajority c_Q_isMajority 2 (Option.some FieldType.boolean) ({ frames := 1, cells := 0, slots := 0, locals := 20 }) [.int a, .int b] [] (xr_P (fun v => ∃ b : Int32, v = some (.int b) ∧ (b = 0 ∨ b = 1))) := by
  refine xr_of (by decide) (Nat.le_of_ble_eq_true rfl) ?_
  intro p e s m below meth c ls Z hr hlocks hP hl
  obtain ⟨hx, hb, hml, hown, hK⟩ := id Z
  have hown : s.vm.findClass "QuorumStore" = some m.cls := hown
  have hts := hK.1.at (args := ([.int a, .int b] : List Value).toArray)
  have hl : lv_has ls 2 [(0, .int a), (1, .int b)] := hl
  refine lv_iconst (v := 2) hx hb d_Q_isMajority_0 (by decide) ?_
  refine lv_iload_n hx hb d_Q_isMajority_1 rfl (lv_at hl 0 rfl) ?_
  refine lv_iload_n hx hb d_Q_isMajority_2 rfl (lv_at hl 1 rfl) ?_
  refine lv_iand hx hb d_Q_isMajority_3 ?_
  refine xr_callP (xs_S (As := [.int ((a) &&& (b))]) (rest := [.int 2]) Z (C_JI_bitCount l D t _) m_JI_bitCount k_485 k_486 rfl rfl ⟨Nat.le_of_ble_eq_true rfl, Nat.le_of_ble_eq_true rfl⟩ (xr_pre hK hP) rfl hl.1 rfl (Nat.le_of_ble_eq_true rfl) d_Q_isMajority_4 ⟨Nat.le_of_ble_eq_true rfl, Nat.le_of_ble_eq_true rfl⟩) (fun v hv => ?_)
  obtain ⟨b_1, rfl⟩ := hv
  refine lv_imul hx hb d_Q_isMajority_7 ?_
  refine lv_iload_n hx hb d_Q_isMajority_8 rfl (lv_at hl 0 rfl) ?_
  refine xr_callP (xs_S (As := [.int a]) (rest := [.int ((2) * (b_1))]) Z (C_JI_bitCount l D t _) m_JI_bitCount k_485 k_486 rfl rfl ⟨Nat.le_of_ble_eq_true rfl, Nat.le_of_ble_eq_true rfl⟩ (xr_pre hK hP) rfl hl.1 rfl (Nat.le_of_ble_eq_true rfl) d_Q_isMajority_9 ⟨Nat.le_of_ble_eq_true rfl, Nat.le_of_ble_eq_true rfl⟩) (fun v hv => ?_)
  obtain ⟨b_2, rfl⟩ := hv
  refine lv_icmp_le (tgt := 19) hx hb d_Q_isMajority_12 (by decide) (fun c_3 => ?_) (fun c_3 => ?_)
  · refine lv_iconst (v := 0) hx hb d_Q_isMajority_19 (by decide) ?_
    exact W.zret hx hb hr (by decide) (fun t ht _ => ⟨⟨_, rfl, ⟨0, rfl, Or.inl rfl⟩⟩, ht⟩) (fun q h => by cases h) d_Q_isMajority_20
  · refine lv_iconst (v := 1) hx hb d_Q_isMajority_15 (by decide) ?_
    refine lv_goto (tgt := 20) hx hb d_Q_isMajority_16 (by decide) ?_
    exact W.zret hx hb hr (by decide) (fun t ht _ => ⟨⟨_, rfl, ⟨1, rfl, Or.inr rfl⟩⟩, ht⟩) (fun q h => by cases h) d_Q_isMajority_20
theorem d_L_dequeue_0 : decode c_L_dequeue 0 = .ok (.aload_n 0, 1) := by decide +kernel
theorem d_L_dequeue_1 : decode c_L_dequeue 1 = .ok (.getfield 43, 3) := by decide +kernel
theorem d_L_dequeue_4 : decode c_L_dequeue 4 = .ok (.ifCond .ne 5, 3) := by decide +kernel
theorem d_L_dequeue_7 : decode c_L_dequeue 7 = .ok (.aconst_null, 1) := by decide +kernel
theorem d_L_dequeue_8 : decode c_L_dequeue 8 = .ok (.areturn, 1) := by decide +kernel
set_option maxHeartbeats 4000000 in
set_option maxRecDepth 100000 in
/-- dequeue of an empty queue -/
theorem C_L_dequeue (l : Launch) (D : va_G) (t : Nat → ClassId) (q : Nat → Nat) (no : Nat) (gr sp : Int32) : xr_C l D vwCl (xTY t) y_L_dequeue c_L_dequeue 3 (Option.some (FieldType.object "QuorumStore$Value")) ({ frames := 0, cells := 0, slots := 0, locals := 0 }) [.ref ((q 15))] [zO 0 (q 15) [.ref no, .int gr, .ref ((q 16)), .ref ((q 20)), .ref ((q 24)), .int 0, .int 0, .int sp], zO 4 (q 16) [.ref ((q 17)), .ref ((q 18)), .ref ((q 19))], zI t (q 17) 32 (fun _ => 0), zI t (q 18) 32 (fun _ => 0), zA t 2 (q 19) 32 (fun _ => none), zO 4 (q 20) [.ref ((q 21)), .ref ((q 22)), .ref ((q 23))], zI t (q 21) 4 (fun _ => 0), zI t (q 22) 4 (fun _ => 0), zA t 2 (q 23) 4 (fun _ => none)] (xr_Q (some .null)) := by
  refine xr_of (by decide) (Nat.le_of_ble_eq_true rfl) ?_
  intro p e s m below meth c ls Z hr hlocks hP hl
  obtain ⟨hx, hb, hml, hown, hK⟩ := id Z
  have hown : s.vm.findClass "QuorumStore$Lead" = some m.cls := hown
  have hts := hK.1.at (args := ([.ref ((q 15))] : List Value).toArray)
  have hl : lv_has ls 3 [(0, .ref ((q 15)))] := hl
  refine lv_aload_n hx hb d_L_dequeue_0 rfl (lv_at hl 0 rfl) ?_
  refine va_get (ci := 0) (C := "QuorumStore$Lead") (T := TX0) (N := 8) hx hb hts inX0 hown hK.2 hP 0 rfl rfl 5 (by decide) (hts _ k_144) (fun _ h9 => h9) rfl d_L_dequeue_1 ?_
  refine lv_if_ne (tgt := 9) hx hb d_L_dequeue_4 (by decide) (fun c_1 => absurd c_1 (fun h => h rfl)) (fun _ => ?_)
  refine lv_null hx hb d_L_dequeue_7 ?_
  exact W.aret hx hb hr (Or.inl ⟨_, rfl⟩) (Or.inl rfl) (fun t ht _ => ⟨rfl, ht⟩) (fun q h => by cases h) d_L_dequeue_8
theorem d_L_valueFor_0 : decode c_L_valueFor 0 = .ok (.aload_n 0, 1) := by decide +kernel
theorem d_L_valueFor_1 : decode c_L_valueFor 1 = .ok (.getfield 25, 3) := by decide +kernel
theorem d_L_valueFor_4 : decode c_L_valueFor 4 = .ok (.iload_n 1, 1) := by decide +kernel
theorem d_L_valueFor_5 : decode c_L_valueFor 5 = .ok (.invokevirtual 50, 3) := by decide +kernel
theorem d_L_valueFor_8 : decode c_L_valueFor 8 = .ok (.astore_n 2, 1) := by decide +kernel
theorem d_L_valueFor_9 : decode c_L_valueFor 9 = .ok (.aload_n 2, 1) := by decide +kernel
theorem d_L_valueFor_10 : decode c_L_valueFor 10 = .ok (.ifnull 5, 3) := by decide +kernel
theorem d_L_valueFor_15 : decode c_L_valueFor 15 = .ok (.aload_n 0, 1) := by decide +kernel
theorem d_L_valueFor_16 : decode c_L_valueFor 16 = .ok (.getfield 25, 3) := by decide +kernel
theorem d_L_valueFor_19 : decode c_L_valueFor 19 = .ok (.invokevirtual 58, 3) := by decide +kernel
theorem d_L_valueFor_22 : decode c_L_valueFor 22 = .ok (.iload_n 1, 1) := by decide +kernel
theorem d_L_valueFor_23 : decode c_L_valueFor 23 = .ok (.if_icmp .gt 14, 3) := by decide +kernel
theorem d_L_valueFor_26 : decode c_L_valueFor 26 = .ok (.aload_n 0, 1) := by decide +kernel
theorem d_L_valueFor_27 : decode c_L_valueFor 27 = .ok (.getfield 29, 3) := by decide +kernel
theorem d_L_valueFor_30 : decode c_L_valueFor 30 = .ok (.invokevirtual 58, 3) := by decide +kernel
theorem d_L_valueFor_33 : decode c_L_valueFor 33 = .ok (.iload_n 1, 1) := by decide +kernel
theorem d_L_valueFor_34 : decode c_L_valueFor 34 = .ok (.if_icmp .le 8, 3) := by decide +kernel
theorem d_L_valueFor_42 : decode c_L_valueFor 42 = .ok (.aload_n 0, 1) := by decide +kernel
theorem d_L_valueFor_43 : decode c_L_valueFor 43 = .ok (.invokevirtual 62, 3) := by decide +kernel
theorem d_L_valueFor_46 : decode c_L_valueFor 46 = .ok (.areturn, 1) := by decide +kernel
set_option maxHeartbeats 4000000 in
set_option maxRecDepth 100000 in
/-- valueFor(1) where nothing is there -/
theorem C_L_valueFor (l : Launch) (D : va_G) (t : Nat → ClassId) (q : Nat → Nat) (no : Nat) (gr sp : Int32) : xr_C l D vwCl (xTY t) y_L_valueFor c_L_valueFor 3 (Option.some (FieldType.object "QuorumStore$Value")) ({ frames := 2, cells := 0, slots := 0, locals := 36 }) [.ref ((q 15)), .int 1] [zO 0 (q 15) [.ref no, .int gr, .ref ((q 16)), .ref ((q 20)), .ref ((q 24)), .int 0, .int 0, .int sp], zO 4 (q 16) [.ref ((q 17)), .ref ((q 18)), .ref ((q 19))], zI t (q 17) 32 (fun _ => 0), zI t (q 18) 32 (fun _ => 0), zA t 2 (q 19) 32 (fun _ => none), zO 4 (q 20) [.ref ((q 21)), .ref ((q 22)), .ref ((q 23))], zI t (q 21) 4 (fun _ => 0), zI t (q 22) 4 (fun _ => 0), zA t 2 (q 23) 4 (fun _ => none)] (xr_Q (some .null)) := by
  refine xr_of (by decide) (Nat.le_of_ble_eq_true rfl) ?_
  intro p e s m below meth c ls Z hr hlocks hP hl
  obtain ⟨hx, hb, hml, hown, hK⟩ := id Z
  have hown : s.vm.findClass "QuorumStore$Lead" = some m.cls := hown
  have hts := hK.1.at (args := ([.ref ((q 15)), .int 1] : List Value).toArray)
  have hl : lv_has ls 3 [(0, .ref ((q 15))), (1, .int 1)] := hl
  refine lv_aload_n hx hb d_L_valueFor_0 rfl (lv_at hl 0 rfl) ?_
  refine va_get (ci := 0) (C := "QuorumStore$Lead") (T := TX0) (N := 8) hx hb hts inX0 hown hK.2 hP 0 rfl rfl 2 (by decide) (hts _ k_138) (fun _ h9 => h9) rfl d_L_valueFor_1 ?_
  refine lv_iload_n hx hb d_L_valueFor_4 rfl (lv_at hl 1 rfl) ?_
  refine xr_call (xs_V (As := [.int 1]) (rest := []) Z (C_R_valueAt l D t (q 16) (q 17) (q 18) (q 19) 32 (by decide) 1) m_R_valueAt k_461 k_421 k_422 rfl rfl ⟨Nat.le_of_ble_eq_true rfl, Nat.le_of_ble_eq_true rfl⟩ (va_recv hK.2 hP (ci := 4) (q0 := 1) rfl rfl) (xr_pre hK (hP.sub [1, 2, 3, 4] rfl)) rfl hl.1 rfl (Nat.le_of_ble_eq_true rfl) d_L_valueFor_5 ⟨Nat.le_of_ble_eq_true rfl, Nat.le_of_ble_eq_true rfl⟩) ?_
  refine lv_astore_nN (lv' := [(2, .null), (0, .ref ((q 15))), (1, .int 1)]) hx hb d_L_valueFor_8 rfl hl (by decide) rfl (fun ls hl => ?_)
  refine lv_aload_nN hx hb d_L_valueFor_9 rfl (lv_at hl 0 rfl) ?_
  refine lv_ifnullN (tgt := 15) hx hb d_L_valueFor_10 (by decide) ?_
  refine lv_aload_n hx hb d_L_valueFor_15 rfl (lv_at hl 1 rfl) ?_
  refine va_get (ci := 0) (C := "QuorumStore$Lead") (T := TX0) (N := 8) hx hb hts inX0 hown hK.2 hP 0 rfl rfl 2 (by decide) (hts _ k_138) (fun _ h9 => h9) rfl d_L_valueFor_16 ?_
  refine xr_call (xs_V (As := []) (rest := []) Z (C_R_lastSlot l D t (q 16) (q 17) (q 18) (q 19) 32 (by decide)) m_R_lastSlot k_495 k_496 k_497 rfl rfl ⟨Nat.le_of_ble_eq_true rfl, Nat.le_of_ble_eq_true rfl⟩ (va_recv hK.2 hP (ci := 4) (q0 := 1) rfl rfl) (xr_pre hK (hP.sub [1, 2, 3, 4] rfl)) rfl hl.1 rfl (Nat.le_of_ble_eq_true rfl) d_L_valueFor_19 ⟨Nat.le_of_ble_eq_true rfl, Nat.le_of_ble_eq_true rfl⟩) ?_
  refine lv_iload_n hx hb d_L_valueFor_22 rfl (lv_at hl 2 rfl) ?_
  refine lv_icmp_gt (tgt := 37) hx hb d_L_valueFor_23 (by decide) (fun c_2 => absurd c_2 (by decide)) (fun _ => ?_)
  refine lv_aload_n hx hb d_L_valueFor_26 rfl (lv_at hl 1 rfl) ?_
  refine va_get (ci := 0) (C := "QuorumStore$Lead") (T := TX0) (N := 8) hx hb hts inX0 hown hK.2 hP 0 rfl rfl 3 (by decide) (hts _ k_140) (fun _ h9 => h9) rfl d_L_valueFor_27 ?_
  refine xr_call (xs_V (As := []) (rest := []) Z (C_R_lastSlot l D t (q 20) (q 21) (q 22) (q 23) 4 (by decide)) m_R_lastSlot k_495 k_496 k_497 rfl rfl ⟨Nat.le_of_ble_eq_true rfl, Nat.le_of_ble_eq_true rfl⟩ (va_recv hK.2 hP (ci := 4) (q0 := 5) rfl rfl) (xr_pre hK (hP.sub [5, 6, 7, 8] rfl)) rfl hl.1 rfl (Nat.le_of_ble_eq_true rfl) d_L_valueFor_30 ⟨Nat.le_of_ble_eq_true rfl, Nat.le_of_ble_eq_true rfl⟩) ?_
  refine lv_iload_n hx hb d_L_valueFor_33 rfl (lv_at hl 2 rfl) ?_
  refine lv_icmp_le (tgt := 42) hx hb d_L_valueFor_34 (by decide) (fun _ => ?_) (fun c_3 => absurd (by decide) c_3)
  refine lv_aload_n hx hb d_L_valueFor_42 rfl (lv_at hl 1 rfl) ?_
  refine xr_call (xs_V (As := []) (rest := []) Z (C_L_dequeue l D t q no gr sp) m_L_dequeue k_500 k_502 ks_9 rfl rfl ⟨Nat.le_of_ble_eq_true rfl, Nat.le_of_ble_eq_true rfl⟩ (va_recv hK.2 hP (ci := 0) (q0 := 0) rfl rfl) (xr_pre hK hP) rfl hl.1 rfl (Nat.le_of_ble_eq_true rfl) d_L_valueFor_43 ⟨Nat.le_of_ble_eq_true rfl, Nat.le_of_ble_eq_true rfl⟩) ?_
  exact W.aret hx hb hr (Or.inl ⟨_, rfl⟩) (Or.inl rfl) (fun t ht _ => ⟨rfl, ht⟩) (fun q h => by cases h) d_L_valueFor_46
theorem d_L_lookAt_0 : decode c_L_lookAt 0 = .ok (.iload_n 2, 1) := by decide +kernel
theorem d_L_lookAt_1 : decode c_L_lookAt 1 = .ok (.iconst 1, 1) := by decide +kernel
theorem d_L_lookAt_2 : decode c_L_lookAt 2 = .ok (.iadd, 1) := by decide +kernel
theorem d_L_lookAt_3 : decode c_L_lookAt 3 = .ok (.istore_n 3, 1) := by decide +kernel
theorem d_L_lookAt_4 : decode c_L_lookAt 4 = .ok (.iload_n 3, 1) := by decide +kernel
theorem d_L_lookAt_5 : decode c_L_lookAt 5 = .ok (.iload_n 2, 1) := by decide +kernel
theorem d_L_lookAt_6 : decode c_L_lookAt 6 = .ok (.bipush 32, 2) := by decide +kernel
theorem d_L_lookAt_8 : decode c_L_lookAt 8 = .ok (.iadd, 1) := by decide +kernel
theorem d_L_lookAt_9 : decode c_L_lookAt 9 = .ok (.if_icmp .gt 43, 3) := by decide +kernel
theorem d_L_lookAt_12 : decode c_L_lookAt 12 = .ok (.aload_n 1, 1) := by decide +kernel
theorem d_L_lookAt_13 : decode c_L_lookAt 13 = .ok (.iload_n 3, 1) := by decide +kernel
theorem d_L_lookAt_14 : decode c_L_lookAt 14 = .ok (.invokevirtual 46, 3) := by decide +kernel
theorem d_L_lookAt_17 : decode c_L_lookAt 17 = .ok (.aload_n 0, 1) := by decide +kernel
theorem d_L_lookAt_18 : decode c_L_lookAt 18 = .ok (.getfield 25, 3) := by decide +kernel
theorem d_L_lookAt_21 : decode c_L_lookAt 21 = .ok (.iload_n 3, 1) := by decide +kernel
theorem d_L_lookAt_22 : decode c_L_lookAt 22 = .ok (.invokevirtual 46, 3) := by decide +kernel
theorem d_L_lookAt_25 : decode c_L_lookAt 25 = .ok (.if_icmp .le 21, 3) := by decide +kernel
theorem d_L_lookAt_46 : decode c_L_lookAt 46 = .ok (.iinc 3 1, 3) := by decide +kernel
theorem d_L_lookAt_49 : decode c_L_lookAt 49 = .ok (.goto (-45), 3) := by decide +kernel
theorem d_L_lookAt_52 : decode c_L_lookAt 52 = .ok (.return_, 1) := by decide +kernel
set_option maxHeartbeats 4000000 in
set_option maxRecDepth 100000 in
/-- lookAt of an empty row -/
theorem C_L_lookAt (l : Launch) (D : va_G) (t : Nat → ClassId) (q : Nat → Nat) (no : Nat) (gr sp : Int32) : xr_C l D vwCl (xTY t) y_L_lookAt c_L_lookAt 4 (Option.none : Option FieldType) ({ frames := 1, cells := 0, slots := 0, locals := 22 }) [.ref ((q 15)), .ref ((q 7)), .int 0] [zO 0 (q 15) [.ref no, .int gr, .ref ((q 16)), .ref ((q 20)), .ref ((q 24)), .int 0, .int 0, .int sp], zO 4 (q 16) [.ref ((q 17)), .ref ((q 18)), .ref ((q 19))], zI t (q 17) 32 (fun _ => 0), zI t (q 18) 32 (fun _ => 0), zA t 2 (q 19) 32 (fun _ => none), zO 4 (q 7) [.ref ((q 8)), .ref ((q 9)), .ref ((q 10))], zI t (q 8) 32 (fun _ => 0), zI t (q 9) 32 (fun _ => 0), zA t 2 (q 10) 32 (fun _ => none)] (xr_Q none) := by
  refine xr_of (by decide) (Nat.le_of_ble_eq_true rfl) ?_
  intro p e s m below meth c ls Z hr hlocks hP hl
  obtain ⟨hx, hb, hml, hown, hK⟩ := id Z
  have hown : s.vm.findClass "QuorumStore$Lead" = some m.cls := hown
  have hts := hK.1.at (args := ([.ref ((q 15)), .ref ((q 7)), .int 0] : List Value).toArray)
  have hl : lv_has ls 4 [(0, .ref ((q 15))), (1, .ref ((q 7))), (2, .int 0)] := hl
  refine lv_iload_n hx hb d_L_lookAt_0 rfl (lv_at hl 2 rfl) ?_
  refine lv_iconst (v := 1) hx hb d_L_lookAt_1 (by decide) ?_
  refine lv_iadd hx hb d_L_lookAt_2 ?_
  refine lv_istore_n (lv' := [(3, .int ((0) + (1))), (0, .ref ((q 15))), (1, .ref ((q 7))), (2, .int 0)]) hx hb d_L_lookAt_3 rfl hl (by decide) rfl (fun ls hl => ?_)
  have loop : ∀ (n i : Nat), i + n = 32 → ∀ (ls : Array Slot), lv_has ls 4 [(3, .int (nI (i + 1))), (0, .ref (q 15)), (1, .ref (q 7)), (2, .int 0)] → W p l e ({ frames := 1, cells := 0, slots := 0, locals := 22 } : Room) s m ([.ref ((q 15)), .ref ((q 7)), .int 0] : List Value).toArray below meth c s.heap [] 0 0 (MQ below (xr_Q none) ([.ref ((q 15)), .ref ((q 7)), .int 0] : List Value).toArray s 0 0 (fun _ => False)) (F0 m 4 ls []) := by
    intro n
    induction n with
    | zero =>
      intro i hi ls hl
      refine lv_iload_n hx hb d_L_lookAt_4 rfl (lv_at hl 0 rfl) ?_
      refine lv_iload_n hx hb d_L_lookAt_5 rfl (lv_at hl 3 rfl) ?_
      refine lv_bipush (v := 32) hx hb d_L_lookAt_6 (by decide) ?_
      refine lv_iadd hx hb d_L_lookAt_8 ?_
      refine lv_icmp_gt (tgt := 52) hx hb d_L_lookAt_9 (by decide) (fun _ => ?_) (fun c_1 => absurd (show nI 32 < nI (i + 1) from nI_lt (by omega) (by omega)) c_1)
      exact W.vret hx hb hr (fun t ht _ => ⟨rfl, ht⟩) (fun q h => by cases h) d_L_lookAt_52
    | succ n ih =>
      intro i hi ls hl
      refine lv_iload_n hx hb d_L_lookAt_4 rfl (lv_at hl 0 rfl) ?_
      refine lv_iload_n hx hb d_L_lookAt_5 rfl (lv_at hl 3 rfl) ?_
      refine lv_bipush (v := 32) hx hb d_L_lookAt_6 (by decide) ?_
      refine lv_iadd hx hb d_L_lookAt_8 ?_
      refine lv_icmp_gt (tgt := 52) hx hb d_L_lookAt_9 (by decide) (fun c_2 => absurd c_2 (show ¬ nI 32 < nI (i + 1) from nI_nlt (by omega) (by omega))) (fun _ => ?_)
      refine lv_aload_n hx hb d_L_lookAt_12 rfl (lv_at hl 2 rfl) ?_
      refine lv_iload_n hx hb d_L_lookAt_13 rfl (lv_at hl 0 rfl) ?_
      refine xr_call (xs_V (As := [.int (nI (i + 1))]) (rest := []) Z (C_R_markAt l D t (q 7) (q 8) (q 9) (q 10) 32 (by decide) _) m_R_markAt k_460 k_426 k_427 rfl rfl ⟨Nat.le_of_ble_eq_true rfl, Nat.le_of_ble_eq_true rfl⟩ (va_recv hK.2 hP (ci := 4) (q0 := 5) rfl rfl) (xr_pre hK (hP.sub [5, 6, 7, 8] rfl)) rfl hl.1 rfl (Nat.le_of_ble_eq_true rfl) d_L_lookAt_14 ⟨Nat.le_of_ble_eq_true rfl, Nat.le_of_ble_eq_true rfl⟩) ?_
      refine lv_aload_n hx hb d_L_lookAt_17 rfl (lv_at hl 1 rfl) ?_
      refine va_get (ci := 0) (C := "QuorumStore$Lead") (T := TX0) (N := 8) hx hb hts inX0 hown hK.2 hP 0 rfl rfl 2 (by decide) (hts _ k_138) (fun _ h9 => h9) rfl d_L_lookAt_18 ?_
      refine lv_iload_n hx hb d_L_lookAt_21 rfl (lv_at hl 0 rfl) ?_
      refine xr_call (xs_V (As := [.int (nI (i + 1))]) (rest := [.int 0]) Z (C_R_markAt l D t (q 16) (q 17) (q 18) (q 19) 32 (by decide) _) m_R_markAt k_460 k_426 k_427 rfl rfl ⟨Nat.le_of_ble_eq_true rfl, Nat.le_of_ble_eq_true rfl⟩ (va_recv hK.2 hP (ci := 4) (q0 := 1) rfl rfl) (xr_pre hK (hP.sub [1, 2, 3, 4] rfl)) rfl hl.1 rfl (Nat.le_of_ble_eq_true rfl) d_L_lookAt_22 ⟨Nat.le_of_ble_eq_true rfl, Nat.le_of_ble_eq_true rfl⟩) ?_
      refine lv_icmp_le (tgt := 46) hx hb d_L_lookAt_25 (by decide) (fun _ => ?_) (fun c_3 => absurd (by decide) c_3)
      refine lv_iinc (v := nI (i + 1 + 1)) (lv' := [(3, .int (nI (i + 1 + 1))), (0, .ref ((q 15))), (1, .ref ((q 7))), (2, .int 0)]) hx hb d_L_lookAt_46 hl (k := 0) rfl (nI_1 (i + 1)) (by decide) rfl (fun ls hl => ?_)
      refine lv_goto (tgt := 4) hx hb d_L_lookAt_49 (by decide) ?_
      exact ih (i + 1) (by omega) ls (lv_sub hl [0, 1, 2, 3] rfl)
  exact loop 32 0 (by omega) ls (lv_sub hl [0, 1, 2, 3] rfl)
theorem d_D_settle_0 : decode c_D_settle 0 = .ok (.aload_n 0, 1) := by decide +kernel
theorem d_D_settle_1 : decode c_D_settle 1 = .ok (.getfield 26, 3) := by decide +kernel
theorem d_D_settle_4 : decode c_D_settle 4 = .ok (.getfield 133, 3) := by decide +kernel
theorem d_D_settle_7 : decode c_D_settle 7 = .ok (.aload_n 0, 1) := by decide +kernel
theorem d_D_settle_8 : decode c_D_settle 8 = .ok (.getfield 70, 3) := by decide +kernel
theorem d_D_settle_11 : decode c_D_settle 11 = .ok (.if_icmp .ne 4, 3) := by decide +kernel
theorem d_D_settle_14 : decode c_D_settle 14 = .ok (.return_, 1) := by decide +kernel
set_option maxHeartbeats 4000000 in
set_option maxRecDepth 100000 in
/-- settle: nothing is due -/
theorem C_D_settle (l : Launch) (D : va_G) (t : Nat → ClassId) (q : Nat → Nat) (nw no : Nat) (nu pr lz bl tm le gr sp mk : Int32) : xr_C l D vwCl (xTY t) y_D_settle c_D_settle 2 (Option.none : Option FieldType) ({ frames := 0, cells := 0, slots := 0, locals := 0 }) [.ref ((q 0))] [zO 3 (q 0) [.int nu, .ref nw, .int pr, .int 0, .int 0, .ref ((q 1)), .ref ((q 7)), .ref ((q 11)), .int 1, .int lz, .int bl, .int tm, .int le, .int 0, .ref ((q 15))], zO 5 (q 1) [.ref ((q 2)), .ref ((q 3)), .ref ((q 4)), .ref ((q 5)), .ref ((q 6)), .int 1], zJ t (q 2) 32 (fun _ => 1099511627776), zI t (q 3) 8 (fun _ => 0), zJ t (q 4) 8 (fun _ => 0), zI t (q 5) 4 (xm 1), zI t (q 6) 4 (xm mk), zO 4 (q 7) [.ref ((q 8)), .ref ((q 9)), .ref ((q 10))], zI t (q 8) 32 (fun _ => 0), zI t (q 9) 32 (fun _ => 0), zA t 2 (q 10) 32 (fun _ => none), zO 4 (q 11) [.ref ((q 12)), .ref ((q 13)), .ref ((q 14))], zI t (q 12) 64 (fun _ => 0), zI t (q 13) 64 (fun _ => 0), zA t 2 (q 14) 64 (fun _ => none), zO 0 (q 15) [.ref no, .int gr, .ref ((q 16)), .ref ((q 20)), .ref ((q 24)), .int 0, .int 0, .int sp], zO 4 (q 16) [.ref ((q 17)), .ref ((q 18)), .ref ((q 19))], zI t (q 17) 32 (fun _ => 0), zI t (q 18) 32 (fun _ => 0), zA t 2 (q 19) 32 (fun _ => none), zO 4 (q 20) [.ref ((q 21)), .ref ((q 22)), .ref ((q 23))], zI t (q 21) 4 (fun _ => 0), zI t (q 22) 4 (fun _ => 0), zA t 2 (q 23) 4 (fun _ => none), zA t 2 (q 24) 16 (fun _ => none)] (xr_Q none) := by
  refine xr_of (by decide) (Nat.le_of_ble_eq_true rfl) ?_
  intro p e s m below meth c ls Z hr hlocks hP hl
  obtain ⟨hx, hb, hml, hown, hK⟩ := id Z
  have hown : s.vm.findClass "QuorumStore$Node" = some m.cls := hown
  have hts := hK.1.at (args := ([.ref ((q 0))] : List Value).toArray)
  have hl : lv_has ls 2 [(0, .ref ((q 0)))] := hl
  refine lv_aload_n hx hb d_D_settle_0 rfl (lv_at hl 0 rfl) ?_
  refine va_get (ci := 3) (C := "QuorumStore$Node") (T := TX3) (N := 15) hx hb hts inX3 hown hK.2 hP 0 rfl rfl 14 (by decide) (hts _ k_222) (fun _ h9 => h9) rfl d_D_settle_1 ?_
  refine va_get (ci := 0) (C := "QuorumStore$Lead") (T := TX0) (N := 8) hx hb hts inX0 hown hK.2 hP 15 rfl rfl 6 (by decide) (hts _ k_146) (fun _ h9 => h9) rfl d_D_settle_4 ?_
  refine lv_aload_n hx hb d_D_settle_7 rfl (lv_at hl 0 rfl) ?_
  refine va_get (ci := 3) (C := "QuorumStore$Node") (T := TX3) (N := 15) hx hb hts inX3 hown hK.2 hP 0 rfl rfl 3 (by decide) (hts _ k_201) (fun _ h9 => h9) rfl d_D_settle_8 ?_
  refine lv_icmp_ne (tgt := 15) hx hb d_D_settle_11 (by decide) (fun c_1 => absurd c_1 (fun h => h rfl)) (fun _ => ?_)
  exact W.vret hx hb hr (fun t ht _ => ⟨rfl, ht⟩) (fun q h => by cases h) d_D_settle_14
theorem d_D_openSlot_0 : decode c_D_openSlot 0 = .ok (.aload_n 0, 1) := by decide +kernel
theorem d_D_openSlot_1 : decode c_D_openSlot 1 = .ok (.getfield 70, 3) := by decide +kernel
theorem d_D_openSlot_4 : decode c_D_openSlot 4 = .ok (.iconst 1, 1) := by decide +kernel
theorem d_D_openSlot_5 : decode c_D_openSlot 5 = .ok (.iadd, 1) := by decide +kernel
theorem d_D_openSlot_6 : decode c_D_openSlot 6 = .ok (.istore_n 1, 1) := by decide +kernel
theorem d_D_openSlot_7 : decode c_D_openSlot 7 = .ok (.iload_n 1, 1) := by decide +kernel
theorem d_D_openSlot_8 : decode c_D_openSlot 8 = .ok (.aload_n 0, 1) := by decide +kernel
theorem d_D_openSlot_9 : decode c_D_openSlot 9 = .ok (.getfield 70, 3) := by decide +kernel
theorem d_D_openSlot_12 : decode c_D_openSlot 12 = .ok (.iconst 4, 1) := by decide +kernel
theorem d_D_openSlot_13 : decode c_D_openSlot 13 = .ok (.iadd, 1) := by decide +kernel
theorem d_D_openSlot_14 : decode c_D_openSlot 14 = .ok (.if_icmp .gt 36, 3) := by decide +kernel
theorem d_D_openSlot_17 : decode c_D_openSlot 17 = .ok (.aload_n 0, 1) := by decide +kernel
theorem d_D_openSlot_18 : decode c_D_openSlot 18 = .ok (.getfield 26, 3) := by decide +kernel
theorem d_D_openSlot_21 : decode c_D_openSlot 21 = .ok (.getfield 106, 3) := by decide +kernel
theorem d_D_openSlot_24 : decode c_D_openSlot 24 = .ok (.iload_n 1, 1) := by decide +kernel
theorem d_D_openSlot_25 : decode c_D_openSlot 25 = .ok (.invokevirtual 109, 3) := by decide +kernel
theorem d_D_openSlot_28 : decode c_D_openSlot 28 = .ok (.ifnonnull 16, 3) := by decide +kernel
theorem d_D_openSlot_31 : decode c_D_openSlot 31 = .ok (.aload_n 0, 1) := by decide +kernel
theorem d_D_openSlot_32 : decode c_D_openSlot 32 = .ok (.getfield 20, 3) := by decide +kernel
theorem d_D_openSlot_35 : decode c_D_openSlot 35 = .ok (.iload_n 1, 1) := by decide +kernel
theorem d_D_openSlot_36 : decode c_D_openSlot 36 = .ok (.invokevirtual 109, 3) := by decide +kernel
theorem d_D_openSlot_39 : decode c_D_openSlot 39 = .ok (.ifnonnull 5, 3) := by decide +kernel
theorem d_D_openSlot_42 : decode c_D_openSlot 42 = .ok (.iload_n 1, 1) := by decide +kernel
theorem d_D_openSlot_43 : decode c_D_openSlot 43 = .ok (.ireturn, 1) := by decide +kernel
set_option maxHeartbeats 4000000 in
set_option maxRecDepth 100000 in
/-- openSlot: the first -/
theorem C_D_openSlot (l : Launch) (D : va_G) (t : Nat → ClassId) (q : Nat → Nat) (nw no : Nat) (nu pr lz bl tm le gr sp mk : Int32) : xr_C l D vwCl (xTY t) y_D_openSlot c_D_openSlot 2 (Option.some FieldType.int) ({ frames := 1, cells := 0, slots := 0, locals := 22 }) [.ref ((q 0))] [zO 3 (q 0) [.int nu, .ref nw, .int pr, .int 0, .int 0, .ref ((q 1)), .ref ((q 7)), .ref ((q 11)), .int 1, .int lz, .int bl, .int tm, .int le, .int 0, .ref ((q 15))], zO 5 (q 1) [.ref ((q 2)), .ref ((q 3)), .ref ((q 4)), .ref ((q 5)), .ref ((q 6)), .int 1], zJ t (q 2) 32 (fun _ => 1099511627776), zI t (q 3) 8 (fun _ => 0), zJ t (q 4) 8 (fun _ => 0), zI t (q 5) 4 (xm 1), zI t (q 6) 4 (xm mk), zO 4 (q 7) [.ref ((q 8)), .ref ((q 9)), .ref ((q 10))], zI t (q 8) 32 (fun _ => 0), zI t (q 9) 32 (fun _ => 0), zA t 2 (q 10) 32 (fun _ => none), zO 4 (q 11) [.ref ((q 12)), .ref ((q 13)), .ref ((q 14))], zI t (q 12) 64 (fun _ => 0), zI t (q 13) 64 (fun _ => 0), zA t 2 (q 14) 64 (fun _ => none), zO 0 (q 15) [.ref no, .int gr, .ref ((q 16)), .ref ((q 20)), .ref ((q 24)), .int 0, .int 0, .int sp], zO 4 (q 16) [.ref ((q 17)), .ref ((q 18)), .ref ((q 19))], zI t (q 17) 32 (fun _ => 0), zI t (q 18) 32 (fun _ => 0), zA t 2 (q 19) 32 (fun _ => none), zO 4 (q 20) [.ref ((q 21)), .ref ((q 22)), .ref ((q 23))], zI t (q 21) 4 (fun _ => 0), zI t (q 22) 4 (fun _ => 0), zA t 2 (q 23) 4 (fun _ => none), zA t 2 (q 24) 16 (fun _ => none)] (xr_Q (some (.int 1))) := by
  refine xr_of (by decide) (Nat.le_of_ble_eq_true rfl) ?_
  intro p e s m below meth c ls Z hr hlocks hP hl
  obtain ⟨hx, hb, hml, hown, hK⟩ := id Z
  have hown : s.vm.findClass "QuorumStore$Node" = some m.cls := hown
  have hts := hK.1.at (args := ([.ref ((q 0))] : List Value).toArray)
  have hl : lv_has ls 2 [(0, .ref ((q 0)))] := hl
  refine lv_aload_n hx hb d_D_openSlot_0 rfl (lv_at hl 0 rfl) ?_
  refine va_get (ci := 3) (C := "QuorumStore$Node") (T := TX3) (N := 15) hx hb hts inX3 hown hK.2 hP 0 rfl rfl 3 (by decide) (hts _ k_201) (fun _ h9 => h9) rfl d_D_openSlot_1 ?_
  refine lv_iconst (v := 1) hx hb d_D_openSlot_4 (by decide) ?_
  refine lv_iadd hx hb d_D_openSlot_5 ?_
  refine lv_istore_n (lv' := [(1, .int ((0) + (1))), (0, .ref ((q 0)))]) hx hb d_D_openSlot_6 rfl hl (by decide) rfl (fun ls hl => ?_)
  refine lv_iload_n hx hb d_D_openSlot_7 rfl (lv_at hl 0 rfl) ?_
  refine lv_aload_n hx hb d_D_openSlot_8 rfl (lv_at hl 1 rfl) ?_
  refine va_get (ci := 3) (C := "QuorumStore$Node") (T := TX3) (N := 15) hx hb hts inX3 hown hK.2 hP 0 rfl rfl 3 (by decide) (hts _ k_201) (fun _ h9 => h9) rfl d_D_openSlot_9 ?_
  refine lv_iconst (v := 4) hx hb d_D_openSlot_12 (by decide) ?_
  refine lv_iadd hx hb d_D_openSlot_13 ?_
  refine lv_icmp_gt (tgt := 50) hx hb d_D_openSlot_14 (by decide) (fun c_1 => absurd c_1 (by decide)) (fun _ => ?_)
  refine lv_aload_n hx hb d_D_openSlot_17 rfl (lv_at hl 1 rfl) ?_
  refine va_get (ci := 3) (C := "QuorumStore$Node") (T := TX3) (N := 15) hx hb hts inX3 hown hK.2 hP 0 rfl rfl 14 (by decide) (hts _ k_222) (fun _ h9 => h9) rfl d_D_openSlot_18 ?_
  refine va_get (ci := 0) (C := "QuorumStore$Lead") (T := TX0) (N := 8) hx hb hts inX0 hown hK.2 hP 15 rfl rfl 3 (by decide) (hts _ k_141) (fun _ h9 => h9) rfl d_D_openSlot_21 ?_
  refine lv_iload_n hx hb d_D_openSlot_24 rfl (lv_at hl 0 rfl) ?_
  refine xr_call (xs_V (As := [.int ((0) + (1))]) (rest := []) Z (C_R_valueAt l D t (q 20) (q 21) (q 22) (q 23) 4 (by decide) _) m_R_valueAt k_420 k_421 k_422 rfl rfl ⟨Nat.le_of_ble_eq_true rfl, Nat.le_of_ble_eq_true rfl⟩ (va_recv hK.2 hP (ci := 4) (q0 := 20) rfl rfl) (xr_pre hK (hP.sub [20, 21, 22, 23] rfl)) rfl hl.1 rfl (Nat.le_of_ble_eq_true rfl) d_D_openSlot_25 ⟨Nat.le_of_ble_eq_true rfl, Nat.le_of_ble_eq_true rfl⟩) ?_
  refine lv_ifnonnullN hx hb d_D_openSlot_28 ?_
  refine lv_aload_n hx hb d_D_openSlot_31 rfl (lv_at hl 1 rfl) ?_
  refine va_get (ci := 3) (C := "QuorumStore$Node") (T := TX3) (N := 15) hx hb hts inX3 hown hK.2 hP 0 rfl rfl 7 (by decide) (hts _ k_209) (fun _ h9 => h9) rfl d_D_openSlot_32 ?_
  refine lv_iload_n hx hb d_D_openSlot_35 rfl (lv_at hl 0 rfl) ?_
  refine xr_call (xs_V (As := [.int ((0) + (1))]) (rest := []) Z (C_R_valueAt l D t (q 11) (q 12) (q 13) (q 14) 64 (by decide) _) m_R_valueAt k_420 k_421 k_422 rfl rfl ⟨Nat.le_of_ble_eq_true rfl, Nat.le_of_ble_eq_true rfl⟩ (va_recv hK.2 hP (ci := 4) (q0 := 11) rfl rfl) (xr_pre hK (hP.sub [11, 12, 13, 14] rfl)) rfl hl.1 rfl (Nat.le_of_ble_eq_true rfl) d_D_openSlot_36 ⟨Nat.le_of_ble_eq_true rfl, Nat.le_of_ble_eq_true rfl⟩) ?_
  refine lv_ifnonnullN hx hb d_D_openSlot_39 ?_
  refine lv_iload_n hx hb d_D_openSlot_42 rfl (lv_at hl 0 rfl) ?_
  exact W.iret hx hb hr (fun t ht _ => ⟨rfl, ht⟩) (fun q h => by cases h) d_D_openSlot_43
theorem d_D_peers_0 : decode c_D_peers 0 = .ok (.aload_n 0, 1) := by decide +kernel
theorem d_D_peers_1 : decode c_D_peers 1 = .ok (.getfield 41, 3) := by decide +kernel
theorem d_D_peers_4 : decode c_D_peers 4 = .ok (.aload_n 0, 1) := by decide +kernel
theorem d_D_peers_5 : decode c_D_peers 5 = .ok (.getfield 70, 3) := by decide +kernel
theorem d_D_peers_8 : decode c_D_peers 8 = .ok (.invokevirtual 73, 3) := by decide +kernel
theorem d_D_peers_11 : decode c_D_peers 11 = .ok (.iconst 1, 1) := by decide +kernel
theorem d_D_peers_12 : decode c_D_peers 12 = .ok (.aload_n 0, 1) := by decide +kernel
theorem d_D_peers_13 : decode c_D_peers 13 = .ok (.getfield 30, 3) := by decide +kernel
theorem d_D_peers_16 : decode c_D_peers 16 = .ok (.ishl, 1) := by decide +kernel
theorem d_D_peers_17 : decode c_D_peers 17 = .ok (.iconst (-1), 1) := by decide +kernel
theorem d_D_peers_18 : decode c_D_peers 18 = .ok (.ixor, 1) := by decide +kernel
theorem d_D_peers_19 : decode c_D_peers 19 = .ok (.iand, 1) := by decide +kernel
theorem d_D_peers_20 : decode c_D_peers 20 = .ok (.ireturn, 1) := by decide +kernel
set_option maxHeartbeats 4000000 in
set_option maxRecDepth 100000 in
/-- peers -/
theorem C_D_peers (l : Launch) (D : va_G) (t : Nat → ClassId) (q : Nat → Nat) (nw no : Nat) (nu pr lz bl tm le gr sp mk : Int32) : xr_C l D vwCl (xTY t) y_D_peers c_D_peers 1 (Option.some FieldType.int) ({ frames := 2, cells := 0, slots := 0, locals := 45 }) [.ref ((q 0))] [zO 3 (q 0) [.int nu, .ref nw, .int pr, .int 0, .int 0, .ref ((q 1)), .ref ((q 7)), .ref ((q 11)), .int 1, .int lz, .int bl, .int tm, .int le, .int 0, .ref ((q 15))], zO 5 (q 1) [.ref ((q 2)), .ref ((q 3)), .ref ((q 4)), .ref ((q 5)), .ref ((q 6)), .int 1], zJ t (q 2) 32 (fun _ => 1099511627776), zI t (q 3) 8 (fun _ => 0), zJ t (q 4) 8 (fun _ => 0), zI t (q 5) 4 (xm 1), zI t (q 6) 4 (xm mk), zO 4 (q 7) [.ref ((q 8)), .ref ((q 9)), .ref ((q 10))], zI t (q 8) 32 (fun _ => 0), zI t (q 9) 32 (fun _ => 0), zA t 2 (q 10) 32 (fun _ => none), zO 4 (q 11) [.ref ((q 12)), .ref ((q 13)), .ref ((q 14))], zI t (q 12) 64 (fun _ => 0), zI t (q 13) 64 (fun _ => 0), zA t 2 (q 14) 64 (fun _ => none), zO 0 (q 15) [.ref no, .int gr, .ref ((q 16)), .ref ((q 20)), .ref ((q 24)), .int 0, .int 0, .int sp], zO 4 (q 16) [.ref ((q 17)), .ref ((q 18)), .ref ((q 19))], zI t (q 17) 32 (fun _ => 0), zI t (q 18) 32 (fun _ => 0), zA t 2 (q 19) 32 (fun _ => none), zO 4 (q 20) [.ref ((q 21)), .ref ((q 22)), .ref ((q 23))], zI t (q 21) 4 (fun _ => 0), zI t (q 22) 4 (fun _ => 0), zA t 2 (q 23) 4 (fun _ => none), zA t 2 (q 24) 16 (fun _ => none)] (xr_Q (some (.int (xp mk nu)))) := by
  refine xr_of (by decide) (Nat.le_of_ble_eq_true rfl) ?_
  intro p e s m below meth c ls Z hr hlocks hP hl
  obtain ⟨hx, hb, hml, hown, hK⟩ := id Z
  have hown : s.vm.findClass "QuorumStore$Node" = some m.cls := hown
  have hts := hK.1.at (args := ([.ref ((q 0))] : List Value).toArray)
  have hl : lv_has ls 1 [(0, .ref ((q 0)))] := hl
  refine lv_aload_n hx hb d_D_peers_0 rfl (lv_at hl 0 rfl) ?_
  refine va_get (ci := 3) (C := "QuorumStore$Node") (T := TX3) (N := 15) hx hb hts inX3 hown hK.2 hP 0 rfl rfl 5 (by decide) (hts _ k_205) (fun _ h9 => h9) rfl d_D_peers_1 ?_
  refine lv_aload_n hx hb d_D_peers_4 rfl (lv_at hl 0 rfl) ?_
  refine va_get (ci := 3) (C := "QuorumStore$Node") (T := TX3) (N := 15) hx hb hts inX3 hown hK.2 hP 0 rfl rfl 3 (by decide) (hts _ k_201) (fun _ h9 => h9) rfl d_D_peers_5 ?_
  refine xr_call (xs_V (As := [.int 0]) (rest := []) Z (C_S_membersBehind l D t (q 1) (q 2) (q 3) (q 4) (q 5) (q 6) _ _ _ _ _) m_S_membersBehind k_360 k_361 k_362 rfl rfl ⟨Nat.le_of_ble_eq_true rfl, Nat.le_of_ble_eq_true rfl⟩ (va_recv hK.2 hP (ci := 5) (q0 := 1) rfl rfl) (xr_pre hK (hP.sub [1, 2, 3, 4, 5, 6] rfl)) rfl hl.1 rfl (Nat.le_of_ble_eq_true rfl) d_D_peers_8 ⟨Nat.le_of_ble_eq_true rfl, Nat.le_of_ble_eq_true rfl⟩) ?_
  refine lv_iconst (v := 1) hx hb d_D_peers_11 (by decide) ?_
  refine lv_aload_n hx hb d_D_peers_12 rfl (lv_at hl 0 rfl) ?_
  refine va_get (ci := 3) (C := "QuorumStore$Node") (T := TX3) (N := 15) hx hb hts inX3 hown hK.2 hP 0 rfl rfl 0 (by decide) (hts _ k_197) (fun _ h9 => h9) rfl d_D_peers_13 ?_
  refine lv_ishl hx hb d_D_peers_16 ?_
  refine lv_iconst (v := (-1)) hx hb d_D_peers_17 (by decide) ?_
  refine lv_ixor hx hb d_D_peers_18 ?_
  refine lv_iand hx hb d_D_peers_19 ?_
  exact W.iret hx hb hr (fun t ht _ => ⟨rfl, ht⟩) (fun q h => by cases h) d_D_peers_20
theorem d_D_refusal_0 : decode c_D_refusal 0 = .ok (.aload_n 0, 1) := by decide +kernel
theorem d_D_refusal_1 : decode c_D_refusal 1 = .ok (.getfield 58, 3) := by decide +kernel
theorem d_D_refusal_4 : decode c_D_refusal 4 = .ok (.ifCond .eq 29, 3) := by decide +kernel
theorem d_D_refusal_33 : decode c_D_refusal 33 = .ok (.iconst (-1), 1) := by decide +kernel
theorem d_D_refusal_34 : decode c_D_refusal 34 = .ok (.ireturn, 1) := by decide +kernel
set_option maxHeartbeats 4000000 in
set_option maxRecDepth 100000 in
/-- refusal of one that does not lead -/
theorem C_D_refusal (l : Launch) (D : va_G) (t : Nat → ClassId) (q : Nat → Nat) (nw no : Nat) (nu pr bl tm le gr sp mk : Int32) (cl sq : Int32) : xr_C l D vwCl (xTY t) y_D_refusal c_D_refusal 3 (Option.some FieldType.int) ({ frames := 0, cells := 0, slots := 0, locals := 0 }) [.ref ((q 0)), .int cl, .int sq] [zO 3 (q 0) [.int nu, .ref nw, .int pr, .int 0, .int 0, .ref ((q 1)), .ref ((q 7)), .ref ((q 11)), .int 1, .int 0, .int bl, .int tm, .int le, .int 0, .ref ((q 15))], zO 5 (q 1) [.ref ((q 2)), .ref ((q 3)), .ref ((q 4)), .ref ((q 5)), .ref ((q 6)), .int 1], zJ t (q 2) 32 (fun _ => 1099511627776), zI t (q 3) 8 (fun _ => 0), zJ t (q 4) 8 (fun _ => 0), zI t (q 5) 4 (xm 1), zI t (q 6) 4 (xm mk), zO 4 (q 7) [.ref ((q 8)), .ref ((q 9)), .ref ((q 10))], zI t (q 8) 32 (fun _ => 0), zI t (q 9) 32 (fun _ => 0), zA t 2 (q 10) 32 (fun _ => none), zO 4 (q 11) [.ref ((q 12)), .ref ((q 13)), .ref ((q 14))], zI t (q 12) 64 (fun _ => 0), zI t (q 13) 64 (fun _ => 0), zA t 2 (q 14) 64 (fun _ => none), zO 0 (q 15) [.ref no, .int gr, .ref ((q 16)), .ref ((q 20)), .ref ((q 24)), .int 0, .int 0, .int sp], zO 4 (q 16) [.ref ((q 17)), .ref ((q 18)), .ref ((q 19))], zI t (q 17) 32 (fun _ => 0), zI t (q 18) 32 (fun _ => 0), zA t 2 (q 19) 32 (fun _ => none), zO 4 (q 20) [.ref ((q 21)), .ref ((q 22)), .ref ((q 23))], zI t (q 21) 4 (fun _ => 0), zI t (q 22) 4 (fun _ => 0), zA t 2 (q 23) 4 (fun _ => none), zA t 2 (q 24) 16 (fun _ => none)] (xr_Q (some (.int (-1)))) := by
  refine xr_of (by decide) (Nat.le_of_ble_eq_true rfl) ?_
  intro p e s m below meth c ls Z hr hlocks hP hl
  obtain ⟨hx, hb, hml, hown, hK⟩ := id Z
  have hown : s.vm.findClass "QuorumStore$Node" = some m.cls := hown
  have hts := hK.1.at (args := ([.ref ((q 0)), .int cl, .int sq] : List Value).toArray)
  have hl : lv_has ls 3 [(0, .ref ((q 0))), (1, .int cl), (2, .int sq)] := hl
  refine lv_aload_n hx hb d_D_refusal_0 rfl (lv_at hl 0 rfl) ?_
  refine va_get (ci := 3) (C := "QuorumStore$Node") (T := TX3) (N := 15) hx hb hts inX3 hown hK.2 hP 0 rfl rfl 9 (by decide) (hts _ k_213) (fun _ h9 => h9) rfl d_D_refusal_1 ?_
  refine lv_if_eq (tgt := 33) hx hb d_D_refusal_4 (by decide) (fun _ => ?_) (fun c_1 => absurd (rfl) c_1)
  refine lv_iconst (v := (-1)) hx hb d_D_refusal_33 (by decide) ?_
  exact W.iret hx hb hr (fun t ht _ => ⟨rfl, ht⟩) (fun q h => by cases h) d_D_refusal_34
theorem d_D_work_0 : decode c_D_work 0 = .ok (.iconst 0, 1) := by decide +kernel
theorem d_D_work_1 : decode c_D_work 1 = .ok (.istore_n 1, 1) := by decide +kernel
theorem d_D_work_2 : decode c_D_work 2 = .ok (.iload_n 1, 1) := by decide +kernel
theorem d_D_work_3 : decode c_D_work 3 = .ok (.sipush 1000, 3) := by decide +kernel
theorem d_D_work_6 : decode c_D_work 6 = .ok (.if_icmp .ge 73, 3) := by decide +kernel
theorem d_D_work_9 : decode c_D_work 9 = .ok (.aload_n 0, 1) := by decide +kernel
theorem d_D_work_10 : decode c_D_work 10 = .ok (.invokevirtual 139, 3) := by decide +kernel
theorem d_D_work_13 : decode c_D_work 13 = .ok (.aload_n 0, 1) := by decide +kernel
theorem d_D_work_14 : decode c_D_work 14 = .ok (.invokevirtual 142, 3) := by decide +kernel
theorem d_D_work_17 : decode c_D_work 17 = .ok (.istore_n 2, 1) := by decide +kernel
theorem d_D_work_18 : decode c_D_work 18 = .ok (.iload_n 2, 1) := by decide +kernel
theorem d_D_work_19 : decode c_D_work 19 = .ok (.ifCond .eq 24, 3) := by decide +kernel
theorem d_D_work_22 : decode c_D_work 22 = .ok (.aload_n 0, 1) := by decide +kernel
theorem d_D_work_23 : decode c_D_work 23 = .ok (.getfield 41, 3) := by decide +kernel
theorem d_D_work_26 : decode c_D_work 26 = .ok (.iload_n 2, 1) := by decide +kernel
theorem d_D_work_27 : decode c_D_work 27 = .ok (.invokevirtual 90, 3) := by decide +kernel
theorem d_D_work_30 : decode c_D_work 30 = .ok (.aload_n 0, 1) := by decide +kernel
theorem d_D_work_31 : decode c_D_work 31 = .ok (.getfield 26, 3) := by decide +kernel
theorem d_D_work_34 : decode c_D_work 34 = .ok (.getfield 103, 3) := by decide +kernel
theorem d_D_work_37 : decode c_D_work 37 = .ok (.invokestatic 145, 3) := by decide +kernel
theorem d_D_work_40 : decode c_D_work 40 = .ok (.ifCond .ne 4, 3) := by decide +kernel
theorem d_D_work_43 : decode c_D_work 43 = .ok (.return_, 1) := by decide +kernel
theorem d_D_work_44 : decode c_D_work 44 = .ok (.aload_n 0, 1) := by decide +kernel
theorem d_D_work_45 : decode c_D_work 45 = .ok (.getfield 26, 3) := by decide +kernel
theorem d_D_work_48 : decode c_D_work 48 = .ok (.iload_n 2, 1) := by decide +kernel
theorem d_D_work_49 : decode c_D_work 49 = .ok (.invokevirtual 148, 3) := by decide +kernel
theorem d_D_work_52 : decode c_D_work 52 = .ok (.astore_n 3, 1) := by decide +kernel
theorem d_D_work_53 : decode c_D_work 53 = .ok (.aload_n 3, 1) := by decide +kernel
theorem d_D_work_54 : decode c_D_work 54 = .ok (.ifnonnull 4, 3) := by decide +kernel
theorem d_D_work_57 : decode c_D_work 57 = .ok (.return_, 1) := by decide +kernel
set_option maxHeartbeats 4000000 in
set_option maxRecDepth 100000 in
/-- work: nothing can be proposed -/
theorem C_D_work (l : Launch) (D : va_G) (t : Nat → ClassId) (q : Nat → Nat) (nw no : Nat) (nu pr lz bl tm le gr sp mk : Int32) : xr_C l D vwCl (xTY t) y_D_work c_D_work 4 (Option.none : Option FieldType) ({ frames := 3, cells := 0, slots := 0, locals := 58 }) [.ref ((q 0))] [zO 3 (q 0) [.int nu, .ref nw, .int pr, .int 0, .int 0, .ref ((q 1)), .ref ((q 7)), .ref ((q 11)), .int 1, .int lz, .int bl, .int tm, .int le, .int 0, .ref ((q 15))], zO 5 (q 1) [.ref ((q 2)), .ref ((q 3)), .ref ((q 4)), .ref ((q 5)), .ref ((q 6)), .int 1], zJ t (q 2) 32 (fun _ => 1099511627776), zI t (q 3) 8 (fun _ => 0), zJ t (q 4) 8 (fun _ => 0), zI t (q 5) 4 (xm 1), zI t (q 6) 4 (xm mk), zO 4 (q 7) [.ref ((q 8)), .ref ((q 9)), .ref ((q 10))], zI t (q 8) 32 (fun _ => 0), zI t (q 9) 32 (fun _ => 0), zA t 2 (q 10) 32 (fun _ => none), zO 4 (q 11) [.ref ((q 12)), .ref ((q 13)), .ref ((q 14))], zI t (q 12) 64 (fun _ => 0), zI t (q 13) 64 (fun _ => 0), zA t 2 (q 14) 64 (fun _ => none), zO 0 (q 15) [.ref no, .int gr, .ref ((q 16)), .ref ((q 20)), .ref ((q 24)), .int 0, .int 0, .int sp], zO 4 (q 16) [.ref ((q 17)), .ref ((q 18)), .ref ((q 19))], zI t (q 17) 32 (fun _ => 0), zI t (q 18) 32 (fun _ => 0), zA t 2 (q 19) 32 (fun _ => none), zO 4 (q 20) [.ref ((q 21)), .ref ((q 22)), .ref ((q 23))], zI t (q 21) 4 (fun _ => 0), zI t (q 22) 4 (fun _ => 0), zA t 2 (q 23) 4 (fun _ => none), zA t 2 (q 24) 16 (fun _ => none)] (xr_Q none) := by
  refine xr_of (by decide) (Nat.le_of_ble_eq_true rfl) ?_
  intro p e s m below meth c ls Z hr hlocks hP hl
  obtain ⟨hx, hb, hml, hown, hK⟩ := id Z
  have hown : s.vm.findClass "QuorumStore$Node" = some m.cls := hown
  have hts := hK.1.at (args := ([.ref ((q 0))] : List Value).toArray)
  have hl : lv_has ls 4 [(0, .ref ((q 0)))] := hl
  refine lv_iconst (v := 0) hx hb d_D_work_0 (by decide) ?_
  refine lv_istore_n (lv' := [(1, .int 0), (0, .ref ((q 0)))]) hx hb d_D_work_1 rfl hl (by decide) rfl (fun ls hl => ?_)
  refine lv_iload_n hx hb d_D_work_2 rfl (lv_at hl 0 rfl) ?_
  refine lv_sipush (v := 1000) hx hb d_D_work_3 (by decide) ?_
  refine lv_icmp_ge (tgt := 79) hx hb d_D_work_6 (by decide) (fun c_1 => absurd c_1 (by decide)) (fun _ => ?_)
  refine lv_aload_n hx hb d_D_work_9 rfl (lv_at hl 1 rfl) ?_
  refine xr_call (xs_V (As := []) (rest := []) Z (C_D_settle l D t q nw no nu pr lz bl tm le gr sp mk) m_D_settle k_470 k_472 ks_7 rfl rfl ⟨Nat.le_of_ble_eq_true rfl, Nat.le_of_ble_eq_true rfl⟩ (va_recv hK.2 hP (ci := 3) (q0 := 0) rfl rfl) (xr_pre hK hP) rfl hl.1 rfl (Nat.le_of_ble_eq_true rfl) d_D_work_10 ⟨Nat.le_of_ble_eq_true rfl, Nat.le_of_ble_eq_true rfl⟩) ?_
  refine lv_aload_n hx hb d_D_work_13 rfl (lv_at hl 1 rfl) ?_
  refine xr_call (xs_V (As := []) (rest := []) Z (C_D_openSlot l D t q nw no nu pr lz bl tm le gr sp mk) m_D_openSlot k_478 k_480 ks_8 rfl rfl ⟨Nat.le_of_ble_eq_true rfl, Nat.le_of_ble_eq_true rfl⟩ (va_recv hK.2 hP (ci := 3) (q0 := 0) rfl rfl) (xr_pre hK hP) rfl hl.1 rfl (Nat.le_of_ble_eq_true rfl) d_D_work_14 ⟨Nat.le_of_ble_eq_true rfl, Nat.le_of_ble_eq_true rfl⟩) ?_
  refine lv_istore_n (lv' := [(2, .int 1), (1, .int 0), (0, .ref ((q 0)))]) hx hb d_D_work_17 rfl hl (by decide) rfl (fun ls hl => ?_)
  refine lv_iload_n hx hb d_D_work_18 rfl (lv_at hl 0 rfl) ?_
  refine lv_if_eq (tgt := 43) hx hb d_D_work_19 (by decide) (fun c_2 => absurd c_2 (by decide)) (fun _ => ?_)
  refine lv_aload_n hx hb d_D_work_22 rfl (lv_at hl 2 rfl) ?_
  refine va_get (ci := 3) (C := "QuorumStore$Node") (T := TX3) (N := 15) hx hb hts inX3 hown hK.2 hP 0 rfl rfl 5 (by decide) (hts _ k_205) (fun _ h9 => h9) rfl d_D_work_23 ?_
  refine lv_iload_n hx hb d_D_work_26 rfl (lv_at hl 0 rfl) ?_
  refine xr_call (xs_V (As := [.int 1]) (rest := []) Z (C_S_configAt l D t (q 1) (q 2) (q 3) (q 4) (q 5) (q 6) _ _ _ _ _ _) m_S_configAt k_424 k_365 k_366 rfl rfl ⟨Nat.le_of_ble_eq_true rfl, Nat.le_of_ble_eq_true rfl⟩ (va_recv hK.2 hP (ci := 5) (q0 := 1) rfl rfl) (xr_pre hK (hP.sub [1, 2, 3, 4, 5, 6] rfl)) rfl hl.1 rfl (Nat.le_of_ble_eq_true rfl) d_D_work_27 ⟨Nat.le_of_ble_eq_true rfl, Nat.le_of_ble_eq_true rfl⟩) ?_
  refine lv_aload_n hx hb d_D_work_30 rfl (lv_at hl 2 rfl) ?_
  refine va_get (ci := 3) (C := "QuorumStore$Node") (T := TX3) (N := 15) hx hb hts inX3 hown hK.2 hP 0 rfl rfl 14 (by decide) (hts _ k_222) (fun _ h9 => h9) rfl d_D_work_31 ?_
  refine va_get (ci := 0) (C := "QuorumStore$Lead") (T := TX0) (N := 8) hx hb hts inX0 hown hK.2 hP 15 rfl rfl 1 (by decide) (hts _ k_136) (fun _ h9 => h9) rfl d_D_work_34 ?_
  refine xr_callP (xs_SN (As := [.int mk, .int gr]) (rest := []) Z (C_Q_isMajority l D t _ _) m_Q_isMajority k_482 k_483 rfl rfl ⟨Nat.le_of_ble_eq_true rfl, Nat.le_of_ble_eq_true rfl⟩ (xr_pre hK (hP.sub [] rfl)) rfl hl.1 rfl (Nat.le_of_ble_eq_true rfl) d_D_work_37 ⟨Nat.le_of_ble_eq_true rfl, Nat.le_of_ble_eq_true rfl⟩) (fun v hv => ?_)
  obtain ⟨b_3, rfl, hb_3⟩ := hv
  refine lv_if_ne (tgt := 44) hx hb d_D_work_40 (by decide) (fun c_4 => ?_) (fun c_4 => ?_)
  · refine lv_aload_n hx hb d_D_work_44 rfl (lv_at hl 2 rfl) ?_
    refine va_get (ci := 3) (C := "QuorumStore$Node") (T := TX3) (N := 15) hx hb hts inX3 hown hK.2 hP 0 rfl rfl 14 (by decide) (hts _ k_222) (fun _ h9 => h9) rfl d_D_work_45 ?_
    refine lv_iload_n hx hb d_D_work_48 rfl (lv_at hl 0 rfl) ?_
    refine xr_call (xs_V (As := [.int 1]) (rest := []) Z (C_L_valueFor l D t q no gr sp) m_L_valueFor k_491 k_492 k_493 rfl rfl ⟨Nat.le_of_ble_eq_true rfl, Nat.le_of_ble_eq_true rfl⟩ (va_recv hK.2 hP (ci := 0) (q0 := 15) rfl rfl) (xr_pre hK (hP.sub [15, 16, 17, 18, 19, 20, 21, 22, 23] rfl)) rfl hl.1 rfl (Nat.le_of_ble_eq_true rfl) d_D_work_49 ⟨Nat.le_of_ble_eq_true rfl, Nat.le_of_ble_eq_true rfl⟩) ?_
    refine lv_astore_nN (lv' := [(3, .null), (2, .int 1), (1, .int 0), (0, .ref ((q 0)))]) hx hb d_D_work_52 rfl hl (by decide) rfl (fun ls hl => ?_)
    refine lv_aload_nN hx hb d_D_work_53 rfl (lv_at hl 0 rfl) ?_
    refine lv_ifnonnullN hx hb d_D_work_54 ?_
    exact W.vret hx hb hr (fun t ht _ => ⟨rfl, ht⟩) (fun q h => by cases h) d_D_work_57
  · exact W.vret hx hb hr (fun t ht _ => ⟨rfl, ht⟩) (fun q h => by cases h) d_D_work_43
