/-! The reference: messages. -/
theorem d_PM_set_0 : decode c_PM_set 0 = .ok (.aload_n 0, 1) := by decide +kernel
theorem d_PM_set_1 : decode c_PM_set 1 = .ok (.aload_n 1, 1) := by decide +kernel
theorem d_PM_set_2 : decode c_PM_set 2 = .ok (.getfield 23, 3) := by decide +kernel
theorem d_PM_set_5 : decode c_PM_set 5 = .ok (.putfield 23, 3) := by decide +kernel
theorem d_PM_set_8 : decode c_PM_set 8 = .ok (.aload_n 0, 1) := by decide +kernel
theorem d_PM_set_9 : decode c_PM_set 9 = .ok (.aload_n 1, 1) := by decide +kernel
theorem d_PM_set_10 : decode c_PM_set 10 = .ok (.getfield 27, 3) := by decide +kernel
theorem d_PM_set_13 : decode c_PM_set 13 = .ok (.putfield 27, 3) := by decide +kernel
theorem d_PM_set_16 : decode c_PM_set 16 = .ok (.aload_n 0, 1) := by decide +kernel
theorem d_PM_set_17 : decode c_PM_set 17 = .ok (.aload_n 1, 1) := by decide +kernel
theorem d_PM_set_18 : decode c_PM_set 18 = .ok (.getfield 30, 3) := by decide +kernel
theorem d_PM_set_21 : decode c_PM_set 21 = .ok (.putfield 30, 3) := by decide +kernel
theorem d_PM_set_24 : decode c_PM_set 24 = .ok (.aload_n 0, 1) := by decide +kernel
theorem d_PM_set_25 : decode c_PM_set 25 = .ok (.aload_n 1, 1) := by decide +kernel
theorem d_PM_set_26 : decode c_PM_set 26 = .ok (.getfield 33, 3) := by decide +kernel
theorem d_PM_set_29 : decode c_PM_set 29 = .ok (.putfield 33, 3) := by decide +kernel
theorem d_PM_set_32 : decode c_PM_set 32 = .ok (.aload_n 0, 1) := by decide +kernel
theorem d_PM_set_33 : decode c_PM_set 33 = .ok (.aload_n 1, 1) := by decide +kernel
theorem d_PM_set_34 : decode c_PM_set 34 = .ok (.getfield 36, 3) := by decide +kernel
theorem d_PM_set_37 : decode c_PM_set 37 = .ok (.putfield 36, 3) := by decide +kernel
theorem d_PM_set_40 : decode c_PM_set 40 = .ok (.aload_n 0, 1) := by decide +kernel
theorem d_PM_set_41 : decode c_PM_set 41 = .ok (.aload_n 1, 1) := by decide +kernel
theorem d_PM_set_42 : decode c_PM_set 42 = .ok (.getfield 39, 3) := by decide +kernel
theorem d_PM_set_45 : decode c_PM_set 45 = .ok (.putfield 39, 3) := by decide +kernel
theorem d_PM_set_48 : decode c_PM_set 48 = .ok (.aload_n 0, 1) := by decide +kernel
theorem d_PM_set_49 : decode c_PM_set 49 = .ok (.getfield 10, 3) := by decide +kernel
theorem d_PM_set_52 : decode c_PM_set 52 = .ok (.iconst 0, 1) := by decide +kernel
theorem d_PM_set_53 : decode c_PM_set 53 = .ok (.putfield 43, 3) := by decide +kernel
theorem d_PM_set_56 : decode c_PM_set 56 = .ok (.aload_n 1, 1) := by decide +kernel
theorem d_PM_set_57 : decode c_PM_set 57 = .ok (.getfield 23, 3) := by decide +kernel
theorem d_PM_set_60 : decode c_PM_set 60 = .ok (.iconst 2, 1) := by decide +kernel
theorem d_PM_set_61 : decode c_PM_set 61 = .ok (.if_icmp .ne 14, 3) := by decide +kernel
theorem d_PM_set_75 : decode c_PM_set 75 = .ok (.aload_n 1, 1) := by decide +kernel
theorem d_PM_set_76 : decode c_PM_set 76 = .ok (.getfield 23, 3) := by decide +kernel
theorem d_PM_set_79 : decode c_PM_set 79 = .ok (.bipush 9, 2) := by decide +kernel
theorem d_PM_set_81 : decode c_PM_set 81 = .ok (.if_icmp .ne 14, 3) := by decide +kernel
theorem d_PM_set_95 : decode c_PM_set 95 = .ok (.return_, 1) := by decide +kernel
set_option maxHeartbeats 4000000 in
set_option maxRecDepth 100000 in
/-- set of a message without a list or a state -/
theorem C_PM_set (l : Launch) (D : va_G) (t : Nat → ClassId) (mq ml mt a1 b1 v1 hd hli hst : Nat) (h1 h2 h3 h4 h5 : Int32) (hk : ¬ h1 = 2 ∧ ¬ h1 = 9) : xe_C l D vwCl (xTY t) y_PM_set c_PM_set 2 (Option.none : Option FieldType) ({ frames := 0, cells := 0, slots := 0, locals := 0 }) [.ref mq, .ref hd] [zO 8 mq [.int 0, .int 0, .int 0, .int 0, .int 0, .null, .ref ml, .ref mt], zO 10 ml [.ref a1, .ref b1, .ref v1, .int 0], zO 8 hd [.int h1, .int h2, .int h3, .int h4, .int h5, .null, .ref hli, .ref hst]] (xe_v D vwCl (fun _ : Unit => True) (fun _ => [zO 8 hd [.int h1, .int h2, .int h3, .int h4, .int h5, .null, .ref hli, .ref hst]])) 0 0 := by
  refine xe_of (by decide) (Nat.le_of_ble_eq_true rfl) ?_
  intro p e s m below meth c ls A Z hr hlocks hin hA hP hD hS hl
  obtain ⟨hx, hb, hml, hown, hK⟩ := id Z
  have hown : s.vm.findClass "QuorumStoreModel$Message" = some m.cls := hown
  have hts := hK.1.at (args := ([.ref mq, .ref hd] : List Value).toArray)
  have hl : lv_has ls 2 [(0, .ref mq), (1, .ref hd)] := hl
  refine lv_aload_n hx hb d_PM_set_0 rfl (lv_at hl 0 rfl) ?_
  refine lv_aload_n hx hb d_PM_set_1 rfl (lv_at hl 1 rfl) ?_
  refine va_get (ci := 8) (C := "QuorumStoreModel$Message") (T := TX8) (N := 8) hx hb hts inX8 hown hK.2 hP 2 rfl rfl 0 (by decide) (hts _ k_886) (fun _ h9 => h9) rfl d_PM_set_2 ?_
  refine va_put (ci := 8) (v := .int h1) (ty := tyX8 0) (C := "QuorumStoreModel$Message") (T := TX8) (N := 8) hx hb hts inX8 tyX8 okX8 nmX8 hown hK.2 hP hD hS 0 rfl rfl 0 (by decide) (hts _ k_886) (fun _ h9 => h9) rfl (by decide +kernel) rfl rfl (Nat.le_of_ble_eq_true rfl) d_PM_set_5 (fun H locs hP hD hS => ?_)
  have hP : va_P D vwCl [zO 8 mq [.int h1, .int 0, .int 0, .int 0, .int 0, .null, .ref ml, .ref mt], zO 10 ml [.ref a1, .ref b1, .ref v1, .int 0], zO 8 hd [.int h1, .int h2, .int h3, .int h4, .int h5, .null, .ref hli, .ref hst]] H := hP
  have hD : va_D A [zO 8 mq [.int h1, .int 0, .int 0, .int 0, .int 0, .null, .ref ml, .ref mt], zO 10 ml [.ref a1, .ref b1, .ref v1, .int 0], zO 8 hd [.int h1, .int h2, .int h3, .int h4, .int h5, .null, .ref hli, .ref hst]] := hD
  refine lv_aload_n hx hb d_PM_set_8 rfl (lv_at hl 0 rfl) ?_
  refine lv_aload_n hx hb d_PM_set_9 rfl (lv_at hl 1 rfl) ?_
  refine va_get (ci := 8) (C := "QuorumStoreModel$Message") (T := TX8) (N := 8) hx hb hts inX8 hown hK.2 hP 2 rfl rfl 1 (by decide) (hts _ k_888) (fun _ h9 => h9) rfl d_PM_set_10 ?_
  refine va_put (ci := 8) (v := .int h2) (ty := tyX8 1) (C := "QuorumStoreModel$Message") (T := TX8) (N := 8) hx hb hts inX8 tyX8 okX8 nmX8 hown hK.2 hP hD hS 0 rfl rfl 1 (by decide) (hts _ k_888) (fun _ h9 => h9) rfl (by decide +kernel) rfl rfl (Nat.le_of_ble_eq_true rfl) d_PM_set_13 (fun H locs hP hD hS => ?_)
  have hP : va_P D vwCl [zO 8 mq [.int h1, .int h2, .int 0, .int 0, .int 0, .null, .ref ml, .ref mt], zO 10 ml [.ref a1, .ref b1, .ref v1, .int 0], zO 8 hd [.int h1, .int h2, .int h3, .int h4, .int h5, .null, .ref hli, .ref hst]] H := hP
  have hD : va_D A [zO 8 mq [.int h1, .int h2, .int 0, .int 0, .int 0, .null, .ref ml, .ref mt], zO 10 ml [.ref a1, .ref b1, .ref v1, .int 0], zO 8 hd [.int h1, .int h2, .int h3, .int h4, .int h5, .null, .ref hli, .ref hst]] := hD
  refine lv_aload_n hx hb d_PM_set_16 rfl (lv_at hl 0 rfl) ?_
  refine lv_aload_n hx hb d_PM_set_17 rfl (lv_at hl 1 rfl) ?_
  refine va_get (ci := 8) (C := "QuorumStoreModel$Message") (T := TX8) (N := 8) hx hb hts inX8 hown hK.2 hP 2 rfl rfl 2 (by decide) (hts _ k_890) (fun _ h9 => h9) rfl d_PM_set_18 ?_
  refine va_put (ci := 8) (v := .int h3) (ty := tyX8 2) (C := "QuorumStoreModel$Message") (T := TX8) (N := 8) hx hb hts inX8 tyX8 okX8 nmX8 hown hK.2 hP hD hS 0 rfl rfl 2 (by decide) (hts _ k_890) (fun _ h9 => h9) rfl (by decide +kernel) rfl rfl (Nat.le_of_ble_eq_true rfl) d_PM_set_21 (fun H locs hP hD hS => ?_)
  have hP : va_P D vwCl [zO 8 mq [.int h1, .int h2, .int h3, .int 0, .int 0, .null, .ref ml, .ref mt], zO 10 ml [.ref a1, .ref b1, .ref v1, .int 0], zO 8 hd [.int h1, .int h2, .int h3, .int h4, .int h5, .null, .ref hli, .ref hst]] H := hP
  have hD : va_D A [zO 8 mq [.int h1, .int h2, .int h3, .int 0, .int 0, .null, .ref ml, .ref mt], zO 10 ml [.ref a1, .ref b1, .ref v1, .int 0], zO 8 hd [.int h1, .int h2, .int h3, .int h4, .int h5, .null, .ref hli, .ref hst]] := hD
  refine lv_aload_n hx hb d_PM_set_24 rfl (lv_at hl 0 rfl) ?_
  refine lv_aload_n hx hb d_PM_set_25 rfl (lv_at hl 1 rfl) ?_
  refine va_get (ci := 8) (C := "QuorumStoreModel$Message") (T := TX8) (N := 8) hx hb hts inX8 hown hK.2 hP 2 rfl rfl 3 (by decide) (hts _ k_892) (fun _ h9 => h9) rfl d_PM_set_26 ?_
  refine va_put (ci := 8) (v := .int h4) (ty := tyX8 3) (C := "QuorumStoreModel$Message") (T := TX8) (N := 8) hx hb hts inX8 tyX8 okX8 nmX8 hown hK.2 hP hD hS 0 rfl rfl 3 (by decide) (hts _ k_892) (fun _ h9 => h9) rfl (by decide +kernel) rfl rfl (Nat.le_of_ble_eq_true rfl) d_PM_set_29 (fun H locs hP hD hS => ?_)
  have hP : va_P D vwCl [zO 8 mq [.int h1, .int h2, .int h3, .int h4, .int 0, .null, .ref ml, .ref mt], zO 10 ml [.ref a1, .ref b1, .ref v1, .int 0], zO 8 hd [.int h1, .int h2, .int h3, .int h4, .int h5, .null, .ref hli, .ref hst]] H := hP
  have hD : va_D A [zO 8 mq [.int h1, .int h2, .int h3, .int h4, .int 0, .null, .ref ml, .ref mt], zO 10 ml [.ref a1, .ref b1, .ref v1, .int 0], zO 8 hd [.int h1, .int h2, .int h3, .int h4, .int h5, .null, .ref hli, .ref hst]] := hD
  refine lv_aload_n hx hb d_PM_set_32 rfl (lv_at hl 0 rfl) ?_
  refine lv_aload_n hx hb d_PM_set_33 rfl (lv_at hl 1 rfl) ?_
  refine va_get (ci := 8) (C := "QuorumStoreModel$Message") (T := TX8) (N := 8) hx hb hts inX8 hown hK.2 hP 2 rfl rfl 4 (by decide) (hts _ k_894) (fun _ h9 => h9) rfl d_PM_set_34 ?_
  refine va_put (ci := 8) (v := .int h5) (ty := tyX8 4) (C := "QuorumStoreModel$Message") (T := TX8) (N := 8) hx hb hts inX8 tyX8 okX8 nmX8 hown hK.2 hP hD hS 0 rfl rfl 4 (by decide) (hts _ k_894) (fun _ h9 => h9) rfl (by decide +kernel) rfl rfl (Nat.le_of_ble_eq_true rfl) d_PM_set_37 (fun H locs hP hD hS => ?_)
  have hP : va_P D vwCl [zO 8 mq [.int h1, .int h2, .int h3, .int h4, .int h5, .null, .ref ml, .ref mt], zO 10 ml [.ref a1, .ref b1, .ref v1, .int 0], zO 8 hd [.int h1, .int h2, .int h3, .int h4, .int h5, .null, .ref hli, .ref hst]] H := hP
  have hD : va_D A [zO 8 mq [.int h1, .int h2, .int h3, .int h4, .int h5, .null, .ref ml, .ref mt], zO 10 ml [.ref a1, .ref b1, .ref v1, .int 0], zO 8 hd [.int h1, .int h2, .int h3, .int h4, .int h5, .null, .ref hli, .ref hst]] := hD
  refine lv_aload_n hx hb d_PM_set_40 rfl (lv_at hl 0 rfl) ?_
  refine lv_aload_n hx hb d_PM_set_41 rfl (lv_at hl 1 rfl) ?_
  refine va_get (ci := 8) (C := "QuorumStoreModel$Message") (T := TX8) (N := 8) hx hb hts inX8 hown hK.2 hP 2 rfl rfl 5 (by decide) (hts _ k_896) (fun _ h9 => h9) rfl d_PM_set_42 ?_
  refine va_put (ci := 8) (v := .null) (ty := tyX8 5) (C := "QuorumStoreModel$Message") (T := TX8) (N := 8) hx hb hts inX8 tyX8 okX8 nmX8 hown hK.2 hP hD hS 0 rfl rfl 5 (by decide) (hts _ k_896) (fun _ h9 => h9) rfl (by decide +kernel) rfl rfl (Nat.le_of_ble_eq_true rfl) d_PM_set_45 (fun H locs hP hD hS => ?_)
  have hP : va_P D vwCl [zO 8 mq [.int h1, .int h2, .int h3, .int h4, .int h5, .null, .ref ml, .ref mt], zO 10 ml [.ref a1, .ref b1, .ref v1, .int 0], zO 8 hd [.int h1, .int h2, .int h3, .int h4, .int h5, .null, .ref hli, .ref hst]] H := hP
  have hD : va_D A [zO 8 mq [.int h1, .int h2, .int h3, .int h4, .int h5, .null, .ref ml, .ref mt], zO 10 ml [.ref a1, .ref b1, .ref v1, .int 0], zO 8 hd [.int h1, .int h2, .int h3, .int h4, .int h5, .null, .ref hli, .ref hst]] := hD
  refine lv_aload_n hx hb d_PM_set_48 rfl (lv_at hl 0 rfl) ?_
  refine va_get (ci := 8) (C := "QuorumStoreModel$Message") (T := TX8) (N := 8) hx hb hts inX8 hown hK.2 hP 0 rfl rfl 6 (by decide) (hts _ k_898) (fun _ h9 => h9) rfl d_PM_set_49 ?_
  refine lv_iconst (v := 0) hx hb d_PM_set_52 (by decide) ?_
  refine va_put (ci := 10) (v := .int 0) (ty := tyX10 3) (C := "QuorumStoreModel$Slots") (T := TX10) (N := 4) hx hb hts inX10 tyX10 okX10 nmX10 hown hK.2 hP hD hS 1 rfl rfl 3 (by decide) (hts _ k_841) (fun _ h9 => h9) rfl (by decide +kernel) rfl rfl (Nat.le_of_ble_eq_true rfl) d_PM_set_53 (fun H locs hP hD hS => ?_)
  have hP : va_P D vwCl [zO 8 mq [.int h1, .int h2, .int h3, .int h4, .int h5, .null, .ref ml, .ref mt], zO 10 ml [.ref a1, .ref b1, .ref v1, .int 0], zO 8 hd [.int h1, .int h2, .int h3, .int h4, .int h5, .null, .ref hli, .ref hst]] H := hP
  have hD : va_D A [zO 8 mq [.int h1, .int h2, .int h3, .int h4, .int h5, .null, .ref ml, .ref mt], zO 10 ml [.ref a1, .ref b1, .ref v1, .int 0], zO 8 hd [.int h1, .int h2, .int h3, .int h4, .int h5, .null, .ref hli, .ref hst]] := hD
  refine lv_aload_n hx hb d_PM_set_56 rfl (lv_at hl 1 rfl) ?_
  refine va_get (ci := 8) (C := "QuorumStoreModel$Message") (T := TX8) (N := 8) hx hb hts inX8 hown hK.2 hP 2 rfl rfl 0 (by decide) (hts _ k_886) (fun _ h9 => h9) rfl d_PM_set_57 ?_
  refine lv_iconst (v := 2) hx hb d_PM_set_60 (by decide) ?_
  refine lv_icmp_ne (tgt := 75) hx hb d_PM_set_61 (by decide) (fun _ => ?_) (fun c_1 => absurd c_1 (hk.1))
  refine lv_aload_n hx hb d_PM_set_75 rfl (lv_at hl 1 rfl) ?_
  refine va_get (ci := 8) (C := "QuorumStoreModel$Message") (T := TX8) (N := 8) hx hb hts inX8 hown hK.2 hP 2 rfl rfl 0 (by decide) (hts _ k_886) (fun _ h9 => h9) rfl d_PM_set_76 ?_
  refine lv_bipush (v := 9) hx hb d_PM_set_79 (by decide) ?_
  refine lv_icmp_ne (tgt := 95) hx hb d_PM_set_81 (by decide) (fun _ => ?_) (fun c_2 => absurd c_2 (hk.2))
  have hP := hP.sub (ws' := [zO 8 hd [.int h1, .int h2, .int h3, .int h4, .int h5, .null, .ref hli, .ref hst]]) [2] rfl
  have hD := hD.sub (ws' := [zO 8 hd [.int h1, .int h2, .int h3, .int h4, .int h5, .null, .ref hli, .ref hst]]) [2] (by decide) rfl
  exact W.vret hx hb hr (fun t ht hW => ⟨⟨(), rfl, trivial, by rw [ht]; exact hP, hD⟩, hS.F ht⟩) hS.2.2 d_PM_set_95
theorem d_P_send_0 : decode c_P_send 0 = .ok (.aload_n 0, 1) := by decide +kernel
theorem d_P_send_1 : decode c_P_send 1 = .ok (.dup, 1) := by decide +kernel
theorem d_P_send_2 : decode c_P_send 2 = .ok (.getfield 46, 3) := by decide +kernel
theorem d_P_send_5 : decode c_P_send 5 = .ok (.iconst 1, 1) := by decide +kernel
theorem d_P_send_6 : decode c_P_send 6 = .ok (.iadd, 1) := by decide +kernel
theorem d_P_send_7 : decode c_P_send 7 = .ok (.putfield 46, 3) := by decide +kernel
theorem d_P_send_10 : decode c_P_send 10 = .ok (.aload_n 0, 1) := by decide +kernel
theorem d_P_send_11 : decode c_P_send 11 = .ok (.getfield 49, 3) := by decide +kernel
theorem d_P_send_14 : decode c_P_send 14 = .ok (.sipush 300, 3) := by decide +kernel
theorem d_P_send_17 : decode c_P_send 17 = .ok (.if_icmp .ne 14, 3) := by decide +kernel
theorem d_P_send_20 : decode c_P_send 20 = .ok (.aload_n 0, 1) := by decide +kernel
theorem d_P_send_21 : decode c_P_send 21 = .ok (.dup, 1) := by decide +kernel
theorem d_P_send_22 : decode c_P_send 22 = .ok (.getfield 52, 3) := by decide +kernel
theorem d_P_send_25 : decode c_P_send 25 = .ok (.iconst 1, 1) := by decide +kernel
theorem d_P_send_26 : decode c_P_send 26 = .ok (.iadd, 1) := by decide +kernel
theorem d_P_send_27 : decode c_P_send 27 = .ok (.putfield 52, 3) := by decide +kernel
theorem d_P_send_30 : decode c_P_send 30 = .ok (.return_, 1) := by decide +kernel
theorem d_P_send_31 : decode c_P_send 31 = .ok (.aload_n 0, 1) := by decide +kernel
theorem d_P_send_32 : decode c_P_send 32 = .ok (.getfield 17, 3) := by decide +kernel
theorem d_P_send_35 : decode c_P_send 35 = .ok (.aload_n 0, 1) := by decide +kernel
theorem d_P_send_36 : decode c_P_send 36 = .ok (.getfield 49, 3) := by decide +kernel
theorem d_P_send_39 : decode c_P_send 39 = .ok (.aaload, 1) := by decide +kernel
theorem d_P_send_40 : decode c_P_send 40 = .ok (.ifnonnull 19, 3) := by decide +kernel
theorem d_P_send_43 : decode c_P_send 43 = .ok (.aload_n 0, 1) := by decide +kernel
theorem d_P_send_44 : decode c_P_send 44 = .ok (.getfield 17, 3) := by decide +kernel
theorem d_P_send_47 : decode c_P_send 47 = .ok (.aload_n 0, 1) := by decide +kernel
theorem d_P_send_48 : decode c_P_send 48 = .ok (.getfield 49, 3) := by decide +kernel
theorem d_P_send_51 : decode c_P_send 51 = .ok (.new 15, 3) := by decide +kernel
theorem d_P_send_54 : decode c_P_send 54 = .ok (.dup, 1) := by decide +kernel
theorem d_P_send_55 : decode c_P_send 55 = .ok (.invokespecial 21, 3) := by decide +kernel
theorem d_P_send_58 : decode c_P_send 58 = .ok (.aastore, 1) := by decide +kernel
theorem d_P_send_59 : decode c_P_send 59 = .ok (.aload_n 0, 1) := by decide +kernel
theorem d_P_send_60 : decode c_P_send 60 = .ok (.getfield 17, 3) := by decide +kernel
theorem d_P_send_63 : decode c_P_send 63 = .ok (.aload_n 0, 1) := by decide +kernel
theorem d_P_send_64 : decode c_P_send 64 = .ok (.getfield 49, 3) := by decide +kernel
theorem d_P_send_67 : decode c_P_send 67 = .ok (.aaload, 1) := by decide +kernel
theorem d_P_send_68 : decode c_P_send 68 = .ok (.aload_n 1, 1) := by decide +kernel
theorem d_P_send_69 : decode c_P_send 69 = .ok (.invokevirtual 55, 3) := by decide +kernel
theorem d_P_send_72 : decode c_P_send 72 = .ok (.aload_n 0, 1) := by decide +kernel
theorem d_P_send_73 : decode c_P_send 73 = .ok (.dup, 1) := by decide +kernel
theorem d_P_send_74 : decode c_P_send 74 = .ok (.getfield 49, 3) := by decide +kernel
theorem d_P_send_77 : decode c_P_send 77 = .ok (.iconst 1, 1) := by decide +kernel
theorem d_P_send_78 : decode c_P_send 78 = .ok (.iadd, 1) := by decide +kernel
theorem d_P_send_79 : decode c_P_send 79 = .ok (.putfield 49, 3) := by decide +kernel
theorem d_P_send_82 : decode c_P_send 82 = .ok (.return_, 1) := by decide +kernel
set_option maxHeartbeats 4000000 in
set_option maxRecDepth 100000 in
/-- send -/
theorem C_P_send (l : Launch) (D : va_G) (t : Nat → ClassId) (ma nb wy hd tk hli hst : Nat) (th : Int32) (z : Nat) (hz : z ≤ 300) (x y : Int32) (g : Nat → Option Nat) (hg : ∀ j, z ≤ j → g j = none) (h1 h2 h3 h4 h5 : Int32) (hk : ¬ h1 = 2 ∧ ¬ h1 = 9) : xe_C l D vwCl (xTY t) y_P_send c_P_send 2 (Option.none : Option FieldType) ({ frames := 3, cells := 11, slots := 99, locals := 61 }) [.ref ma, .ref hd] [zO 13 ma [.int th, .int 0, .int x, .int y, .int 0, .int (nI z), .ref nb, .ref wy, .ref hd, .ref tk], zA t 6 wy 300 g, zO 8 hd [.int h1, .int h2, .int h3, .int h4, .int h5, .null, .ref hli, .ref hst]] (xe_v D vwCl (fun u : Int32 × Int32 × (Nat → Option Nat) => ∀ j, min 300 (z + 1) ≤ j → u.2.2 j = none) (fun u => [zO 13 ma [.int th, .int 0, .int u.1, .int u.2.1, .int 0, .int (nI (min 300 (z + 1))), .ref nb, .ref wy, .ref hd, .ref tk], zA t 6 wy 300 u.2.2, zO 8 hd [.int h1, .int h2, .int h3, .int h4, .int h5, .null, .ref hli, .ref hst]])) 11 99 := by
  refine xe_of (by decide) (Nat.le_of_ble_eq_true rfl) ?_
  intro p e s m below meth c ls A Z hr hlocks hin hA hP hD hS hl
  obtain ⟨hx, hb, hml, hown, hK⟩ := id Z
  have hown : s.vm.findClass "QuorumStoreModel" = some m.cls := hown
  have hts := hK.1.at (args := ([.ref ma, .ref hd] : List Value).toArray)
  have hl : lv_has ls 2 [(0, .ref ma), (1, .ref hd)] := hl
  refine lv_aload_n hx hb d_P_send_0 rfl (lv_at hl 0 rfl) ?_
  refine lv_dup hx hb d_P_send_1 rfl ?_
  refine va_get (ci := 13) (C := "QuorumStoreModel") (T := TX13) (N := 10) hx hb hts inX13 hown hK.2 hP 0 rfl rfl 2 (by decide) (hts _ k_997) (fun _ h9 => h9) rfl d_P_send_2 ?_
  refine lv_iconst (v := 1) hx hb d_P_send_5 (by decide) ?_
  refine lv_iadd hx hb d_P_send_6 ?_
  refine lv_topi (fun f_1 ef_1 => ?_)
  refine va_put (ci := 13) (v := .int f_1) (ty := tyX13 2) (C := "QuorumStoreModel") (T := TX13) (N := 10) hx hb hts inX13 tyX13 okX13 nmX13 hown hK.2 hP hD hS 0 rfl rfl 2 (by decide) (hts _ k_997) (fun _ h9 => h9) rfl (by decide +kernel) rfl rfl (Nat.le_of_ble_eq_true rfl) d_P_send_7 (fun H locs hP hD hS => ?_)
  have hP : va_P D vwCl [zO 13 ma [.int th, .int 0, .int f_1, .int y, .int 0, .int (nI z), .ref nb, .ref wy, .ref hd, .ref tk], zA t 6 wy 300 g, zO 8 hd [.int h1, .int h2, .int h3, .int h4, .int h5, .null, .ref hli, .ref hst]] H := hP
  have hD : va_D A [zO 13 ma [.int th, .int 0, .int f_1, .int y, .int 0, .int (nI z), .ref nb, .ref wy, .ref hd, .ref tk], zA t 6 wy 300 g, zO 8 hd [.int h1, .int h2, .int h3, .int h4, .int h5, .null, .ref hli, .ref hst]] := hD
  refine lv_aload_n hx hb d_P_send_10 rfl (lv_at hl 0 rfl) ?_
  refine va_get (ci := 13) (C := "QuorumStoreModel") (T := TX13) (N := 10) hx hb hts inX13 hown hK.2 hP 0 rfl rfl 5 (by decide) (hts _ k_1000) (fun _ h9 => h9) rfl d_P_send_11 ?_
  refine lv_sipush (v := 300) hx hb d_P_send_14 (by decide) ?_
  refine lv_icmp_ne (tgt := 31) hx hb d_P_send_17 (by decide) (fun c_2 => ?_) (fun c_2 => ?_)
  · have hlt : z < 300 := by
      rcases Nat.lt_or_ge z 300 with h | h
      · exact h
      · exact absurd (show nI z = nI 300 by rw [show z = 300 by omega]) c_2
    have ez : (nI z).toNatClampNeg = z := nI_clamp (by omega)
    refine lv_aload_n hx hb d_P_send_31 rfl (lv_at hl 0 rfl) ?_
    refine va_get (ci := 13) (C := "QuorumStoreModel") (T := TX13) (N := 10) hx hb hts inX13 hown hK.2 hP 0 rfl rfl 7 (by decide) (hts _ k_1002) (fun _ h9 => h9) rfl d_P_send_32 ?_
    refine lv_aload_n hx hb d_P_send_35 rfl (lv_at hl 0 rfl) ?_
    refine va_get (ci := 13) (C := "QuorumStoreModel") (T := TX13) (N := 10) hx hb hts inX13 hown hK.2 hP 0 rfl rfl 5 (by decide) (hts _ k_1000) (fun _ h9 => h9) rfl d_P_send_36 ?_
    refine va_aldq hx hb hK.2 hP 1 6 rfl rfl (vp_in_nI hlt (by decide)) d_P_send_39 ?_
    rw [ez, hg z (Nat.le_refl z)]
    refine lv_ifnonnullN hx hb d_P_send_40 ?_
    refine lv_aload_n hx hb d_P_send_43 rfl (lv_at hl 0 rfl) ?_
    refine va_get (ci := 13) (C := "QuorumStoreModel") (T := TX13) (N := 10) hx hb hts inX13 hown hK.2 hP 0 rfl rfl 7 (by decide) (hts _ k_1002) (fun _ h9 => h9) rfl d_P_send_44 ?_
    refine lv_aload_n hx hb d_P_send_47 rfl (lv_at hl 0 rfl) ?_
    refine va_get (ci := 13) (C := "QuorumStoreModel") (T := TX13) (N := 10) hx hb hts inX13 hown hK.2 hP 0 rfl rfl 5 (by decide) (hts _ k_1000) (fun _ h9 => h9) rfl d_P_send_48 ?_
    refine va_new (ci := 8) (fs := [.int 0, .int 0, .int 0, .int 0, .int 0, .null, .null, .null]) (C := "QuorumStoreModel$Message") (T := TX8) (N := 8) hx hb hts inX8 tyX8 okX8 hown (hts _ k_819) (hts _ k_821) (hts _ k_9) hK.2 hP hD hS hA rfl (by decide) (Nat.le_of_ble_eq_true rfl) (Nat.le_of_ble_eq_true rfl) d_P_send_51 (fun q_4 H hP hD hS => ?_)
    have hP : va_P D vwCl [zO 13 ma [.int th, .int 0, .int f_1, .int y, .int 0, .int (nI z), .ref nb, .ref wy, .ref hd, .ref tk], zA t 6 wy 300 g, zO 8 hd [.int h1, .int h2, .int h3, .int h4, .int h5, .null, .ref hli, .ref hst], zO 8 q_4 [.int 0, .int 0, .int 0, .int 0, .int 0, .null, .null, .null]] H := hP
    have hD : va_D A [zO 13 ma [.int th, .int 0, .int f_1, .int y, .int 0, .int (nI z), .ref nb, .ref wy, .ref hd, .ref tk], zA t 6 wy 300 g, zO 8 hd [.int h1, .int h2, .int h3, .int h4, .int h5, .null, .ref hli, .ref hst], zO 8 q_4 [.int 0, .int 0, .int 0, .int 0, .int 0, .null, .null, .null]] := hD
    refine lv_dup hx hb d_P_send_54 rfl ?_
    refine xe_callv (wr := [zO 13 ma [.int th, .int 0, .int f_1, .int y, .int 0, .int (nI z), .ref nb, .ref wy, .ref hd, .ref tk], zA t 6 wy 300 g, zO 8 hd [.int h1, .int h2, .int h3, .int h4, .int h5, .null, .ref hli, .ref hst]]) (xs_IN (As := []) (rest := [.ref q_4, .int (nI z), .ref wy]) Z (C_PM_init l D t q_4 H.size) m_PM_init k_822 k_823 rfl rfl rfl ⟨Nat.le_of_ble_eq_true rfl, Nat.le_of_ble_eq_true rfl⟩ (xe_pre hK (hP.sub [3] rfl) (hD.sub [3] (by decide) rfl)) rfl hl.1 rfl (Nat.le_of_ble_eq_true rfl) d_P_send_55 ⟨Nat.le_of_ble_eq_true rfl, Nat.le_of_ble_eq_true rfl⟩) hP hD hS hA [3] [0, 1, 2] rfl rfl (by decide) (by decide) (fun u_ H locs _ hP hD hS => ?_)
    obtain ⟨ml, a1, b1, v1, mt⟩ := u_
    have hP : va_P D vwCl [zO 13 ma [.int th, .int 0, .int f_1, .int y, .int 0, .int (nI z), .ref nb, .ref wy, .ref hd, .ref tk], zA t 6 wy 300 g, zO 8 hd [.int h1, .int h2, .int h3, .int h4, .int h5, .null, .ref hli, .ref hst], zO 8 q_4 [.int 0, .int 0, .int 0, .int 0, .int 0, .null, .ref ml, .ref mt], zO 10 ml [.ref a1, .ref b1, .ref v1, .int 0]] H := hP
    have hD : va_D A [zO 13 ma [.int th, .int 0, .int f_1, .int y, .int 0, .int (nI z), .ref nb, .ref wy, .ref hd, .ref tk], zA t 6 wy 300 g, zO 8 hd [.int h1, .int h2, .int h3, .int h4, .int h5, .null, .ref hli, .ref hst], zO 8 q_4 [.int 0, .int 0, .int 0, .int 0, .int 0, .null, .ref ml, .ref mt], zO 10 ml [.ref a1, .ref b1, .ref v1, .int 0]] := hD
    refine va_astq hx hb hK.2 hP hD hS 1 6 3 8 rfl rfl rfl rfl (vp_in_nI hlt (by decide)) d_P_send_58 (fun H locs hP hD hS => ?_)
    rw [ez] at hP hD
    have hP : va_P D vwCl [zO 13 ma [.int th, .int 0, .int f_1, .int y, .int 0, .int (nI z), .ref nb, .ref wy, .ref hd, .ref tk], zA t 6 wy 300 (va_up g z (some q_4)), zO 8 hd [.int h1, .int h2, .int h3, .int h4, .int h5, .null, .ref hli, .ref hst], zO 8 q_4 [.int 0, .int 0, .int 0, .int 0, .int 0, .null, .ref ml, .ref mt], zO 10 ml [.ref a1, .ref b1, .ref v1, .int 0]] H := hP
    have hD : va_D A [zO 13 ma [.int th, .int 0, .int f_1, .int y, .int 0, .int (nI z), .ref nb, .ref wy, .ref hd, .ref tk], zA t 6 wy 300 (va_up g z (some q_4)), zO 8 hd [.int h1, .int h2, .int h3, .int h4, .int h5, .null, .ref hli, .ref hst], zO 8 q_4 [.int 0, .int 0, .int 0, .int 0, .int 0, .null, .ref ml, .ref mt], zO 10 ml [.ref a1, .ref b1, .ref v1, .int 0]] := hD
    refine lv_aload_n hx hb d_P_send_59 rfl (lv_at hl 0 rfl) ?_
    refine va_get (ci := 13) (C := "QuorumStoreModel") (T := TX13) (N := 10) hx hb hts inX13 hown hK.2 hP 0 rfl rfl 7 (by decide) (hts _ k_1002) (fun _ h9 => h9) rfl d_P_send_60 ?_
    refine lv_aload_n hx hb d_P_send_63 rfl (lv_at hl 0 rfl) ?_
    refine va_get (ci := 13) (C := "QuorumStoreModel") (T := TX13) (N := 10) hx hb hts inX13 hown hK.2 hP 0 rfl rfl 5 (by decide) (hts _ k_1000) (fun _ h9 => h9) rfl d_P_send_64 ?_
    refine va_aldq hx hb hK.2 hP 1 6 rfl rfl (vp_in_nI hlt (by decide)) d_P_send_67 ?_
    rw [ez, va_up_self]
    refine lv_aload_n hx hb d_P_send_68 rfl (lv_at hl 1 rfl) ?_
    refine xe_callv (wr := [zO 13 ma [.int th, .int 0, .int f_1, .int y, .int 0, .int (nI z), .ref nb, .ref wy, .ref hd, .ref tk], zA t 6 wy 300 (va_up g z (some q_4))]) (xs_V (As := [.ref hd]) (rest := []) Z (C_PM_set l D t q_4 ml mt a1 b1 v1 hd hli hst h1 h2 h3 h4 h5 hk H.size) m_PM_set k_1092 k_1093 k_1094 rfl rfl ⟨Nat.le_of_ble_eq_true rfl, Nat.le_of_ble_eq_true rfl⟩ (va_recv hK.2 hP (ci := 8) (q0 := 3) rfl rfl) (xe_pre hK (hP.sub [3, 4, 2] rfl) (hD.sub [3, 4, 2] (by decide) rfl)) rfl hl.1 rfl (Nat.le_of_ble_eq_true rfl) d_P_send_69 ⟨Nat.le_of_ble_eq_true rfl, Nat.le_of_ble_eq_true rfl⟩) hP hD hS hA [3, 4, 2] [0, 1] rfl rfl (by decide) (by decide) (fun u_ H locs _ hP hD hS => ?_)
    have hP : va_P D vwCl [zO 13 ma [.int th, .int 0, .int f_1, .int y, .int 0, .int (nI z), .ref nb, .ref wy, .ref hd, .ref tk], zA t 6 wy 300 (va_up g z (some q_4)), zO 8 hd [.int h1, .int h2, .int h3, .int h4, .int h5, .null, .ref hli, .ref hst]] H := hP
    have hD : va_D A [zO 13 ma [.int th, .int 0, .int f_1, .int y, .int 0, .int (nI z), .ref nb, .ref wy, .ref hd, .ref tk], zA t 6 wy 300 (va_up g z (some q_4)), zO 8 hd [.int h1, .int h2, .int h3, .int h4, .int h5, .null, .ref hli, .ref hst]] := hD
    refine lv_aload_n hx hb d_P_send_72 rfl (lv_at hl 0 rfl) ?_
    refine lv_dup hx hb d_P_send_73 rfl ?_
    refine va_get (ci := 13) (C := "QuorumStoreModel") (T := TX13) (N := 10) hx hb hts inX13 hown hK.2 hP 0 rfl rfl 5 (by decide) (hts _ k_1000) (fun _ h9 => h9) rfl d_P_send_74 ?_
    refine lv_iconst (v := 1) hx hb d_P_send_77 (by decide) ?_
    refine lv_iadd hx hb d_P_send_78 ?_
    refine lv_topi (fun f_5 ef_5 => ?_)
    refine va_put (ci := 13) (v := .int f_5) (ty := tyX13 5) (C := "QuorumStoreModel") (T := TX13) (N := 10) hx hb hts inX13 tyX13 okX13 nmX13 hown hK.2 hP hD hS 0 rfl rfl 5 (by decide) (hts _ k_1000) (fun _ h9 => h9) rfl (by decide +kernel) rfl rfl (Nat.le_of_ble_eq_true rfl) d_P_send_79 (fun H locs hP hD hS => ?_)
    have hP : va_P D vwCl [zO 13 ma [.int th, .int 0, .int f_1, .int y, .int 0, .int f_5, .ref nb, .ref wy, .ref hd, .ref tk], zA t 6 wy 300 (va_up g z (some q_4)), zO 8 hd [.int h1, .int h2, .int h3, .int h4, .int h5, .null, .ref hli, .ref hst]] H := hP
    have hD : va_D A [zO 13 ma [.int th, .int 0, .int f_1, .int y, .int 0, .int f_5, .ref nb, .ref wy, .ref hd, .ref tk], zA t 6 wy 300 (va_up g z (some q_4)), zO 8 hd [.int h1, .int h2, .int h3, .int h4, .int h5, .null, .ref hli, .ref hst]] := hD
    obtain rfl : f_5 = nI (min 300 (z + 1)) := ef_5.trans (by rw [nI_1, Nat.min_eq_right (by omega)])
    have hP : va_P D vwCl [zO 13 ma [.int th, .int 0, .int f_1, .int y, .int 0, .int (nI (min 300 (z + 1))), .ref nb, .ref wy, .ref hd, .ref tk], zA t 6 wy 300 (va_up g z (some q_4)), zO 8 hd [.int h1, .int h2, .int h3, .int h4, .int h5, .null, .ref hli, .ref hst]] H := hP
    have hD : va_D A [zO 13 ma [.int th, .int 0, .int f_1, .int y, .int 0, .int (nI (min 300 (z + 1))), .ref nb, .ref wy, .ref hd, .ref tk], zA t 6 wy 300 (va_up g z (some q_4)), zO 8 hd [.int h1, .int h2, .int h3, .int h4, .int h5, .null, .ref hli, .ref hst]] := hD
    exact W.vret hx hb hr (fun t ht hW => ⟨⟨(_, _, _), rfl, (fun j hj => (va_up_ne g _ (show j ≠ z by omega)).trans (hg j (by omega))), by rw [ht]; exact hP, hD⟩, hS.F ht⟩) hS.2.2 d_P_send_82
  · have hz3 : z = 300 := by
      rcases Nat.lt_or_ge z 300 with h | h
      · exact absurd c_2 (fun h9 => absurd (nI_lt h (by decide)) (by rw [h9]; decide))
      · omega
    subst hz3
    refine lv_aload_n hx hb d_P_send_20 rfl (lv_at hl 0 rfl) ?_
    refine lv_dup hx hb d_P_send_21 rfl ?_
    refine va_get (ci := 13) (C := "QuorumStoreModel") (T := TX13) (N := 10) hx hb hts inX13 hown hK.2 hP 0 rfl rfl 3 (by decide) (hts _ k_998) (fun _ h9 => h9) rfl d_P_send_22 ?_
    refine lv_iconst (v := 1) hx hb d_P_send_25 (by decide) ?_
    refine lv_iadd hx hb d_P_send_26 ?_
    refine lv_topi (fun f_6 ef_6 => ?_)
    refine va_put (ci := 13) (v := .int f_6) (ty := tyX13 3) (C := "QuorumStoreModel") (T := TX13) (N := 10) hx hb hts inX13 tyX13 okX13 nmX13 hown hK.2 hP hD hS 0 rfl rfl 3 (by decide) (hts _ k_998) (fun _ h9 => h9) rfl (by decide +kernel) rfl rfl (Nat.le_of_ble_eq_true rfl) d_P_send_27 (fun H locs hP hD hS => ?_)
    have hP : va_P D vwCl [zO 13 ma [.int th, .int 0, .int f_1, .int f_6, .int 0, .int (nI 300), .ref nb, .ref wy, .ref hd, .ref tk], zA t 6 wy 300 g, zO 8 hd [.int h1, .int h2, .int h3, .int h4, .int h5, .null, .ref hli, .ref hst]] H := hP
    have hD : va_D A [zO 13 ma [.int th, .int 0, .int f_1, .int f_6, .int 0, .int (nI 300), .ref nb, .ref wy, .ref hd, .ref tk], zA t 6 wy 300 g, zO 8 hd [.int h1, .int h2, .int h3, .int h4, .int h5, .null, .ref hli, .ref hst]] := hD
    refine W.widen (k := 11) (n := 99) (by decide) (by decide) ?_
    exact W.vret hx hb hr (fun t ht hW => ⟨⟨(_, _, _), rfl, hg, by rw [ht]; exact hP, hD⟩, hS.F ht⟩) hS.2.2 d_P_send_30
theorem d_P_begin_0 : decode c_P_begin 0 = .ok (.aload_n 0, 1) := by decide +kernel
theorem d_P_begin_1 : decode c_P_begin 1 = .ok (.getfield 22, 3) := by decide +kernel
theorem d_P_begin_4 : decode c_P_begin 4 = .ok (.iload_n 1, 1) := by decide +kernel
theorem d_P_begin_5 : decode c_P_begin 5 = .ok (.putfield 59, 3) := by decide +kernel
theorem d_P_begin_8 : decode c_P_begin 8 = .ok (.aload_n 0, 1) := by decide +kernel
theorem d_P_begin_9 : decode c_P_begin 9 = .ok (.getfield 22, 3) := by decide +kernel
theorem d_P_begin_12 : decode c_P_begin 12 = .ok (.aload_n 2, 1) := by decide +kernel
theorem d_P_begin_13 : decode c_P_begin 13 = .ok (.getfield 62, 3) := by decide +kernel
theorem d_P_begin_16 : decode c_P_begin 16 = .ok (.putfield 65, 3) := by decide +kernel
theorem d_P_begin_19 : decode c_P_begin 19 = .ok (.aload_n 0, 1) := by decide +kernel
theorem d_P_begin_20 : decode c_P_begin 20 = .ok (.getfield 22, 3) := by decide +kernel
theorem d_P_begin_23 : decode c_P_begin 23 = .ok (.iload_n 3, 1) := by decide +kernel
theorem d_P_begin_24 : decode c_P_begin 24 = .ok (.putfield 68, 3) := by decide +kernel
theorem d_P_begin_27 : decode c_P_begin 27 = .ok (.aload_n 0, 1) := by decide +kernel
theorem d_P_begin_28 : decode c_P_begin 28 = .ok (.getfield 22, 3) := by decide +kernel
theorem d_P_begin_31 : decode c_P_begin 31 = .ok (.iload 4, 2) := by decide +kernel
theorem d_P_begin_33 : decode c_P_begin 33 = .ok (.putfield 71, 3) := by decide +kernel
theorem d_P_begin_36 : decode c_P_begin 36 = .ok (.aload_n 0, 1) := by decide +kernel
theorem d_P_begin_37 : decode c_P_begin 37 = .ok (.getfield 22, 3) := by decide +kernel
theorem d_P_begin_40 : decode c_P_begin 40 = .ok (.iload 5, 2) := by decide +kernel
theorem d_P_begin_42 : decode c_P_begin 42 = .ok (.putfield 74, 3) := by decide +kernel
theorem d_P_begin_45 : decode c_P_begin 45 = .ok (.aload_n 0, 1) := by decide +kernel
theorem d_P_begin_46 : decode c_P_begin 46 = .ok (.getfield 22, 3) := by decide +kernel
theorem d_P_begin_49 : decode c_P_begin 49 = .ok (.aconst_null, 1) := by decide +kernel
theorem d_P_begin_50 : decode c_P_begin 50 = .ok (.putfield 77, 3) := by decide +kernel
theorem d_P_begin_53 : decode c_P_begin 53 = .ok (.aload_n 0, 1) := by decide +kernel
theorem d_P_begin_54 : decode c_P_begin 54 = .ok (.getfield 22, 3) := by decide +kernel
theorem d_P_begin_57 : decode c_P_begin 57 = .ok (.areturn, 1) := by decide +kernel
set_option maxHeartbeats 4000000 in
set_option maxRecDepth 100000 in
/-- begin -/
theorem C_P_begin (l : Launch) (D : va_G) (t : Nat → ClassId) (ma nb wy hd tk hli hst : Nat) (th : Int32) (z : Nat) (x y : Int32) (h1 h2 h3 h4 h5 : Int32) (q : Nat → Nat) (nu lz pr bl tm le gr : Int32) (kd to bt sl : Int32) : xe_C l D vwCl (xTY t) y_P_begin c_P_begin 6 (Option.some (FieldType.object "QuorumStoreModel$Message")) ({ frames := 0, cells := 0, slots := 0, locals := 0 }) [.ref ma, .int kd, .ref ((q 0)), .int to, .int bt, .int sl] [zO 13 ma [.int th, .int 0, .int x, .int y, .int 0, .int (nI z), .ref nb, .ref wy, .ref hd, .ref tk], zO 8 hd [.int h1, .int h2, .int h3, .int h4, .int h5, .null, .ref hli, .ref hst], zO 9 (q 0) [.int nu, .int 1, .int lz, .int pr, .int 0, .int bl, .int tm, .int le, .int gr, .int 0, .ref ((q 1)), .ref ((q 7)), .ref ((q 11)), .ref ((q 15)), .ref ((q 19)), .ref ((q 23)), .int 0]] (xe_r D vwCl hd (fun _ : Unit => True) (fun _ => [zO 13 ma [.int th, .int 0, .int x, .int y, .int 0, .int (nI z), .ref nb, .ref wy, .ref hd, .ref tk], zO 8 hd [.int kd, .int nu, .int to, .int bt, .int sl, .null, .ref hli, .ref hst], zO 9 (q 0) [.int nu, .int 1, .int lz, .int pr, .int 0, .int bl, .int tm, .int le, .int gr, .int 0, .ref ((q 1)), .ref ((q 7)), .ref ((q 11)), .ref ((q 15)), .ref ((q 19)), .ref ((q 23)), .int 0]])) 0 0 := by
  refine xe_of (by decide) (Nat.le_of_ble_eq_true rfl) ?_
  intro p e s m below meth c ls A Z hr hlocks hin hA hP hD hS hl
  obtain ⟨hx, hb, hml, hown, hK⟩ := id Z
  have hown : s.vm.findClass "QuorumStoreModel" = some m.cls := hown
  have hts := hK.1.at (args := ([.ref ma, .int kd, .ref ((q 0)), .int to, .int bt, .int sl] : List Value).toArray)
  have hl : lv_has ls 6 [(0, .ref ma), (1, .int kd), (2, .ref ((q 0))), (3, .int to), (4, .int bt), (5, .int sl)] := hl
  refine lv_aload_n hx hb d_P_begin_0 rfl (lv_at hl 0 rfl) ?_
  refine va_get (ci := 13) (C := "QuorumStoreModel") (T := TX13) (N := 10) hx hb hts inX13 hown hK.2 hP 0 rfl rfl 8 (by decide) (hts _ k_1003) (fun _ h9 => h9) rfl d_P_begin_1 ?_
  refine lv_iload_n hx hb d_P_begin_4 rfl (lv_at hl 1 rfl) ?_
  refine va_put (ci := 8) (v := .int kd) (ty := tyX8 0) (C := "QuorumStoreModel$Message") (T := TX8) (N := 8) hx hb hts inX8 tyX8 okX8 nmX8 hown hK.2 hP hD hS 1 rfl rfl 0 (by decide) (hts _ k_887) (fun _ h9 => h9) rfl (by decide +kernel) rfl rfl (Nat.le_of_ble_eq_true rfl) d_P_begin_5 (fun H locs hP hD hS => ?_)
  have hP : va_P D vwCl [zO 13 ma [.int th, .int 0, .int x, .int y, .int 0, .int (nI z), .ref nb, .ref wy, .ref hd, .ref tk], zO 8 hd [.int kd, .int h2, .int h3, .int h4, .int h5, .null, .ref hli, .ref hst], zO 9 (q 0) [.int nu, .int 1, .int lz, .int pr, .int 0, .int bl, .int tm, .int le, .int gr, .int 0, .ref ((q 1)), .ref ((q 7)), .ref ((q 11)), .ref ((q 15)), .ref ((q 19)), .ref ((q 23)), .int 0]] H := hP
  have hD : va_D A [zO 13 ma [.int th, .int 0, .int x, .int y, .int 0, .int (nI z), .ref nb, .ref wy, .ref hd, .ref tk], zO 8 hd [.int kd, .int h2, .int h3, .int h4, .int h5, .null, .ref hli, .ref hst], zO 9 (q 0) [.int nu, .int 1, .int lz, .int pr, .int 0, .int bl, .int tm, .int le, .int gr, .int 0, .ref ((q 1)), .ref ((q 7)), .ref ((q 11)), .ref ((q 15)), .ref ((q 19)), .ref ((q 23)), .int 0]] := hD
  refine lv_aload_n hx hb d_P_begin_8 rfl (lv_at hl 0 rfl) ?_
  refine va_get (ci := 13) (C := "QuorumStoreModel") (T := TX13) (N := 10) hx hb hts inX13 hown hK.2 hP 0 rfl rfl 8 (by decide) (hts _ k_1003) (fun _ h9 => h9) rfl d_P_begin_9 ?_
  refine lv_aload_n hx hb d_P_begin_12 rfl (lv_at hl 2 rfl) ?_
  refine va_get (ci := 9) (C := "QuorumStoreModel$Node") (T := TX9) (N := 17) hx hb hts inX9 hown hK.2 hP 2 rfl rfl 0 (by decide) (hts _ k_930) (fun _ h9 => h9) rfl d_P_begin_13 ?_
  refine va_put (ci := 8) (v := .int nu) (ty := tyX8 1) (C := "QuorumStoreModel$Message") (T := TX8) (N := 8) hx hb hts inX8 tyX8 okX8 nmX8 hown hK.2 hP hD hS 1 rfl rfl 1 (by decide) (hts _ k_889) (fun _ h9 => h9) rfl (by decide +kernel) rfl rfl (Nat.le_of_ble_eq_true rfl) d_P_begin_16 (fun H locs hP hD hS => ?_)
  have hP : va_P D vwCl [zO 13 ma [.int th, .int 0, .int x, .int y, .int 0, .int (nI z), .ref nb, .ref wy, .ref hd, .ref tk], zO 8 hd [.int kd, .int nu, .int h3, .int h4, .int h5, .null, .ref hli, .ref hst], zO 9 (q 0) [.int nu, .int 1, .int lz, .int pr, .int 0, .int bl, .int tm, .int le, .int gr, .int 0, .ref ((q 1)), .ref ((q 7)), .ref ((q 11)), .ref ((q 15)), .ref ((q 19)), .ref ((q 23)), .int 0]] H := hP
  have hD : va_D A [zO 13 ma [.int th, .int 0, .int x, .int y, .int 0, .int (nI z), .ref nb, .ref wy, .ref hd, .ref tk], zO 8 hd [.int kd, .int nu, .int h3, .int h4, .int h5, .null, .ref hli, .ref hst], zO 9 (q 0) [.int nu, .int 1, .int lz, .int pr, .int 0, .int bl, .int tm, .int le, .int gr, .int 0, .ref ((q 1)), .ref ((q 7)), .ref ((q 11)), .ref ((q 15)), .ref ((q 19)), .ref ((q 23)), .int 0]] := hD
  refine lv_aload_n hx hb d_P_begin_19 rfl (lv_at hl 0 rfl) ?_
  refine va_get (ci := 13) (C := "QuorumStoreModel") (T := TX13) (N := 10) hx hb hts inX13 hown hK.2 hP 0 rfl rfl 8 (by decide) (hts _ k_1003) (fun _ h9 => h9) rfl d_P_begin_20 ?_
  refine lv_iload_n hx hb d_P_begin_23 rfl (lv_at hl 3 rfl) ?_
  refine va_put (ci := 8) (v := .int to) (ty := tyX8 2) (C := "QuorumStoreModel$Message") (T := TX8) (N := 8) hx hb hts inX8 tyX8 okX8 nmX8 hown hK.2 hP hD hS 1 rfl rfl 2 (by decide) (hts _ k_891) (fun _ h9 => h9) rfl (by decide +kernel) rfl rfl (Nat.le_of_ble_eq_true rfl) d_P_begin_24 (fun H locs hP hD hS => ?_)
  have hP : va_P D vwCl [zO 13 ma [.int th, .int 0, .int x, .int y, .int 0, .int (nI z), .ref nb, .ref wy, .ref hd, .ref tk], zO 8 hd [.int kd, .int nu, .int to, .int h4, .int h5, .null, .ref hli, .ref hst], zO 9 (q 0) [.int nu, .int 1, .int lz, .int pr, .int 0, .int bl, .int tm, .int le, .int gr, .int 0, .ref ((q 1)), .ref ((q 7)), .ref ((q 11)), .ref ((q 15)), .ref ((q 19)), .ref ((q 23)), .int 0]] H := hP
  have hD : va_D A [zO 13 ma [.int th, .int 0, .int x, .int y, .int 0, .int (nI z), .ref nb, .ref wy, .ref hd, .ref tk], zO 8 hd [.int kd, .int nu, .int to, .int h4, .int h5, .null, .ref hli, .ref hst], zO 9 (q 0) [.int nu, .int 1, .int lz, .int pr, .int 0, .int bl, .int tm, .int le, .int gr, .int 0, .ref ((q 1)), .ref ((q 7)), .ref ((q 11)), .ref ((q 15)), .ref ((q 19)), .ref ((q 23)), .int 0]] := hD
  refine lv_aload_n hx hb d_P_begin_27 rfl (lv_at hl 0 rfl) ?_
  refine va_get (ci := 13) (C := "QuorumStoreModel") (T := TX13) (N := 10) hx hb hts inX13 hown hK.2 hP 0 rfl rfl 8 (by decide) (hts _ k_1003) (fun _ h9 => h9) rfl d_P_begin_28 ?_
  refine lv_iload hx hb d_P_begin_31 (lv_at hl 4 rfl) ?_
  refine va_put (ci := 8) (v := .int bt) (ty := tyX8 3) (C := "QuorumStoreModel$Message") (T := TX8) (N := 8) hx hb hts inX8 tyX8 okX8 nmX8 hown hK.2 hP hD hS 1 rfl rfl 3 (by decide) (hts _ k_893) (fun _ h9 => h9) rfl (by decide +kernel) rfl rfl (Nat.le_of_ble_eq_true rfl) d_P_begin_33 (fun H locs hP hD hS => ?_)
  have hP : va_P D vwCl [zO 13 ma [.int th, .int 0, .int x, .int y, .int 0, .int (nI z), .ref nb, .ref wy, .ref hd, .ref tk], zO 8 hd [.int kd, .int nu, .int to, .int bt, .int h5, .null, .ref hli, .ref hst], zO 9 (q 0) [.int nu, .int 1, .int lz, .int pr, .int 0, .int bl, .int tm, .int le, .int gr, .int 0, .ref ((q 1)), .ref ((q 7)), .ref ((q 11)), .ref ((q 15)), .ref ((q 19)), .ref ((q 23)), .int 0]] H := hP
  have hD : va_D A [zO 13 ma [.int th, .int 0, .int x, .int y, .int 0, .int (nI z), .ref nb, .ref wy, .ref hd, .ref tk], zO 8 hd [.int kd, .int nu, .int to, .int bt, .int h5, .null, .ref hli, .ref hst], zO 9 (q 0) [.int nu, .int 1, .int lz, .int pr, .int 0, .int bl, .int tm, .int le, .int gr, .int 0, .ref ((q 1)), .ref ((q 7)), .ref ((q 11)), .ref ((q 15)), .ref ((q 19)), .ref ((q 23)), .int 0]] := hD
  refine lv_aload_n hx hb d_P_begin_36 rfl (lv_at hl 0 rfl) ?_
  refine va_get (ci := 13) (C := "QuorumStoreModel") (T := TX13) (N := 10) hx hb hts inX13 hown hK.2 hP 0 rfl rfl 8 (by decide) (hts _ k_1003) (fun _ h9 => h9) rfl d_P_begin_37 ?_
  refine lv_iload hx hb d_P_begin_40 (lv_at hl 5 rfl) ?_
  refine va_put (ci := 8) (v := .int sl) (ty := tyX8 4) (C := "QuorumStoreModel$Message") (T := TX8) (N := 8) hx hb hts inX8 tyX8 okX8 nmX8 hown hK.2 hP hD hS 1 rfl rfl 4 (by decide) (hts _ k_895) (fun _ h9 => h9) rfl (by decide +kernel) rfl rfl (Nat.le_of_ble_eq_true rfl) d_P_begin_42 (fun H locs hP hD hS => ?_)
  have hP : va_P D vwCl [zO 13 ma [.int th, .int 0, .int x, .int y, .int 0, .int (nI z), .ref nb, .ref wy, .ref hd, .ref tk], zO 8 hd [.int kd, .int nu, .int to, .int bt, .int sl, .null, .ref hli, .ref hst], zO 9 (q 0) [.int nu, .int 1, .int lz, .int pr, .int 0, .int bl, .int tm, .int le, .int gr, .int 0, .ref ((q 1)), .ref ((q 7)), .ref ((q 11)), .ref ((q 15)), .ref ((q 19)), .ref ((q 23)), .int 0]] H := hP
  have hD : va_D A [zO 13 ma [.int th, .int 0, .int x, .int y, .int 0, .int (nI z), .ref nb, .ref wy, .ref hd, .ref tk], zO 8 hd [.int kd, .int nu, .int to, .int bt, .int sl, .null, .ref hli, .ref hst], zO 9 (q 0) [.int nu, .int 1, .int lz, .int pr, .int 0, .int bl, .int tm, .int le, .int gr, .int 0, .ref ((q 1)), .ref ((q 7)), .ref ((q 11)), .ref ((q 15)), .ref ((q 19)), .ref ((q 23)), .int 0]] := hD
  refine lv_aload_n hx hb d_P_begin_45 rfl (lv_at hl 0 rfl) ?_
  refine va_get (ci := 13) (C := "QuorumStoreModel") (T := TX13) (N := 10) hx hb hts inX13 hown hK.2 hP 0 rfl rfl 8 (by decide) (hts _ k_1003) (fun _ h9 => h9) rfl d_P_begin_46 ?_
  refine lv_null hx hb d_P_begin_49 ?_
  refine va_put (ci := 8) (v := .null) (ty := tyX8 5) (C := "QuorumStoreModel$Message") (T := TX8) (N := 8) hx hb hts inX8 tyX8 okX8 nmX8 hown hK.2 hP hD hS 1 rfl rfl 5 (by decide) (hts _ k_897) (fun _ h9 => h9) rfl (by decide +kernel) rfl rfl (Nat.le_of_ble_eq_true rfl) d_P_begin_50 (fun H locs hP hD hS => ?_)
  have hP : va_P D vwCl [zO 13 ma [.int th, .int 0, .int x, .int y, .int 0, .int (nI z), .ref nb, .ref wy, .ref hd, .ref tk], zO 8 hd [.int kd, .int nu, .int to, .int bt, .int sl, .null, .ref hli, .ref hst], zO 9 (q 0) [.int nu, .int 1, .int lz, .int pr, .int 0, .int bl, .int tm, .int le, .int gr, .int 0, .ref ((q 1)), .ref ((q 7)), .ref ((q 11)), .ref ((q 15)), .ref ((q 19)), .ref ((q 23)), .int 0]] H := hP
  have hD : va_D A [zO 13 ma [.int th, .int 0, .int x, .int y, .int 0, .int (nI z), .ref nb, .ref wy, .ref hd, .ref tk], zO 8 hd [.int kd, .int nu, .int to, .int bt, .int sl, .null, .ref hli, .ref hst], zO 9 (q 0) [.int nu, .int 1, .int lz, .int pr, .int 0, .int bl, .int tm, .int le, .int gr, .int 0, .ref ((q 1)), .ref ((q 7)), .ref ((q 11)), .ref ((q 15)), .ref ((q 19)), .ref ((q 23)), .int 0]] := hD
  refine lv_aload_n hx hb d_P_begin_53 rfl (lv_at hl 0 rfl) ?_
  refine va_get (ci := 13) (C := "QuorumStoreModel") (T := TX13) (N := 10) hx hb hts inX13 hown hK.2 hP 0 rfl rfl 8 (by decide) (hts _ k_1003) (fun _ h9 => h9) rfl d_P_begin_54 ?_
  exact W.aret hx hb hr (Or.inl ⟨_, rfl⟩) (Or.inr ⟨_, rfl⟩) (fun t ht hW => ⟨⟨(), _, rfl, trivial, rfl, by rw [ht]; exact hP, hD⟩, hS.F ht⟩) hS.2.2 d_P_begin_57
theorem d_P_say_0 : decode c_P_say 0 = .ok (.aload_n 0, 1) := by decide +kernel
theorem d_P_say_1 : decode c_P_say 1 = .ok (.iload_n 1, 1) := by decide +kernel
theorem d_P_say_2 : decode c_P_say 2 = .ok (.aload_n 2, 1) := by decide +kernel
theorem d_P_say_3 : decode c_P_say 3 = .ok (.iload_n 3, 1) := by decide +kernel
theorem d_P_say_4 : decode c_P_say 4 = .ok (.iload 4, 2) := by decide +kernel
theorem d_P_say_6 : decode c_P_say 6 = .ok (.iload 5, 2) := by decide +kernel
theorem d_P_say_8 : decode c_P_say 8 = .ok (.invokevirtual 81, 3) := by decide +kernel
theorem d_P_say_11 : decode c_P_say 11 = .ok (.aload 6, 2) := by decide +kernel
theorem d_P_say_13 : decode c_P_say 13 = .ok (.putfield 77, 3) := by decide +kernel
theorem d_P_say_16 : decode c_P_say 16 = .ok (.aload_n 0, 1) := by decide +kernel
theorem d_P_say_17 : decode c_P_say 17 = .ok (.aload_n 0, 1) := by decide +kernel
theorem d_P_say_18 : decode c_P_say 18 = .ok (.getfield 22, 3) := by decide +kernel
theorem d_P_say_21 : decode c_P_say 21 = .ok (.invokevirtual 85, 3) := by decide +kernel
theorem d_P_say_24 : decode c_P_say 24 = .ok (.return_, 1) := by decide +kernel
set_option maxHeartbeats 4000000 in
set_option maxRecDepth 100000 in
/-- say without a value -/
theorem C_P_say (l : Launch) (D : va_G) (t : Nat → ClassId) (ma nb wy hd tk hli hst : Nat) (th : Int32) (z : Nat) (hz : z ≤ 300) (x y : Int32) (g : Nat → Option Nat) (hg : ∀ j, z ≤ j → g j = none) (h1 h2 h3 h4 h5 : Int32) (q : Nat → Nat) (nu lz pr bl tm le gr : Int32) (kd to bt sl : Int32) (hk : ¬ kd = 2 ∧ ¬ kd = 9) : xe_C l D vwCl (xTY t) y_P_say c_P_say 7 (Option.none : Option FieldType) ({ frames := 4, cells := 11, slots := 99, locals := 82 }) [.ref ma, .int kd, .ref ((q 0)), .int to, .int bt, .int sl, .null] [zO 13 ma [.int th, .int 0, .int x, .int y, .int 0, .int (nI z), .ref nb, .ref wy, .ref hd, .ref tk], zA t 6 wy 300 g, zO 8 hd [.int h1, .int h2, .int h3, .int h4, .int h5, .null, .ref hli, .ref hst], zO 9 (q 0) [.int nu, .int 1, .int lz, .int pr, .int 0, .int bl, .int tm, .int le, .int gr, .int 0, .ref ((q 1)), .ref ((q 7)), .ref ((q 11)), .ref ((q 15)), .ref ((q 19)), .ref ((q 23)), .int 0]] (xe_v D vwCl (fun u : Int32 × Int32 × (Nat → Option Nat) => ∀ j, min 300 (z + 1) ≤ j → u.2.2 j = none) (fun u => [zO 13 ma [.int th, .int 0, .int u.1, .int u.2.1, .int 0, .int (nI (min 300 (z + 1))), .ref nb, .ref wy, .ref hd, .ref tk], zA t 6 wy 300 u.2.2, zO 8 hd [.int kd, .int nu, .int to, .int bt, .int sl, .null, .ref hli, .ref hst], zO 9 (q 0) [.int nu, .int 1, .int lz, .int pr, .int 0, .int bl, .int tm, .int le, .int gr, .int 0, .ref ((q 1)), .ref ((q 7)), .ref ((q 11)), .ref ((q 15)), .ref ((q 19)), .ref ((q 23)), .int 0]])) 11 99 := by
  refine xe_of (by decide) (Nat.le_of_ble_eq_true rfl) ?_
  intro p e s m below meth c ls A Z hr hlocks hin hA hP hD hS hl
  obtain ⟨hx, hb, hml, hown, hK⟩ := id Z
  have hown : s.vm.findClass "QuorumStoreModel" = some m.cls := hown
  have hts := hK.1.at (args := ([.ref ma, .int kd, .ref ((q 0)), .int to, .int bt, .int sl, .null] : List Value).toArray)
  have hl : lv_has ls 7 [(0, .ref ma), (1, .int kd), (2, .ref ((q 0))), (3, .int to), (4, .int bt), (5, .int sl), (6, .null)] := hl
  refine lv_aload_n hx hb d_P_say_0 rfl (lv_at hl 0 rfl) ?_
  refine lv_iload_n hx hb d_P_say_1 rfl (lv_at hl 1 rfl) ?_
  refine lv_aload_n hx hb d_P_say_2 rfl (lv_at hl 2 rfl) ?_
  refine lv_iload_n hx hb d_P_say_3 rfl (lv_at hl 3 rfl) ?_
  refine lv_iload hx hb d_P_say_4 (lv_at hl 4 rfl) ?_
  refine lv_iload hx hb d_P_say_6 (lv_at hl 5 rfl) ?_
  refine xe_callr (wr := [zA t 6 wy 300 g]) (xs_V (As := [.int kd, .ref ((q 0)), .int to, .int bt, .int sl]) (rest := []) Z (C_P_begin l D t ma nb wy hd tk hli hst th z x y h1 h2 h3 h4 h5 q nu lz pr bl tm le gr kd to bt sl s.heap.size) m_P_begin k_1084 k_1086 ks_39 rfl rfl ⟨Nat.le_of_ble_eq_true rfl, Nat.le_of_ble_eq_true rfl⟩ (va_recv hK.2 hP (ci := 13) (q0 := 0) rfl rfl) (xe_pre hK (hP.sub [0, 2, 3] rfl) (hD.sub [0, 2, 3] (by decide) rfl)) rfl hl.1 rfl (Nat.le_of_ble_eq_true rfl) d_P_say_8 ⟨Nat.le_of_ble_eq_true rfl, Nat.le_of_ble_eq_true rfl⟩) hP hD hS hA [0, 2, 3] [1] rfl rfl (by decide) (by decide) (fun u_ H locs _ hP hD hS => ?_)
  have hP : va_P D vwCl [zA t 6 wy 300 g, zO 13 ma [.int th, .int 0, .int x, .int y, .int 0, .int (nI z), .ref nb, .ref wy, .ref hd, .ref tk], zO 8 hd [.int kd, .int nu, .int to, .int bt, .int sl, .null, .ref hli, .ref hst], zO 9 (q 0) [.int nu, .int 1, .int lz, .int pr, .int 0, .int bl, .int tm, .int le, .int gr, .int 0, .ref ((q 1)), .ref ((q 7)), .ref ((q 11)), .ref ((q 15)), .ref ((q 19)), .ref ((q 23)), .int 0]] H := hP
  have hD : va_D A [zA t 6 wy 300 g, zO 13 ma [.int th, .int 0, .int x, .int y, .int 0, .int (nI z), .ref nb, .ref wy, .ref hd, .ref tk], zO 8 hd [.int kd, .int nu, .int to, .int bt, .int sl, .null, .ref hli, .ref hst], zO 9 (q 0) [.int nu, .int 1, .int lz, .int pr, .int 0, .int bl, .int tm, .int le, .int gr, .int 0, .ref ((q 1)), .ref ((q 7)), .ref ((q 11)), .ref ((q 15)), .ref ((q 19)), .ref ((q 23)), .int 0]] := hD
  refine lv_aloadN hx hb d_P_say_11 (lv_at hl 6 rfl) ?_
  refine va_put (ci := 8) (v := .null) (ty := tyX8 5) (C := "QuorumStoreModel$Message") (T := TX8) (N := 8) hx hb hts inX8 tyX8 okX8 nmX8 hown hK.2 hP hD hS 2 rfl rfl 5 (by decide) (hts _ k_897) (fun _ h9 => h9) rfl (by decide +kernel) rfl rfl (Nat.le_of_ble_eq_true rfl) d_P_say_13 (fun H locs hP hD hS => ?_)
  have hP : va_P D vwCl [zA t 6 wy 300 g, zO 13 ma [.int th, .int 0, .int x, .int y, .int 0, .int (nI z), .ref nb, .ref wy, .ref hd, .ref tk], zO 8 hd [.int kd, .int nu, .int to, .int bt, .int sl, .null, .ref hli, .ref hst], zO 9 (q 0) [.int nu, .int 1, .int lz, .int pr, .int 0, .int bl, .int tm, .int le, .int gr, .int 0, .ref ((q 1)), .ref ((q 7)), .ref ((q 11)), .ref ((q 15)), .ref ((q 19)), .ref ((q 23)), .int 0]] H := hP
  have hD : va_D A [zA t 6 wy 300 g, zO 13 ma [.int th, .int 0, .int x, .int y, .int 0, .int (nI z), .ref nb, .ref wy, .ref hd, .ref tk], zO 8 hd [.int kd, .int nu, .int to, .int bt, .int sl, .null, .ref hli, .ref hst], zO 9 (q 0) [.int nu, .int 1, .int lz, .int pr, .int 0, .int bl, .int tm, .int le, .int gr, .int 0, .ref ((q 1)), .ref ((q 7)), .ref ((q 11)), .ref ((q 15)), .ref ((q 19)), .ref ((q 23)), .int 0]] := hD
  refine lv_aload_n hx hb d_P_say_16 rfl (lv_at hl 0 rfl) ?_
  refine lv_aload_n hx hb d_P_say_17 rfl (lv_at hl 0 rfl) ?_
  refine va_get (ci := 13) (C := "QuorumStoreModel") (T := TX13) (N := 10) hx hb hts inX13 hown hK.2 hP 1 rfl rfl 8 (by decide) (hts _ k_1003) (fun _ h9 => h9) rfl d_P_say_18 ?_
  refine xe_callv (wr := [zO 9 (q 0) [.int nu, .int 1, .int lz, .int pr, .int 0, .int bl, .int tm, .int le, .int gr, .int 0, .ref ((q 1)), .ref ((q 7)), .ref ((q 11)), .ref ((q 15)), .ref ((q 19)), .ref ((q 23)), .int 0]]) (xs_V (As := [.ref hd]) (rest := []) Z (C_P_send l D t ma nb wy hd tk hli hst th z hz x y g hg kd nu to bt sl hk H.size) m_P_send k_1088 k_1090 ks_40 rfl rfl ⟨Nat.le_of_ble_eq_true rfl, Nat.le_of_ble_eq_true rfl⟩ (va_recv hK.2 hP (ci := 13) (q0 := 1) rfl rfl) (xe_pre hK (hP.sub [1, 0, 2] rfl) (hD.sub [1, 0, 2] (by decide) rfl)) rfl hl.1 rfl (Nat.le_of_ble_eq_true rfl) d_P_say_21 ⟨Nat.le_of_ble_eq_true rfl, Nat.le_of_ble_eq_true rfl⟩) hP hD hS hA [1, 0, 2] [3] rfl rfl (by decide) (by decide) (fun u_ H locs hw hP hD hS => ?_)
  obtain ⟨x2, y2, g2⟩ := u_
  have hP : va_P D vwCl [zO 9 (q 0) [.int nu, .int 1, .int lz, .int pr, .int 0, .int bl, .int tm, .int le, .int gr, .int 0, .ref ((q 1)), .ref ((q 7)), .ref ((q 11)), .ref ((q 15)), .ref ((q 19)), .ref ((q 23)), .int 0], zO 13 ma [.int th, .int 0, .int x2, .int y2, .int 0, .int (nI (min 300 (z + 1))), .ref nb, .ref wy, .ref hd, .ref tk], zA t 6 wy 300 g2, zO 8 hd [.int kd, .int nu, .int to, .int bt, .int sl, .null, .ref hli, .ref hst]] H := hP
  have hD : va_D A [zO 9 (q 0) [.int nu, .int 1, .int lz, .int pr, .int 0, .int bl, .int tm, .int le, .int gr, .int 0, .ref ((q 1)), .ref ((q 7)), .ref ((q 11)), .ref ((q 15)), .ref ((q 19)), .ref ((q 23)), .int 0], zO 13 ma [.int th, .int 0, .int x2, .int y2, .int 0, .int (nI (min 300 (z + 1))), .ref nb, .ref wy, .ref hd, .ref tk], zA t 6 wy 300 g2, zO 8 hd [.int kd, .int nu, .int to, .int bt, .int sl, .null, .ref hli, .ref hst]] := hD
  dsimp only at hw
  have hP := hP.sub (ws' := [zO 13 ma [.int th, .int 0, .int x2, .int y2, .int 0, .int (nI (min 300 (z + 1))), .ref nb, .ref wy, .ref hd, .ref tk], zA t 6 wy 300 g2, zO 8 hd [.int kd, .int nu, .int to, .int bt, .int sl, .null, .ref hli, .ref hst], zO 9 (q 0) [.int nu, .int 1, .int lz, .int pr, .int 0, .int bl, .int tm, .int le, .int gr, .int 0, .ref ((q 1)), .ref ((q 7)), .ref ((q 11)), .ref ((q 15)), .ref ((q 19)), .ref ((q 23)), .int 0]]) [1, 2, 3, 0] rfl
  have hD := hD.sub (ws' := [zO 13 ma [.int th, .int 0, .int x2, .int y2, .int 0, .int (nI (min 300 (z + 1))), .ref nb, .ref wy, .ref hd, .ref tk], zA t 6 wy 300 g2, zO 8 hd [.int kd, .int nu, .int to, .int bt, .int sl, .null, .ref hli, .ref hst], zO 9 (q 0) [.int nu, .int 1, .int lz, .int pr, .int 0, .int bl, .int tm, .int le, .int gr, .int 0, .ref ((q 1)), .ref ((q 7)), .ref ((q 11)), .ref ((q 15)), .ref ((q 19)), .ref ((q 23)), .int 0]]) [1, 2, 3, 0] (by decide) rfl
  exact W.vret hx hb hr (fun t ht hW => ⟨⟨(x2, y2, g2), rfl, hw, by rw [ht]; exact hP, hD⟩, hS.F ht⟩) hS.2.2 d_P_say_24
