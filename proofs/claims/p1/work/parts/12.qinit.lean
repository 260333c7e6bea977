/-! A new object of the class: its network and its seven nodes. -/
theorem d_Q_init_0 : decode c_Q_init 0 = .ok (.aload_n 0, 1) := by decide +kernel
theorem d_Q_init_1 : decode c_Q_init 1 = .ok (.invokespecial 1, 3) := by decide +kernel
theorem d_Q_init_4 : decode c_Q_init 4 = .ok (.iload_n 1, 1) := by decide +kernel
theorem d_Q_init_5 : decode c_Q_init 5 = .ok (.bipush 127, 2) := by decide +kernel
theorem d_Q_init_7 : decode c_Q_init 7 = .ok (.iand, 1) := by decide +kernel
theorem d_Q_init_8 : decode c_Q_init 8 = .ok (.istore_n 2, 1) := by decide +kernel
theorem d_Q_init_9 : decode c_Q_init 9 = .ok (.new 9, 3) := by decide +kernel
theorem d_Q_init_12 : decode c_Q_init 12 = .ok (.dup, 1) := by decide +kernel
theorem d_Q_init_13 : decode c_Q_init 13 = .ok (.invokespecial 11, 3) := by decide +kernel
theorem d_Q_init_16 : decode c_Q_init 16 = .ok (.astore_n 3, 1) := by decide +kernel
theorem d_Q_init_17 : decode c_Q_init 17 = .ok (.aload_n 0, 1) := by decide +kernel
theorem d_Q_init_18 : decode c_Q_init 18 = .ok (.aload_n 3, 1) := by decide +kernel
theorem d_Q_init_19 : decode c_Q_init 19 = .ok (.putfield 12, 3) := by decide +kernel
theorem d_Q_init_22 : decode c_Q_init 22 = .ok (.aload_n 0, 1) := by decide +kernel
theorem d_Q_init_23 : decode c_Q_init 23 = .ok (.bipush 7, 2) := by decide +kernel
theorem d_Q_init_25 : decode c_Q_init 25 = .ok (.anewarray 16, 3) := by decide +kernel
theorem d_Q_init_28 : decode c_Q_init 28 = .ok (.putfield 18, 3) := by decide +kernel
theorem d_Q_init_31 : decode c_Q_init 31 = .ok (.iconst 0, 1) := by decide +kernel
theorem d_Q_init_32 : decode c_Q_init 32 = .ok (.istore 4, 2) := by decide +kernel
theorem d_Q_init_34 : decode c_Q_init 34 = .ok (.iload 4, 2) := by decide +kernel
theorem d_Q_init_36 : decode c_Q_init 36 = .ok (.bipush 7, 2) := by decide +kernel
theorem d_Q_init_38 : decode c_Q_init 38 = .ok (.if_icmp .ge 36, 3) := by decide +kernel
theorem d_Q_init_41 : decode c_Q_init 41 = .ok (.aload_n 0, 1) := by decide +kernel
theorem d_Q_init_42 : decode c_Q_init 42 = .ok (.getfield 18, 3) := by decide +kernel
theorem d_Q_init_45 : decode c_Q_init 45 = .ok (.iload 4, 2) := by decide +kernel
theorem d_Q_init_47 : decode c_Q_init 47 = .ok (.new 16, 3) := by decide +kernel
theorem d_Q_init_50 : decode c_Q_init 50 = .ok (.dup, 1) := by decide +kernel
theorem d_Q_init_51 : decode c_Q_init 51 = .ok (.iload 4, 2) := by decide +kernel
theorem d_Q_init_53 : decode c_Q_init 53 = .ok (.iload_n 2, 1) := by decide +kernel
theorem d_Q_init_54 : decode c_Q_init 54 = .ok (.ifCond .ne 8, 3) := by decide +kernel
theorem d_Q_init_57 : decode c_Q_init 57 = .ok (.bipush 7, 2) := by decide +kernel
theorem d_Q_init_59 : decode c_Q_init 59 = .ok (.goto 4, 3) := by decide +kernel
theorem d_Q_init_62 : decode c_Q_init 62 = .ok (.iload_n 2, 1) := by decide +kernel
theorem d_Q_init_63 : decode c_Q_init 63 = .ok (.aload_n 3, 1) := by decide +kernel
theorem d_Q_init_64 : decode c_Q_init 64 = .ok (.invokespecial 22, 3) := by decide +kernel
theorem d_Q_init_67 : decode c_Q_init 67 = .ok (.aastore, 1) := by decide +kernel
theorem d_Q_init_68 : decode c_Q_init 68 = .ok (.iinc 4 1, 3) := by decide +kernel
theorem d_Q_init_71 : decode c_Q_init 71 = .ok (.goto (-37), 3) := by decide +kernel
theorem d_Q_init_74 : decode c_Q_init 74 = .ok (.return_, 1) := by decide +kernel
set_option maxHeartbeats 4000000 in
set_option maxRecDepth 100000 in
/-- a new object -/
theorem C_Q_init (l : Launch) (D : va_G) (t : Nat → ClassId) (xa : Nat) (mem mk : Int32) (hmk : mk = if mem &&& 127 = 0 then 7 else mem &&& 127) : xe_C l D vwCl (xTY t) y_Q_init c_Q_init 5 (Option.none : Option FieldType) ({ frames := 4, cells := 185, slots := 3917, locals := 89 }) [.ref xa, .int mem] [zO 7 xa [.null, .null, .int 0]] (xe_v D vwCl (fun _ : Nat × Nat × Nat × (Nat → Nat → Nat) × (Nat → Nat) => True) (fun u => (([zO 7 xa [.ref u.1, .ref u.2.1, .int 0], zA t 4 u.2.1 7 (fun j => some (u.2.2.2.1 j 0))] ++ [zO 2 u.1 [.ref u.2.2.1, .int 0, .int 0, .int 0, .int 0], zA t 3 u.2.2.1 300 (fun _ => none)]) ++ wNs t u.2.2.2.1 u.1 u.2.2.2.2 mk [(0, (8, false, 0, 0, -1, 0, 0)), (1, (11, false, 0, 0, -1, 0, 0)), (2, (14, false, 0, 0, -1, 0, 0)), (3, (17, false, 0, 0, -1, 0, 0)), (4, (20, false, 0, 0, -1, 0, 0)), (5, (23, false, 0, 0, -1, 0, 0)), (6, (26, false, 0, 0, -1, 0, 0))]))) 185 3917 := by
  refine xe_of (by decide) (Nat.le_of_ble_eq_true rfl) ?_
  intro p e s m below meth c ls A Z hr hlocks hin hA hP hD hS hl
  obtain ⟨hx, hb, hml, hown, hK⟩ := id Z
  have hown : s.vm.findClass "QuorumStore" = some m.cls := hown
  have hts := hK.1.at (args := ([.ref xa, .int mem] : List Value).toArray)
  have hl : lv_has ls 5 [(0, .ref xa), (1, .int mem)] := hl
  refine lv_aload_n hx hb d_Q_init_0 rfl (lv_at hl 0 rfl) ?_
  refine W.objInit hx hb hown (hts _ k_29) (hts _ k_30) (hts _ k_31) rfl (by rw [hml]; exact hl.1) rfl d_Q_init_1 (Nat.le_of_ble_eq_true rfl) (Nat.le_of_ble_eq_true rfl) ?_
  refine W.eq (g2 := F0 m 4 ls []) rfl ?_
  refine lv_iload_n hx hb d_Q_init_4 rfl (lv_at hl 1 rfl) ?_
  refine lv_bipush (v := 127) hx hb d_Q_init_5 (by decide) ?_
  refine lv_iand hx hb d_Q_init_7 ?_
  refine lv_topi (fun mm emm => ?_)
  refine lv_istore_n (lv' := [(2, .int mm), (0, .ref xa), (1, .int mem)]) hx hb d_Q_init_8 rfl hl (by decide) rfl (fun ls hl => ?_)
  refine va_new (ci := 2) (fs := [.null, .int 0, .int 0, .int 0, .int 0]) (C := "QuorumStore$Network") (T := TX2) (N := 5) hx hb hts inX2 tyX2 okX2 hown (hts _ k_32) (hts _ k_33) (hts _ k_2) hK.2 hP hD hS hA rfl (by decide) (Nat.le_of_ble_eq_true rfl) (Nat.le_of_ble_eq_true rfl) d_Q_init_9 (fun q_1 H hP hD hS => ?_)
  have hP : va_P D vwCl [zO 7 xa [.null, .null, .int 0], zO 2 q_1 [.null, .int 0, .int 0, .int 0, .int 0]] H := hP
  have hD : va_D A [zO 7 xa [.null, .null, .int 0], zO 2 q_1 [.null, .int 0, .int 0, .int 0, .int 0]] := hD
  refine lv_dup hx hb d_Q_init_12 rfl ?_
  refine xe_callv (wr := [zO 7 xa [.null, .null, .int 0]]) (xs_IN (As := []) (rest := [.ref q_1]) Z (C_N_init l D t q_1 H.size) m_N_init k_34 k_35 rfl rfl rfl ⟨Nat.le_of_ble_eq_true rfl, Nat.le_of_ble_eq_true rfl⟩ (xe_pre hK (hP.sub [1] rfl) (hD.sub [1] (by decide) rfl)) rfl hl.1 rfl (Nat.le_of_ble_eq_true rfl) d_Q_init_13 ⟨Nat.le_of_ble_eq_true rfl, Nat.le_of_ble_eq_true rfl⟩) hP hD hS hA [1] [0] rfl rfl (by decide) (by decide) (fun rw H locs _ hP hD hS => ?_)
  have hP : va_P D vwCl [zO 7 xa [.null, .null, .int 0], zO 2 q_1 [.ref rw, .int 0, .int 0, .int 0, .int 0], zA t 3 rw 300 (fun _ => none)] H := hP
  have hD : va_D A [zO 7 xa [.null, .null, .int 0], zO 2 q_1 [.ref rw, .int 0, .int 0, .int 0, .int 0], zA t 3 rw 300 (fun _ => none)] := hD
  refine lv_astore_n (lv' := [(3, .ref q_1), (2, .int mm), (0, .ref xa), (1, .int mem)]) hx hb d_Q_init_16 rfl hl (by decide) rfl (fun ls hl => ?_)
  refine lv_aload_n hx hb d_Q_init_17 rfl (lv_at hl 2 rfl) ?_
  refine lv_aload_n hx hb d_Q_init_18 rfl (lv_at hl 0 rfl) ?_
  refine va_putF (ci := 7) (v := .ref q_1) (ty := tyX7 0) (C := "QuorumStore") (T := TX7) (N := 3) hx hb hts inX7 tyX7 okX7 nmX7 hown hK.2 hP hD hS 0 rfl rfl 0 (by decide) (hts _ k_255) (fun _ h9 => h9) rfl hin rfl (by decide +kernel) rfl rfl (Nat.le_of_ble_eq_true rfl) d_Q_init_19 (fun H locs hP hD hS => ?_)
  have hP : va_P D vwCl [zO 7 xa [.ref q_1, .null, .int 0], zO 2 q_1 [.ref rw, .int 0, .int 0, .int 0, .int 0], zA t 3 rw 300 (fun _ => none)] H := hP
  have hD : va_D A [zO 7 xa [.ref q_1, .null, .int 0], zO 2 q_1 [.ref rw, .int 0, .int 0, .int 0, .int 0], zA t 3 rw 300 (fun _ => none)] := hD
  refine lv_aload_n hx hb d_Q_init_22 rfl (lv_at hl 2 rfl) ?_
  refine lv_bipush (v := 7) hx hb d_Q_init_23 (by decide) ?_
  refine va_newq (N' := 7) hx hb hown (hts _ k_60) (va_AO.of (hts _ k_61)) hK.2 hP hD hS hA (by decide) rfl (by decide) (Nat.le_of_ble_eq_true rfl) (Nat.le_of_ble_eq_true rfl) d_Q_init_25 (fun q_2 c_3 H hKn hP hD hS => ?_)
  obtain rfl : c_3 = t 4 := xk_arr hKn (i := 4) rfl
  have hP : va_P D vwCl [zO 7 xa [.ref q_1, .null, .int 0], zO 2 q_1 [.ref rw, .int 0, .int 0, .int 0, .int 0], zA t 3 rw 300 (fun _ => none), zA t 4 q_2 7 (fun _ => none)] H := hP
  have hD : va_D A [zO 7 xa [.ref q_1, .null, .int 0], zO 2 q_1 [.ref rw, .int 0, .int 0, .int 0, .int 0], zA t 3 rw 300 (fun _ => none), zA t 4 q_2 7 (fun _ => none)] := hD
  refine va_putF (ci := 7) (v := .ref q_2) (ty := tyX7 1) (C := "QuorumStore") (T := TX7) (N := 3) hx hb hts inX7 tyX7 okX7 nmX7 hown hK.2 hP hD hS 0 rfl rfl 1 (by decide) (hts _ k_256) (fun _ h9 => h9) rfl hin rfl (by decide +kernel) rfl rfl (Nat.le_of_ble_eq_true rfl) d_Q_init_28 (fun H locs hP hD hS => ?_)
  have hP : va_P D vwCl [zO 7 xa [.ref q_1, .ref q_2, .int 0], zO 2 q_1 [.ref rw, .int 0, .int 0, .int 0, .int 0], zA t 3 rw 300 (fun _ => none), zA t 4 q_2 7 (fun _ => none)] H := hP
  have hD : va_D A [zO 7 xa [.ref q_1, .ref q_2, .int 0], zO 2 q_1 [.ref rw, .int 0, .int 0, .int 0, .int 0], zA t 3 rw 300 (fun _ => none), zA t 4 q_2 7 (fun _ => none)] := hD
  refine lv_iconst (v := 0) hx hb d_Q_init_31 (by decide) ?_
  refine lv_istore (lv' := [(4, .int 0), (3, .ref q_1), (2, .int mm), (0, .ref xa), (1, .int mem)]) hx hb d_Q_init_32 hl (by decide) rfl (fun ls hl => ?_)
  have hP := hP.sub (ws' := [zO 7 xa [.ref q_1, .ref q_2, .int 0], zA t 4 q_2 7 (fun _ => none), zO 2 q_1 [.ref rw, .int 0, .int 0, .int 0, .int 0], zA t 3 rw 300 (fun _ => none)]) [0, 3, 1, 2] rfl
  have hD := hD.sub (ws' := [zO 7 xa [.ref q_1, .ref q_2, .int 0], zA t 4 q_2 7 (fun _ => none), zO 2 q_1 [.ref rw, .int 0, .int 0, .int 0, .int 0], zA t 3 rw 300 (fun _ => none)]) [0, 3, 1, 2] (by decide) rfl
  have hP : va_P D vwCl (([zO 7 xa [.ref q_1, .ref q_2, .int 0], zA t 4 q_2 7 (fun _ => none)] ++ [zO 2 q_1 [.ref rw, .int 0, .int 0, .int 0, .int 0], zA t 3 rw 300 (fun _ => none)])) H := hP
  have hD : va_D A (([zO 7 xa [.ref q_1, .ref q_2, .int 0], zA t 4 q_2 7 (fun _ => none)] ++ [zO 2 q_1 [.ref rw, .int 0, .int 0, .int 0, .int 0], zA t 3 rw 300 (fun _ => none)])) := hD
  refine lv_iload hx hb d_Q_init_34 (lv_at hl 0 rfl) ?_
  refine lv_bipush (v := 7) hx hb d_Q_init_36 (by decide) ?_
  refine lv_icmp_ge (tgt := 74) hx hb d_Q_init_38 (by decide) (fun c_4 => absurd c_4 (by decide)) (fun _ => ?_)
  refine lv_aload_n hx hb d_Q_init_41 rfl (lv_at hl 3 rfl) ?_
  refine va_get (ci := 7) (C := "QuorumStore") (T := TX7) (N := 3) hx hb hts inX7 hown hK.2 hP 0 rfl rfl 1 (by decide) (hts _ k_256) (fun _ h9 => h9) rfl d_Q_init_42 ?_
  refine lv_iload hx hb d_Q_init_45 (lv_at hl 0 rfl) ?_
  refine va_new (ci := 3) (fs := [.int 0, .null, .int 0, .int 0, .int 0, .null, .null, .null, .int 0, .int 0, .int 0, .int 0, .int 0, .int 0, .null]) (C := "QuorumStore$Node") (T := TX3) (N := 15) hx hb hts inX3 tyX3 okX3 hown (hts _ k_60) (hts _ k_62) (hts _ k_3) hK.2 hP hD hS hA rfl (by decide) (Nat.le_of_ble_eq_true rfl) (Nat.le_of_ble_eq_true rfl) d_Q_init_47 (fun n_0 H hP hD hS => ?_)
  refine lv_dup hx hb d_Q_init_50 rfl ?_
  refine lv_iload hx hb d_Q_init_51 (lv_at hl 0 rfl) ?_
  have hj : W p l e ({ frames := 4, cells := 185, slots := 3917, locals := 89 } : Room) s m ([.ref xa, .int mem] : List Value).toArray below meth c H locs 4 327 (MQ below ((xe_v D vwCl (fun _ : Nat × Nat × Nat × (Nat → Nat → Nat) × (Nat → Nat) => True) (fun u => (([zO 7 xa [.ref u.1, .ref u.2.1, .int 0], zA t 4 u.2.1 7 (fun j => some (u.2.2.2.1 j 0))] ++ [zO 2 u.1 [.ref u.2.2.1, .int 0, .int 0, .int 0, .int 0], zA t 3 u.2.2.1 300 (fun _ => none)]) ++ wNs t u.2.2.2.1 u.1 u.2.2.2.2 mk [(0, (8, false, 0, 0, -1, 0, 0)), (1, (11, false, 0, 0, -1, 0, 0)), (2, (14, false, 0, 0, -1, 0, 0)), (3, (17, false, 0, 0, -1, 0, 0)), (4, (20, false, 0, 0, -1, 0, 0)), (5, (23, false, 0, 0, -1, 0, 0)), (6, (26, false, 0, 0, -1, 0, 0))]))) A) ([.ref xa, .int mem] : List Value).toArray s 185 3917 A) (F0 m 63 ls [.int mk, .int 0, .ref n_0, .ref n_0, .int 0, .ref q_2]) → W p l e ({ frames := 4, cells := 185, slots := 3917, locals := 89 } : Room) s m ([.ref xa, .int mem] : List Value).toArray below meth c H locs 4 327 (MQ below ((xe_v D vwCl (fun _ : Nat × Nat × Nat × (Nat → Nat → Nat) × (Nat → Nat) => True) (fun u => (([zO 7 xa [.ref u.1, .ref u.2.1, .int 0], zA t 4 u.2.1 7 (fun j => some (u.2.2.2.1 j 0))] ++ [zO 2 u.1 [.ref u.2.2.1, .int 0, .int 0, .int 0, .int 0], zA t 3 u.2.2.1 300 (fun _ => none)]) ++ wNs t u.2.2.2.1 u.1 u.2.2.2.2 mk [(0, (8, false, 0, 0, -1, 0, 0)), (1, (11, false, 0, 0, -1, 0, 0)), (2, (14, false, 0, 0, -1, 0, 0)), (3, (17, false, 0, 0, -1, 0, 0)), (4, (20, false, 0, 0, -1, 0, 0)), (5, (23, false, 0, 0, -1, 0, 0)), (6, (26, false, 0, 0, -1, 0, 0))]))) A) ([.ref xa, .int mem] : List Value).toArray s 185 3917 A) (F0 m 53 ls [.int 0, .ref n_0, .ref n_0, .int 0, .ref q_2]) := by
    intro hk
    refine lv_iload_n hx hb d_Q_init_53 rfl (lv_at hl 2 rfl) ?_
    refine lv_if_ne (tgt := 62) hx hb d_Q_init_54 (by decide) (fun c_5 => ?_) (fun c_5 => ?_)
    · refine lv_iload_n hx hb d_Q_init_62 rfl (lv_at hl 2 rfl) ?_
      exact (show mk = mm from by rw [hmk, ← emm, if_neg c_5]) ▸ hk
    · refine lv_bipush (v := 7) hx hb d_Q_init_57 (by decide) ?_
      refine lv_goto (tgt := 63) hx hb d_Q_init_59 (by decide) ?_
      exact (show mk = 7 from by rw [hmk, ← emm, if_pos c_5]) ▸ hk
  refine hj ?_
  refine lv_aload_n hx hb d_Q_init_63 rfl (lv_at hl 1 rfl) ?_
  have hPc : va_P D vwCl [zO 3 n_0 [.int 0, .null, .int 0, .int 0, .int 0, .null, .null, .null, .int 0, .int 0, .int 0, .int 0, .int 0, .int 0, .null]] H := xd_P hP (fun q h => List.mem_append_right _ h)
  have hDc : va_D A [zO 3 n_0 [.int 0, .null, .int 0, .int 0, .int 0, .null, .null, .null, .int 0, .int 0, .int 0, .int 0, .int 0, .int 0, .null]] := xd_R hD
  refine xe_sfxv (wr := (([zO 7 xa [.ref q_1, .ref q_2, .int 0], zA t 4 q_2 7 (fun _ => none)] ++ [zO 2 q_1 [.ref rw, .int 0, .int 0, .int 0, .int 0], zA t 3 rw 300 (fun _ => none)]))) (wc := [zO 3 n_0 [.int 0, .null, .int 0, .int 0, .int 0, .null, .null, .null, .int 0, .int 0, .int 0, .int 0, .int 0, .int 0, .null]]) (xs_I (As := [.int 0, .int mk, .ref q_1]) (rest := [.ref n_0, .int 0, .ref q_2]) Z (C_D_init l D t n_0 q_1 0 mk H.size) m_D_init k_63 k_64 rfl rfl rfl ⟨Nat.le_of_ble_eq_true rfl, Nat.le_of_ble_eq_true rfl⟩ (xe_pre hK hPc hDc) rfl hl.1 rfl (Nat.le_of_ble_eq_true rfl) d_Q_init_64 ⟨Nat.le_of_ble_eq_true rfl, Nat.le_of_ble_eq_true rfl⟩) hP hD hS hA (fun u_ H locs hw hP2 hD2 hS2 => ?_)
  obtain ⟨qf_0, nof_0⟩ := u_
  dsimp only at hw
  subst hw
  have hS := hS2
  have hP : va_P D vwCl (([zO 7 xa [.ref q_1, .ref q_2, .int 0], zA t 4 q_2 7 (fun _ => none)] ++ [zO 2 q_1 [.ref rw, .int 0, .int 0, .int 0, .int 0], zA t 3 rw 300 (fun _ => none)]) ++ wN t qf_0 q_1 nof_0 0 mk (8, false, 0, 0, -1, 0, 0)) H := hP2
  have hD : va_D A (([zO 7 xa [.ref q_1, .ref q_2, .int 0], zA t 4 q_2 7 (fun _ => none)] ++ [zO 2 q_1 [.ref rw, .int 0, .int 0, .int 0, .int 0], zA t 3 rw 300 (fun _ => none)]) ++ wN t qf_0 q_1 nof_0 0 mk (8, false, 0, 0, -1, 0, 0)) := hD2
  refine va_astq hx hb hK.2 hP hD hS 1 4 4 3 rfl rfl rfl rfl (by unfold vp_in; decide) d_Q_init_67 (fun H locs hP hD hS => ?_)
  have hP : va_P D vwCl (([zO 7 xa [.ref q_1, .ref q_2, .int 0], zA t 4 q_2 7 (va_up (fun _ => none) (0 : Int32).toNatClampNeg (some (qf_0 0)))] ++ [zO 2 q_1 [.ref rw, .int 0, .int 0, .int 0, .int 0], zA t 3 rw 300 (fun _ => none)]) ++ wN t qf_0 q_1 nof_0 0 mk (8, false, 0, 0, -1, 0, 0)) H := hP
  have hD : va_D A (([zO 7 xa [.ref q_1, .ref q_2, .int 0], zA t 4 q_2 7 (va_up (fun _ => none) (0 : Int32).toNatClampNeg (some (qf_0 0)))] ++ [zO 2 q_1 [.ref rw, .int 0, .int 0, .int 0, .int 0], zA t 3 rw 300 (fun _ => none)]) ++ wN t qf_0 q_1 nof_0 0 mk (8, false, 0, 0, -1, 0, 0)) := hD
  refine lv_iinc (v := 1) (lv' := [(4, .int 1), (3, .ref q_1), (2, .int mm), (0, .ref xa), (1, .int mem)]) hx hb d_Q_init_68 hl (k := 0) rfl rfl (by decide) rfl (fun ls hl => ?_)
  refine lv_goto (tgt := 34) hx hb d_Q_init_71 (by decide) ?_
  refine lv_iload hx hb d_Q_init_34 (lv_at hl 0 rfl) ?_
  refine lv_bipush (v := 7) hx hb d_Q_init_36 (by decide) ?_
  refine lv_icmp_ge (tgt := 74) hx hb d_Q_init_38 (by decide) (fun c_6 => absurd c_6 (by decide)) (fun _ => ?_)
  refine lv_aload_n hx hb d_Q_init_41 rfl (lv_at hl 3 rfl) ?_
  refine va_get (ci := 7) (C := "QuorumStore") (T := TX7) (N := 3) hx hb hts inX7 hown hK.2 hP 0 rfl rfl 1 (by decide) (hts _ k_256) (fun _ h9 => h9) rfl d_Q_init_42 ?_
  refine lv_iload hx hb d_Q_init_45 (lv_at hl 0 rfl) ?_
  refine va_new (ci := 3) (fs := [.int 0, .null, .int 0, .int 0, .int 0, .null, .null, .null, .int 0, .int 0, .int 0, .int 0, .int 0, .int 0, .null]) (C := "QuorumStore$Node") (T := TX3) (N := 15) hx hb hts inX3 tyX3 okX3 hown (hts _ k_60) (hts _ k_62) (hts _ k_3) hK.2 hP hD hS hA rfl (by decide) (Nat.le_of_ble_eq_true rfl) (Nat.le_of_ble_eq_true rfl) d_Q_init_47 (fun n_1 H hP hD hS => ?_)
  refine lv_dup hx hb d_Q_init_50 rfl ?_
  refine lv_iload hx hb d_Q_init_51 (lv_at hl 0 rfl) ?_
  have hj : W p l e ({ frames := 4, cells := 185, slots := 3917, locals := 89 } : Room) s m ([.ref xa, .int mem] : List Value).toArray below meth c H locs 30 842 (MQ below ((xe_v D vwCl (fun _ : Nat × Nat × Nat × (Nat → Nat → Nat) × (Nat → Nat) => True) (fun u => (([zO 7 xa [.ref u.1, .ref u.2.1, .int 0], zA t 4 u.2.1 7 (fun j => some (u.2.2.2.1 j 0))] ++ [zO 2 u.1 [.ref u.2.2.1, .int 0, .int 0, .int 0, .int 0], zA t 3 u.2.2.1 300 (fun _ => none)]) ++ wNs t u.2.2.2.1 u.1 u.2.2.2.2 mk [(0, (8, false, 0, 0, -1, 0, 0)), (1, (11, false, 0, 0, -1, 0, 0)), (2, (14, false, 0, 0, -1, 0, 0)), (3, (17, false, 0, 0, -1, 0, 0)), (4, (20, false, 0, 0, -1, 0, 0)), (5, (23, false, 0, 0, -1, 0, 0)), (6, (26, false, 0, 0, -1, 0, 0))]))) A) ([.ref xa, .int mem] : List Value).toArray s 185 3917 A) (F0 m 63 ls [.int mk, .int 1, .ref n_1, .ref n_1, .int 1, .ref q_2]) → W p l e ({ frames := 4, cells := 185, slots := 3917, locals := 89 } : Room) s m ([.ref xa, .int mem] : List Value).toArray below meth c H locs 30 842 (MQ below ((xe_v D vwCl (fun _ : Nat × Nat × Nat × (Nat → Nat → Nat) × (Nat → Nat) => True) (fun u => (([zO 7 xa [.ref u.1, .ref u.2.1, .int 0], zA t 4 u.2.1 7 (fun j => some (u.2.2.2.1 j 0))] ++ [zO 2 u.1 [.ref u.2.2.1, .int 0, .int 0, .int 0, .int 0], zA t 3 u.2.2.1 300 (fun _ => none)]) ++ wNs t u.2.2.2.1 u.1 u.2.2.2.2 mk [(0, (8, false, 0, 0, -1, 0, 0)), (1, (11, false, 0, 0, -1, 0, 0)), (2, (14, false, 0, 0, -1, 0, 0)), (3, (17, false, 0, 0, -1, 0, 0)), (4, (20, false, 0, 0, -1, 0, 0)), (5, (23, false, 0, 0, -1, 0, 0)), (6, (26, false, 0, 0, -1, 0, 0))]))) A) ([.ref xa, .int mem] : List Value).toArray s 185 3917 A) (F0 m 53 ls [.int 1, .ref n_1, .ref n_1, .int 1, .ref q_2]) := by
    intro hk
    refine lv_iload_n hx hb d_Q_init_53 rfl (lv_at hl 2 rfl) ?_
    refine lv_if_ne (tgt := 62) hx hb d_Q_init_54 (by decide) (fun c_7 => ?_) (fun c_7 => ?_)
    · refine lv_iload_n hx hb d_Q_init_62 rfl (lv_at hl 2 rfl) ?_
      exact (show mk = mm from by rw [hmk, ← emm, if_neg c_7]) ▸ hk
    · refine lv_bipush (v := 7) hx hb d_Q_init_57 (by decide) ?_
      refine lv_goto (tgt := 63) hx hb d_Q_init_59 (by decide) ?_
      exact (show mk = 7 from by rw [hmk, ← emm, if_pos c_7]) ▸ hk
  refine hj ?_
  refine lv_aload_n hx hb d_Q_init_63 rfl (lv_at hl 1 rfl) ?_
  have hPc : va_P D vwCl [zO 3 n_1 [.int 0, .null, .int 0, .int 0, .int 0, .null, .null, .null, .int 0, .int 0, .int 0, .int 0, .int 0, .int 0, .null]] H := xd_P hP (fun q h => List.mem_append_right _ h)
  have hDc : va_D A [zO 3 n_1 [.int 0, .null, .int 0, .int 0, .int 0, .null, .null, .null, .int 0, .int 0, .int 0, .int 0, .int 0, .int 0, .null]] := xd_R hD
  refine xe_sfxv (wr := (([zO 7 xa [.ref q_1, .ref q_2, .int 0], zA t 4 q_2 7 (va_up (fun _ => none) (0 : Int32).toNatClampNeg (some (qf_0 0)))] ++ [zO 2 q_1 [.ref rw, .int 0, .int 0, .int 0, .int 0], zA t 3 rw 300 (fun _ => none)]) ++ wN t qf_0 q_1 nof_0 0 mk (8, false, 0, 0, -1, 0, 0))) (wc := [zO 3 n_1 [.int 0, .null, .int 0, .int 0, .int 0, .null, .null, .null, .int 0, .int 0, .int 0, .int 0, .int 0, .int 0, .null]]) (xs_I (As := [.int 1, .int mk, .ref q_1]) (rest := [.ref n_1, .int 1, .ref q_2]) Z (C_D_init l D t n_1 q_1 1 mk H.size) m_D_init k_63 k_64 rfl rfl rfl ⟨Nat.le_of_ble_eq_true rfl, Nat.le_of_ble_eq_true rfl⟩ (xe_pre hK hPc hDc) rfl hl.1 rfl (Nat.le_of_ble_eq_true rfl) d_Q_init_64 ⟨Nat.le_of_ble_eq_true rfl, Nat.le_of_ble_eq_true rfl⟩) hP hD hS hA (fun u_ H locs hw hP2 hD2 hS2 => ?_)
  obtain ⟨qf_1, nof_1⟩ := u_
  dsimp only at hw
  subst hw
  have hS := hS2
  have hP : va_P D vwCl (([zO 7 xa [.ref q_1, .ref q_2, .int 0], zA t 4 q_2 7 (va_up (fun _ => none) (0 : Int32).toNatClampNeg (some (qf_0 0)))] ++ [zO 2 q_1 [.ref rw, .int 0, .int 0, .int 0, .int 0], zA t 3 rw 300 (fun _ => none)]) ++ wN t qf_0 q_1 nof_0 0 mk (8, false, 0, 0, -1, 0, 0) ++ wN t qf_1 q_1 nof_1 1 mk (11, false, 0, 0, -1, 0, 0)) H := hP2
  have hD : va_D A (([zO 7 xa [.ref q_1, .ref q_2, .int 0], zA t 4 q_2 7 (va_up (fun _ => none) (0 : Int32).toNatClampNeg (some (qf_0 0)))] ++ [zO 2 q_1 [.ref rw, .int 0, .int 0, .int 0, .int 0], zA t 3 rw 300 (fun _ => none)]) ++ wN t qf_0 q_1 nof_0 0 mk (8, false, 0, 0, -1, 0, 0) ++ wN t qf_1 q_1 nof_1 1 mk (11, false, 0, 0, -1, 0, 0)) := hD2
  refine va_astq hx hb hK.2 hP hD hS 1 4 29 3 rfl rfl rfl rfl (by unfold vp_in; decide) d_Q_init_67 (fun H locs hP hD hS => ?_)
  have hP : va_P D vwCl (([zO 7 xa [.ref q_1, .ref q_2, .int 0], zA t 4 q_2 7 (va_up (va_up (fun _ => none) (0 : Int32).toNatClampNeg (some (qf_0 0))) (1 : Int32).toNatClampNeg (some (qf_1 0)))] ++ [zO 2 q_1 [.ref rw, .int 0, .int 0, .int 0, .int 0], zA t 3 rw 300 (fun _ => none)]) ++ wN t qf_0 q_1 nof_0 0 mk (8, false, 0, 0, -1, 0, 0) ++ wN t qf_1 q_1 nof_1 1 mk (11, false, 0, 0, -1, 0, 0)) H := hP
  have hD : va_D A (([zO 7 xa [.ref q_1, .ref q_2, .int 0], zA t 4 q_2 7 (va_up (va_up (fun _ => none) (0 : Int32).toNatClampNeg (some (qf_0 0))) (1 : Int32).toNatClampNeg (some (qf_1 0)))] ++ [zO 2 q_1 [.ref rw, .int 0, .int 0, .int 0, .int 0], zA t 3 rw 300 (fun _ => none)]) ++ wN t qf_0 q_1 nof_0 0 mk (8, false, 0, 0, -1, 0, 0) ++ wN t qf_1 q_1 nof_1 1 mk (11, false, 0, 0, -1, 0, 0)) := hD
  refine lv_iinc (v := 2) (lv' := [(4, .int 2), (3, .ref q_1), (2, .int mm), (0, .ref xa), (1, .int mem)]) hx hb d_Q_init_68 hl (k := 0) rfl rfl (by decide) rfl (fun ls hl => ?_)
  refine lv_goto (tgt := 34) hx hb d_Q_init_71 (by decide) ?_
  refine lv_iload hx hb d_Q_init_34 (lv_at hl 0 rfl) ?_
  refine lv_bipush (v := 7) hx hb d_Q_init_36 (by decide) ?_
  refine lv_icmp_ge (tgt := 74) hx hb d_Q_init_38 (by decide) (fun c_8 => absurd c_8 (by decide)) (fun _ => ?_)
  refine lv_aload_n hx hb d_Q_init_41 rfl (lv_at hl 3 rfl) ?_
  refine va_get (ci := 7) (C := "QuorumStore") (T := TX7) (N := 3) hx hb hts inX7 hown hK.2 hP 0 rfl rfl 1 (by decide) (hts _ k_256) (fun _ h9 => h9) rfl d_Q_init_42 ?_
  refine lv_iload hx hb d_Q_init_45 (lv_at hl 0 rfl) ?_
  refine va_new (ci := 3) (fs := [.int 0, .null, .int 0, .int 0, .int 0, .null, .null, .null, .int 0, .int 0, .int 0, .int 0, .int 0, .int 0, .null]) (C := "QuorumStore$Node") (T := TX3) (N := 15) hx hb hts inX3 tyX3 okX3 hown (hts _ k_60) (hts _ k_62) (hts _ k_3) hK.2 hP hD hS hA rfl (by decide) (Nat.le_of_ble_eq_true rfl) (Nat.le_of_ble_eq_true rfl) d_Q_init_47 (fun n_2 H hP hD hS => ?_)
  refine lv_dup hx hb d_Q_init_50 rfl ?_
  refine lv_iload hx hb d_Q_init_51 (lv_at hl 0 rfl) ?_
  have hj : W p l e ({ frames := 4, cells := 185, slots := 3917, locals := 89 } : Room) s m ([.ref xa, .int mem] : List Value).toArray below meth c H locs 56 1357 (MQ below ((xe_v D vwCl (fun _ : Nat × Nat × Nat × (Nat → Nat → Nat) × (Nat → Nat) => True) (fun u => (([zO 7 xa [.ref u.1, .ref u.2.1, .int 0], zA t 4 u.2.1 7 (fun j => some (u.2.2.2.1 j 0))] ++ [zO 2 u.1 [.ref u.2.2.1, .int 0, .int 0, .int 0, .int 0], zA t 3 u.2.2.1 300 (fun _ => none)]) ++ wNs t u.2.2.2.1 u.1 u.2.2.2.2 mk [(0, (8, false, 0, 0, -1, 0, 0)), (1, (11, false, 0, 0, -1, 0, 0)), (2, (14, false, 0, 0, -1, 0, 0)), (3, (17, false, 0, 0, -1, 0, 0)), (4, (20, false, 0, 0, -1, 0, 0)), (5, (23, false, 0, 0, -1, 0, 0)), (6, (26, false, 0, 0, -1, 0, 0))]))) A) ([.ref xa, .int mem] : List Value).toArray s 185 3917 A) (F0 m 63 ls [.int mk, .int 2, .ref n_2, .ref n_2, .int 2, .ref q_2]) → W p l e ({ frames := 4, cells := 185, slots := 3917, locals := 89 } : Room) s m ([.ref xa, .int mem] : List Value).toArray below meth c H locs 56 1357 (MQ below ((xe_v D vwCl (fun _ : Nat × Nat × Nat × (Nat → Nat → Nat) × (Nat → Nat) => True) (fun u => (([zO 7 xa [.ref u.1, .ref u.2.1, .int 0], zA t 4 u.2.1 7 (fun j => some (u.2.2.2.1 j 0))] ++ [zO 2 u.1 [.ref u.2.2.1, .int 0, .int 0, .int 0, .int 0], zA t 3 u.2.2.1 300 (fun _ => none)]) ++ wNs t u.2.2.2.1 u.1 u.2.2.2.2 mk [(0, (8, false, 0, 0, -1, 0, 0)), (1, (11, false, 0, 0, -1, 0, 0)), (2, (14, false, 0, 0, -1, 0, 0)), (3, (17, false, 0, 0, -1, 0, 0)), (4, (20, false, 0, 0, -1, 0, 0)), (5, (23, false, 0, 0, -1, 0, 0)), (6, (26, false, 0, 0, -1, 0, 0))]))) A) ([.ref xa, .int mem] : List Value).toArray s 185 3917 A) (F0 m 53 ls [.int 2, .ref n_2, .ref n_2, .int 2, .ref q_2]) := by
    intro hk
    refine lv_iload_n hx hb d_Q_init_53 rfl (lv_at hl 2 rfl) ?_
    refine lv_if_ne (tgt := 62) hx hb d_Q_init_54 (by decide) (fun c_9 => ?_) (fun c_9 => ?_)
    · refine lv_iload_n hx hb d_Q_init_62 rfl (lv_at hl 2 rfl) ?_
      exact (show mk = mm from by rw [hmk, ← emm, if_neg c_9]) ▸ hk
    · refine lv_bipush (v := 7) hx hb d_Q_init_57 (by decide) ?_
      refine lv_goto (tgt := 63) hx hb d_Q_init_59 (by decide) ?_
      exact (show mk = 7 from by rw [hmk, ← emm, if_pos c_9]) ▸ hk
  refine hj ?_
  refine lv_aload_n hx hb d_Q_init_63 rfl (lv_at hl 1 rfl) ?_
  have hPc : va_P D vwCl [zO 3 n_2 [.int 0, .null, .int 0, .int 0, .int 0, .null, .null, .null, .int 0, .int 0, .int 0, .int 0, .int 0, .int 0, .null]] H := xd_P hP (fun q h => List.mem_append_right _ h)
  have hDc : va_D A [zO 3 n_2 [.int 0, .null, .int 0, .int 0, .int 0, .null, .null, .null, .int 0, .int 0, .int 0, .int 0, .int 0, .int 0, .null]] := xd_R hD
  refine xe_sfxv (wr := (([zO 7 xa [.ref q_1, .ref q_2, .int 0], zA t 4 q_2 7 (va_up (va_up (fun _ => none) (0 : Int32).toNatClampNeg (some (qf_0 0))) (1 : Int32).toNatClampNeg (some (qf_1 0)))] ++ [zO 2 q_1 [.ref rw, .int 0, .int 0, .int 0, .int 0], zA t 3 rw 300 (fun _ => none)]) ++ wN t qf_0 q_1 nof_0 0 mk (8, false, 0, 0, -1, 0, 0) ++ wN t qf_1 q_1 nof_1 1 mk (11, false, 0, 0, -1, 0, 0))) (wc := [zO 3 n_2 [.int 0, .null, .int 0, .int 0, .int 0, .null, .null, .null, .int 0, .int 0, .int 0, .int 0, .int 0, .int 0, .null]]) (xs_I (As := [.int 2, .int mk, .ref q_1]) (rest := [.ref n_2, .int 2, .ref q_2]) Z (C_D_init l D t n_2 q_1 2 mk H.size) m_D_init k_63 k_64 rfl rfl rfl ⟨Nat.le_of_ble_eq_true rfl, Nat.le_of_ble_eq_true rfl⟩ (xe_pre hK hPc hDc) rfl hl.1 rfl (Nat.le_of_ble_eq_true rfl) d_Q_init_64 ⟨Nat.le_of_ble_eq_true rfl, Nat.le_of_ble_eq_true rfl⟩) hP hD hS hA (fun u_ H locs hw hP2 hD2 hS2 => ?_)
  obtain ⟨qf_2, nof_2⟩ := u_
  dsimp only at hw
  subst hw
  have hS := hS2
  have hP : va_P D vwCl (([zO 7 xa [.ref q_1, .ref q_2, .int 0], zA t 4 q_2 7 (va_up (va_up (fun _ => none) (0 : Int32).toNatClampNeg (some (qf_0 0))) (1 : Int32).toNatClampNeg (some (qf_1 0)))] ++ [zO 2 q_1 [.ref rw, .int 0, .int 0, .int 0, .int 0], zA t 3 rw 300 (fun _ => none)]) ++ wN t qf_0 q_1 nof_0 0 mk (8, false, 0, 0, -1, 0, 0) ++ wN t qf_1 q_1 nof_1 1 mk (11, false, 0, 0, -1, 0, 0) ++ wN t qf_2 q_1 nof_2 2 mk (14, false, 0, 0, -1, 0, 0)) H := hP2
  have hD : va_D A (([zO 7 xa [.ref q_1, .ref q_2, .int 0], zA t 4 q_2 7 (va_up (va_up (fun _ => none) (0 : Int32).toNatClampNeg (some (qf_0 0))) (1 : Int32).toNatClampNeg (some (qf_1 0)))] ++ [zO 2 q_1 [.ref rw, .int 0, .int 0, .int 0, .int 0], zA t 3 rw 300 (fun _ => none)]) ++ wN t qf_0 q_1 nof_0 0 mk (8, false, 0, 0, -1, 0, 0) ++ wN t qf_1 q_1 nof_1 1 mk (11, false, 0, 0, -1, 0, 0) ++ wN t qf_2 q_1 nof_2 2 mk (14, false, 0, 0, -1, 0, 0)) := hD2
  refine va_astq hx hb hK.2 hP hD hS 1 4 54 3 rfl rfl rfl rfl (by unfold vp_in; decide) d_Q_init_67 (fun H locs hP hD hS => ?_)
  have hP : va_P D vwCl (([zO 7 xa [.ref q_1, .ref q_2, .int 0], zA t 4 q_2 7 (va_up (va_up (va_up (fun _ => none) (0 : Int32).toNatClampNeg (some (qf_0 0))) (1 : Int32).toNatClampNeg (some (qf_1 0))) (2 : Int32).toNatClampNeg (some (qf_2 0)))] ++ [zO 2 q_1 [.ref rw, .int 0, .int 0, .int 0, .int 0], zA t 3 rw 300 (fun _ => none)]) ++ wN t qf_0 q_1 nof_0 0 mk (8, false, 0, 0, -1, 0, 0) ++ wN t qf_1 q_1 nof_1 1 mk (11, false, 0, 0, -1, 0, 0) ++ wN t qf_2 q_1 nof_2 2 mk (14, false, 0, 0, -1, 0, 0)) H := hP
  have hD : va_D A (([zO 7 xa [.ref q_1, .ref q_2, .int 0], zA t 4 q_2 7 (va_up (va_up (va_up (fun _ => none) (0 : Int32).toNatClampNeg (some (qf_0 0))) (1 : Int32).toNatClampNeg (some (qf_1 0))) (2 : Int32).toNatClampNeg (some (qf_2 0)))] ++ [zO 2 q_1 [.ref rw, .int 0, .int 0, .int 0, .int 0], zA t 3 rw 300 (fun _ => none)]) ++ wN t qf_0 q_1 nof_0 0 mk (8, false, 0, 0, -1, 0, 0) ++ wN t qf_1 q_1 nof_1 1 mk (11, false, 0, 0, -1, 0, 0) ++ wN t qf_2 q_1 nof_2 2 mk (14, false, 0, 0, -1, 0, 0)) := hD
  refine lv_iinc (v := 3) (lv' := [(4, .int 3), (3, .ref q_1), (2, .int mm), (0, .ref xa), (1, .int mem)]) hx hb d_Q_init_68 hl (k := 0) rfl rfl (by decide) rfl (fun ls hl => ?_)
  refine lv_goto (tgt := 34) hx hb d_Q_init_71 (by decide) ?_
  refine lv_iload hx hb d_Q_init_34 (lv_at hl 0 rfl) ?_
  refine lv_bipush (v := 7) hx hb d_Q_init_36 (by decide) ?_
  refine lv_icmp_ge (tgt := 74) hx hb d_Q_init_38 (by decide) (fun c_10 => absurd c_10 (by decide)) (fun _ => ?_)
  refine lv_aload_n hx hb d_Q_init_41 rfl (lv_at hl 3 rfl) ?_
  refine va_get (ci := 7) (C := "QuorumStore") (T := TX7) (N := 3) hx hb hts inX7 hown hK.2 hP 0 rfl rfl 1 (by decide) (hts _ k_256) (fun _ h9 => h9) rfl d_Q_init_42 ?_
  refine lv_iload hx hb d_Q_init_45 (lv_at hl 0 rfl) ?_
  refine va_new (ci := 3) (fs := [.int 0, .null, .int 0, .int 0, .int 0, .null, .null, .null, .int 0, .int 0, .int 0, .int 0, .int 0, .int 0, .null]) (C := "QuorumStore$Node") (T := TX3) (N := 15) hx hb hts inX3 tyX3 okX3 hown (hts _ k_60) (hts _ k_62) (hts _ k_3) hK.2 hP hD hS hA rfl (by decide) (Nat.le_of_ble_eq_true rfl) (Nat.le_of_ble_eq_true rfl) d_Q_init_47 (fun n_3 H hP hD hS => ?_)
  refine lv_dup hx hb d_Q_init_50 rfl ?_
  refine lv_iload hx hb d_Q_init_51 (lv_at hl 0 rfl) ?_
  have hj : W p l e ({ frames := 4, cells := 185, slots := 3917, locals := 89 } : Room) s m ([.ref xa, .int mem] : List Value).toArray below meth c H locs 82 1872 (MQ below ((xe_v D vwCl (fun _ : Nat × Nat × Nat × (Nat → Nat → Nat) × (Nat → Nat) => True) (fun u => (([zO 7 xa [.ref u.1, .ref u.2.1, .int 0], zA t 4 u.2.1 7 (fun j => some (u.2.2.2.1 j 0))] ++ [zO 2 u.1 [.ref u.2.2.1, .int 0, .int 0, .int 0, .int 0], zA t 3 u.2.2.1 300 (fun _ => none)]) ++ wNs t u.2.2.2.1 u.1 u.2.2.2.2 mk [(0, (8, false, 0, 0, -1, 0, 0)), (1, (11, false, 0, 0, -1, 0, 0)), (2, (14, false, 0, 0, -1, 0, 0)), (3, (17, false, 0, 0, -1, 0, 0)), (4, (20, false, 0, 0, -1, 0, 0)), (5, (23, false, 0, 0, -1, 0, 0)), (6, (26, false, 0, 0, -1, 0, 0))]))) A) ([.ref xa, .int mem] : List Value).toArray s 185 3917 A) (F0 m 63 ls [.int mk, .int 3, .ref n_3, .ref n_3, .int 3, .ref q_2]) → W p l e ({ frames := 4, cells := 185, slots := 3917, locals := 89 } : Room) s m ([.ref xa, .int mem] : List Value).toArray below meth c H locs 82 1872 (MQ below ((xe_v D vwCl (fun _ : Nat × Nat × Nat × (Nat → Nat → Nat) × (Nat → Nat) => True) (fun u => (([zO 7 xa [.ref u.1, .ref u.2.1, .int 0], zA t 4 u.2.1 7 (fun j => some (u.2.2.2.1 j 0))] ++ [zO 2 u.1 [.ref u.2.2.1, .int 0, .int 0, .int 0, .int 0], zA t 3 u.2.2.1 300 (fun _ => none)]) ++ wNs t u.2.2.2.1 u.1 u.2.2.2.2 mk [(0, (8, false, 0, 0, -1, 0, 0)), (1, (11, false, 0, 0, -1, 0, 0)), (2, (14, false, 0, 0, -1, 0, 0)), (3, (17, false, 0, 0, -1, 0, 0)), (4, (20, false, 0, 0, -1, 0, 0)), (5, (23, false, 0, 0, -1, 0, 0)), (6, (26, false, 0, 0, -1, 0, 0))]))) A) ([.ref xa, .int mem] : List Value).toArray s 185 3917 A) (F0 m 53 ls [.int 3, .ref n_3, .ref n_3, .int 3, .ref q_2]) := by
    intro hk
    refine lv_iload_n hx hb d_Q_init_53 rfl (lv_at hl 2 rfl) ?_
    refine lv_if_ne (tgt := 62) hx hb d_Q_init_54 (by decide) (fun c_11 => ?_) (fun c_11 => ?_)
    · refine lv_iload_n hx hb d_Q_init_62 rfl (lv_at hl 2 rfl) ?_
      exact (show mk = mm from by rw [hmk, ← emm, if_neg c_11]) ▸ hk
    · refine lv_bipush (v := 7) hx hb d_Q_init_57 (by decide) ?_
      refine lv_goto (tgt := 63) hx hb d_Q_init_59 (by decide) ?_
      exact (show mk = 7 from by rw [hmk, ← emm, if_pos c_11]) ▸ hk
  refine hj ?_
  refine lv_aload_n hx hb d_Q_init_63 rfl (lv_at hl 1 rfl) ?_
  have hPc : va_P D vwCl [zO 3 n_3 [.int 0, .null, .int 0, .int 0, .int 0, .null, .null, .null, .int 0, .int 0, .int 0, .int 0, .int 0, .int 0, .null]] H := xd_P hP (fun q h => List.mem_append_right _ h)
  have hDc : va_D A [zO 3 n_3 [.int 0, .null, .int 0, .int 0, .int 0, .null, .null, .null, .int 0, .int 0, .int 0, .int 0, .int 0, .int 0, .null]] := xd_R hD
  refine xe_sfxv (wr := (([zO 7 xa [.ref q_1, .ref q_2, .int 0], zA t 4 q_2 7 (va_up (va_up (va_up (fun _ => none) (0 : Int32).toNatClampNeg (some (qf_0 0))) (1 : Int32).toNatClampNeg (some (qf_1 0))) (2 : Int32).toNatClampNeg (some (qf_2 0)))] ++ [zO 2 q_1 [.ref rw, .int 0, .int 0, .int 0, .int 0], zA t 3 rw 300 (fun _ => none)]) ++ wN t qf_0 q_1 nof_0 0 mk (8, false, 0, 0, -1, 0, 0) ++ wN t qf_1 q_1 nof_1 1 mk (11, false, 0, 0, -1, 0, 0) ++ wN t qf_2 q_1 nof_2 2 mk (14, false, 0, 0, -1, 0, 0))) (wc := [zO 3 n_3 [.int 0, .null, .int 0, .int 0, .int 0, .null, .null, .null, .int 0, .int 0, .int 0, .int 0, .int 0, .int 0, .null]]) (xs_I (As := [.int 3, .int mk, .ref q_1]) (rest := [.ref n_3, .int 3, .ref q_2]) Z (C_D_init l D t n_3 q_1 3 mk H.size) m_D_init k_63 k_64 rfl rfl rfl ⟨Nat.le_of_ble_eq_true rfl, Nat.le_of_ble_eq_true rfl⟩ (xe_pre hK hPc hDc) rfl hl.1 rfl (Nat.le_of_ble_eq_true rfl) d_Q_init_64 ⟨Nat.le_of_ble_eq_true rfl, Nat.le_of_ble_eq_true rfl⟩) hP hD hS hA (fun u_ H locs hw hP2 hD2 hS2 => ?_)
  obtain ⟨qf_3, nof_3⟩ := u_
  dsimp only at hw
  subst hw
  have hS := hS2
  have hP : va_P D vwCl (([zO 7 xa [.ref q_1, .ref q_2, .int 0], zA t 4 q_2 7 (va_up (va_up (va_up (fun _ => none) (0 : Int32).toNatClampNeg (some (qf_0 0))) (1 : Int32).toNatClampNeg (some (qf_1 0))) (2 : Int32).toNatClampNeg (some (qf_2 0)))] ++ [zO 2 q_1 [.ref rw, .int 0, .int 0, .int 0, .int 0], zA t 3 rw 300 (fun _ => none)]) ++ wN t qf_0 q_1 nof_0 0 mk (8, false, 0, 0, -1, 0, 0) ++ wN t qf_1 q_1 nof_1 1 mk (11, false, 0, 0, -1, 0, 0) ++ wN t qf_2 q_1 nof_2 2 mk (14, false, 0, 0, -1, 0, 0) ++ wN t qf_3 q_1 nof_3 3 mk (17, false, 0, 0, -1, 0, 0)) H := hP2
  have hD : va_D A (([zO 7 xa [.ref q_1, .ref q_2, .int 0], zA t 4 q_2 7 (va_up (va_up (va_up (fun _ => none) (0 : Int32).toNatClampNeg (some (qf_0 0))) (1 : Int32).toNatClampNeg (some (qf_1 0))) (2 : Int32).toNatClampNeg (some (qf_2 0)))] ++ [zO 2 q_1 [.ref rw, .int 0, .int 0, .int 0, .int 0], zA t 3 rw 300 (fun _ => none)]) ++ wN t qf_0 q_1 nof_0 0 mk (8, false, 0, 0, -1, 0, 0) ++ wN t qf_1 q_1 nof_1 1 mk (11, false, 0, 0, -1, 0, 0) ++ wN t qf_2 q_1 nof_2 2 mk (14, false, 0, 0, -1, 0, 0) ++ wN t qf_3 q_1 nof_3 3 mk (17, false, 0, 0, -1, 0, 0)) := hD2
  refine va_astq hx hb hK.2 hP hD hS 1 4 79 3 rfl rfl rfl rfl (by unfold vp_in; decide) d_Q_init_67 (fun H locs hP hD hS => ?_)
  have hP : va_P D vwCl (([zO 7 xa [.ref q_1, .ref q_2, .int 0], zA t 4 q_2 7 (va_up (va_up (va_up (va_up (fun _ => none) (0 : Int32).toNatClampNeg (some (qf_0 0))) (1 : Int32).toNatClampNeg (some (qf_1 0))) (2 : Int32).toNatClampNeg (some (qf_2 0))) (3 : Int32).toNatClampNeg (some (qf_3 0)))] ++ [zO 2 q_1 [.ref rw, .int 0, .int 0, .int 0, .int 0], zA t 3 rw 300 (fun _ => none)]) ++ wN t qf_0 q_1 nof_0 0 mk (8, false, 0, 0, -1, 0, 0) ++ wN t qf_1 q_1 nof_1 1 mk (11, false, 0, 0, -1, 0, 0) ++ wN t qf_2 q_1 nof_2 2 mk (14, false, 0, 0, -1, 0, 0) ++ wN t qf_3 q_1 nof_3 3 mk (17, false, 0, 0, -1, 0, 0)) H := hP
  have hD : va_D A (([zO 7 xa [.ref q_1, .ref q_2, .int 0], zA t 4 q_2 7 (va_up (va_up (va_up (va_up (fun _ => none) (0 : Int32).toNatClampNeg (some (qf_0 0))) (1 : Int32).toNatClampNeg (some (qf_1 0))) (2 : Int32).toNatClampNeg (some (qf_2 0))) (3 : Int32).toNatClampNeg (some (qf_3 0)))] ++ [zO 2 q_1 [.ref rw, .int 0, .int 0, .int 0, .int 0], zA t 3 rw 300 (fun _ => none)]) ++ wN t qf_0 q_1 nof_0 0 mk (8, false, 0, 0, -1, 0, 0) ++ wN t qf_1 q_1 nof_1 1 mk (11, false, 0, 0, -1, 0, 0) ++ wN t qf_2 q_1 nof_2 2 mk (14, false, 0, 0, -1, 0, 0) ++ wN t qf_3 q_1 nof_3 3 mk (17, false, 0, 0, -1, 0, 0)) := hD
  refine lv_iinc (v := 4) (lv' := [(4, .int 4), (3, .ref q_1), (2, .int mm), (0, .ref xa), (1, .int mem)]) hx hb d_Q_init_68 hl (k := 0) rfl rfl (by decide) rfl (fun ls hl => ?_)
  refine lv_goto (tgt := 34) hx hb d_Q_init_71 (by decide) ?_
  refine lv_iload hx hb d_Q_init_34 (lv_at hl 0 rfl) ?_
  refine lv_bipush (v := 7) hx hb d_Q_init_36 (by decide) ?_
  refine lv_icmp_ge (tgt := 74) hx hb d_Q_init_38 (by decide) (fun c_12 => absurd c_12 (by decide)) (fun _ => ?_)
  refine lv_aload_n hx hb d_Q_init_41 rfl (lv_at hl 3 rfl) ?_
  refine va_get (ci := 7) (C := "QuorumStore") (T := TX7) (N := 3) hx hb hts inX7 hown hK.2 hP 0 rfl rfl 1 (by decide) (hts _ k_256) (fun _ h9 => h9) rfl d_Q_init_42 ?_
  refine lv_iload hx hb d_Q_init_45 (lv_at hl 0 rfl) ?_
  refine va_new (ci := 3) (fs := [.int 0, .null, .int 0, .int 0, .int 0, .null, .null, .null, .int 0, .int 0, .int 0, .int 0, .int 0, .int 0, .null]) (C := "QuorumStore$Node") (T := TX3) (N := 15) hx hb hts inX3 tyX3 okX3 hown (hts _ k_60) (hts _ k_62) (hts _ k_3) hK.2 hP hD hS hA rfl (by decide) (Nat.le_of_ble_eq_true rfl) (Nat.le_of_ble_eq_true rfl) d_Q_init_47 (fun n_4 H hP hD hS => ?_)
  refine lv_dup hx hb d_Q_init_50 rfl ?_
  refine lv_iload hx hb d_Q_init_51 (lv_at hl 0 rfl) ?_
  have hj : W p l e ({ frames := 4, cells := 185, slots := 3917, locals := 89 } : Room) s m ([.ref xa, .int mem] : List Value).toArray below meth c H locs 108 2387 (MQ below ((xe_v D vwCl (fun _ : Nat × Nat × Nat × (Nat → Nat → Nat) × (Nat → Nat) => True) (fun u => (([zO 7 xa [.ref u.1, .ref u.2.1, .int 0], zA t 4 u.2.1 7 (fun j => some (u.2.2.2.1 j 0))] ++ [zO 2 u.1 [.ref u.2.2.1, .int 0, .int 0, .int 0, .int 0], zA t 3 u.2.2.1 300 (fun _ => none)]) ++ wNs t u.2.2.2.1 u.1 u.2.2.2.2 mk [(0, (8, false, 0, 0, -1, 0, 0)), (1, (11, false, 0, 0, -1, 0, 0)), (2, (14, false, 0, 0, -1, 0, 0)), (3, (17, false, 0, 0, -1, 0, 0)), (4, (20, false, 0, 0, -1, 0, 0)), (5, (23, false, 0, 0, -1, 0, 0)), (6, (26, false, 0, 0, -1, 0, 0))]))) A) ([.ref xa, .int mem] : List Value).toArray s 185 3917 A) (F0 m 63 ls [.int mk, .int 4, .ref n_4, .ref n_4, .int 4, .ref q_2]) → W p l e ({ frames := 4, cells := 185, slots := 3917, locals := 89 } : Room) s m ([.ref xa, .int mem] : List Value).toArray below meth c H locs 108 2387 (MQ below ((xe_v D vwCl (fun _ : Nat × Nat × Nat × (Nat → Nat → Nat) × (Nat → Nat) => True) (fun u => (([zO 7 xa [.ref u.1, .ref u.2.1, .int 0], zA t 4 u.2.1 7 (fun j => some (u.2.2.2.1 j 0))] ++ [zO 2 u.1 [.ref u.2.2.1, .int 0, .int 0, .int 0, .int 0], zA t 3 u.2.2.1 300 (fun _ => none)]) ++ wNs t u.2.2.2.1 u.1 u.2.2.2.2 mk [(0, (8, false, 0, 0, -1, 0, 0)), (1, (11, false, 0, 0, -1, 0, 0)), (2, (14, false, 0, 0, -1, 0, 0)), (3, (17, false, 0, 0, -1, 0, 0)), (4, (20, false, 0, 0, -1, 0, 0)), (5, (23, false, 0, 0, -1, 0, 0)), (6, (26, false, 0, 0, -1, 0, 0))]))) A) ([.ref xa, .int mem] : List Value).toArray s 185 3917 A) (F0 m 53 ls [.int 4, .ref n_4, .ref n_4, .int 4, .ref q_2]) := by
    intro hk
    refine lv_iload_n hx hb d_Q_init_53 rfl (lv_at hl 2 rfl) ?_
    refine lv_if_ne (tgt := 62) hx hb d_Q_init_54 (by decide) (fun c_13 => ?_) (fun c_13 => ?_)
    · refine lv_iload_n hx hb d_Q_init_62 rfl (lv_at hl 2 rfl) ?_
      exact (show mk = mm from by rw [hmk, ← emm, if_neg c_13]) ▸ hk
    · refine lv_bipush (v := 7) hx hb d_Q_init_57 (by decide) ?_
      refine lv_goto (tgt := 63) hx hb d_Q_init_59 (by decide) ?_
      exact (show mk = 7 from by rw [hmk, ← emm, if_pos c_13]) ▸ hk
  refine hj ?_
  refine lv_aload_n hx hb d_Q_init_63 rfl (lv_at hl 1 rfl) ?_
  have hPc : va_P D vwCl [zO 3 n_4 [.int 0, .null, .int 0, .int 0, .int 0, .null, .null, .null, .int 0, .int 0, .int 0, .int 0, .int 0, .int 0, .null]] H := xd_P hP (fun q h => List.mem_append_right _ h)
  have hDc : va_D A [zO 3 n_4 [.int 0, .null, .int 0, .int 0, .int 0, .null, .null, .null, .int 0, .int 0, .int 0, .int 0, .int 0, .int 0, .null]] := xd_R hD
  refine xe_sfxv (wr := (([zO 7 xa [.ref q_1, .ref q_2, .int 0], zA t 4 q_2 7 (va_up (va_up (va_up (va_up (fun _ => none) (0 : Int32).toNatClampNeg (some (qf_0 0))) (1 : Int32).toNatClampNeg (some (qf_1 0))) (2 : Int32).toNatClampNeg (some (qf_2 0))) (3 : Int32).toNatClampNeg (some (qf_3 0)))] ++ [zO 2 q_1 [.ref rw, .int 0, .int 0, .int 0, .int 0], zA t 3 rw 300 (fun _ => none)]) ++ wN t qf_0 q_1 nof_0 0 mk (8, false, 0, 0, -1, 0, 0) ++ wN t qf_1 q_1 nof_1 1 mk (11, false, 0, 0, -1, 0, 0) ++ wN t qf_2 q_1 nof_2 2 mk (14, false, 0, 0, -1, 0, 0) ++ wN t qf_3 q_1 nof_3 3 mk (17, false, 0, 0, -1, 0, 0))) (wc := [zO 3 n_4 [.int 0, .null, .int 0, .int 0, .int 0, .null, .null, .null, .int 0, .int 0, .int 0, .int 0, .int 0, .int 0, .null]]) (xs_I (As := [.int 4, .int mk, .ref q_1]) (rest := [.ref n_4, .int 4, .ref q_2]) Z (C_D_init l D t n_4 q_1 4 mk H.size) m_D_init k_63 k_64 rfl rfl rfl ⟨Nat.le_of_ble_eq_true rfl, Nat.le_of_ble_eq_true rfl⟩ (xe_pre hK hPc hDc) rfl hl.1 rfl (Nat.le_of_ble_eq_true rfl) d_Q_init_64 ⟨Nat.le_of_ble_eq_true rfl, Nat.le_of_ble_eq_true rfl⟩) hP hD hS hA (fun u_ H locs hw hP2 hD2 hS2 => ?_)
  obtain ⟨qf_4, nof_4⟩ := u_
  dsimp only at hw
  subst hw
  have hS := hS2
  have hP : va_P D vwCl (([zO 7 xa [.ref q_1, .ref q_2, .int 0], zA t 4 q_2 7 (va_up (va_up (va_up (va_up (fun _ => none) (0 : Int32).toNatClampNeg (some (qf_0 0))) (1 : Int32).toNatClampNeg (some (qf_1 0))) (2 : Int32).toNatClampNeg (some (qf_2 0))) (3 : Int32).toNatClampNeg (some (qf_3 0)))] ++ [zO 2 q_1 [.ref rw, .int 0, .int 0, .int 0, .int 0], zA t 3 rw 300 (fun _ => none)]) ++ wN t qf_0 q_1 nof_0 0 mk (8, false, 0, 0, -1, 0, 0) ++ wN t qf_1 q_1 nof_1 1 mk (11, false, 0, 0, -1, 0, 0) ++ wN t qf_2 q_1 nof_2 2 mk (14, false, 0, 0, -1, 0, 0) ++ wN t qf_3 q_1 nof_3 3 mk (17, false, 0, 0, -1, 0, 0) ++ wN t qf_4 q_1 nof_4 4 mk (20, false, 0, 0, -1, 0, 0)) H := hP2
  have hD : va_D A (([zO 7 xa [.ref q_1, .ref q_2, .int 0], zA t 4 q_2 7 (va_up (va_up (va_up (va_up (fun _ => none) (0 : Int32).toNatClampNeg (some (qf_0 0))) (1 : Int32).toNatClampNeg (some (qf_1 0))) (2 : Int32).toNatClampNeg (some (qf_2 0))) (3 : Int32).toNatClampNeg (some (qf_3 0)))] ++ [zO 2 q_1 [.ref rw, .int 0, .int 0, .int 0, .int 0], zA t 3 rw 300 (fun _ => none)]) ++ wN t qf_0 q_1 nof_0 0 mk (8, false, 0, 0, -1, 0, 0) ++ wN t qf_1 q_1 nof_1 1 mk (11, false, 0, 0, -1, 0, 0) ++ wN t qf_2 q_1 nof_2 2 mk (14, false, 0, 0, -1, 0, 0) ++ wN t qf_3 q_1 nof_3 3 mk (17, false, 0, 0, -1, 0, 0) ++ wN t qf_4 q_1 nof_4 4 mk (20, false, 0, 0, -1, 0, 0)) := hD2
  refine va_astq hx hb hK.2 hP hD hS 1 4 104 3 rfl rfl rfl rfl (by unfold vp_in; decide) d_Q_init_67 (fun H locs hP hD hS => ?_)
  have hP : va_P D vwCl (([zO 7 xa [.ref q_1, .ref q_2, .int 0], zA t 4 q_2 7 (va_up (va_up (va_up (va_up (va_up (fun _ => none) (0 : Int32).toNatClampNeg (some (qf_0 0))) (1 : Int32).toNatClampNeg (some (qf_1 0))) (2 : Int32).toNatClampNeg (some (qf_2 0))) (3 : Int32).toNatClampNeg (some (qf_3 0))) (4 : Int32).toNatClampNeg (some (qf_4 0)))] ++ [zO 2 q_1 [.ref rw, .int 0, .int 0, .int 0, .int 0], zA t 3 rw 300 (fun _ => none)]) ++ wN t qf_0 q_1 nof_0 0 mk (8, false, 0, 0, -1, 0, 0) ++ wN t qf_1 q_1 nof_1 1 mk (11, false, 0, 0, -1, 0, 0) ++ wN t qf_2 q_1 nof_2 2 mk (14, false, 0, 0, -1, 0, 0) ++ wN t qf_3 q_1 nof_3 3 mk (17, false, 0, 0, -1, 0, 0) ++ wN t qf_4 q_1 nof_4 4 mk (20, false, 0, 0, -1, 0, 0)) H := hP
  have hD : va_D A (([zO 7 xa [.ref q_1, .ref q_2, .int 0], zA t 4 q_2 7 (va_up (va_up (va_up (va_up (va_up (fun _ => none) (0 : Int32).toNatClampNeg (some (qf_0 0))) (1 : Int32).toNatClampNeg (some (qf_1 0))) (2 : Int32).toNatClampNeg (some (qf_2 0))) (3 : Int32).toNatClampNeg (some (qf_3 0))) (4 : Int32).toNatClampNeg (some (qf_4 0)))] ++ [zO 2 q_1 [.ref rw, .int 0, .int 0, .int 0, .int 0], zA t 3 rw 300 (fun _ => none)]) ++ wN t qf_0 q_1 nof_0 0 mk (8, false, 0, 0, -1, 0, 0) ++ wN t qf_1 q_1 nof_1 1 mk (11, false, 0, 0, -1, 0, 0) ++ wN t qf_2 q_1 nof_2 2 mk (14, false, 0, 0, -1, 0, 0) ++ wN t qf_3 q_1 nof_3 3 mk (17, false, 0, 0, -1, 0, 0) ++ wN t qf_4 q_1 nof_4 4 mk (20, false, 0, 0, -1, 0, 0)) := hD
  refine lv_iinc (v := 5) (lv' := [(4, .int 5), (3, .ref q_1), (2, .int mm), (0, .ref xa), (1, .int mem)]) hx hb d_Q_init_68 hl (k := 0) rfl rfl (by decide) rfl (fun ls hl => ?_)
  refine lv_goto (tgt := 34) hx hb d_Q_init_71 (by decide) ?_
  refine lv_iload hx hb d_Q_init_34 (lv_at hl 0 rfl) ?_
  refine lv_bipush (v := 7) hx hb d_Q_init_36 (by decide) ?_
  refine lv_icmp_ge (tgt := 74) hx hb d_Q_init_38 (by decide) (fun c_14 => absurd c_14 (by decide)) (fun _ => ?_)
  refine lv_aload_n hx hb d_Q_init_41 rfl (lv_at hl 3 rfl) ?_
  refine va_get (ci := 7) (C := "QuorumStore") (T := TX7) (N := 3) hx hb hts inX7 hown hK.2 hP 0 rfl rfl 1 (by decide) (hts _ k_256) (fun _ h9 => h9) rfl d_Q_init_42 ?_
  refine lv_iload hx hb d_Q_init_45 (lv_at hl 0 rfl) ?_
  refine va_new (ci := 3) (fs := [.int 0, .null, .int 0, .int 0, .int 0, .null, .null, .null, .int 0, .int 0, .int 0, .int 0, .int 0, .int 0, .null]) (C := "QuorumStore$Node") (T := TX3) (N := 15) hx hb hts inX3 tyX3 okX3 hown (hts _ k_60) (hts _ k_62) (hts _ k_3) hK.2 hP hD hS hA rfl (by decide) (Nat.le_of_ble_eq_true rfl) (Nat.le_of_ble_eq_true rfl) d_Q_init_47 (fun n_5 H hP hD hS => ?_)
  refine lv_dup hx hb d_Q_init_50 rfl ?_
  refine lv_iload hx hb d_Q_init_51 (lv_at hl 0 rfl) ?_
  have hj : W p l e ({ frames := 4, cells := 185, slots := 3917, locals := 89 } : Room) s m ([.ref xa, .int mem] : List Value).toArray below meth c H locs 134 2902 (MQ below ((xe_v D vwCl (fun _ : Nat × Nat × Nat × (Nat → Nat → Nat) × (Nat → Nat) => True) (fun u => (([zO 7 xa [.ref u.1, .ref u.2.1, .int 0], zA t 4 u.2.1 7 (fun j => some (u.2.2.2.1 j 0))] ++ [zO 2 u.1 [.ref u.2.2.1, .int 0, .int 0, .int 0, .int 0], zA t 3 u.2.2.1 300 (fun _ => none)]) ++ wNs t u.2.2.2.1 u.1 u.2.2.2.2 mk [(0, (8, false, 0, 0, -1, 0, 0)), (1, (11, false, 0, 0, -1, 0, 0)), (2, (14, false, 0, 0, -1, 0, 0)), (3, (17, false, 0, 0, -1, 0, 0)), (4, (20, false, 0, 0, -1, 0, 0)), (5, (23, false, 0, 0, -1, 0, 0)), (6, (26, false, 0, 0, -1, 0, 0))]))) A) ([.ref xa, .int mem] : List Value).toArray s 185 3917 A) (F0 m 63 ls [.int mk, .int 5, .ref n_5, .ref n_5, .int 5, .ref q_2]) → W p l e ({ frames := 4, cells := 185, slots := 3917, locals := 89 } : Room) s m ([.ref xa, .int mem] : List Value).toArray below meth c H locs 134 2902 (MQ below ((xe_v D vwCl (fun _ : Nat × Nat × Nat × (Nat → Nat → Nat) × (Nat → Nat) => True) (fun u => (([zO 7 xa [.ref u.1, .ref u.2.1, .int 0], zA t 4 u.2.1 7 (fun j => some (u.2.2.2.1 j 0))] ++ [zO 2 u.1 [.ref u.2.2.1, .int 0, .int 0, .int 0, .int 0], zA t 3 u.2.2.1 300 (fun _ => none)]) ++ wNs t u.2.2.2.1 u.1 u.2.2.2.2 mk [(0, (8, false, 0, 0, -1, 0, 0)), (1, (11, false, 0, 0, -1, 0, 0)), (2, (14, false, 0, 0, -1, 0, 0)), (3, (17, false, 0, 0, -1, 0, 0)), (4, (20, false, 0, 0, -1, 0, 0)), (5, (23, false, 0, 0, -1, 0, 0)), (6, (26, false, 0, 0, -1, 0, 0))]))) A) ([.ref xa, .int mem] : List Value).toArray s 185 3917 A) (F0 m 53 ls [.int 5, .ref n_5, .ref n_5, .int 5, .ref q_2]) := by
    intro hk
    refine lv_iload_n hx hb d_Q_init_53 rfl (lv_at hl 2 rfl) ?_
    refine lv_if_ne (tgt := 62) hx hb d_Q_init_54 (by decide) (fun c_15 => ?_) (fun c_15 => ?_)
    · refine lv_iload_n hx hb d_Q_init_62 rfl (lv_at hl 2 rfl) ?_
      exact (show mk = mm from by rw [hmk, ← emm, if_neg c_15]) ▸ hk
    · refine lv_bipush (v := 7) hx hb d_Q_init_57 (by decide) ?_
      refine lv_goto (tgt := 63) hx hb d_Q_init_59 (by decide) ?_
      exact (show mk = 7 from by rw [hmk, ← emm, if_pos c_15]) ▸ hk
  refine hj ?_
  refine lv_aload_n hx hb d_Q_init_63 rfl (lv_at hl 1 rfl) ?_
  have hPc : va_P D vwCl [zO 3 n_5 [.int 0, .null, .int 0, .int 0, .int 0, .null, .null, .null, .int 0, .int 0, .int 0, .int 0, .int 0, .int 0, .null]] H := xd_P hP (fun q h => List.mem_append_right _ h)
  have hDc : va_D A [zO 3 n_5 [.int 0, .null, .int 0, .int 0, .int 0, .null, .null, .null, .int 0, .int 0, .int 0, .int 0, .int 0, .int 0, .null]] := xd_R hD
  refine xe_sfxv (wr := (([zO 7 xa [.ref q_1, .ref q_2, .int 0], zA t 4 q_2 7 (va_up (va_up (va_up (va_up (va_up (fun _ => none) (0 : Int32).toNatClampNeg (some (qf_0 0))) (1 : Int32).toNatClampNeg (some (qf_1 0))) (2 : Int32).toNatClampNeg (some (qf_2 0))) (3 : Int32).toNatClampNeg (some (qf_3 0))) (4 : Int32).toNatClampNeg (some (qf_4 0)))] ++ [zO 2 q_1 [.ref rw, .int 0, .int 0, .int 0, .int 0], zA t 3 rw 300 (fun _ => none)]) ++ wN t qf_0 q_1 nof_0 0 mk (8, false, 0, 0, -1, 0, 0) ++ wN t qf_1 q_1 nof_1 1 mk (11, false, 0, 0, -1, 0, 0) ++ wN t qf_2 q_1 nof_2 2 mk (14, false, 0, 0, -1, 0, 0) ++ wN t qf_3 q_1 nof_3 3 mk (17, false, 0, 0, -1, 0, 0) ++ wN t qf_4 q_1 nof_4 4 mk (20, false, 0, 0, -1, 0, 0))) (wc := [zO 3 n_5 [.int 0, .null, .int 0, .int 0, .int 0, .null, .null, .null, .int 0, .int 0, .int 0, .int 0, .int 0, .int 0, .null]]) (xs_I (As := [.int 5, .int mk, .ref q_1]) (rest := [.ref n_5, .int 5, .ref q_2]) Z (C_D_init l D t n_5 q_1 5 mk H.size) m_D_init k_63 k_64 rfl rfl rfl ⟨Nat.le_of_ble_eq_true rfl, Nat.le_of_ble_eq_true rfl⟩ (xe_pre hK hPc hDc) rfl hl.1 rfl (Nat.le_of_ble_eq_true rfl) d_Q_init_64 ⟨Nat.le_of_ble_eq_true rfl, Nat.le_of_ble_eq_true rfl⟩) hP hD hS hA (fun u_ H locs hw hP2 hD2 hS2 => ?_)
  obtain ⟨qf_5, nof_5⟩ := u_
  dsimp only at hw
  subst hw
  have hS := hS2
  have hP : va_P D vwCl (([zO 7 xa [.ref q_1, .ref q_2, .int 0], zA t 4 q_2 7 (va_up (va_up (va_up (va_up (va_up (fun _ => none) (0 : Int32).toNatClampNeg (some (qf_0 0))) (1 : Int32).toNatClampNeg (some (qf_1 0))) (2 : Int32).toNatClampNeg (some (qf_2 0))) (3 : Int32).toNatClampNeg (some (qf_3 0))) (4 : Int32).toNatClampNeg (some (qf_4 0)))] ++ [zO 2 q_1 [.ref rw, .int 0, .int 0, .int 0, .int 0], zA t 3 rw 300 (fun _ => none)]) ++ wN t qf_0 q_1 nof_0 0 mk (8, false, 0, 0, -1, 0, 0) ++ wN t qf_1 q_1 nof_1 1 mk (11, false, 0, 0, -1, 0, 0) ++ wN t qf_2 q_1 nof_2 2 mk (14, false, 0, 0, -1, 0, 0) ++ wN t qf_3 q_1 nof_3 3 mk (17, false, 0, 0, -1, 0, 0) ++ wN t qf_4 q_1 nof_4 4 mk (20, false, 0, 0, -1, 0, 0) ++ wN t qf_5 q_1 nof_5 5 mk (23, false, 0, 0, -1, 0, 0)) H := hP2
  have hD : va_D A (([zO 7 xa [.ref q_1, .ref q_2, .int 0], zA t 4 q_2 7 (va_up (va_up (va_up (va_up (va_up (fun _ => none) (0 : Int32).toNatClampNeg (some (qf_0 0))) (1 : Int32).toNatClampNeg (some (qf_1 0))) (2 : Int32).toNatClampNeg (some (qf_2 0))) (3 : Int32).toNatClampNeg (some (qf_3 0))) (4 : Int32).toNatClampNeg (some (qf_4 0)))] ++ [zO 2 q_1 [.ref rw, .int 0, .int 0, .int 0, .int 0], zA t 3 rw 300 (fun _ => none)]) ++ wN t qf_0 q_1 nof_0 0 mk (8, false, 0, 0, -1, 0, 0) ++ wN t qf_1 q_1 nof_1 1 mk (11, false, 0, 0, -1, 0, 0) ++ wN t qf_2 q_1 nof_2 2 mk (14, false, 0, 0, -1, 0, 0) ++ wN t qf_3 q_1 nof_3 3 mk (17, false, 0, 0, -1, 0, 0) ++ wN t qf_4 q_1 nof_4 4 mk (20, false, 0, 0, -1, 0, 0) ++ wN t qf_5 q_1 nof_5 5 mk (23, false, 0, 0, -1, 0, 0)) := hD2
  refine va_astq hx hb hK.2 hP hD hS 1 4 129 3 rfl rfl rfl rfl (by unfold vp_in; decide) d_Q_init_67 (fun H locs hP hD hS => ?_)
  have hP : va_P D vwCl (([zO 7 xa [.ref q_1, .ref q_2, .int 0], zA t 4 q_2 7 (va_up (va_up (va_up (va_up (va_up (va_up (fun _ => none) (0 : Int32).toNatClampNeg (some (qf_0 0))) (1 : Int32).toNatClampNeg (some (qf_1 0))) (2 : Int32).toNatClampNeg (some (qf_2 0))) (3 : Int32).toNatClampNeg (some (qf_3 0))) (4 : Int32).toNatClampNeg (some (qf_4 0))) (5 : Int32).toNatClampNeg (some (qf_5 0)))] ++ [zO 2 q_1 [.ref rw, .int 0, .int 0, .int 0, .int 0], zA t 3 rw 300 (fun _ => none)]) ++ wN t qf_0 q_1 nof_0 0 mk (8, false, 0, 0, -1, 0, 0) ++ wN t qf_1 q_1 nof_1 1 mk (11, false, 0, 0, -1, 0, 0) ++ wN t qf_2 q_1 nof_2 2 mk (14, false, 0, 0, -1, 0, 0) ++ wN t qf_3 q_1 nof_3 3 mk (17, false, 0, 0, -1, 0, 0) ++ wN t qf_4 q_1 nof_4 4 mk (20, false, 0, 0, -1, 0, 0) ++ wN t qf_5 q_1 nof_5 5 mk (23, false, 0, 0, -1, 0, 0)) H := hP
  have hD : va_D A (([zO 7 xa [.ref q_1, .ref q_2, .int 0], zA t 4 q_2 7 (va_up (va_up (va_up (va_up (va_up (va_up (fun _ => none) (0 : Int32).toNatClampNeg (some (qf_0 0))) (1 : Int32).toNatClampNeg (some (qf_1 0))) (2 : Int32).toNatClampNeg (some (qf_2 0))) (3 : Int32).toNatClampNeg (some (qf_3 0))) (4 : Int32).toNatClampNeg (some (qf_4 0))) (5 : Int32).toNatClampNeg (some (qf_5 0)))] ++ [zO 2 q_1 [.ref rw, .int 0, .int 0, .int 0, .int 0], zA t 3 rw 300 (fun _ => none)]) ++ wN t qf_0 q_1 nof_0 0 mk (8, false, 0, 0, -1, 0, 0) ++ wN t qf_1 q_1 nof_1 1 mk (11, false, 0, 0, -1, 0, 0) ++ wN t qf_2 q_1 nof_2 2 mk (14, false, 0, 0, -1, 0, 0) ++ wN t qf_3 q_1 nof_3 3 mk (17, false, 0, 0, -1, 0, 0) ++ wN t qf_4 q_1 nof_4 4 mk (20, false, 0, 0, -1, 0, 0) ++ wN t qf_5 q_1 nof_5 5 mk (23, false, 0, 0, -1, 0, 0)) := hD
  refine lv_iinc (v := 6) (lv' := [(4, .int 6), (3, .ref q_1), (2, .int mm), (0, .ref xa), (1, .int mem)]) hx hb d_Q_init_68 hl (k := 0) rfl rfl (by decide) rfl (fun ls hl => ?_)
  refine lv_goto (tgt := 34) hx hb d_Q_init_71 (by decide) ?_
  refine lv_iload hx hb d_Q_init_34 (lv_at hl 0 rfl) ?_
  refine lv_bipush (v := 7) hx hb d_Q_init_36 (by decide) ?_
  refine lv_icmp_ge (tgt := 74) hx hb d_Q_init_38 (by decide) (fun c_16 => absurd c_16 (by decide)) (fun _ => ?_)
  refine lv_aload_n hx hb d_Q_init_41 rfl (lv_at hl 3 rfl) ?_
  refine va_get (ci := 7) (C := "QuorumStore") (T := TX7) (N := 3) hx hb hts inX7 hown hK.2 hP 0 rfl rfl 1 (by decide) (hts _ k_256) (fun _ h9 => h9) rfl d_Q_init_42 ?_
  refine lv_iload hx hb d_Q_init_45 (lv_at hl 0 rfl) ?_
  refine va_new (ci := 3) (fs := [.int 0, .null, .int 0, .int 0, .int 0, .null, .null, .null, .int 0, .int 0, .int 0, .int 0, .int 0, .int 0, .null]) (C := "QuorumStore$Node") (T := TX3) (N := 15) hx hb hts inX3 tyX3 okX3 hown (hts _ k_60) (hts _ k_62) (hts _ k_3) hK.2 hP hD hS hA rfl (by decide) (Nat.le_of_ble_eq_true rfl) (Nat.le_of_ble_eq_true rfl) d_Q_init_47 (fun n_6 H hP hD hS => ?_)
  refine lv_dup hx hb d_Q_init_50 rfl ?_
  refine lv_iload hx hb d_Q_init_51 (lv_at hl 0 rfl) ?_
  have hj : W p l e ({ frames := 4, cells := 185, slots := 3917, locals := 89 } : Room) s m ([.ref xa, .int mem] : List Value).toArray below meth c H locs 160 3417 (MQ below ((xe_v D vwCl (fun _ : Nat × Nat × Nat × (Nat → Nat → Nat) × (Nat → Nat) => True) (fun u => (([zO 7 xa [.ref u.1, .ref u.2.1, .int 0], zA t 4 u.2.1 7 (fun j => some (u.2.2.2.1 j 0))] ++ [zO 2 u.1 [.ref u.2.2.1, .int 0, .int 0, .int 0, .int 0], zA t 3 u.2.2.1 300 (fun _ => none)]) ++ wNs t u.2.2.2.1 u.1 u.2.2.2.2 mk [(0, (8, false, 0, 0, -1, 0, 0)), (1, (11, false, 0, 0, -1, 0, 0)), (2, (14, false, 0, 0, -1, 0, 0)), (3, (17, false, 0, 0, -1, 0, 0)), (4, (20, false, 0, 0, -1, 0, 0)), (5, (23, false, 0, 0, -1, 0, 0)), (6, (26, false, 0, 0, -1, 0, 0))]))) A) ([.ref xa, .int mem] : List Value).toArray s 185 3917 A) (F0 m 63 ls [.int mk, .int 6, .ref n_6, .ref n_6, .int 6, .ref q_2]) → W p l e ({ frames := 4, cells := 185, slots := 3917, locals := 89 } : Room) s m ([.ref xa, .int mem] : List Value).toArray below meth c H locs 160 3417 (MQ below ((xe_v D vwCl (fun _ : Nat × Nat × Nat × (Nat → Nat → Nat) × (Nat → Nat) => True) (fun u => (([zO 7 xa [.ref u.1, .ref u.2.1, .int 0], zA t 4 u.2.1 7 (fun j => some (u.2.2.2.1 j 0))] ++ [zO 2 u.1 [.ref u.2.2.1, .int 0, .int 0, .int 0, .int 0], zA t 3 u.2.2.1 300 (fun _ => none)]) ++ wNs t u.2.2.2.1 u.1 u.2.2.2.2 mk [(0, (8, false, 0, 0, -1, 0, 0)), (1, (11, false, 0, 0, -1, 0, 0)), (2, (14, false, 0, 0, -1, 0, 0)), (3, (17, false, 0, 0, -1, 0, 0)), (4, (20, false, 0, 0, -1, 0, 0)), (5, (23, false, 0, 0, -1, 0, 0)), (6, (26, false, 0, 0, -1, 0, 0))]))) A) ([.ref xa, .int mem] : List Value).toArray s 185 3917 A) (F0 m 53 ls [.int 6, .ref n_6, .ref n_6, .int 6, .ref q_2]) := by
    intro hk
    refine lv_iload_n hx hb d_Q_init_53 rfl (lv_at hl 2 rfl) ?_
    refine lv_if_ne (tgt := 62) hx hb d_Q_init_54 (by decide) (fun c_17 => ?_) (fun c_17 => ?_)
    · refine lv_iload_n hx hb d_Q_init_62 rfl (lv_at hl 2 rfl) ?_
      exact (show mk = mm from by rw [hmk, ← emm, if_neg c_17]) ▸ hk
    · refine lv_bipush (v := 7) hx hb d_Q_init_57 (by decide) ?_
      refine lv_goto (tgt := 63) hx hb d_Q_init_59 (by decide) ?_
      exact (show mk = 7 from by rw [hmk, ← emm, if_pos c_17]) ▸ hk
  refine hj ?_
  refine lv_aload_n hx hb d_Q_init_63 rfl (lv_at hl 1 rfl) ?_
  have hPc : va_P D vwCl [zO 3 n_6 [.int 0, .null, .int 0, .int 0, .int 0, .null, .null, .null, .int 0, .int 0, .int 0, .int 0, .int 0, .int 0, .null]] H := xd_P hP (fun q h => List.mem_append_right _ h)
  have hDc : va_D A [zO 3 n_6 [.int 0, .null, .int 0, .int 0, .int 0, .null, .null, .null, .int 0, .int 0, .int 0, .int 0, .int 0, .int 0, .null]] := xd_R hD
  refine xe_sfxv (wr := (([zO 7 xa [.ref q_1, .ref q_2, .int 0], zA t 4 q_2 7 (va_up (va_up (va_up (va_up (va_up (va_up (fun _ => none) (0 : Int32).toNatClampNeg (some (qf_0 0))) (1 : Int32).toNatClampNeg (some (qf_1 0))) (2 : Int32).toNatClampNeg (some (qf_2 0))) (3 : Int32).toNatClampNeg (some (qf_3 0))) (4 : Int32).toNatClampNeg (some (qf_4 0))) (5 : Int32).toNatClampNeg (some (qf_5 0)))] ++ [zO 2 q_1 [.ref rw, .int 0, .int 0, .int 0, .int 0], zA t 3 rw 300 (fun _ => none)]) ++ wN t qf_0 q_1 nof_0 0 mk (8, false, 0, 0, -1, 0, 0) ++ wN t qf_1 q_1 nof_1 1 mk (11, false, 0, 0, -1, 0, 0) ++ wN t qf_2 q_1 nof_2 2 mk (14, false, 0, 0, -1, 0, 0) ++ wN t qf_3 q_1 nof_3 3 mk (17, false, 0, 0, -1, 0, 0) ++ wN t qf_4 q_1 nof_4 4 mk (20, false, 0, 0, -1, 0, 0) ++ wN t qf_5 q_1 nof_5 5 mk (23, false, 0, 0, -1, 0, 0))) (wc := [zO 3 n_6 [.int 0, .null, .int 0, .int 0, .int 0, .null, .null, .null, .int 0, .int 0, .int 0, .int 0, .int 0, .int 0, .null]]) (xs_I (As := [.int 6, .int mk, .ref q_1]) (rest := [.ref n_6, .int 6, .ref q_2]) Z (C_D_init l D t n_6 q_1 6 mk H.size) m_D_init k_63 k_64 rfl rfl rfl ⟨Nat.le_of_ble_eq_true rfl, Nat.le_of_ble_eq_true rfl⟩ (xe_pre hK hPc hDc) rfl hl.1 rfl (Nat.le_of_ble_eq_true rfl) d_Q_init_64 ⟨Nat.le_of_ble_eq_true rfl, Nat.le_of_ble_eq_true rfl⟩) hP hD hS hA (fun u_ H locs hw hP2 hD2 hS2 => ?_)
  obtain ⟨qf_6, nof_6⟩ := u_
  dsimp only at hw
  subst hw
  have hS := hS2
  have hP : va_P D vwCl (([zO 7 xa [.ref q_1, .ref q_2, .int 0], zA t 4 q_2 7 (va_up (va_up (va_up (va_up (va_up (va_up (fun _ => none) (0 : Int32).toNatClampNeg (some (qf_0 0))) (1 : Int32).toNatClampNeg (some (qf_1 0))) (2 : Int32).toNatClampNeg (some (qf_2 0))) (3 : Int32).toNatClampNeg (some (qf_3 0))) (4 : Int32).toNatClampNeg (some (qf_4 0))) (5 : Int32).toNatClampNeg (some (qf_5 0)))] ++ [zO 2 q_1 [.ref rw, .int 0, .int 0, .int 0, .int 0], zA t 3 rw 300 (fun _ => none)]) ++ wN t qf_0 q_1 nof_0 0 mk (8, false, 0, 0, -1, 0, 0) ++ wN t qf_1 q_1 nof_1 1 mk (11, false, 0, 0, -1, 0, 0) ++ wN t qf_2 q_1 nof_2 2 mk (14, false, 0, 0, -1, 0, 0) ++ wN t qf_3 q_1 nof_3 3 mk (17, false, 0, 0, -1, 0, 0) ++ wN t qf_4 q_1 nof_4 4 mk (20, false, 0, 0, -1, 0, 0) ++ wN t qf_5 q_1 nof_5 5 mk (23, false, 0, 0, -1, 0, 0) ++ wN t qf_6 q_1 nof_6 6 mk (26, false, 0, 0, -1, 0, 0)) H := hP2
  have hD : va_D A (([zO 7 xa [.ref q_1, .ref q_2, .int 0], zA t 4 q_2 7 (va_up (va_up (va_up (va_up (va_up (va_up (fun _ => none) (0 : Int32).toNatClampNeg (some (qf_0 0))) (1 : Int32).toNatClampNeg (some (qf_1 0))) (2 : Int32).toNatClampNeg (some (qf_2 0))) (3 : Int32).toNatClampNeg (some (qf_3 0))) (4 : Int32).toNatClampNeg (some (qf_4 0))) (5 : Int32).toNatClampNeg (some (qf_5 0)))] ++ [zO 2 q_1 [.ref rw, .int 0, .int 0, .int 0, .int 0], zA t 3 rw 300 (fun _ => none)]) ++ wN t qf_0 q_1 nof_0 0 mk (8, false, 0, 0, -1, 0, 0) ++ wN t qf_1 q_1 nof_1 1 mk (11, false, 0, 0, -1, 0, 0) ++ wN t qf_2 q_1 nof_2 2 mk (14, false, 0, 0, -1, 0, 0) ++ wN t qf_3 q_1 nof_3 3 mk (17, false, 0, 0, -1, 0, 0) ++ wN t qf_4 q_1 nof_4 4 mk (20, false, 0, 0, -1, 0, 0) ++ wN t qf_5 q_1 nof_5 5 mk (23, false, 0, 0, -1, 0, 0) ++ wN t qf_6 q_1 nof_6 6 mk (26, false, 0, 0, -1, 0, 0)) := hD2
  refine va_astq hx hb hK.2 hP hD hS 1 4 154 3 rfl rfl rfl rfl (by unfold vp_in; decide) d_Q_init_67 (fun H locs hP hD hS => ?_)
  have hP : va_P D vwCl (([zO 7 xa [.ref q_1, .ref q_2, .int 0], zA t 4 q_2 7 (va_up (va_up (va_up (va_up (va_up (va_up (va_up (fun _ => none) (0 : Int32).toNatClampNeg (some (qf_0 0))) (1 : Int32).toNatClampNeg (some (qf_1 0))) (2 : Int32).toNatClampNeg (some (qf_2 0))) (3 : Int32).toNatClampNeg (some (qf_3 0))) (4 : Int32).toNatClampNeg (some (qf_4 0))) (5 : Int32).toNatClampNeg (some (qf_5 0))) (6 : Int32).toNatClampNeg (some (qf_6 0)))] ++ [zO 2 q_1 [.ref rw, .int 0, .int 0, .int 0, .int 0], zA t 3 rw 300 (fun _ => none)]) ++ wN t qf_0 q_1 nof_0 0 mk (8, false, 0, 0, -1, 0, 0) ++ wN t qf_1 q_1 nof_1 1 mk (11, false, 0, 0, -1, 0, 0) ++ wN t qf_2 q_1 nof_2 2 mk (14, false, 0, 0, -1, 0, 0) ++ wN t qf_3 q_1 nof_3 3 mk (17, false, 0, 0, -1, 0, 0) ++ wN t qf_4 q_1 nof_4 4 mk (20, false, 0, 0, -1, 0, 0) ++ wN t qf_5 q_1 nof_5 5 mk (23, false, 0, 0, -1, 0, 0) ++ wN t qf_6 q_1 nof_6 6 mk (26, false, 0, 0, -1, 0, 0)) H := hP
  have hD : va_D A (([zO 7 xa [.ref q_1, .ref q_2, .int 0], zA t 4 q_2 7 (va_up (va_up (va_up (va_up (va_up (va_up (va_up (fun _ => none) (0 : Int32).toNatClampNeg (some (qf_0 0))) (1 : Int32).toNatClampNeg (some (qf_1 0))) (2 : Int32).toNatClampNeg (some (qf_2 0))) (3 : Int32).toNatClampNeg (some (qf_3 0))) (4 : Int32).toNatClampNeg (some (qf_4 0))) (5 : Int32).toNatClampNeg (some (qf_5 0))) (6 : Int32).toNatClampNeg (some (qf_6 0)))] ++ [zO 2 q_1 [.ref rw, .int 0, .int 0, .int 0, .int 0], zA t 3 rw 300 (fun _ => none)]) ++ wN t qf_0 q_1 nof_0 0 mk (8, false, 0, 0, -1, 0, 0) ++ wN t qf_1 q_1 nof_1 1 mk (11, false, 0, 0, -1, 0, 0) ++ wN t qf_2 q_1 nof_2 2 mk (14, false, 0, 0, -1, 0, 0) ++ wN t qf_3 q_1 nof_3 3 mk (17, false, 0, 0, -1, 0, 0) ++ wN t qf_4 q_1 nof_4 4 mk (20, false, 0, 0, -1, 0, 0) ++ wN t qf_5 q_1 nof_5 5 mk (23, false, 0, 0, -1, 0, 0) ++ wN t qf_6 q_1 nof_6 6 mk (26, false, 0, 0, -1, 0, 0)) := hD
  refine lv_iinc (v := 7) (lv' := [(4, .int 7), (3, .ref q_1), (2, .int mm), (0, .ref xa), (1, .int mem)]) hx hb d_Q_init_68 hl (k := 0) rfl rfl (by decide) rfl (fun ls hl => ?_)
  refine lv_goto (tgt := 34) hx hb d_Q_init_71 (by decide) ?_
  refine lv_iload hx hb d_Q_init_34 (lv_at hl 0 rfl) ?_
  refine lv_bipush (v := 7) hx hb d_Q_init_36 (by decide) ?_
  refine lv_icmp_ge (tgt := 74) hx hb d_Q_init_38 (by decide) (fun _ => ?_) (fun c_18 => absurd (by decide) c_18)
  have e1 := xa_A (D := D) (cl := vwCl) (t := t) (k := 4) (q := q_2) (n := 7) (g := fun j => some ((fun k => ([qf_0, qf_1, qf_2, qf_3, qf_4, qf_5, qf_6] : List (Nat → Nat)).getD k qf_0) j 0)) (H := H) (fun j hj => by rcases (show j = 0 ∨ j = 1 ∨ j = 2 ∨ j = 3 ∨ j = 4 ∨ j = 5 ∨ j = 6 by omega) with rfl | rfl | rfl | rfl | rfl | rfl | rfl <;> rfl) (hP 1 _ rfl)
  have hP := xd_set hP 1 rfl e1
  have hD := xd_setD (e' := (zA t 4 q_2 7 (fun j => some ((fun k => ([qf_0, qf_1, qf_2, qf_3, qf_4, qf_5, qf_6] : List (Nat → Nat)).getD k qf_0) j 0))).2) hD 1 rfl
  exact W.vret hx hb hr (fun t ht hW => ⟨⟨(q_1, q_2, rw, (fun k => ([qf_0, qf_1, qf_2, qf_3, qf_4, qf_5, qf_6] : List (Nat → Nat)).getD k qf_0), (fun k => ([nof_0, nof_1, nof_2, nof_3, nof_4, nof_5, nof_6] : List Nat).getD k 0)), rfl, trivial, by rw [ht]; exact hP, hD⟩, hS.F ht⟩) hS.2.2 d_Q_init_74
