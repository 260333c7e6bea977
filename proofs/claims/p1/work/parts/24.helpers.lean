/-! The law's own helpers: what they answer, what they write down. -/
theorem xn_P {D : va_G} {cl : List vw_C} {H : Heap} : va_P D cl [] H := by
  intro k q hk
  simp at hk
theorem xn_D {A : Nat → Prop} : va_D A [] := by
  constructor
  · intro i j x y hx
    simp at hx
  · intro k q hk
    simp at hk
theorem d_W_tick_0 : decode c_W_tick 0 = .ok (.aload_n 2, 1) := by decide +kernel
theorem d_W_tick_1 : decode c_W_tick 1 = .ok (.iconst 0, 1) := by decide +kernel
theorem d_W_tick_2 : decode c_W_tick 2 = .ok (.aload_n 0, 1) := by decide +kernel
theorem d_W_tick_3 : decode c_W_tick 3 = .ok (.iload_n 1, 1) := by decide +kernel
theorem d_W_tick_4 : decode c_W_tick 4 = .ok (.invokevirtual 7, 3) := by decide +kernel
theorem d_W_tick_12 : decode c_W_tick 12 = .ok (.astore_n 3, 1) := by decide +kernel
theorem d_W_tick_13 : decode c_W_tick 13 = .ok (.iconst 1, 1) := by decide +kernel
theorem d_W_tick_14 : decode c_W_tick 14 = .ok (.ireturn, 1) := by decide +kernel
set_option maxHeartbeats 4000000 in
set_option maxRecDepth 100000 in
/-- tick: the throw is caught -/
theorem H_tick (l : Launch) (hfl : l.flags = pinnedFlags ++ [noTraceFlag]) (D : va_G) (t : Nat → ClassId) (xa nw na rw ou : Nat) (qq : Nat → Nat → Nat) (n : Int32) (hn : n < 1 ∨ 50 < n) : xh_C l D vwCl (xTY t) y_W_tick c_W_tick 4 (Option.some FieldType.int) [(0, 9, 12, 13)] ({ frames := 7, cells := 1, slots := 6, locals := 105 }) [.ref xa, .int n, .ref ou] [zO 7 xa [.ref nw, .ref na, .int 0], zA t 4 na 7 (fun j => some (qq j 0)), zO 2 nw [.ref rw, .int 0, .int 0, .int 0, .int 0], zA t 3 rw 300 (fun _ => none), zJ t ou 1 (fun _ => 0)] (xe_i D vwCl (fun (r : Int32) (_ : Unit) => r = 1) (fun _ => [])) 1 6 := by
  refine xh_of (by decide) (Nat.le_of_ble_eq_true rfl) ?_
  intro p e s m below meth c ls A Z htab hG hr hlocks hin hA hP hD hS hl
  obtain ⟨hx, hb, hml, hown, hK⟩ := id Z
  have hown : s.vm.findClass "QuorumStoreLaw" = some m.cls := hown
  have hts := hK.1.at (args := ([.ref xa, .int n, .ref ou] : List Value).toArray)
  have hl : lv_has ls 4 [(0, .ref xa), (1, .int n), (2, .ref ou)] := hl
  refine lv_aload_n hx hb d_W_tick_0 rfl (lv_at hl 2 rfl) ?_
  refine lv_iconst (v := 0) hx hb d_W_tick_1 (by decide) ?_
  refine lv_aload_n hx hb d_W_tick_2 rfl (lv_at hl 0 rfl) ?_
  refine lv_iload_n hx hb d_W_tick_3 rfl (lv_at hl 1 rfl) ?_
  refine xt_catch (hpc := 12) (xt_V (As := [.int n]) (rest := [.int 0, .ref ou]) Z (T_Q_tick l hfl D t xa n hn) m_Q_tick k_276 k_277 k_278 rfl rfl ⟨Nat.le_of_ble_eq_true rfl, Nat.le_of_ble_eq_true rfl⟩ (va_recv hK.2 hP (ci := 7) (q0 := 0) rfl rfl) (hP.sub [] rfl) hG.1 (fun _ _ => rfl) rfl hl.1 rfl (Nat.le_of_ble_eq_true rfl) d_W_tick_4 ⟨Nat.le_of_ble_eq_true rfl, Nat.le_of_ble_eq_true rfl⟩) (fun T a cell X9 g1 g2 g3 => xf_first (g := F0 m 4 ls [.int 0, .ref ou]) X9 htab rfl rfl (by decide) hown (hts _ k_275) (hts _ k_282) g1 g2 g3) (fun H1 x hold => ?_)
  have hS := xh_S1 hS hold
  refine lv_astore_n (lv' := [(3, .ref x), (0, .ref xa), (1, .int n), (2, .ref ou)]) hx hb d_W_tick_12 rfl hl (by decide) rfl (fun ls hl => ?_)
  refine lv_iconst (v := 1) hx hb d_W_tick_13 (by decide) ?_
  exact W.iret hx hb hr (fun t ht hW => ⟨⟨_, (), rfl, rfl, xn_P, xn_D⟩, hS.F ht⟩) hS.2.2 d_W_tick_14
theorem d_W_deliver_0 : decode c_W_deliver 0 = .ok (.aload_n 2, 1) := by decide +kernel
theorem d_W_deliver_1 : decode c_W_deliver 1 = .ok (.iconst 0, 1) := by decide +kernel
theorem d_W_deliver_2 : decode c_W_deliver 2 = .ok (.aload_n 0, 1) := by decide +kernel
theorem d_W_deliver_3 : decode c_W_deliver 3 = .ok (.iload_n 1, 1) := by decide +kernel
theorem d_W_deliver_4 : decode c_W_deliver 4 = .ok (.invokevirtual 15, 3) := by decide +kernel
theorem d_W_deliver_12 : decode c_W_deliver 12 = .ok (.astore_n 3, 1) := by decide +kernel
theorem d_W_deliver_13 : decode c_W_deliver 13 = .ok (.iconst 1, 1) := by decide +kernel
theorem d_W_deliver_14 : decode c_W_deliver 14 = .ok (.ireturn, 1) := by decide +kernel
set_option maxHeartbeats 4000000 in
set_option maxRecDepth 100000 in
/-- deliver: the throw is caught -/
theorem H_deliver (l : Launch) (hfl : l.flags = pinnedFlags ++ [noTraceFlag]) (D : va_G) (t : Nat → ClassId) (xa nw na rw ou : Nat) (qq : Nat → Nat → Nat) (n : Int32) : xh_C l D vwCl (xTY t) y_W_deliver c_W_deliver 4 (Option.some FieldType.int) [(0, 9, 12, 18)] ({ frames := 8, cells := 1, slots := 6, locals := 126 }) [.ref xa, .int n, .ref ou] [zO 7 xa [.ref nw, .ref na, .int 0], zA t 4 na 7 (fun j => some (qq j 0)), zO 2 nw [.ref rw, .int 0, .int 0, .int 0, .int 0], zA t 3 rw 300 (fun _ => none), zJ t ou 1 (fun _ => 0)] (xe_i D vwCl (fun (r : Int32) (_ : Unit) => r = 1) (fun _ => [])) 1 6 := by
  refine xh_of (by decide) (Nat.le_of_ble_eq_true rfl) ?_
  intro p e s m below meth c ls A Z htab hG hr hlocks hin hA hP hD hS hl
  obtain ⟨hx, hb, hml, hown, hK⟩ := id Z
  have hown : s.vm.findClass "QuorumStoreLaw" = some m.cls := hown
  have hts := hK.1.at (args := ([.ref xa, .int n, .ref ou] : List Value).toArray)
  have hl : lv_has ls 4 [(0, .ref xa), (1, .int n), (2, .ref ou)] := hl
  refine lv_aload_n hx hb d_W_deliver_0 rfl (lv_at hl 2 rfl) ?_
  refine lv_iconst (v := 0) hx hb d_W_deliver_1 (by decide) ?_
  refine lv_aload_n hx hb d_W_deliver_2 rfl (lv_at hl 0 rfl) ?_
  refine lv_iload_n hx hb d_W_deliver_3 rfl (lv_at hl 1 rfl) ?_
  refine xt_catch (hpc := 12) (xt_V (As := [.int n]) (rest := [.int 0, .ref ou]) Z (T_Q_deliver l hfl D t xa nw na rw n) m_Q_deliver k_545 k_546 k_547 rfl rfl ⟨Nat.le_of_ble_eq_true rfl, Nat.le_of_ble_eq_true rfl⟩ (va_recv hK.2 hP (ci := 7) (q0 := 0) rfl rfl) (hP.sub [0, 2] rfl) hG.1 (fun _ _ => rfl) rfl hl.1 rfl (Nat.le_of_ble_eq_true rfl) d_W_deliver_4 ⟨Nat.le_of_ble_eq_true rfl, Nat.le_of_ble_eq_true rfl⟩) (fun T a cell X9 g1 g2 g3 => xf_first (g := F0 m 4 ls [.int 0, .ref ou]) X9 htab rfl rfl (by decide) hown (hts _ k_544) (hts _ k_555) g1 g2 g3) (fun H1 x hold => ?_)
  have hS := xh_S1 hS hold
  refine lv_astore_n (lv' := [(3, .ref x), (0, .ref xa), (1, .int n), (2, .ref ou)]) hx hb d_W_deliver_12 rfl hl (by decide) rfl (fun ls hl => ?_)
  refine lv_iconst (v := 1) hx hb d_W_deliver_13 (by decide) ?_
  exact W.iret hx hb hr (fun t ht hW => ⟨⟨_, (), rfl, rfl, xn_P, xn_D⟩, hS.F ht⟩) hS.2.2 d_W_deliver_14
theorem d_W_drop_0 : decode c_W_drop 0 = .ok (.aload_n 2, 1) := by decide +kernel
theorem d_W_drop_1 : decode c_W_drop 1 = .ok (.iconst 0, 1) := by decide +kernel
theorem d_W_drop_2 : decode c_W_drop 2 = .ok (.aload_n 0, 1) := by decide +kernel
theorem d_W_drop_3 : decode c_W_drop 3 = .ok (.iload_n 1, 1) := by decide +kernel
theorem d_W_drop_4 : decode c_W_drop 4 = .ok (.invokevirtual 20, 3) := by decide +kernel
theorem d_W_drop_12 : decode c_W_drop 12 = .ok (.astore_n 3, 1) := by decide +kernel
theorem d_W_drop_13 : decode c_W_drop 13 = .ok (.iconst 1, 1) := by decide +kernel
theorem d_W_drop_14 : decode c_W_drop 14 = .ok (.ireturn, 1) := by decide +kernel
set_option maxHeartbeats 4000000 in
set_option maxRecDepth 100000 in
/-- drop: the throw is caught -/
theorem H_drop (l : Launch) (hfl : l.flags = pinnedFlags ++ [noTraceFlag]) (D : va_G) (t : Nat → ClassId) (xa nw na rw ou : Nat) (qq : Nat → Nat → Nat) (n : Int32) : xh_C l D vwCl (xTY t) y_W_drop c_W_drop 4 (Option.some FieldType.int) [(0, 9, 12, 18)] ({ frames := 8, cells := 1, slots := 6, locals := 124 }) [.ref xa, .int n, .ref ou] [zO 7 xa [.ref nw, .ref na, .int 0], zA t 4 na 7 (fun j => some (qq j 0)), zO 2 nw [.ref rw, .int 0, .int 0, .int 0, .int 0], zA t 3 rw 300 (fun _ => none), zJ t ou 1 (fun _ => 0)] (xe_i D vwCl (fun (r : Int32) (_ : Unit) => r = 1) (fun _ => [])) 1 6 := by
  refine xh_of (by decide) (Nat.le_of_ble_eq_true rfl) ?_
  intro p e s m below meth c ls A Z htab hG hr hlocks hin hA hP hD hS hl
  obtain ⟨hx, hb, hml, hown, hK⟩ := id Z
  have hown : s.vm.findClass "QuorumStoreLaw" = some m.cls := hown
  have hts := hK.1.at (args := ([.ref xa, .int n, .ref ou] : List Value).toArray)
  have hl : lv_has ls 4 [(0, .ref xa), (1, .int n), (2, .ref ou)] := hl
  refine lv_aload_n hx hb d_W_drop_0 rfl (lv_at hl 2 rfl) ?_
  refine lv_iconst (v := 0) hx hb d_W_drop_1 (by decide) ?_
  refine lv_aload_n hx hb d_W_drop_2 rfl (lv_at hl 0 rfl) ?_
  refine lv_iload_n hx hb d_W_drop_3 rfl (lv_at hl 1 rfl) ?_
  refine xt_catch (hpc := 12) (xt_V (As := [.int n]) (rest := [.int 0, .ref ou]) Z (T_Q_drop l hfl D t xa nw na rw n) m_Q_drop k_655 k_656 k_657 rfl rfl ⟨Nat.le_of_ble_eq_true rfl, Nat.le_of_ble_eq_true rfl⟩ (va_recv hK.2 hP (ci := 7) (q0 := 0) rfl rfl) (hP.sub [0, 2] rfl) hG.1 (fun _ _ => rfl) rfl hl.1 rfl (Nat.le_of_ble_eq_true rfl) d_W_drop_4 ⟨Nat.le_of_ble_eq_true rfl, Nat.le_of_ble_eq_true rfl⟩) (fun T a cell X9 g1 g2 g3 => xf_first (g := F0 m 4 ls [.int 0, .ref ou]) X9 htab rfl rfl (by decide) hown (hts _ k_544) (hts _ k_555) g1 g2 g3) (fun H1 x hold => ?_)
  have hS := xh_S1 hS hold
  refine lv_astore_n (lv' := [(3, .ref x), (0, .ref xa), (1, .int n), (2, .ref ou)]) hx hb d_W_drop_12 rfl hl (by decide) rfl (fun ls hl => ?_)
  refine lv_iconst (v := 1) hx hb d_W_drop_13 (by decide) ?_
  exact W.iret hx hb hr (fun t ht hW => ⟨⟨_, (), rfl, rfl, xn_P, xn_D⟩, hS.F ht⟩) hS.2.2 d_W_drop_14
theorem d_W_copy_0 : decode c_W_copy 0 = .ok (.aload_n 2, 1) := by decide +kernel
theorem d_W_copy_1 : decode c_W_copy 1 = .ok (.iconst 0, 1) := by decide +kernel
theorem d_W_copy_2 : decode c_W_copy 2 = .ok (.aload_n 0, 1) := by decide +kernel
theorem d_W_copy_3 : decode c_W_copy 3 = .ok (.iload_n 1, 1) := by decide +kernel
theorem d_W_copy_4 : decode c_W_copy 4 = .ok (.invokevirtual 23, 3) := by decide +kernel
theorem d_W_copy_12 : decode c_W_copy 12 = .ok (.astore_n 3, 1) := by decide +kernel
theorem d_W_copy_13 : decode c_W_copy 13 = .ok (.iconst 1, 1) := by decide +kernel
theorem d_W_copy_14 : decode c_W_copy 14 = .ok (.ireturn, 1) := by decide +kernel
set_option maxHeartbeats 4000000 in
set_option maxRecDepth 100000 in
/-- copy: the throw is caught -/
theorem H_copy (l : Launch) (hfl : l.flags = pinnedFlags ++ [noTraceFlag]) (D : va_G) (t : Nat → ClassId) (xa nw na rw ou : Nat) (qq : Nat → Nat → Nat) (n : Int32) : xh_C l D vwCl (xTY t) y_W_copy c_W_copy 4 (Option.some FieldType.int) [(0, 9, 12, 18), (0, 9, 15, 26)] ({ frames := 8, cells := 1, slots := 6, locals := 125 }) [.ref xa, .int n, .ref ou] [zO 7 xa [.ref nw, .ref na, .int 0], zA t 4 na 7 (fun j => some (qq j 0)), zO 2 nw [.ref rw, .int 0, .int 0, .int 0, .int 0], zA t 3 rw 300 (fun _ => none), zJ t ou 1 (fun _ => 0)] (xe_i D vwCl (fun (r : Int32) (_ : Unit) => r = 1) (fun _ => [])) 1 6 := by
  refine xh_of (by decide) (Nat.le_of_ble_eq_true rfl) ?_
  intro p e s m below meth c ls A Z htab hG hr hlocks hin hA hP hD hS hl
  obtain ⟨hx, hb, hml, hown, hK⟩ := id Z
  have hown : s.vm.findClass "QuorumStoreLaw" = some m.cls := hown
  have hts := hK.1.at (args := ([.ref xa, .int n, .ref ou] : List Value).toArray)
  have hl : lv_has ls 4 [(0, .ref xa), (1, .int n), (2, .ref ou)] := hl
  refine lv_aload_n hx hb d_W_copy_0 rfl (lv_at hl 2 rfl) ?_
  refine lv_iconst (v := 0) hx hb d_W_copy_1 (by decide) ?_
  refine lv_aload_n hx hb d_W_copy_2 rfl (lv_at hl 0 rfl) ?_
  refine lv_iload_n hx hb d_W_copy_3 rfl (lv_at hl 1 rfl) ?_
  refine xt_catch (hpc := 12) (xt_V (As := [.int n]) (rest := [.int 0, .ref ou]) Z (T_Q_copy l hfl D t xa nw na rw n) m_Q_copy k_663 k_664 k_665 rfl rfl ⟨Nat.le_of_ble_eq_true rfl, Nat.le_of_ble_eq_true rfl⟩ (va_recv hK.2 hP (ci := 7) (q0 := 0) rfl rfl) (hP.sub [0, 2] rfl) hG.1 (fun _ _ => rfl) rfl hl.1 rfl (Nat.le_of_ble_eq_true rfl) d_W_copy_4 ⟨Nat.le_of_ble_eq_true rfl, Nat.le_of_ble_eq_true rfl⟩) (fun T a cell X9 g1 g2 g3 => xf_first (g := F0 m 4 ls [.int 0, .ref ou]) X9 htab rfl rfl (by decide) hown (hts _ k_544) (hts _ k_555) g1 g2 g3) (fun H1 x hold => ?_)
  have hS := xh_S1 hS hold
  refine lv_astore_n (lv' := [(3, .ref x), (0, .ref xa), (1, .int n), (2, .ref ou)]) hx hb d_W_copy_12 rfl hl (by decide) rfl (fun ls hl => ?_)
  refine lv_iconst (v := 1) hx hb d_W_copy_13 (by decide) ?_
  exact W.iret hx hb hr (fun t ht hW => ⟨⟨_, (), rfl, rfl, xn_P, xn_D⟩, hS.F ht⟩) hS.2.2 d_W_copy_14
theorem d_W_message_0 : decode c_W_message 0 = .ok (.aload_n 3, 1) := by decide +kernel
theorem d_W_message_1 : decode c_W_message 1 = .ok (.iconst 0, 1) := by decide +kernel
theorem d_W_message_2 : decode c_W_message 2 = .ok (.aload_n 0, 1) := by decide +kernel
theorem d_W_message_3 : decode c_W_message 3 = .ok (.iload_n 1, 1) := by decide +kernel
theorem d_W_message_4 : decode c_W_message 4 = .ok (.iload_n 2, 1) := by decide +kernel
theorem d_W_message_5 : decode c_W_message 5 = .ok (.invokevirtual 28, 3) := by decide +kernel
theorem d_W_message_13 : decode c_W_message 13 = .ok (.astore 4, 2) := by decide +kernel
theorem d_W_message_15 : decode c_W_message 15 = .ok (.iconst 1, 1) := by decide +kernel
theorem d_W_message_16 : decode c_W_message 16 = .ok (.ireturn, 1) := by decide +kernel
set_option maxHeartbeats 4000000 in
set_option maxRecDepth 100000 in
/-- message: the throw is caught -/
theorem H_message (l : Launch) (hfl : l.flags = pinnedFlags ++ [noTraceFlag]) (D : va_G) (t : Nat → ClassId) (xa nw na rw ou : Nat) (qq : Nat → Nat → Nat) (n wh : Int32) : xh_C l D vwCl (xTY t) y_W_message c_W_message 5 (Option.some FieldType.int) [(0, 10, 13, 18), (0, 10, 17, 13)] ({ frames := 8, cells := 1, slots := 6, locals := 126 }) [.ref xa, .int n, .int wh, .ref ou] [zO 7 xa [.ref nw, .ref na, .int 0], zA t 4 na 7 (fun j => some (qq j 0)), zO 2 nw [.ref rw, .int 0, .int 0, .int 0, .int 0], zA t 3 rw 300 (fun _ => none), zJ t ou 1 (fun _ => 0)] (xe_i D vwCl (fun (r : Int32) (_ : Unit) => r = 1) (fun _ => [])) 1 6 := by
  refine xh_of (by decide) (Nat.le_of_ble_eq_true rfl) ?_
  intro p e s m below meth c ls A Z htab hG hr hlocks hin hA hP hD hS hl
  obtain ⟨hx, hb, hml, hown, hK⟩ := id Z
  have hown : s.vm.findClass "QuorumStoreLaw" = some m.cls := hown
  have hts := hK.1.at (args := ([.ref xa, .int n, .int wh, .ref ou] : List Value).toArray)
  have hl : lv_has ls 5 [(0, .ref xa), (1, .int n), (2, .int wh), (3, .ref ou)] := hl
  refine lv_aload_n hx hb d_W_message_0 rfl (lv_at hl 3 rfl) ?_
  refine lv_iconst (v := 0) hx hb d_W_message_1 (by decide) ?_
  refine lv_aload_n hx hb d_W_message_2 rfl (lv_at hl 0 rfl) ?_
  refine lv_iload_n hx hb d_W_message_3 rfl (lv_at hl 1 rfl) ?_
  refine lv_iload_n hx hb d_W_message_4 rfl (lv_at hl 2 rfl) ?_
  refine xt_catch (hpc := 13) (xt_V (As := [.int n, .int wh]) (rest := [.int 0, .ref ou]) Z (T_Q_message l hfl D t xa nw na rw n wh) m_Q_message k_694 k_695 k_696 rfl rfl ⟨Nat.le_of_ble_eq_true rfl, Nat.le_of_ble_eq_true rfl⟩ (va_recv hK.2 hP (ci := 7) (q0 := 0) rfl rfl) (hP.sub [0, 2] rfl) hG.1 (fun _ _ => rfl) rfl hl.1 rfl (Nat.le_of_ble_eq_true rfl) d_W_message_5 ⟨Nat.le_of_ble_eq_true rfl, Nat.le_of_ble_eq_true rfl⟩) (fun T a cell X9 g1 g2 g3 => xf_first (g := F0 m 5 ls [.int 0, .ref ou]) X9 htab rfl rfl (by decide) hown (hts _ k_544) (hts _ k_555) g1 g2 g3) (fun H1 x hold => ?_)
  have hS := xh_S1 hS hold
  refine lv_astore (lv' := [(4, .ref x), (0, .ref xa), (1, .int n), (2, .int wh), (3, .ref ou)]) hx hb d_W_message_13 hl (by decide) rfl (fun ls hl => ?_)
  refine lv_iconst (v := 1) hx hb d_W_message_15 (by decide) ?_
  exact W.iret hx hb hr (fun t ht hW => ⟨⟨_, (), rfl, rfl, xn_P, xn_D⟩, hS.F ht⟩) hS.2.2 d_W_message_16
theorem d_W_fall_0 : decode c_W_fall 0 = .ok (.aload_n 0, 1) := by decide +kernel
theorem d_W_fall_1 : decode c_W_fall 1 = .ok (.iload_n 1, 1) := by decide +kernel
theorem d_W_fall_2 : decode c_W_fall 2 = .ok (.invokevirtual 32, 3) := by decide +kernel
theorem d_W_fall_8 : decode c_W_fall 8 = .ok (.astore_n 2, 1) := by decide +kernel
theorem d_W_fall_9 : decode c_W_fall 9 = .ok (.iconst 1, 1) := by decide +kernel
theorem d_W_fall_10 : decode c_W_fall 10 = .ok (.ireturn, 1) := by decide +kernel
set_option maxHeartbeats 4000000 in
set_option maxRecDepth 100000 in
/-- fall: the throw is caught -/
theorem H_fall (l : Launch) (hfl : l.flags = pinnedFlags ++ [noTraceFlag]) (D : va_G) (t : Nat → ClassId) (xa nw na rw ou : Nat) (qq : Nat → Nat → Nat) (n : Int32) (hn : n < 0 ∨ 7 ≤ n) : xh_C l D vwCl (xTY t) y_W_fall c_W_fall 3 (Option.some FieldType.int) [(0, 5, 8, 18), (0, 5, 11, 26)] ({ frames := 8, cells := 1, slots := 6, locals := 125 }) [.ref xa, .int n] [zO 7 xa [.ref nw, .ref na, .int 0], zA t 4 na 7 (fun j => some (qq j 0)), zO 2 nw [.ref rw, .int 0, .int 0, .int 0, .int 0], zA t 3 rw 300 (fun _ => none), zJ t ou 1 (fun _ => 0)] (xe_i D vwCl (fun (r : Int32) (_ : Unit) => r = 1) (fun _ => [])) 1 6 := by
  refine xh_of (by decide) (Nat.le_of_ble_eq_true rfl) ?_
  intro p e s m below meth c ls A Z htab hG hr hlocks hin hA hP hD hS hl
  obtain ⟨hx, hb, hml, hown, hK⟩ := id Z
  have hown : s.vm.findClass "QuorumStoreLaw" = some m.cls := hown
  have hts := hK.1.at (args := ([.ref xa, .int n] : List Value).toArray)
  have hl : lv_has ls 3 [(0, .ref xa), (1, .int n)] := hl
  refine lv_aload_n hx hb d_W_fall_0 rfl (lv_at hl 0 rfl) ?_
  refine lv_iload_n hx hb d_W_fall_1 rfl (lv_at hl 1 rfl) ?_
  refine xt_catch (hpc := 8) (xt_V (As := [.int n]) (rest := []) Z (T_Q_fall l hfl D t xa nw na qq n hn) m_Q_fall k_706 k_707 k_708 rfl rfl ⟨Nat.le_of_ble_eq_true rfl, Nat.le_of_ble_eq_true rfl⟩ (va_recv hK.2 hP (ci := 7) (q0 := 0) rfl rfl) (hP.sub [0, 1] rfl) hG.1 (fun _ _ => rfl) rfl hl.1 rfl (Nat.le_of_ble_eq_true rfl) d_W_fall_2 ⟨Nat.le_of_ble_eq_true rfl, Nat.le_of_ble_eq_true rfl⟩) (fun T a cell X9 g1 g2 g3 => xf_first (g := F0 m 2 ls []) X9 htab rfl rfl (by decide) hown (hts _ k_544) (hts _ k_555) g1 g2 g3) (fun H1 x hold => ?_)
  have hS := xh_S1 hS hold
  refine lv_astore_n (lv' := [(2, .ref x), (0, .ref xa), (1, .int n)]) hx hb d_W_fall_8 rfl hl (by decide) rfl (fun ls hl => ?_)
  refine lv_iconst (v := 1) hx hb d_W_fall_9 (by decide) ?_
  exact W.iret hx hb hr (fun t ht hW => ⟨⟨_, (), rfl, rfl, xn_P, xn_D⟩, hS.F ht⟩) hS.2.2 d_W_fall_10
theorem d_W_rise_0 : decode c_W_rise 0 = .ok (.aload_n 0, 1) := by decide +kernel
theorem d_W_rise_1 : decode c_W_rise 1 = .ok (.iload_n 1, 1) := by decide +kernel
theorem d_W_rise_2 : decode c_W_rise 2 = .ok (.invokevirtual 36, 3) := by decide +kernel
theorem d_W_rise_8 : decode c_W_rise 8 = .ok (.astore_n 2, 1) := by decide +kernel
theorem d_W_rise_9 : decode c_W_rise 9 = .ok (.iconst 1, 1) := by decide +kernel
theorem d_W_rise_10 : decode c_W_rise 10 = .ok (.ireturn, 1) := by decide +kernel
set_option maxHeartbeats 4000000 in
set_option maxRecDepth 100000 in
/-- rise: the throw is caught -/
theorem H_rise (l : Launch) (hfl : l.flags = pinnedFlags ++ [noTraceFlag]) (D : va_G) (t : Nat → ClassId) (xa nw na rw ou : Nat) (qq : Nat → Nat → Nat) (n : Int32) (hn : n < 0 ∨ 7 ≤ n) : xh_C l D vwCl (xTY t) y_W_rise c_W_rise 3 (Option.some FieldType.int) [(0, 5, 8, 18), (0, 5, 11, 26)] ({ frames := 8, cells := 1, slots := 6, locals := 125 }) [.ref xa, .int n] [zO 7 xa [.ref nw, .ref na, .int 0], zA t 4 na 7 (fun j => some (qq j 0)), zO 2 nw [.ref rw, .int 0, .int 0, .int 0, .int 0], zA t 3 rw 300 (fun _ => none), zJ t ou 1 (fun _ => 0)] (xe_i D vwCl (fun (r : Int32) (_ : Unit) => r = 1) (fun _ => [])) 1 6 := by
  refine xh_of (by decide) (Nat.le_of_ble_eq_true rfl) ?_
  intro p e s m below meth c ls A Z htab hG hr hlocks hin hA hP hD hS hl
  obtain ⟨hx, hb, hml, hown, hK⟩ := id Z
  have hown : s.vm.findClass "QuorumStoreLaw" = some m.cls := hown
  have hts := hK.1.at (args := ([.ref xa, .int n] : List Value).toArray)
  have hl : lv_has ls 3 [(0, .ref xa), (1, .int n)] := hl
  refine lv_aload_n hx hb d_W_rise_0 rfl (lv_at hl 0 rfl) ?_
  refine lv_iload_n hx hb d_W_rise_1 rfl (lv_at hl 1 rfl) ?_
  refine xt_catch (hpc := 8) (xt_V (As := [.int n]) (rest := []) Z (T_Q_rise l hfl D t xa nw na qq n hn) m_Q_rise k_723 k_724 k_725 rfl rfl ⟨Nat.le_of_ble_eq_true rfl, Nat.le_of_ble_eq_true rfl⟩ (va_recv hK.2 hP (ci := 7) (q0 := 0) rfl rfl) (hP.sub [0, 1] rfl) hG.1 (fun _ _ => rfl) rfl hl.1 rfl (Nat.le_of_ble_eq_true rfl) d_W_rise_2 ⟨Nat.le_of_ble_eq_true rfl, Nat.le_of_ble_eq_true rfl⟩) (fun T a cell X9 g1 g2 g3 => xf_first (g := F0 m 2 ls []) X9 htab rfl rfl (by decide) hown (hts _ k_544) (hts _ k_555) g1 g2 g3) (fun H1 x hold => ?_)
  have hS := xh_S1 hS hold
  refine lv_astore_n (lv' := [(2, .ref x), (0, .ref xa), (1, .int n)]) hx hb d_W_rise_8 rfl hl (by decide) rfl (fun ls hl => ?_)
  refine lv_iconst (v := 1) hx hb d_W_rise_9 (by decide) ?_
  exact W.iret hx hb hr (fun t ht hW => ⟨⟨_, (), rfl, rfl, xn_P, xn_D⟩, hS.F ht⟩) hS.2.2 d_W_rise_10
theorem d_W_rise_11 : decode c_W_rise 11 = .ok (.astore_n 2, 1) := by decide +kernel
theorem d_W_rise_12 : decode c_W_rise 12 = .ok (.iconst 2, 1) := by decide +kernel
theorem d_W_rise_13 : decode c_W_rise 13 = .ok (.ireturn, 1) := by decide +kernel
set_option maxHeartbeats 4000000 in
set_option maxRecDepth 100000 in
/-- rise: the throw is caught -/
theorem H2_rise (l : Launch) (hfl : l.flags = pinnedFlags ++ [noTraceFlag]) (D : va_G) (t : Nat → ClassId) (xa nw na rw ou : Nat) (qq : Nat → Nat → Nat) (no : Nat → Nat) (mk : Int32) (k : Nat) (hk : k < 7) : xh_C l D vwCl (xTY t) y_W_rise c_W_rise 3 (Option.some FieldType.int) [(0, 5, 8, 18), (0, 5, 11, 26)] ({ frames := 7, cells := 1, slots := 6, locals := 104 }) [.ref xa, .int (nI k)] [zO 7 xa [.ref nw, .ref na, .int 0], zA t 4 na 7 (fun j => some (qq j 0)), zO 2 nw [.ref rw, .int 0, .int 0, .int 0, .int 0], zA t 3 rw 300 (fun _ => none), zO 3 (qq k 0) [.int (nI k), .ref nw, .int 0, .int 0, .int 0, .ref ((qq k 1)), .ref ((qq k 7)), .ref ((qq k 11)), .int 1, .int 0, .int 0, .int (nI (8 + 3 * k)), .int ((-1)), .int 0, .ref ((qq k 15))], zO 5 (qq k 1) [.ref ((qq k 2)), .ref ((qq k 3)), .ref ((qq k 4)), .ref ((qq k 5)), .ref ((qq k 6)), .int 1], zJ t (qq k 2) 32 (fun _ => 1099511627776), zI t (qq k 3) 8 (fun _ => 0), zJ t (qq k 4) 8 (fun _ => 0), zI t (qq k 5) 4 (xm 1), zI t (qq k 6) 4 (xm mk), zO 4 (qq k 7) [.ref ((qq k 8)), .ref ((qq k 9)), .ref ((qq k 10))], zI t (qq k 8) 32 (fun _ => 0), zI t (qq k 9) 32 (fun _ => 0), zA t 2 (qq k 10) 32 (fun _ => none), zO 4 (qq k 11) [.ref ((qq k 12)), .ref ((qq k 13)), .ref ((qq k 14))], zI t (qq k 12) 64 (fun _ => 0), zI t (qq k 13) 64 (fun _ => 0), zA t 2 (qq k 14) 64 (fun _ => none), zO 0 (qq k 15) [.ref ((no k)), .int 0, .ref ((qq k 16)), .ref ((qq k 20)), .ref ((qq k 24)), .int 0, .int 0, .int 0], zO 4 (qq k 16) [.ref ((qq k 17)), .ref ((qq k 18)), .ref ((qq k 19))], zI t (qq k 17) 32 (fun _ => 0), zI t (qq k 18) 32 (fun _ => 0), zA t 2 (qq k 19) 32 (fun _ => none), zO 4 (qq k 20) [.ref ((qq k 21)), .ref ((qq k 22)), .ref ((qq k 23))], zI t (qq k 21) 4 (fun _ => 0), zI t (qq k 22) 4 (fun _ => 0), zA t 2 (qq k 23) 4 (fun _ => none), zA t 2 (qq k 24) 16 (fun _ => none), zJ t ou 1 (fun _ => 0)] (xe_i D vwCl (fun (r : Int32) (_ : Unit) => r = 2) (fun _ => [])) 1 6 := by
  refine xh_of (by decide) (Nat.le_of_ble_eq_true rfl) ?_
  intro p e s m below meth c ls A Z htab hG hr hlocks hin hA hP hD hS hl
  obtain ⟨hx, hb, hml, hown, hK⟩ := id Z
  have hown : s.vm.findClass "QuorumStoreLaw" = some m.cls := hown
  have hts := hK.1.at (args := ([.ref xa, .int (nI k)] : List Value).toArray)
  have hl : lv_has ls 3 [(0, .ref xa), (1, .int (nI k))] := hl
  refine lv_aload_n hx hb d_W_rise_0 rfl (lv_at hl 0 rfl) ?_
  refine lv_iload_n hx hb d_W_rise_1 rfl (lv_at hl 1 rfl) ?_
  refine xt_catch (hpc := 11) (xt_V (As := [.int (nI k)]) (rest := []) Z (T2_Q_rise l hfl D t xa nw na rw qq no mk k hk) m_Q_rise k_723 k_724 k_725 rfl rfl ⟨Nat.le_of_ble_eq_true rfl, Nat.le_of_ble_eq_true rfl⟩ (va_recv hK.2 hP (ci := 7) (q0 := 0) rfl rfl) (hP.sub [0, 1, 2, 3, 4, 5, 6, 7, 8, 9, 10, 11, 12, 13, 14, 15, 16, 17, 18, 19, 20, 21, 22, 23, 24, 25, 26, 27, 28] rfl) hG.1 (fun _ _ => rfl) rfl hl.1 rfl (Nat.le_of_ble_eq_true rfl) d_W_rise_2 ⟨Nat.le_of_ble_eq_true rfl, Nat.le_of_ble_eq_true rfl⟩) (fun T a cell X9 g1 g2 g3 => xf_second (g := F0 m 2 ls []) X9 htab rfl rfl (by decide) rfl (by decide) hown (hts _ k_544) (hts _ k_662) (xc_nw (State.WarmedH.refl s) hG.2.1) (hts _ k_673) g1 g2 g3) (fun H1 x hold => ?_)
  have hS := xh_S1 hS hold
  refine lv_astore_n (lv' := [(2, .ref x), (0, .ref xa), (1, .int (nI k))]) hx hb d_W_rise_11 rfl hl (by decide) rfl (fun ls hl => ?_)
  refine lv_iconst (v := 2) hx hb d_W_rise_12 (by decide) ?_
  exact W.iret hx hb hr (fun t ht hW => ⟨⟨_, (), rfl, rfl, xn_P, xn_D⟩, hS.F ht⟩) hS.2.2 d_W_rise_13
theorem d_W_key_0 : decode c_W_key 0 = .ok (.aload_n 2, 1) := by decide +kernel
theorem d_W_key_1 : decode c_W_key 1 = .ok (.iconst 0, 1) := by decide +kernel
theorem d_W_key_2 : decode c_W_key 2 = .ok (.aload_n 0, 1) := by decide +kernel
theorem d_W_key_3 : decode c_W_key 3 = .ok (.iload_n 1, 1) := by decide +kernel
theorem d_W_key_4 : decode c_W_key 4 = .ok (.invokevirtual 39, 3) := by decide +kernel
theorem d_W_key_12 : decode c_W_key 12 = .ok (.astore_n 3, 1) := by decide +kernel
theorem d_W_key_13 : decode c_W_key 13 = .ok (.iconst 1, 1) := by decide +kernel
theorem d_W_key_14 : decode c_W_key 14 = .ok (.ireturn, 1) := by decide +kernel
set_option maxHeartbeats 4000000 in
set_option maxRecDepth 100000 in
/-- key: the throw is caught -/
theorem H_key (l : Launch) (hfl : l.flags = pinnedFlags ++ [noTraceFlag]) (D : va_G) (t : Nat → ClassId) (xa nw na rw ou : Nat) (qq : Nat → Nat → Nat) (n : Int32) (hn : n < 0 ∨ 32 ≤ n) : xh_C l D vwCl (xTY t) y_W_key c_W_key 4 (Option.some FieldType.int) [(0, 9, 12, 13)] ({ frames := 7, cells := 1, slots := 6, locals := 104 }) [.ref xa, .int n, .ref ou] [zO 7 xa [.ref nw, .ref na, .int 0], zA t 4 na 7 (fun j => some (qq j 0)), zO 2 nw [.ref rw, .int 0, .int 0, .int 0, .int 0], zA t 3 rw 300 (fun _ => none), zJ t ou 1 (fun _ => 0)] (xe_i D vwCl (fun (r : Int32) (_ : Unit) => r = 1) (fun _ => [])) 1 6 := by
  refine xh_of (by decide) (Nat.le_of_ble_eq_true rfl) ?_
  intro p e s m below meth c ls A Z htab hG hr hlocks hin hA hP hD hS hl
  obtain ⟨hx, hb, hml, hown, hK⟩ := id Z
  have hown : s.vm.findClass "QuorumStoreLaw" = some m.cls := hown
  have hts := hK.1.at (args := ([.ref xa, .int n, .ref ou] : List Value).toArray)
  have hl : lv_has ls 4 [(0, .ref xa), (1, .int n), (2, .ref ou)] := hl
  refine lv_aload_n hx hb d_W_key_0 rfl (lv_at hl 2 rfl) ?_
  refine lv_iconst (v := 0) hx hb d_W_key_1 (by decide) ?_
  refine lv_aload_n hx hb d_W_key_2 rfl (lv_at hl 0 rfl) ?_
  refine lv_iload_n hx hb d_W_key_3 rfl (lv_at hl 1 rfl) ?_
  refine xt_catch (hpc := 12) (xt_V (As := [.int n]) (rest := [.int 0, .ref ou]) Z (T_Q_key l hfl D t xa n hn) m_Q_key k_735 k_736 k_737 rfl rfl ⟨Nat.le_of_ble_eq_true rfl, Nat.le_of_ble_eq_true rfl⟩ (va_recv hK.2 hP (ci := 7) (q0 := 0) rfl rfl) (hP.sub [] rfl) hG.1 (fun _ _ => rfl) rfl hl.1 rfl (Nat.le_of_ble_eq_true rfl) d_W_key_4 ⟨Nat.le_of_ble_eq_true rfl, Nat.le_of_ble_eq_true rfl⟩) (fun T a cell X9 g1 g2 g3 => xf_first (g := F0 m 4 ls [.int 0, .ref ou]) X9 htab rfl rfl (by decide) hown (hts _ k_275) (hts _ k_282) g1 g2 g3) (fun H1 x hold => ?_)
  have hS := xh_S1 hS hold
  refine lv_astore_n (lv' := [(3, .ref x), (0, .ref xa), (1, .int n), (2, .ref ou)]) hx hb d_W_key_12 rfl hl (by decide) rfl (fun ls hl => ?_)
  refine lv_iconst (v := 1) hx hb d_W_key_13 (by decide) ?_
  exact W.iret hx hb hr (fun t ht hW => ⟨⟨_, (), rfl, rfl, xn_P, xn_D⟩, hS.F ht⟩) hS.2.2 d_W_key_14
theorem d_W_ask_0 : decode c_W_ask 0 = .ok (.aload 7, 2) := by decide +kernel
theorem d_W_ask_2 : decode c_W_ask 2 = .ok (.iconst 0, 1) := by decide +kernel
theorem d_W_ask_3 : decode c_W_ask 3 = .ok (.aload_n 0, 1) := by decide +kernel
theorem d_W_ask_4 : decode c_W_ask 4 = .ok (.iload_n 1, 1) := by decide +kernel
theorem d_W_ask_5 : decode c_W_ask 5 = .ok (.iload_n 2, 1) := by decide +kernel
theorem d_W_ask_6 : decode c_W_ask 6 = .ok (.iload_n 3, 1) := by decide +kernel
theorem d_W_ask_7 : decode c_W_ask 7 = .ok (.iload 4, 2) := by decide +kernel
theorem d_W_ask_9 : decode c_W_ask 9 = .ok (.iload 5, 2) := by decide +kernel
theorem d_W_ask_11 : decode c_W_ask 11 = .ok (.iload 6, 2) := by decide +kernel
theorem d_W_ask_13 : decode c_W_ask 13 = .ok (.invokevirtual 42, 3) := by decide +kernel
theorem d_W_ask_21 : decode c_W_ask 21 = .ok (.astore 8, 2) := by decide +kernel
theorem d_W_ask_23 : decode c_W_ask 23 = .ok (.iconst 1, 1) := by decide +kernel
theorem d_W_ask_24 : decode c_W_ask 24 = .ok (.ireturn, 1) := by decide +kernel
set_option maxHeartbeats 4000000 in
set_option maxRecDepth 100000 in
/-- ask: the throw is caught -/
theorem H_ask (l : Launch) (hfl : l.flags = pinnedFlags ++ [noTraceFlag]) (D : va_G) (t : Nat → ClassId) (xa nw na rw ou : Nat) (qq : Nat → Nat → Nat) (n a2 a3 a4 a5 a6 : Int32) (hn : n < 0 ∨ 7 ≤ n) : xh_C l D vwCl (xTY t) y_W_ask c_W_ask 9 (Option.some FieldType.int) [(0, 18, 21, 18), (0, 18, 25, 13), (0, 18, 29, 26)] ({ frames := 8, cells := 1, slots := 6, locals := 131 }) [.ref xa, .int n, .int a2, .int a3, .int a4, .int a5, .int a6, .ref ou] [zO 7 xa [.ref nw, .ref na, .int 0], zA t 4 na 7 (fun j => some (qq j 0)), zO 2 nw [.ref rw, .int 0, .int 0, .int 0, .int 0], zA t 3 rw 300 (fun _ => none), zJ t ou 1 (fun _ => 0)] (xe_i D vwCl (fun (r : Int32) (_ : Unit) => r = 1) (fun _ => [])) 1 6 := by
  refine xh_of (by decide) (Nat.le_of_ble_eq_true rfl) ?_
  intro p e s m below meth c ls A Z htab hG hr hlocks hin hA hP hD hS hl
  obtain ⟨hx, hb, hml, hown, hK⟩ := id Z
  have hown : s.vm.findClass "QuorumStoreLaw" = some m.cls := hown
  have hts := hK.1.at (args := ([.ref xa, .int n, .int a2, .int a3, .int a4, .int a5, .int a6, .ref ou] : List Value).toArray)
  have hl : lv_has ls 9 [(0, .ref xa), (1, .int n), (2, .int a2), (3, .int a3), (4, .int a4), (5, .int a5), (6, .int a6), (7, .ref ou)] := hl
  refine lv_aload hx hb d_W_ask_0 (lv_at hl 7 rfl) ?_
  refine lv_iconst (v := 0) hx hb d_W_ask_2 (by decide) ?_
  refine lv_aload_n hx hb d_W_ask_3 rfl (lv_at hl 0 rfl) ?_
  refine lv_iload_n hx hb d_W_ask_4 rfl (lv_at hl 1 rfl) ?_
  refine lv_iload_n hx hb d_W_ask_5 rfl (lv_at hl 2 rfl) ?_
  refine lv_iload_n hx hb d_W_ask_6 rfl (lv_at hl 3 rfl) ?_
  refine lv_iload hx hb d_W_ask_7 (lv_at hl 4 rfl) ?_
  refine lv_iload hx hb d_W_ask_9 (lv_at hl 5 rfl) ?_
  refine lv_iload hx hb d_W_ask_11 (lv_at hl 6 rfl) ?_
  refine xt_catch (hpc := 21) (xt_V (As := [.int n, .int a2, .int a3, .int a4, .int a5, .int a6]) (rest := [.int 0, .ref ou]) Z (T_Q_ask l hfl D t xa nw na qq n a2 a3 a4 a5 a6 hn) m_Q_ask k_743 k_744 k_745 rfl rfl ⟨Nat.le_of_ble_eq_true rfl, Nat.le_of_ble_eq_true rfl⟩ (va_recv hK.2 hP (ci := 7) (q0 := 0) rfl rfl) (hP.sub [0, 1] rfl) hG.1 (fun _ _ => rfl) rfl hl.1 rfl (Nat.le_of_ble_eq_true rfl) d_W_ask_13 ⟨Nat.le_of_ble_eq_true rfl, Nat.le_of_ble_eq_true rfl⟩) (fun T a cell X9 g1 g2 g3 => xf_first (g := F0 m 13 ls [.int 0, .ref ou]) X9 htab rfl rfl (by decide) hown (hts _ k_544) (hts _ k_555) g1 g2 g3) (fun H1 x hold => ?_)
  have hS := xh_S1 hS hold
  refine lv_astore (lv' := [(8, .ref x), (0, .ref xa), (1, .int n), (2, .int a2), (3, .int a3), (4, .int a4), (5, .int a5), (6, .int a6), (7, .ref ou)]) hx hb d_W_ask_21 hl (by decide) rfl (fun ls hl => ?_)
  refine lv_iconst (v := 1) hx hb d_W_ask_23 (by decide) ?_
  exact W.iret hx hb hr (fun t ht hW => ⟨⟨_, (), rfl, rfl, xn_P, xn_D⟩, hS.F ht⟩) hS.2.2 d_W_ask_24
set_option maxHeartbeats 4000000 in
set_option maxRecDepth 100000 in
/-- ask: the throw is caught -/
theorem H2_ask (l : Launch) (hfl : l.flags = pinnedFlags ++ [noTraceFlag]) (D : va_G) (t : Nat → ClassId) (xa nw na rw ou : Nat) (qq : Nat → Nat → Nat) (no : Nat → Nat) (mk : Int32) (k : Nat) (hk : k < 7) (a2 a3 a4 a5 a6 : Int32) (hc : a2 < 0 ∨ 8 ≤ a2) : xh_C l D vwCl (xTY t) y_W_ask c_W_ask 9 (Option.some FieldType.int) [(0, 18, 21, 18), (0, 18, 25, 13), (0, 18, 29, 26)] ({ frames := 8, cells := 1, slots := 6, locals := 130 }) [.ref xa, .int (nI k), .int a2, .int a3, .int a4, .int a5, .int a6, .ref ou] [zO 7 xa [.ref nw, .ref na, .int 0], zA t 4 na 7 (fun j => some (qq j 0)), zO 2 nw [.ref rw, .int 0, .int 0, .int 0, .int 0], zA t 3 rw 300 (fun _ => none), zO 3 (qq k 0) [.int (nI k), .ref nw, .int 0, .int 0, .int 0, .ref ((qq k 1)), .ref ((qq k 7)), .ref ((qq k 11)), .int 1, .int 0, .int 0, .int (nI (8 + 3 * k)), .int ((-1)), .int 0, .ref ((qq k 15))], zO 5 (qq k 1) [.ref ((qq k 2)), .ref ((qq k 3)), .ref ((qq k 4)), .ref ((qq k 5)), .ref ((qq k 6)), .int 1], zJ t (qq k 2) 32 (fun _ => 1099511627776), zI t (qq k 3) 8 (fun _ => 0), zJ t (qq k 4) 8 (fun _ => 0), zI t (qq k 5) 4 (xm 1), zI t (qq k 6) 4 (xm mk), zO 4 (qq k 7) [.ref ((qq k 8)), .ref ((qq k 9)), .ref ((qq k 10))], zI t (qq k 8) 32 (fun _ => 0), zI t (qq k 9) 32 (fun _ => 0), zA t 2 (qq k 10) 32 (fun _ => none), zO 4 (qq k 11) [.ref ((qq k 12)), .ref ((qq k 13)), .ref ((qq k 14))], zI t (qq k 12) 64 (fun _ => 0), zI t (qq k 13) 64 (fun _ => 0), zA t 2 (qq k 14) 64 (fun _ => none), zO 0 (qq k 15) [.ref ((no k)), .int 0, .ref ((qq k 16)), .ref ((qq k 20)), .ref ((qq k 24)), .int 0, .int 0, .int 0], zO 4 (qq k 16) [.ref ((qq k 17)), .ref ((qq k 18)), .ref ((qq k 19))], zI t (qq k 17) 32 (fun _ => 0), zI t (qq k 18) 32 (fun _ => 0), zA t 2 (qq k 19) 32 (fun _ => none), zO 4 (qq k 20) [.ref ((qq k 21)), .ref ((qq k 22)), .ref ((qq k 23))], zI t (qq k 21) 4 (fun _ => 0), zI t (qq k 22) 4 (fun _ => 0), zA t 2 (qq k 23) 4 (fun _ => none), zA t 2 (qq k 24) 16 (fun _ => none), zJ t ou 1 (fun _ => 0)] (xe_i D vwCl (fun (r : Int32) (_ : Unit) => r = 1) (fun _ => [])) 1 6 := by
  refine xh_of (by decide) (Nat.le_of_ble_eq_true rfl) ?_
  intro p e s m below meth c ls A Z htab hG hr hlocks hin hA hP hD hS hl
  obtain ⟨hx, hb, hml, hown, hK⟩ := id Z
  have hown : s.vm.findClass "QuorumStoreLaw" = some m.cls := hown
  have hts := hK.1.at (args := ([.ref xa, .int (nI k), .int a2, .int a3, .int a4, .int a5, .int a6, .ref ou] : List Value).toArray)
  have hl : lv_has ls 9 [(0, .ref xa), (1, .int (nI k)), (2, .int a2), (3, .int a3), (4, .int a4), (5, .int a5), (6, .int a6), (7, .ref ou)] := hl
  refine lv_aload hx hb d_W_ask_0 (lv_at hl 7 rfl) ?_
  refine lv_iconst (v := 0) hx hb d_W_ask_2 (by decide) ?_
  refine lv_aload_n hx hb d_W_ask_3 rfl (lv_at hl 0 rfl) ?_
  refine lv_iload_n hx hb d_W_ask_4 rfl (lv_at hl 1 rfl) ?_
  refine lv_iload_n hx hb d_W_ask_5 rfl (lv_at hl 2 rfl) ?_
  refine lv_iload_n hx hb d_W_ask_6 rfl (lv_at hl 3 rfl) ?_
  refine lv_iload hx hb d_W_ask_7 (lv_at hl 4 rfl) ?_
  refine lv_iload hx hb d_W_ask_9 (lv_at hl 5 rfl) ?_
  refine lv_iload hx hb d_W_ask_11 (lv_at hl 6 rfl) ?_
  refine xt_catch (hpc := 21) (xt_V (As := [.int (nI k), .int a2, .int a3, .int a4, .int a5, .int a6]) (rest := [.int 0, .ref ou]) Z (T2_Q_ask l hfl D t xa nw na rw qq no mk k hk a2 a3 a4 a5 a6 hc) m_Q_ask k_743 k_744 k_745 rfl rfl ⟨Nat.le_of_ble_eq_true rfl, Nat.le_of_ble_eq_true rfl⟩ (va_recv hK.2 hP (ci := 7) (q0 := 0) rfl rfl) (hP.sub [0, 1, 2, 3, 4, 5, 6, 7, 8, 9, 10, 11, 12, 13, 14, 15, 16, 17, 18, 19, 20, 21, 22, 23, 24, 25, 26, 27, 28] rfl) hG.1 (fun _ _ => rfl) rfl hl.1 rfl (Nat.le_of_ble_eq_true rfl) d_W_ask_13 ⟨Nat.le_of_ble_eq_true rfl, Nat.le_of_ble_eq_true rfl⟩) (fun T a cell X9 g1 g2 g3 => xf_first (g := F0 m 13 ls [.int 0, .ref ou]) X9 htab rfl rfl (by decide) hown (hts _ k_544) (hts _ k_555) g1 g2 g3) (fun H1 x hold => ?_)
  have hS := xh_S1 hS hold
  refine lv_astore (lv' := [(8, .ref x), (0, .ref xa), (1, .int (nI k)), (2, .int a2), (3, .int a3), (4, .int a4), (5, .int a5), (6, .int a6), (7, .ref ou)]) hx hb d_W_ask_21 hl (by decide) rfl (fun ls hl => ?_)
  refine lv_iconst (v := 1) hx hb d_W_ask_23 (by decide) ?_
  exact W.iret hx hb hr (fun t ht hW => ⟨⟨_, (), rfl, rfl, xn_P, xn_D⟩, hS.F ht⟩) hS.2.2 d_W_ask_24
theorem d_W_ask_25 : decode c_W_ask 25 = .ok (.astore 8, 2) := by decide +kernel
theorem d_W_ask_27 : decode c_W_ask 27 = .ok (.iconst 2, 1) := by decide +kernel
theorem d_W_ask_28 : decode c_W_ask 28 = .ok (.ireturn, 1) := by decide +kernel
set_option maxHeartbeats 4000000 in
set_option maxRecDepth 100000 in
/-- ask: the throw is caught -/
theorem H3_ask (l : Launch) (hfl : l.flags = pinnedFlags ++ [noTraceFlag]) (D : va_G) (t : Nat → ClassId) (xa nw na rw ou : Nat) (qq : Nat → Nat → Nat) (no : Nat → Nat) (mk : Int32) (k : Nat) (hk : k < 7) (j : Nat) (hj : j < 8) (a3 a4 a5 a6 : Int32) (hc : a4 < 1 ∨ 6 < a4 ∨ a3 < 1) : xh_C l D vwCl (xTY t) y_W_ask c_W_ask 9 (Option.some FieldType.int) [(0, 18, 21, 18), (0, 18, 25, 13), (0, 18, 29, 26)] ({ frames := 7, cells := 1, slots := 6, locals := 110 }) [.ref xa, .int (nI k), .int (nI j), .int a3, .int a4, .int a5, .int a6, .ref ou] [zO 7 xa [.ref nw, .ref na, .int 0], zA t 4 na 7 (fun j => some (qq j 0)), zO 2 nw [.ref rw, .int 0, .int 0, .int 0, .int 0], zA t 3 rw 300 (fun _ => none), zO 3 (qq k 0) [.int (nI k), .ref nw, .int 0, .int 0, .int 0, .ref ((qq k 1)), .ref ((qq k 7)), .ref ((qq k 11)), .int 1, .int 0, .int 0, .int (nI (8 + 3 * k)), .int ((-1)), .int 0, .ref ((qq k 15))], zO 5 (qq k 1) [.ref ((qq k 2)), .ref ((qq k 3)), .ref ((qq k 4)), .ref ((qq k 5)), .ref ((qq k 6)), .int 1], zJ t (qq k 2) 32 (fun _ => 1099511627776), zI t (qq k 3) 8 (fun _ => 0), zJ t (qq k 4) 8 (fun _ => 0), zI t (qq k 5) 4 (xm 1), zI t (qq k 6) 4 (xm mk), zO 4 (qq k 7) [.ref ((qq k 8)), .ref ((qq k 9)), .ref ((qq k 10))], zI t (qq k 8) 32 (fun _ => 0), zI t (qq k 9) 32 (fun _ => 0), zA t 2 (qq k 10) 32 (fun _ => none), zO 4 (qq k 11) [.ref ((qq k 12)), .ref ((qq k 13)), .ref ((qq k 14))], zI t (qq k 12) 64 (fun _ => 0), zI t (qq k 13) 64 (fun _ => 0), zA t 2 (qq k 14) 64 (fun _ => none), zO 0 (qq k 15) [.ref ((no k)), .int 0, .ref ((qq k 16)), .ref ((qq k 20)), .ref ((qq k 24)), .int 0, .int 0, .int 0], zO 4 (qq k 16) [.ref ((qq k 17)), .ref ((qq k 18)), .ref ((qq k 19))], zI t (qq k 17) 32 (fun _ => 0), zI t (qq k 18) 32 (fun _ => 0), zA t 2 (qq k 19) 32 (fun _ => none), zO 4 (qq k 20) [.ref ((qq k 21)), .ref ((qq k 22)), .ref ((qq k 23))], zI t (qq k 21) 4 (fun _ => 0), zI t (qq k 22) 4 (fun _ => 0), zA t 2 (qq k 23) 4 (fun _ => none), zA t 2 (qq k 24) 16 (fun _ => none), zJ t ou 1 (fun _ => 0)] (xe_i D vwCl (fun (r : Int32) (_ : Unit) => r = 2) (fun _ => [])) 1 6 := by
  refine xh_of (by decide) (Nat.le_of_ble_eq_true rfl) ?_
  intro p e s m below meth c ls A Z htab hG hr hlocks hin hA hP hD hS hl
  obtain ⟨hx, hb, hml, hown, hK⟩ := id Z
  have hown : s.vm.findClass "QuorumStoreLaw" = some m.cls := hown
  have hts := hK.1.at (args := ([.ref xa, .int (nI k), .int (nI j), .int a3, .int a4, .int a5, .int a6, .ref ou] : List Value).toArray)
  have hl : lv_has ls 9 [(0, .ref xa), (1, .int (nI k)), (2, .int (nI j)), (3, .int a3), (4, .int a4), (5, .int a5), (6, .int a6), (7, .ref ou)] := hl
  refine lv_aload hx hb d_W_ask_0 (lv_at hl 7 rfl) ?_
  refine lv_iconst (v := 0) hx hb d_W_ask_2 (by decide) ?_
  refine lv_aload_n hx hb d_W_ask_3 rfl (lv_at hl 0 rfl) ?_
  refine lv_iload_n hx hb d_W_ask_4 rfl (lv_at hl 1 rfl) ?_
  refine lv_iload_n hx hb d_W_ask_5 rfl (lv_at hl 2 rfl) ?_
  refine lv_iload_n hx hb d_W_ask_6 rfl (lv_at hl 3 rfl) ?_
  refine lv_iload hx hb d_W_ask_7 (lv_at hl 4 rfl) ?_
  refine lv_iload hx hb d_W_ask_9 (lv_at hl 5 rfl) ?_
  refine lv_iload hx hb d_W_ask_11 (lv_at hl 6 rfl) ?_
  refine xt_catch (hpc := 25) (xt_V (As := [.int (nI k), .int (nI j), .int a3, .int a4, .int a5, .int a6]) (rest := [.int 0, .ref ou]) Z (T3_Q_ask l hfl D t xa nw na rw qq no mk k hk j hj a3 a4 a5 a6 hc) m_Q_ask k_743 k_744 k_745 rfl rfl ⟨Nat.le_of_ble_eq_true rfl, Nat.le_of_ble_eq_true rfl⟩ (va_recv hK.2 hP (ci := 7) (q0 := 0) rfl rfl) (hP.sub [0, 1, 2, 3, 4, 5, 6, 7, 8, 9, 10, 11, 12, 13, 14, 15, 16, 17, 18, 19, 20, 21, 22, 23, 24, 25, 26, 27, 28] rfl) hG.1 (fun _ _ => rfl) rfl hl.1 rfl (Nat.le_of_ble_eq_true rfl) d_W_ask_13 ⟨Nat.le_of_ble_eq_true rfl, Nat.le_of_ble_eq_true rfl⟩) (fun T a cell X9 g1 g2 g3 => xf_second (g := F0 m 13 ls [.int 0, .ref ou]) X9 htab rfl rfl (by decide) rfl (by decide) hown (hts _ k_544) (hts _ k_275) (xc_nw (State.WarmedH.refl s) hG.2.2) (hts _ k_282) g1 g2 g3) (fun H1 x hold => ?_)
  have hS := xh_S1 hS hold
  refine lv_astore (lv' := [(8, .ref x), (0, .ref xa), (1, .int (nI k)), (2, .int (nI j)), (3, .int a3), (4, .int a4), (5, .int a5), (6, .int a6), (7, .ref ou)]) hx hb d_W_ask_25 hl (by decide) rfl (fun ls hl => ?_)
  refine lv_iconst (v := 2) hx hb d_W_ask_27 (by decide) ?_
  exact W.iret hx hb hr (fun t ht hW => ⟨⟨_, (), rfl, rfl, xn_P, xn_D⟩, hS.F ht⟩) hS.2.2 d_W_ask_28
theorem d_W_ask_16 : decode c_W_ask 16 = .ok (.i2l, 1) := by decide +kernel
theorem d_W_ask_17 : decode c_W_ask 17 = .ok (.lastore, 1) := by decide +kernel
theorem d_W_ask_18 : decode c_W_ask 18 = .ok (.goto 15, 3) := by decide +kernel
theorem d_W_ask_33 : decode c_W_ask 33 = .ok (.iconst 0, 1) := by decide +kernel
theorem d_W_ask_34 : decode c_W_ask 34 = .ok (.ireturn, 1) := by decide +kernel
set_option maxHeartbeats 4000000 in
set_option maxRecDepth 100000 in
/-- ask: its answer -/
theorem R_ask (l : Launch) (hfl : l.flags = pinnedFlags ++ [noTraceFlag]) (D : va_G) (t : Nat → ClassId) (xa nw na rw ou : Nat) (qq : Nat → Nat → Nat) (no : Nat → Nat) (mk : Int32) (k : Nat) (hk : k < 7) (j : Nat) (hj : j < 8) (a3 a4 a5 a6 : Int32) (h1 : ¬ a4 < 1) (h2 : ¬ 6 < a4) (h3 : 1 ≤ a3) : xh_C l D vwCl (xTY t) y_W_ask c_W_ask 9 (Option.some FieldType.int) [(0, 18, 21, 18), (0, 18, 25, 13), (0, 18, 29, 26)] ({ frames := 2, cells := 0, slots := 0, locals := 50 }) [.ref xa, .int (nI k), .int (nI j), .int a3, .int a4, .int a5, .int a6, .ref ou] [zO 7 xa [.ref nw, .ref na, .int 0], zA t 4 na 7 (fun j => some (qq j 0)), zO 2 nw [.ref rw, .int 0, .int 0, .int 0, .int 0], zA t 3 rw 300 (fun _ => none), zO 3 (qq k 0) [.int (nI k), .ref nw, .int 0, .int 0, .int 0, .ref ((qq k 1)), .ref ((qq k 7)), .ref ((qq k 11)), .int 1, .int 0, .int 0, .int (nI (8 + 3 * k)), .int ((-1)), .int 0, .ref ((qq k 15))], zO 5 (qq k 1) [.ref ((qq k 2)), .ref ((qq k 3)), .ref ((qq k 4)), .ref ((qq k 5)), .ref ((qq k 6)), .int 1], zJ t (qq k 2) 32 (fun _ => 1099511627776), zI t (qq k 3) 8 (fun _ => 0), zJ t (qq k 4) 8 (fun _ => 0), zI t (qq k 5) 4 (xm 1), zI t (qq k 6) 4 (xm mk), zO 4 (qq k 7) [.ref ((qq k 8)), .ref ((qq k 9)), .ref ((qq k 10))], zI t (qq k 8) 32 (fun _ => 0), zI t (qq k 9) 32 (fun _ => 0), zA t 2 (qq k 10) 32 (fun _ => none), zO 4 (qq k 11) [.ref ((qq k 12)), .ref ((qq k 13)), .ref ((qq k 14))], zI t (qq k 12) 64 (fun _ => 0), zI t (qq k 13) 64 (fun _ => 0), zA t 2 (qq k 14) 64 (fun _ => none), zO 0 (qq k 15) [.ref ((no k)), .int 0, .ref ((qq k 16)), .ref ((qq k 20)), .ref ((qq k 24)), .int 0, .int 0, .int 0], zO 4 (qq k 16) [.ref ((qq k 17)), .ref ((qq k 18)), .ref ((qq k 19))], zI t (qq k 17) 32 (fun _ => 0), zI t (qq k 18) 32 (fun _ => 0), zA t 2 (qq k 19) 32 (fun _ => none), zO 4 (qq k 20) [.ref ((qq k 21)), .ref ((qq k 22)), .ref ((qq k 23))], zI t (qq k 21) 4 (fun _ => 0), zI t (qq k 22) 4 (fun _ => 0), zA t 2 (qq k 23) 4 (fun _ => none), zA t 2 (qq k 24) 16 (fun _ => none), zJ t ou 1 (fun _ => 0)] (xe_i D vwCl (fun (r : Int32) (_ : Unit) => r = 0) (fun _ => [zJ t ou 1 (xo ((-1 : Int32).toInt64))])) 0 0 := by
  refine xh_of (by decide) (Nat.le_of_ble_eq_true rfl) ?_
  intro p e s m below meth c ls A Z htab hG hr hlocks hin hA hP hD hS hl
  obtain ⟨hx, hb, hml, hown, hK⟩ := id Z
  have hown : s.vm.findClass "QuorumStoreLaw" = some m.cls := hown
  have hts := hK.1.at (args := ([.ref xa, .int (nI k), .int (nI j), .int a3, .int a4, .int a5, .int a6, .ref ou] : List Value).toArray)
  have hl : lv_has ls 9 [(0, .ref xa), (1, .int (nI k)), (2, .int (nI j)), (3, .int a3), (4, .int a4), (5, .int a5), (6, .int a6), (7, .ref ou)] := hl
  refine lv_aload hx hb d_W_ask_0 (lv_at hl 7 rfl) ?_
  refine lv_iconst (v := 0) hx hb d_W_ask_2 (by decide) ?_
  refine lv_aload_n hx hb d_W_ask_3 rfl (lv_at hl 0 rfl) ?_
  refine lv_iload_n hx hb d_W_ask_4 rfl (lv_at hl 1 rfl) ?_
  refine lv_iload_n hx hb d_W_ask_5 rfl (lv_at hl 2 rfl) ?_
  refine lv_iload_n hx hb d_W_ask_6 rfl (lv_at hl 3 rfl) ?_
  refine lv_iload hx hb d_W_ask_7 (lv_at hl 4 rfl) ?_
  refine lv_iload hx hb d_W_ask_9 (lv_at hl 5 rfl) ?_
  refine lv_iload hx hb d_W_ask_11 (lv_at hl 6 rfl) ?_
  refine xr_call (xs_V (As := [.int (nI k), .int (nI j), .int a3, .int a4, .int a5, .int a6]) (rest := [.int 0, .ref ou]) Z (C_Q_ask l D t xa nw na rw qq no mk k hk j hj a3 a4 a5 a6 h1 h2 h3) m_Q_ask k_743 k_744 k_745 rfl rfl ⟨Nat.le_of_ble_eq_true rfl, Nat.le_of_ble_eq_true rfl⟩ (va_recv hK.2 hP (ci := 7) (q0 := 0) rfl rfl) (xr_pre hK (hP.sub [0, 1, 2, 3, 4, 5, 6, 7, 8, 9, 10, 11, 12, 13, 14, 15, 16, 17, 18, 19, 20, 21, 22, 23, 24, 25, 26, 27, 28] rfl)) rfl hl.1 rfl (Nat.le_of_ble_eq_true rfl) d_W_ask_13 ⟨Nat.le_of_ble_eq_true rfl, Nat.le_of_ble_eq_true rfl⟩) ?_
  refine lv_i2l (v := ((-1) : Int32).toInt64) hx hb d_W_ask_16 rfl ?_
  refine va_last hx hb hK.2 hP hD hS 29 1 rfl rfl (by unfold vp_in; decide) d_W_ask_17 (fun H locs hP hD hS => ?_)
  rw [xu_o] at hP hD
  have hP : va_P D vwCl [zO 7 xa [.ref nw, .ref na, .int 0], zA t 4 na 7 (fun j => some (qq j 0)), zO 2 nw [.ref rw, .int 0, .int 0, .int 0, .int 0], zA t 3 rw 300 (fun _ => none), zO 3 (qq k 0) [.int (nI k), .ref nw, .int 0, .int 0, .int 0, .ref ((qq k 1)), .ref ((qq k 7)), .ref ((qq k 11)), .int 1, .int 0, .int 0, .int (nI (8 + 3 * k)), .int ((-1)), .int 0, .ref ((qq k 15))], zO 5 (qq k 1) [.ref ((qq k 2)), .ref ((qq k 3)), .ref ((qq k 4)), .ref ((qq k 5)), .ref ((qq k 6)), .int 1], zJ t (qq k 2) 32 (fun _ => 1099511627776), zI t (qq k 3) 8 (fun _ => 0), zJ t (qq k 4) 8 (fun _ => 0), zI t (qq k 5) 4 (xm 1), zI t (qq k 6) 4 (xm mk), zO 4 (qq k 7) [.ref ((qq k 8)), .ref ((qq k 9)), .ref ((qq k 10))], zI t (qq k 8) 32 (fun _ => 0), zI t (qq k 9) 32 (fun _ => 0), zA t 2 (qq k 10) 32 (fun _ => none), zO 4 (qq k 11) [.ref ((qq k 12)), .ref ((qq k 13)), .ref ((qq k 14))], zI t (qq k 12) 64 (fun _ => 0), zI t (qq k 13) 64 (fun _ => 0), zA t 2 (qq k 14) 64 (fun _ => none), zO 0 (qq k 15) [.ref ((no k)), .int 0, .ref ((qq k 16)), .ref ((qq k 20)), .ref ((qq k 24)), .int 0, .int 0, .int 0], zO 4 (qq k 16) [.ref ((qq k 17)), .ref ((qq k 18)), .ref ((qq k 19))], zI t (qq k 17) 32 (fun _ => 0), zI t (qq k 18) 32 (fun _ => 0), zA t 2 (qq k 19) 32 (fun _ => none), zO 4 (qq k 20) [.ref ((qq k 21)), .ref ((qq k 22)), .ref ((qq k 23))], zI t (qq k 21) 4 (fun _ => 0), zI t (qq k 22) 4 (fun _ => 0), zA t 2 (qq k 23) 4 (fun _ => none), zA t 2 (qq k 24) 16 (fun _ => none), zJ t ou 1 (xo ((-1 : Int32).toInt64))] H := hP
  have hD : va_D A [zO 7 xa [.ref nw, .ref na, .int 0], zA t 4 na 7 (fun j => some (qq j 0)), zO 2 nw [.ref rw, .int 0, .int 0, .int 0, .int 0], zA t 3 rw 300 (fun _ => none), zO 3 (qq k 0) [.int (nI k), .ref nw, .int 0, .int 0, .int 0, .ref ((qq k 1)), .ref ((qq k 7)), .ref ((qq k 11)), .int 1, .int 0, .int 0, .int (nI (8 + 3 * k)), .int ((-1)), .int 0, .ref ((qq k 15))], zO 5 (qq k 1) [.ref ((qq k 2)), .ref ((qq k 3)), .ref ((qq k 4)), .ref ((qq k 5)), .ref ((qq k 6)), .int 1], zJ t (qq k 2) 32 (fun _ => 1099511627776), zI t (qq k 3) 8 (fun _ => 0), zJ t (qq k 4) 8 (fun _ => 0), zI t (qq k 5) 4 (xm 1), zI t (qq k 6) 4 (xm mk), zO 4 (qq k 7) [.ref ((qq k 8)), .ref ((qq k 9)), .ref ((qq k 10))], zI t (qq k 8) 32 (fun _ => 0), zI t (qq k 9) 32 (fun _ => 0), zA t 2 (qq k 10) 32 (fun _ => none), zO 4 (qq k 11) [.ref ((qq k 12)), .ref ((qq k 13)), .ref ((qq k 14))], zI t (qq k 12) 64 (fun _ => 0), zI t (qq k 13) 64 (fun _ => 0), zA t 2 (qq k 14) 64 (fun _ => none), zO 0 (qq k 15) [.ref ((no k)), .int 0, .ref ((qq k 16)), .ref ((qq k 20)), .ref ((qq k 24)), .int 0, .int 0, .int 0], zO 4 (qq k 16) [.ref ((qq k 17)), .ref ((qq k 18)), .ref ((qq k 19))], zI t (qq k 17) 32 (fun _ => 0), zI t (qq k 18) 32 (fun _ => 0), zA t 2 (qq k 19) 32 (fun _ => none), zO 4 (qq k 20) [.ref ((qq k 21)), .ref ((qq k 22)), .ref ((qq k 23))], zI t (qq k 21) 4 (fun _ => 0), zI t (qq k 22) 4 (fun _ => 0), zA t 2 (qq k 23) 4 (fun _ => none), zA t 2 (qq k 24) 16 (fun _ => none), zJ t ou 1 (xo ((-1 : Int32).toInt64))] := hD
  refine lv_goto (tgt := 33) hx hb d_W_ask_18 (by decide) ?_
  refine lv_iconst (v := 0) hx hb d_W_ask_33 (by decide) ?_
  have hP := hP.sub (ws' := [zJ t ou 1 (xo ((-1 : Int32).toInt64))]) [29] rfl
  have hD := hD.sub (ws' := [zJ t ou 1 (xo ((-1 : Int32).toInt64))]) [29] (by decide) rfl
  exact W.iret hx hb hr (fun t ht hW => ⟨⟨0, (), rfl, rfl, by rw [ht]; exact hP, hD⟩, hS.F ht⟩) hS.2.2 d_W_ask_34
theorem d_W_answer_0 : decode c_W_answer 0 = .ok (.aload 4, 2) := by decide +kernel
theorem d_W_answer_2 : decode c_W_answer 2 = .ok (.iconst 0, 1) := by decide +kernel
theorem d_W_answer_3 : decode c_W_answer 3 = .ok (.aload_n 0, 1) := by decide +kernel
theorem d_W_answer_4 : decode c_W_answer 4 = .ok (.iload_n 1, 1) := by decide +kernel
theorem d_W_answer_5 : decode c_W_answer 5 = .ok (.iload_n 2, 1) := by decide +kernel
theorem d_W_answer_6 : decode c_W_answer 6 = .ok (.iload_n 3, 1) := by decide +kernel
theorem d_W_answer_7 : decode c_W_answer 7 = .ok (.invokevirtual 46, 3) := by decide +kernel
theorem d_W_answer_14 : decode c_W_answer 14 = .ok (.astore 5, 2) := by decide +kernel
theorem d_W_answer_16 : decode c_W_answer 16 = .ok (.iconst 1, 1) := by decide +kernel
theorem d_W_answer_17 : decode c_W_answer 17 = .ok (.ireturn, 1) := by decide +kernel
set_option maxHeartbeats 4000000 in
set_option maxRecDepth 100000 in
/-- answer: the throw is caught -/
theorem H_answer (l : Launch) (hfl : l.flags = pinnedFlags ++ [noTraceFlag]) (D : va_G) (t : Nat → ClassId) (xa nw na rw ou : Nat) (qq : Nat → Nat → Nat) (n a2 a3 : Int32) (hn : n < 0 ∨ 7 ≤ n) : xh_C l D vwCl (xTY t) y_W_answer c_W_answer 6 (Option.some FieldType.int) [(0, 11, 14, 18), (0, 11, 18, 13)] ({ frames := 8, cells := 1, slots := 6, locals := 127 }) [.ref xa, .int n, .int a2, .int a3, .ref ou] [zO 7 xa [.ref nw, .ref na, .int 0], zA t 4 na 7 (fun j => some (qq j 0)), zO 2 nw [.ref rw, .int 0, .int 0, .int 0, .int 0], zA t 3 rw 300 (fun _ => none), zJ t ou 1 (fun _ => 0)] (xe_i D vwCl (fun (r : Int32) (_ : Unit) => r = 1) (fun _ => [])) 1 6 := by
  refine xh_of (by decide) (Nat.le_of_ble_eq_true rfl) ?_
  intro p e s m below meth c ls A Z htab hG hr hlocks hin hA hP hD hS hl
  obtain ⟨hx, hb, hml, hown, hK⟩ := id Z
  have hown : s.vm.findClass "QuorumStoreLaw" = some m.cls := hown
  have hts := hK.1.at (args := ([.ref xa, .int n, .int a2, .int a3, .ref ou] : List Value).toArray)
  have hl : lv_has ls 6 [(0, .ref xa), (1, .int n), (2, .int a2), (3, .int a3), (4, .ref ou)] := hl
  refine lv_aload hx hb d_W_answer_0 (lv_at hl 4 rfl) ?_
  refine lv_iconst (v := 0) hx hb d_W_answer_2 (by decide) ?_
  refine lv_aload_n hx hb d_W_answer_3 rfl (lv_at hl 0 rfl) ?_
  refine lv_iload_n hx hb d_W_answer_4 rfl (lv_at hl 1 rfl) ?_
  refine lv_iload_n hx hb d_W_answer_5 rfl (lv_at hl 2 rfl) ?_
  refine lv_iload_n hx hb d_W_answer_6 rfl (lv_at hl 3 rfl) ?_
  refine xt_catch (hpc := 14) (xt_V (As := [.int n, .int a2, .int a3]) (rest := [.int 0, .ref ou]) Z (T_Q_answer l hfl D t xa nw na qq n a2 a3 hn) m_Q_answer k_780 k_781 k_782 rfl rfl ⟨Nat.le_of_ble_eq_true rfl, Nat.le_of_ble_eq_true rfl⟩ (va_recv hK.2 hP (ci := 7) (q0 := 0) rfl rfl) (hP.sub [0, 1] rfl) hG.1 (fun _ _ => rfl) rfl hl.1 rfl (Nat.le_of_ble_eq_true rfl) d_W_answer_7 ⟨Nat.le_of_ble_eq_true rfl, Nat.le_of_ble_eq_true rfl⟩) (fun T a cell X9 g1 g2 g3 => xf_first (g := F0 m 7 ls [.int 0, .ref ou]) X9 htab rfl rfl (by decide) hown (hts _ k_544) (hts _ k_555) g1 g2 g3) (fun H1 x hold => ?_)
  have hS := xh_S1 hS hold
  refine lv_astore (lv' := [(5, .ref x), (0, .ref xa), (1, .int n), (2, .int a2), (3, .int a3), (4, .ref ou)]) hx hb d_W_answer_14 hl (by decide) rfl (fun ls hl => ?_)
  refine lv_iconst (v := 1) hx hb d_W_answer_16 (by decide) ?_
  exact W.iret hx hb hr (fun t ht hW => ⟨⟨_, (), rfl, rfl, xn_P, xn_D⟩, hS.F ht⟩) hS.2.2 d_W_answer_17
set_option maxHeartbeats 4000000 in
set_option maxRecDepth 100000 in
/-- answer: the throw is caught -/
theorem H2_answer (l : Launch) (hfl : l.flags = pinnedFlags ++ [noTraceFlag]) (D : va_G) (t : Nat → ClassId) (xa nw na rw ou : Nat) (qq : Nat → Nat → Nat) (no : Nat → Nat) (mk : Int32) (k : Nat) (hk : k < 7) (a2 a3 : Int32) (hc : a2 < 0 ∨ 8 ≤ a2) : xh_C l D vwCl (xTY t) y_W_answer c_W_answer 6 (Option.some FieldType.int) [(0, 11, 14, 18), (0, 11, 18, 13)] ({ frames := 8, cells := 1, slots := 6, locals := 126 }) [.ref xa, .int (nI k), .int a2, .int a3, .ref ou] [zO 7 xa [.ref nw, .ref na, .int 0], zA t 4 na 7 (fun j => some (qq j 0)), zO 2 nw [.ref rw, .int 0, .int 0, .int 0, .int 0], zA t 3 rw 300 (fun _ => none), zO 3 (qq k 0) [.int (nI k), .ref nw, .int 0, .int 0, .int 0, .ref ((qq k 1)), .ref ((qq k 7)), .ref ((qq k 11)), .int 1, .int 0, .int 0, .int (nI (8 + 3 * k)), .int ((-1)), .int 0, .ref ((qq k 15))], zO 5 (qq k 1) [.ref ((qq k 2)), .ref ((qq k 3)), .ref ((qq k 4)), .ref ((qq k 5)), .ref ((qq k 6)), .int 1], zJ t (qq k 2) 32 (fun _ => 1099511627776), zI t (qq k 3) 8 (fun _ => 0), zJ t (qq k 4) 8 (fun _ => 0), zI t (qq k 5) 4 (xm 1), zI t (qq k 6) 4 (xm mk), zO 4 (qq k 7) [.ref ((qq k 8)), .ref ((qq k 9)), .ref ((qq k 10))], zI t (qq k 8) 32 (fun _ => 0), zI t (qq k 9) 32 (fun _ => 0), zA t 2 (qq k 10) 32 (fun _ => none), zO 4 (qq k 11) [.ref ((qq k 12)), .ref ((qq k 13)), .ref ((qq k 14))], zI t (qq k 12) 64 (fun _ => 0), zI t (qq k 13) 64 (fun _ => 0), zA t 2 (qq k 14) 64 (fun _ => none), zO 0 (qq k 15) [.ref ((no k)), .int 0, .ref ((qq k 16)), .ref ((qq k 20)), .ref ((qq k 24)), .int 0, .int 0, .int 0], zO 4 (qq k 16) [.ref ((qq k 17)), .ref ((qq k 18)), .ref ((qq k 19))], zI t (qq k 17) 32 (fun _ => 0), zI t (qq k 18) 32 (fun _ => 0), zA t 2 (qq k 19) 32 (fun _ => none), zO 4 (qq k 20) [.ref ((qq k 21)), .ref ((qq k 22)), .ref ((qq k 23))], zI t (qq k 21) 4 (fun _ => 0), zI t (qq k 22) 4 (fun _ => 0), zA t 2 (qq k 23) 4 (fun _ => none), zA t 2 (qq k 24) 16 (fun _ => none), zJ t ou 1 (fun _ => 0)] (xe_i D vwCl (fun (r : Int32) (_ : Unit) => r = 1) (fun _ => [])) 1 6 := by
  refine xh_of (by decide) (Nat.le_of_ble_eq_true rfl) ?_
  intro p e s m below meth c ls A Z htab hG hr hlocks hin hA hP hD hS hl
  obtain ⟨hx, hb, hml, hown, hK⟩ := id Z
  have hown : s.vm.findClass "QuorumStoreLaw" = some m.cls := hown
  have hts := hK.1.at (args := ([.ref xa, .int (nI k), .int a2, .int a3, .ref ou] : List Value).toArray)
  have hl : lv_has ls 6 [(0, .ref xa), (1, .int (nI k)), (2, .int a2), (3, .int a3), (4, .ref ou)] := hl
  refine lv_aload hx hb d_W_answer_0 (lv_at hl 4 rfl) ?_
  refine lv_iconst (v := 0) hx hb d_W_answer_2 (by decide) ?_
  refine lv_aload_n hx hb d_W_answer_3 rfl (lv_at hl 0 rfl) ?_
  refine lv_iload_n hx hb d_W_answer_4 rfl (lv_at hl 1 rfl) ?_
  refine lv_iload_n hx hb d_W_answer_5 rfl (lv_at hl 2 rfl) ?_
  refine lv_iload_n hx hb d_W_answer_6 rfl (lv_at hl 3 rfl) ?_
  refine xt_catch (hpc := 14) (xt_V (As := [.int (nI k), .int a2, .int a3]) (rest := [.int 0, .ref ou]) Z (T2_Q_answer l hfl D t xa nw na rw qq no mk k hk a2 a3 hc) m_Q_answer k_780 k_781 k_782 rfl rfl ⟨Nat.le_of_ble_eq_true rfl, Nat.le_of_ble_eq_true rfl⟩ (va_recv hK.2 hP (ci := 7) (q0 := 0) rfl rfl) (hP.sub [0, 1, 2, 3, 4, 5, 6, 7, 8, 9, 10, 11, 12, 13, 14, 15, 16, 17, 18, 19, 20, 21, 22, 23, 24, 25, 26, 27, 28] rfl) hG.1 (fun _ _ => rfl) rfl hl.1 rfl (Nat.le_of_ble_eq_true rfl) d_W_answer_7 ⟨Nat.le_of_ble_eq_true rfl, Nat.le_of_ble_eq_true rfl⟩) (fun T a cell X9 g1 g2 g3 => xf_first (g := F0 m 7 ls [.int 0, .ref ou]) X9 htab rfl rfl (by decide) hown (hts _ k_544) (hts _ k_555) g1 g2 g3) (fun H1 x hold => ?_)
  have hS := xh_S1 hS hold
  refine lv_astore (lv' := [(5, .ref x), (0, .ref xa), (1, .int (nI k)), (2, .int a2), (3, .int a3), (4, .ref ou)]) hx hb d_W_answer_14 hl (by decide) rfl (fun ls hl => ?_)
  refine lv_iconst (v := 1) hx hb d_W_answer_16 (by decide) ?_
  exact W.iret hx hb hr (fun t ht hW => ⟨⟨_, (), rfl, rfl, xn_P, xn_D⟩, hS.F ht⟩) hS.2.2 d_W_answer_17
theorem d_W_answer_18 : decode c_W_answer 18 = .ok (.astore 5, 2) := by decide +kernel
theorem d_W_answer_20 : decode c_W_answer 20 = .ok (.iconst 2, 1) := by decide +kernel
theorem d_W_answer_21 : decode c_W_answer 21 = .ok (.ireturn, 1) := by decide +kernel
set_option maxHeartbeats 4000000 in
set_option maxRecDepth 100000 in
/-- answer: the throw is caught -/
theorem H3_answer (l : Launch) (hfl : l.flags = pinnedFlags ++ [noTraceFlag]) (D : va_G) (t : Nat → ClassId) (xa nw na rw ou : Nat) (qq : Nat → Nat → Nat) (no : Nat → Nat) (mk : Int32) (k : Nat) (hk : k < 7) (j : Nat) (hj : j < 8) (a3 : Int32) (ha : ¬ a3 = 0) (hb2 : ¬ a3 = 1) : xh_C l D vwCl (xTY t) y_W_answer c_W_answer 6 (Option.some FieldType.int) [(0, 11, 14, 18), (0, 11, 18, 13)] ({ frames := 7, cells := 1, slots := 6, locals := 106 }) [.ref xa, .int (nI k), .int (nI j), .int a3, .ref ou] [zO 7 xa [.ref nw, .ref na, .int 0], zA t 4 na 7 (fun j => some (qq j 0)), zO 2 nw [.ref rw, .int 0, .int 0, .int 0, .int 0], zA t 3 rw 300 (fun _ => none), zO 3 (qq k 0) [.int (nI k), .ref nw, .int 0, .int 0, .int 0, .ref ((qq k 1)), .ref ((qq k 7)), .ref ((qq k 11)), .int 1, .int 0, .int 0, .int (nI (8 + 3 * k)), .int ((-1)), .int 0, .ref ((qq k 15))], zO 5 (qq k 1) [.ref ((qq k 2)), .ref ((qq k 3)), .ref ((qq k 4)), .ref ((qq k 5)), .ref ((qq k 6)), .int 1], zJ t (qq k 2) 32 (fun _ => 1099511627776), zI t (qq k 3) 8 (fun _ => 0), zJ t (qq k 4) 8 (fun _ => 0), zI t (qq k 5) 4 (xm 1), zI t (qq k 6) 4 (xm mk), zO 4 (qq k 7) [.ref ((qq k 8)), .ref ((qq k 9)), .ref ((qq k 10))], zI t (qq k 8) 32 (fun _ => 0), zI t (qq k 9) 32 (fun _ => 0), zA t 2 (qq k 10) 32 (fun _ => none), zO 4 (qq k 11) [.ref ((qq k 12)), .ref ((qq k 13)), .ref ((qq k 14))], zI t (qq k 12) 64 (fun _ => 0), zI t (qq k 13) 64 (fun _ => 0), zA t 2 (qq k 14) 64 (fun _ => none), zO 0 (qq k 15) [.ref ((no k)), .int 0, .ref ((qq k 16)), .ref ((qq k 20)), .ref ((qq k 24)), .int 0, .int 0, .int 0], zO 4 (qq k 16) [.ref ((qq k 17)), .ref ((qq k 18)), .ref ((qq k 19))], zI t (qq k 17) 32 (fun _ => 0), zI t (qq k 18) 32 (fun _ => 0), zA t 2 (qq k 19) 32 (fun _ => none), zO 4 (qq k 20) [.ref ((qq k 21)), .ref ((qq k 22)), .ref ((qq k 23))], zI t (qq k 21) 4 (fun _ => 0), zI t (qq k 22) 4 (fun _ => 0), zA t 2 (qq k 23) 4 (fun _ => none), zA t 2 (qq k 24) 16 (fun _ => none), zJ t ou 1 (fun _ => 0)] (xe_i D vwCl (fun (r : Int32) (_ : Unit) => r = 2) (fun _ => [])) 1 6 := by
  refine xh_of (by decide) (Nat.le_of_ble_eq_true rfl) ?_
  intro p e s m below meth c ls A Z htab hG hr hlocks hin hA hP hD hS hl
  obtain ⟨hx, hb, hml, hown, hK⟩ := id Z
  have hown : s.vm.findClass "QuorumStoreLaw" = some m.cls := hown
  have hts := hK.1.at (args := ([.ref xa, .int (nI k), .int (nI j), .int a3, .ref ou] : List Value).toArray)
  have hl : lv_has ls 6 [(0, .ref xa), (1, .int (nI k)), (2, .int (nI j)), (3, .int a3), (4, .ref ou)] := hl
  refine lv_aload hx hb d_W_answer_0 (lv_at hl 4 rfl) ?_
  refine lv_iconst (v := 0) hx hb d_W_answer_2 (by decide) ?_
  refine lv_aload_n hx hb d_W_answer_3 rfl (lv_at hl 0 rfl) ?_
  refine lv_iload_n hx hb d_W_answer_4 rfl (lv_at hl 1 rfl) ?_
  refine lv_iload_n hx hb d_W_answer_5 rfl (lv_at hl 2 rfl) ?_
  refine lv_iload_n hx hb d_W_answer_6 rfl (lv_at hl 3 rfl) ?_
  refine xt_catch (hpc := 18) (xt_V (As := [.int (nI k), .int (nI j), .int a3]) (rest := [.int 0, .ref ou]) Z (T3_Q_answer l hfl D t xa nw na rw qq no mk k hk j hj a3 ha hb2) m_Q_answer k_780 k_781 k_782 rfl rfl ⟨Nat.le_of_ble_eq_true rfl, Nat.le_of_ble_eq_true rfl⟩ (va_recv hK.2 hP (ci := 7) (q0 := 0) rfl rfl) (hP.sub [0, 1, 2, 3, 4, 5, 6, 7, 8, 9, 10, 11, 12, 13, 14, 15, 16, 17, 18, 19, 20, 21, 22, 23, 24, 25, 26, 27, 28] rfl) hG.1 (fun _ _ => rfl) rfl hl.1 rfl (Nat.le_of_ble_eq_true rfl) d_W_answer_7 ⟨Nat.le_of_ble_eq_true rfl, Nat.le_of_ble_eq_true rfl⟩) (fun T a cell X9 g1 g2 g3 => xf_second (g := F0 m 7 ls [.int 0, .ref ou]) X9 htab rfl rfl (by decide) rfl (by decide) hown (hts _ k_544) (hts _ k_275) (xc_nw (State.WarmedH.refl s) hG.2.2) (hts _ k_282) g1 g2 g3) (fun H1 x hold => ?_)
  have hS := xh_S1 hS hold
  refine lv_astore (lv' := [(5, .ref x), (0, .ref xa), (1, .int (nI k)), (2, .int (nI j)), (3, .int a3), (4, .ref ou)]) hx hb d_W_answer_18 hl (by decide) rfl (fun ls hl => ?_)
  refine lv_iconst (v := 2) hx hb d_W_answer_20 (by decide) ?_
  exact W.iret hx hb hr (fun t ht hW => ⟨⟨_, (), rfl, rfl, xn_P, xn_D⟩, hS.F ht⟩) hS.2.2 d_W_answer_21
theorem d_W_answer_10 : decode c_W_answer 10 = .ok (.lastore, 1) := by decide +kernel
theorem d_W_answer_11 : decode c_W_answer 11 = .ok (.goto 11, 3) := by decide +kernel
theorem d_W_answer_22 : decode c_W_answer 22 = .ok (.iconst 0, 1) := by decide +kernel
theorem d_W_answer_23 : decode c_W_answer 23 = .ok (.ireturn, 1) := by decide +kernel
set_option maxHeartbeats 4000000 in
set_option maxRecDepth 100000 in
/-- answer: its answer -/
theorem R0_answer (l : Launch) (hfl : l.flags = pinnedFlags ++ [noTraceFlag]) (D : va_G) (t : Nat → ClassId) (xa nw na rw ou : Nat) (qq : Nat → Nat → Nat) (no : Nat → Nat) (mk : Int32) (k : Nat) (hk : k < 7) (j : Nat) (hj : j < 8) : xh_C l D vwCl (xTY t) y_W_answer c_W_answer 6 (Option.some FieldType.int) [(0, 11, 14, 18), (0, 11, 18, 13)] ({ frames := 2, cells := 0, slots := 0, locals := 45 }) [.ref xa, .int (nI k), .int (nI j), .int 0, .ref ou] [zO 7 xa [.ref nw, .ref na, .int 0], zA t 4 na 7 (fun j => some (qq j 0)), zO 2 nw [.ref rw, .int 0, .int 0, .int 0, .int 0], zA t 3 rw 300 (fun _ => none), zO 3 (qq k 0) [.int (nI k), .ref nw, .int 0, .int 0, .int 0, .ref ((qq k 1)), .ref ((qq k 7)), .ref ((qq k 11)), .int 1, .int 0, .int 0, .int (nI (8 + 3 * k)), .int ((-1)), .int 0, .ref ((qq k 15))], zO 5 (qq k 1) [.ref ((qq k 2)), .ref ((qq k 3)), .ref ((qq k 4)), .ref ((qq k 5)), .ref ((qq k 6)), .int 1], zJ t (qq k 2) 32 (fun _ => 1099511627776), zI t (qq k 3) 8 (fun _ => 0), zJ t (qq k 4) 8 (fun _ => 0), zI t (qq k 5) 4 (xm 1), zI t (qq k 6) 4 (xm mk), zO 4 (qq k 7) [.ref ((qq k 8)), .ref ((qq k 9)), .ref ((qq k 10))], zI t (qq k 8) 32 (fun _ => 0), zI t (qq k 9) 32 (fun _ => 0), zA t 2 (qq k 10) 32 (fun _ => none), zO 4 (qq k 11) [.ref ((qq k 12)), .ref ((qq k 13)), .ref ((qq k 14))], zI t (qq k 12) 64 (fun _ => 0), zI t (qq k 13) 64 (fun _ => 0), zA t 2 (qq k 14) 64 (fun _ => none), zO 0 (qq k 15) [.ref ((no k)), .int 0, .ref ((qq k 16)), .ref ((qq k 20)), .ref ((qq k 24)), .int 0, .int 0, .int 0], zO 4 (qq k 16) [.ref ((qq k 17)), .ref ((qq k 18)), .ref ((qq k 19))], zI t (qq k 17) 32 (fun _ => 0), zI t (qq k 18) 32 (fun _ => 0), zA t 2 (qq k 19) 32 (fun _ => none), zO 4 (qq k 20) [.ref ((qq k 21)), .ref ((qq k 22)), .ref ((qq k 23))], zI t (qq k 21) 4 (fun _ => 0), zI t (qq k 22) 4 (fun _ => 0), zA t 2 (qq k 23) 4 (fun _ => none), zA t 2 (qq k 24) 16 (fun _ => none), zJ t ou 1 (fun _ => 0)] (xe_i D vwCl (fun (r : Int32) (_ : Unit) => r = 0) (fun _ => [zJ t ou 1 (xo (0))])) 0 0 := by
  refine xh_of (by decide) (Nat.le_of_ble_eq_true rfl) ?_
  intro p e s m below meth c ls A Z htab hG hr hlocks hin hA hP hD hS hl
  obtain ⟨hx, hb, hml, hown, hK⟩ := id Z
  have hown : s.vm.findClass "QuorumStoreLaw" = some m.cls := hown
  have hts := hK.1.at (args := ([.ref xa, .int (nI k), .int (nI j), .int 0, .ref ou] : List Value).toArray)
  have hl : lv_has ls 6 [(0, .ref xa), (1, .int (nI k)), (2, .int (nI j)), (3, .int 0), (4, .ref ou)] := hl
  refine lv_aload hx hb d_W_answer_0 (lv_at hl 4 rfl) ?_
  refine lv_iconst (v := 0) hx hb d_W_answer_2 (by decide) ?_
  refine lv_aload_n hx hb d_W_answer_3 rfl (lv_at hl 0 rfl) ?_
  refine lv_iload_n hx hb d_W_answer_4 rfl (lv_at hl 1 rfl) ?_
  refine lv_iload_n hx hb d_W_answer_5 rfl (lv_at hl 2 rfl) ?_
  refine lv_iload_n hx hb d_W_answer_6 rfl (lv_at hl 3 rfl) ?_
  refine xr_call (xs_V (As := [.int (nI k), .int (nI j), .int 0]) (rest := [.int 0, .ref ou]) Z (C_Q_answer_0 l D t xa nw na rw qq no mk k hk j hj) m_Q_answer k_780 k_781 k_782 rfl rfl ⟨Nat.le_of_ble_eq_true rfl, Nat.le_of_ble_eq_true rfl⟩ (va_recv hK.2 hP (ci := 7) (q0 := 0) rfl rfl) (xr_pre hK (hP.sub [0, 1, 2, 3, 4, 5, 6, 7, 8, 9, 10, 11, 12, 13, 14, 15, 16, 17, 18, 19, 20, 21, 22, 23, 24, 25, 26, 27, 28] rfl)) rfl hl.1 rfl (Nat.le_of_ble_eq_true rfl) d_W_answer_7 ⟨Nat.le_of_ble_eq_true rfl, Nat.le_of_ble_eq_true rfl⟩) ?_
  refine va_last hx hb hK.2 hP hD hS 29 1 rfl rfl (by unfold vp_in; decide) d_W_answer_10 (fun H locs hP hD hS => ?_)
  rw [xu_o] at hP hD
  have hP : va_P D vwCl [zO 7 xa [.ref nw, .ref na, .int 0], zA t 4 na 7 (fun j => some (qq j 0)), zO 2 nw [.ref rw, .int 0, .int 0, .int 0, .int 0], zA t 3 rw 300 (fun _ => none), zO 3 (qq k 0) [.int (nI k), .ref nw, .int 0, .int 0, .int 0, .ref ((qq k 1)), .ref ((qq k 7)), .ref ((qq k 11)), .int 1, .int 0, .int 0, .int (nI (8 + 3 * k)), .int ((-1)), .int 0, .ref ((qq k 15))], zO 5 (qq k 1) [.ref ((qq k 2)), .ref ((qq k 3)), .ref ((qq k 4)), .ref ((qq k 5)), .ref ((qq k 6)), .int 1], zJ t (qq k 2) 32 (fun _ => 1099511627776), zI t (qq k 3) 8 (fun _ => 0), zJ t (qq k 4) 8 (fun _ => 0), zI t (qq k 5) 4 (xm 1), zI t (qq k 6) 4 (xm mk), zO 4 (qq k 7) [.ref ((qq k 8)), .ref ((qq k 9)), .ref ((qq k 10))], zI t (qq k 8) 32 (fun _ => 0), zI t (qq k 9) 32 (fun _ => 0), zA t 2 (qq k 10) 32 (fun _ => none), zO 4 (qq k 11) [.ref ((qq k 12)), .ref ((qq k 13)), .ref ((qq k 14))], zI t (qq k 12) 64 (fun _ => 0), zI t (qq k 13) 64 (fun _ => 0), zA t 2 (qq k 14) 64 (fun _ => none), zO 0 (qq k 15) [.ref ((no k)), .int 0, .ref ((qq k 16)), .ref ((qq k 20)), .ref ((qq k 24)), .int 0, .int 0, .int 0], zO 4 (qq k 16) [.ref ((qq k 17)), .ref ((qq k 18)), .ref ((qq k 19))], zI t (qq k 17) 32 (fun _ => 0), zI t (qq k 18) 32 (fun _ => 0), zA t 2 (qq k 19) 32 (fun _ => none), zO 4 (qq k 20) [.ref ((qq k 21)), .ref ((qq k 22)), .ref ((qq k 23))], zI t (qq k 21) 4 (fun _ => 0), zI t (qq k 22) 4 (fun _ => 0), zA t 2 (qq k 23) 4 (fun _ => none), zA t 2 (qq k 24) 16 (fun _ => none), zJ t ou 1 (xo (0))] H := hP
  have hD : va_D A [zO 7 xa [.ref nw, .ref na, .int 0], zA t 4 na 7 (fun j => some (qq j 0)), zO 2 nw [.ref rw, .int 0, .int 0, .int 0, .int 0], zA t 3 rw 300 (fun _ => none), zO 3 (qq k 0) [.int (nI k), .ref nw, .int 0, .int 0, .int 0, .ref ((qq k 1)), .ref ((qq k 7)), .ref ((qq k 11)), .int 1, .int 0, .int 0, .int (nI (8 + 3 * k)), .int ((-1)), .int 0, .ref ((qq k 15))], zO 5 (qq k 1) [.ref ((qq k 2)), .ref ((qq k 3)), .ref ((qq k 4)), .ref ((qq k 5)), .ref ((qq k 6)), .int 1], zJ t (qq k 2) 32 (fun _ => 1099511627776), zI t (qq k 3) 8 (fun _ => 0), zJ t (qq k 4) 8 (fun _ => 0), zI t (qq k 5) 4 (xm 1), zI t (qq k 6) 4 (xm mk), zO 4 (qq k 7) [.ref ((qq k 8)), .ref ((qq k 9)), .ref ((qq k 10))], zI t (qq k 8) 32 (fun _ => 0), zI t (qq k 9) 32 (fun _ => 0), zA t 2 (qq k 10) 32 (fun _ => none), zO 4 (qq k 11) [.ref ((qq k 12)), .ref ((qq k 13)), .ref ((qq k 14))], zI t (qq k 12) 64 (fun _ => 0), zI t (qq k 13) 64 (fun _ => 0), zA t 2 (qq k 14) 64 (fun _ => none), zO 0 (qq k 15) [.ref ((no k)), .int 0, .ref ((qq k 16)), .ref ((qq k 20)), .ref ((qq k 24)), .int 0, .int 0, .int 0], zO 4 (qq k 16) [.ref ((qq k 17)), .ref ((qq k 18)), .ref ((qq k 19))], zI t (qq k 17) 32 (fun _ => 0), zI t (qq k 18) 32 (fun _ => 0), zA t 2 (qq k 19) 32 (fun _ => none), zO 4 (qq k 20) [.ref ((qq k 21)), .ref ((qq k 22)), .ref ((qq k 23))], zI t (qq k 21) 4 (fun _ => 0), zI t (qq k 22) 4 (fun _ => 0), zA t 2 (qq k 23) 4 (fun _ => none), zA t 2 (qq k 24) 16 (fun _ => none), zJ t ou 1 (xo (0))] := hD
  refine lv_goto (tgt := 22) hx hb d_W_answer_11 (by decide) ?_
  refine lv_iconst (v := 0) hx hb d_W_answer_22 (by decide) ?_
  have hP := hP.sub (ws' := [zJ t ou 1 (xo (0))]) [29] rfl
  have hD := hD.sub (ws' := [zJ t ou 1 (xo (0))]) [29] (by decide) rfl
  exact W.iret hx hb hr (fun t ht hW => ⟨⟨0, (), rfl, rfl, by rw [ht]; exact hP, hD⟩, hS.F ht⟩) hS.2.2 d_W_answer_23
set_option maxHeartbeats 4000000 in
set_option maxRecDepth 100000 in
/-- answer: its answer -/
theorem R1_answer (l : Launch) (hfl : l.flags = pinnedFlags ++ [noTraceFlag]) (D : va_G) (t : Nat → ClassId) (xa nw na rw ou : Nat) (qq : Nat → Nat → Nat) (no : Nat → Nat) (mk : Int32) (k : Nat) (hk : k < 7) (j : Nat) (hj : j < 8) : xh_C l D vwCl (xTY t) y_W_answer c_W_answer 6 (Option.some FieldType.int) [(0, 11, 14, 18), (0, 11, 18, 13)] ({ frames := 2, cells := 0, slots := 0, locals := 45 }) [.ref xa, .int (nI k), .int (nI j), .int 1, .ref ou] [zO 7 xa [.ref nw, .ref na, .int 0], zA t 4 na 7 (fun j => some (qq j 0)), zO 2 nw [.ref rw, .int 0, .int 0, .int 0, .int 0], zA t 3 rw 300 (fun _ => none), zO 3 (qq k 0) [.int (nI k), .ref nw, .int 0, .int 0, .int 0, .ref ((qq k 1)), .ref ((qq k 7)), .ref ((qq k 11)), .int 1, .int 0, .int 0, .int (nI (8 + 3 * k)), .int ((-1)), .int 0, .ref ((qq k 15))], zO 5 (qq k 1) [.ref ((qq k 2)), .ref ((qq k 3)), .ref ((qq k 4)), .ref ((qq k 5)), .ref ((qq k 6)), .int 1], zJ t (qq k 2) 32 (fun _ => 1099511627776), zI t (qq k 3) 8 (fun _ => 0), zJ t (qq k 4) 8 (fun _ => 0), zI t (qq k 5) 4 (xm 1), zI t (qq k 6) 4 (xm mk), zO 4 (qq k 7) [.ref ((qq k 8)), .ref ((qq k 9)), .ref ((qq k 10))], zI t (qq k 8) 32 (fun _ => 0), zI t (qq k 9) 32 (fun _ => 0), zA t 2 (qq k 10) 32 (fun _ => none), zO 4 (qq k 11) [.ref ((qq k 12)), .ref ((qq k 13)), .ref ((qq k 14))], zI t (qq k 12) 64 (fun _ => 0), zI t (qq k 13) 64 (fun _ => 0), zA t 2 (qq k 14) 64 (fun _ => none), zO 0 (qq k 15) [.ref ((no k)), .int 0, .ref ((qq k 16)), .ref ((qq k 20)), .ref ((qq k 24)), .int 0, .int 0, .int 0], zO 4 (qq k 16) [.ref ((qq k 17)), .ref ((qq k 18)), .ref ((qq k 19))], zI t (qq k 17) 32 (fun _ => 0), zI t (qq k 18) 32 (fun _ => 0), zA t 2 (qq k 19) 32 (fun _ => none), zO 4 (qq k 20) [.ref ((qq k 21)), .ref ((qq k 22)), .ref ((qq k 23))], zI t (qq k 21) 4 (fun _ => 0), zI t (qq k 22) 4 (fun _ => 0), zA t 2 (qq k 23) 4 (fun _ => none), zA t 2 (qq k 24) 16 (fun _ => none), zJ t ou 1 (fun _ => 0)] (xe_i D vwCl (fun (r : Int32) (_ : Unit) => r = 0) (fun _ => [zJ t ou 1 (xo (0))])) 0 0 := by
  refine xh_of (by decide) (Nat.le_of_ble_eq_true rfl) ?_
  intro p e s m below meth c ls A Z htab hG hr hlocks hin hA hP hD hS hl
  obtain ⟨hx, hb, hml, hown, hK⟩ := id Z
  have hown : s.vm.findClass "QuorumStoreLaw" = some m.cls := hown
  have hts := hK.1.at (args := ([.ref xa, .int (nI k), .int (nI j), .int 1, .ref ou] : List Value).toArray)
  have hl : lv_has ls 6 [(0, .ref xa), (1, .int (nI k)), (2, .int (nI j)), (3, .int 1), (4, .ref ou)] := hl
  refine lv_aload hx hb d_W_answer_0 (lv_at hl 4 rfl) ?_
  refine lv_iconst (v := 0) hx hb d_W_answer_2 (by decide) ?_
  refine lv_aload_n hx hb d_W_answer_3 rfl (lv_at hl 0 rfl) ?_
  refine lv_iload_n hx hb d_W_answer_4 rfl (lv_at hl 1 rfl) ?_
  refine lv_iload_n hx hb d_W_answer_5 rfl (lv_at hl 2 rfl) ?_
  refine lv_iload_n hx hb d_W_answer_6 rfl (lv_at hl 3 rfl) ?_
  refine xr_call (xs_V (As := [.int (nI k), .int (nI j), .int 1]) (rest := [.int 0, .ref ou]) Z (C_Q_answer_1 l D t xa nw na rw qq no mk k hk j hj) m_Q_answer k_780 k_781 k_782 rfl rfl ⟨Nat.le_of_ble_eq_true rfl, Nat.le_of_ble_eq_true rfl⟩ (va_recv hK.2 hP (ci := 7) (q0 := 0) rfl rfl) (xr_pre hK (hP.sub [0, 1, 2, 3, 4, 5, 6, 7, 8, 9, 10, 11, 12, 13, 14, 15, 16, 17, 18, 19, 20, 21, 22, 23, 24, 25, 26, 27, 28] rfl)) rfl hl.1 rfl (Nat.le_of_ble_eq_true rfl) d_W_answer_7 ⟨Nat.le_of_ble_eq_true rfl, Nat.le_of_ble_eq_true rfl⟩) ?_
  refine va_last hx hb hK.2 hP hD hS 29 1 rfl rfl (by unfold vp_in; decide) d_W_answer_10 (fun H locs hP hD hS => ?_)
  rw [xu_o] at hP hD
  have hP : va_P D vwCl [zO 7 xa [.ref nw, .ref na, .int 0], zA t 4 na 7 (fun j => some (qq j 0)), zO 2 nw [.ref rw, .int 0, .int 0, .int 0, .int 0], zA t 3 rw 300 (fun _ => none), zO 3 (qq k 0) [.int (nI k), .ref nw, .int 0, .int 0, .int 0, .ref ((qq k 1)), .ref ((qq k 7)), .ref ((qq k 11)), .int 1, .int 0, .int 0, .int (nI (8 + 3 * k)), .int ((-1)), .int 0, .ref ((qq k 15))], zO 5 (qq k 1) [.ref ((qq k 2)), .ref ((qq k 3)), .ref ((qq k 4)), .ref ((qq k 5)), .ref ((qq k 6)), .int 1], zJ t (qq k 2) 32 (fun _ => 1099511627776), zI t (qq k 3) 8 (fun _ => 0), zJ t (qq k 4) 8 (fun _ => 0), zI t (qq k 5) 4 (xm 1), zI t (qq k 6) 4 (xm mk), zO 4 (qq k 7) [.ref ((qq k 8)), .ref ((qq k 9)), .ref ((qq k 10))], zI t (qq k 8) 32 (fun _ => 0), zI t (qq k 9) 32 (fun _ => 0), zA t 2 (qq k 10) 32 (fun _ => none), zO 4 (qq k 11) [.ref ((qq k 12)), .ref ((qq k 13)), .ref ((qq k 14))], zI t (qq k 12) 64 (fun _ => 0), zI t (qq k 13) 64 (fun _ => 0), zA t 2 (qq k 14) 64 (fun _ => none), zO 0 (qq k 15) [.ref ((no k)), .int 0, .ref ((qq k 16)), .ref ((qq k 20)), .ref ((qq k 24)), .int 0, .int 0, .int 0], zO 4 (qq k 16) [.ref ((qq k 17)), .ref ((qq k 18)), .ref ((qq k 19))], zI t (qq k 17) 32 (fun _ => 0), zI t (qq k 18) 32 (fun _ => 0), zA t 2 (qq k 19) 32 (fun _ => none), zO 4 (qq k 20) [.ref ((qq k 21)), .ref ((qq k 22)), .ref ((qq k 23))], zI t (qq k 21) 4 (fun _ => 0), zI t (qq k 22) 4 (fun _ => 0), zA t 2 (qq k 23) 4 (fun _ => none), zA t 2 (qq k 24) 16 (fun _ => none), zJ t ou 1 (xo (0))] H := hP
  have hD : va_D A [zO 7 xa [.ref nw, .ref na, .int 0], zA t 4 na 7 (fun j => some (qq j 0)), zO 2 nw [.ref rw, .int 0, .int 0, .int 0, .int 0], zA t 3 rw 300 (fun _ => none), zO 3 (qq k 0) [.int (nI k), .ref nw, .int 0, .int 0, .int 0, .ref ((qq k 1)), .ref ((qq k 7)), .ref ((qq k 11)), .int 1, .int 0, .int 0, .int (nI (8 + 3 * k)), .int ((-1)), .int 0, .ref ((qq k 15))], zO 5 (qq k 1) [.ref ((qq k 2)), .ref ((qq k 3)), .ref ((qq k 4)), .ref ((qq k 5)), .ref ((qq k 6)), .int 1], zJ t (qq k 2) 32 (fun _ => 1099511627776), zI t (qq k 3) 8 (fun _ => 0), zJ t (qq k 4) 8 (fun _ => 0), zI t (qq k 5) 4 (xm 1), zI t (qq k 6) 4 (xm mk), zO 4 (qq k 7) [.ref ((qq k 8)), .ref ((qq k 9)), .ref ((qq k 10))], zI t (qq k 8) 32 (fun _ => 0), zI t (qq k 9) 32 (fun _ => 0), zA t 2 (qq k 10) 32 (fun _ => none), zO 4 (qq k 11) [.ref ((qq k 12)), .ref ((qq k 13)), .ref ((qq k 14))], zI t (qq k 12) 64 (fun _ => 0), zI t (qq k 13) 64 (fun _ => 0), zA t 2 (qq k 14) 64 (fun _ => none), zO 0 (qq k 15) [.ref ((no k)), .int 0, .ref ((qq k 16)), .ref ((qq k 20)), .ref ((qq k 24)), .int 0, .int 0, .int 0], zO 4 (qq k 16) [.ref ((qq k 17)), .ref ((qq k 18)), .ref ((qq k 19))], zI t (qq k 17) 32 (fun _ => 0), zI t (qq k 18) 32 (fun _ => 0), zA t 2 (qq k 19) 32 (fun _ => none), zO 4 (qq k 20) [.ref ((qq k 21)), .ref ((qq k 22)), .ref ((qq k 23))], zI t (qq k 21) 4 (fun _ => 0), zI t (qq k 22) 4 (fun _ => 0), zA t 2 (qq k 23) 4 (fun _ => none), zA t 2 (qq k 24) 16 (fun _ => none), zJ t ou 1 (xo (0))] := hD
  refine lv_goto (tgt := 22) hx hb d_W_answer_11 (by decide) ?_
  refine lv_iconst (v := 0) hx hb d_W_answer_22 (by decide) ?_
  have hP := hP.sub (ws' := [zJ t ou 1 (xo (0))]) [29] rfl
  have hD := hD.sub (ws' := [zJ t ou 1 (xo (0))]) [29] (by decide) rfl
  exact W.iret hx hb hr (fun t ht hW => ⟨⟨0, (), rfl, rfl, by rw [ht]; exact hP, hD⟩, hS.F ht⟩) hS.2.2 d_W_answer_23
theorem d_W_number_0 : decode c_W_number 0 = .ok (.aload_n 3, 1) := by decide +kernel
theorem d_W_number_1 : decode c_W_number 1 = .ok (.iconst 0, 1) := by decide +kernel
theorem d_W_number_2 : decode c_W_number 2 = .ok (.aload_n 0, 1) := by decide +kernel
theorem d_W_number_3 : decode c_W_number 3 = .ok (.iload_n 1, 1) := by decide +kernel
theorem d_W_number_4 : decode c_W_number 4 = .ok (.iload_n 2, 1) := by decide +kernel
theorem d_W_number_5 : decode c_W_number 5 = .ok (.invokevirtual 50, 3) := by decide +kernel
theorem d_W_number_12 : decode c_W_number 12 = .ok (.astore 4, 2) := by decide +kernel
theorem d_W_number_14 : decode c_W_number 14 = .ok (.iconst 1, 1) := by decide +kernel
theorem d_W_number_15 : decode c_W_number 15 = .ok (.ireturn, 1) := by decide +kernel
set_option maxHeartbeats 4000000 in
set_option maxRecDepth 100000 in
/-- number: the throw is caught -/
theorem H_number (l : Launch) (hfl : l.flags = pinnedFlags ++ [noTraceFlag]) (D : va_G) (t : Nat → ClassId) (xa nw na rw ou : Nat) (qq : Nat → Nat → Nat) (n a2 : Int32) (hn : n < 0 ∨ 7 ≤ n) : xh_C l D vwCl (xTY t) y_W_number c_W_number 5 (Option.some FieldType.int) [(0, 9, 12, 18)] ({ frames := 8, cells := 1, slots := 6, locals := 126 }) [.ref xa, .int n, .int a2, .ref ou] [zO 7 xa [.ref nw, .ref na, .int 0], zA t 4 na 7 (fun j => some (qq j 0)), zO 2 nw [.ref rw, .int 0, .int 0, .int 0, .int 0], zA t 3 rw 300 (fun _ => none), zJ t ou 1 (fun _ => 0)] (xe_i D vwCl (fun (r : Int32) (_ : Unit) => r = 1) (fun _ => [])) 1 6 := by
  refine xh_of (by decide) (Nat.le_of_ble_eq_true rfl) ?_
  intro p e s m below meth c ls A Z htab hG hr hlocks hin hA hP hD hS hl
  obtain ⟨hx, hb, hml, hown, hK⟩ := id Z
  have hown : s.vm.findClass "QuorumStoreLaw" = some m.cls := hown
  have hts := hK.1.at (args := ([.ref xa, .int n, .int a2, .ref ou] : List Value).toArray)
  have hl : lv_has ls 5 [(0, .ref xa), (1, .int n), (2, .int a2), (3, .ref ou)] := hl
  refine lv_aload_n hx hb d_W_number_0 rfl (lv_at hl 3 rfl) ?_
  refine lv_iconst (v := 0) hx hb d_W_number_1 (by decide) ?_
  refine lv_aload_n hx hb d_W_number_2 rfl (lv_at hl 0 rfl) ?_
  refine lv_iload_n hx hb d_W_number_3 rfl (lv_at hl 1 rfl) ?_
  refine lv_iload_n hx hb d_W_number_4 rfl (lv_at hl 2 rfl) ?_
  refine xt_catch (hpc := 12) (xt_V (As := [.int n, .int a2]) (rest := [.int 0, .ref ou]) Z (T_Q_number l hfl D t xa nw na qq n a2 hn) m_Q_number k_788 k_789 k_790 rfl rfl ⟨Nat.le_of_ble_eq_true rfl, Nat.le_of_ble_eq_true rfl⟩ (va_recv hK.2 hP (ci := 7) (q0 := 0) rfl rfl) (hP.sub [0, 1] rfl) hG.1 (fun _ _ => rfl) rfl hl.1 rfl (Nat.le_of_ble_eq_true rfl) d_W_number_5 ⟨Nat.le_of_ble_eq_true rfl, Nat.le_of_ble_eq_true rfl⟩) (fun T a cell X9 g1 g2 g3 => xf_first (g := F0 m 5 ls [.int 0, .ref ou]) X9 htab rfl rfl (by decide) hown (hts _ k_544) (hts _ k_555) g1 g2 g3) (fun H1 x hold => ?_)
  have hS := xh_S1 hS hold
  refine lv_astore (lv' := [(4, .ref x), (0, .ref xa), (1, .int n), (2, .int a2), (3, .ref ou)]) hx hb d_W_number_12 hl (by decide) rfl (fun ls hl => ?_)
  refine lv_iconst (v := 1) hx hb d_W_number_14 (by decide) ?_
  exact W.iret hx hb hr (fun t ht hW => ⟨⟨_, (), rfl, rfl, xn_P, xn_D⟩, hS.F ht⟩) hS.2.2 d_W_number_15
set_option maxHeartbeats 4000000 in
set_option maxRecDepth 100000 in
/-- number: the throw is caught -/
theorem H2_number (l : Launch) (hfl : l.flags = pinnedFlags ++ [noTraceFlag]) (D : va_G) (t : Nat → ClassId) (xa nw na rw ou : Nat) (qq : Nat → Nat → Nat) (no : Nat → Nat) (mk : Int32) (k : Nat) (hk : k < 7) (a2 : Int32) (hn : a2 < 0 ∨ 32 ≤ a2) : xh_C l D vwCl (xTY t) y_W_number c_W_number 5 (Option.some FieldType.int) [(0, 9, 12, 18)] ({ frames := 7, cells := 1, slots := 6, locals := 105 }) [.ref xa, .int (nI k), .int a2, .ref ou] [zO 7 xa [.ref nw, .ref na, .int 0], zA t 4 na 7 (fun j => some (qq j 0)), zO 2 nw [.ref rw, .int 0, .int 0, .int 0, .int 0], zA t 3 rw 300 (fun _ => none), zO 3 (qq k 0) [.int (nI k), .ref nw, .int 0, .int 0, .int 0, .ref ((qq k 1)), .ref ((qq k 7)), .ref ((qq k 11)), .int 1, .int 0, .int 0, .int (nI (8 + 3 * k)), .int ((-1)), .int 0, .ref ((qq k 15))], zO 5 (qq k 1) [.ref ((qq k 2)), .ref ((qq k 3)), .ref ((qq k 4)), .ref ((qq k 5)), .ref ((qq k 6)), .int 1], zJ t (qq k 2) 32 (fun _ => 1099511627776), zI t (qq k 3) 8 (fun _ => 0), zJ t (qq k 4) 8 (fun _ => 0), zI t (qq k 5) 4 (xm 1), zI t (qq k 6) 4 (xm mk), zO 4 (qq k 7) [.ref ((qq k 8)), .ref ((qq k 9)), .ref ((qq k 10))], zI t (qq k 8) 32 (fun _ => 0), zI t (qq k 9) 32 (fun _ => 0), zA t 2 (qq k 10) 32 (fun _ => none), zO 4 (qq k 11) [.ref ((qq k 12)), .ref ((qq k 13)), .ref ((qq k 14))], zI t (qq k 12) 64 (fun _ => 0), zI t (qq k 13) 64 (fun _ => 0), zA t 2 (qq k 14) 64 (fun _ => none), zO 0 (qq k 15) [.ref ((no k)), .int 0, .ref ((qq k 16)), .ref ((qq k 20)), .ref ((qq k 24)), .int 0, .int 0, .int 0], zO 4 (qq k 16) [.ref ((qq k 17)), .ref ((qq k 18)), .ref ((qq k 19))], zI t (qq k 17) 32 (fun _ => 0), zI t (qq k 18) 32 (fun _ => 0), zA t 2 (qq k 19) 32 (fun _ => none), zO 4 (qq k 20) [.ref ((qq k 21)), .ref ((qq k 22)), .ref ((qq k 23))], zI t (qq k 21) 4 (fun _ => 0), zI t (qq k 22) 4 (fun _ => 0), zA t 2 (qq k 23) 4 (fun _ => none), zA t 2 (qq k 24) 16 (fun _ => none), zJ t ou 1 (fun _ => 0)] (xe_i D vwCl (fun (r : Int32) (_ : Unit) => r = 1) (fun _ => [])) 1 6 := by
  refine xh_of (by decide) (Nat.le_of_ble_eq_true rfl) ?_
  intro p e s m below meth c ls A Z htab hG hr hlocks hin hA hP hD hS hl
  obtain ⟨hx, hb, hml, hown, hK⟩ := id Z
  have hown : s.vm.findClass "QuorumStoreLaw" = some m.cls := hown
  have hts := hK.1.at (args := ([.ref xa, .int (nI k), .int a2, .ref ou] : List Value).toArray)
  have hl : lv_has ls 5 [(0, .ref xa), (1, .int (nI k)), (2, .int a2), (3, .ref ou)] := hl
  refine lv_aload_n hx hb d_W_number_0 rfl (lv_at hl 3 rfl) ?_
  refine lv_iconst (v := 0) hx hb d_W_number_1 (by decide) ?_
  refine lv_aload_n hx hb d_W_number_2 rfl (lv_at hl 0 rfl) ?_
  refine lv_iload_n hx hb d_W_number_3 rfl (lv_at hl 1 rfl) ?_
  refine lv_iload_n hx hb d_W_number_4 rfl (lv_at hl 2 rfl) ?_
  refine xt_catch (hpc := 12) (xt_V (As := [.int (nI k), .int a2]) (rest := [.int 0, .ref ou]) Z (T2_Q_number l hfl D t xa nw na rw qq no mk k hk a2 hn) m_Q_number k_788 k_789 k_790 rfl rfl ⟨Nat.le_of_ble_eq_true rfl, Nat.le_of_ble_eq_true rfl⟩ (va_recv hK.2 hP (ci := 7) (q0 := 0) rfl rfl) (hP.sub [0, 1, 2, 3, 4, 5, 6, 7, 8, 9, 10, 11, 12, 13, 14, 15, 16, 17, 18, 19, 20, 21, 22, 23, 24, 25, 26, 27, 28] rfl) hG.1 (fun _ _ => rfl) rfl hl.1 rfl (Nat.le_of_ble_eq_true rfl) d_W_number_5 ⟨Nat.le_of_ble_eq_true rfl, Nat.le_of_ble_eq_true rfl⟩) (fun T a cell X9 g1 g2 g3 => xf_first (g := F0 m 5 ls [.int 0, .ref ou]) X9 htab rfl rfl (by decide) hown (hts _ k_544) (hts _ k_555) g1 g2 g3) (fun H1 x hold => ?_)
  have hS := xh_S1 hS hold
  refine lv_astore (lv' := [(4, .ref x), (0, .ref xa), (1, .int (nI k)), (2, .int a2), (3, .ref ou)]) hx hb d_W_number_12 hl (by decide) rfl (fun ls hl => ?_)
  refine lv_iconst (v := 1) hx hb d_W_number_14 (by decide) ?_
  exact W.iret hx hb hr (fun t ht hW => ⟨⟨_, (), rfl, rfl, xn_P, xn_D⟩, hS.F ht⟩) hS.2.2 d_W_number_15
theorem d_W_number_8 : decode c_W_number 8 = .ok (.lastore, 1) := by decide +kernel
theorem d_W_number_9 : decode c_W_number 9 = .ok (.goto 7, 3) := by decide +kernel
theorem d_W_number_16 : decode c_W_number 16 = .ok (.iconst 0, 1) := by decide +kernel
theorem d_W_number_17 : decode c_W_number 17 = .ok (.ireturn, 1) := by decide +kernel
set_option maxHeartbeats 4000000 in
set_option maxRecDepth 100000 in
/-- number: its answer -/
theorem R_number (l : Launch) (hfl : l.flags = pinnedFlags ++ [noTraceFlag]) (D : va_G) (t : Nat → ClassId) (xa nw na rw ou : Nat) (qq : Nat → Nat → Nat) (no : Nat → Nat) (mk : Int32) (k : Nat) (hk : k < 7) (j : Nat) (hj : j < 32) : xh_C l D vwCl (xTY t) y_W_number c_W_number 5 (Option.some FieldType.int) [(0, 9, 12, 18)] ({ frames := 2, cells := 0, slots := 0, locals := 44 }) [.ref xa, .int (nI k), .int (nI j), .ref ou] [zO 7 xa [.ref nw, .ref na, .int 0], zA t 4 na 7 (fun j => some (qq j 0)), zO 2 nw [.ref rw, .int 0, .int 0, .int 0, .int 0], zA t 3 rw 300 (fun _ => none), zO 3 (qq k 0) [.int (nI k), .ref nw, .int 0, .int 0, .int 0, .ref ((qq k 1)), .ref ((qq k 7)), .ref ((qq k 11)), .int 1, .int 0, .int 0, .int (nI (8 + 3 * k)), .int ((-1)), .int 0, .ref ((qq k 15))], zO 5 (qq k 1) [.ref ((qq k 2)), .ref ((qq k 3)), .ref ((qq k 4)), .ref ((qq k 5)), .ref ((qq k 6)), .int 1], zJ t (qq k 2) 32 (fun _ => 1099511627776), zI t (qq k 3) 8 (fun _ => 0), zJ t (qq k 4) 8 (fun _ => 0), zI t (qq k 5) 4 (xm 1), zI t (qq k 6) 4 (xm mk), zO 4 (qq k 7) [.ref ((qq k 8)), .ref ((qq k 9)), .ref ((qq k 10))], zI t (qq k 8) 32 (fun _ => 0), zI t (qq k 9) 32 (fun _ => 0), zA t 2 (qq k 10) 32 (fun _ => none), zO 4 (qq k 11) [.ref ((qq k 12)), .ref ((qq k 13)), .ref ((qq k 14))], zI t (qq k 12) 64 (fun _ => 0), zI t (qq k 13) 64 (fun _ => 0), zA t 2 (qq k 14) 64 (fun _ => none), zO 0 (qq k 15) [.ref ((no k)), .int 0, .ref ((qq k 16)), .ref ((qq k 20)), .ref ((qq k 24)), .int 0, .int 0, .int 0], zO 4 (qq k 16) [.ref ((qq k 17)), .ref ((qq k 18)), .ref ((qq k 19))], zI t (qq k 17) 32 (fun _ => 0), zI t (qq k 18) 32 (fun _ => 0), zA t 2 (qq k 19) 32 (fun _ => none), zO 4 (qq k 20) [.ref ((qq k 21)), .ref ((qq k 22)), .ref ((qq k 23))], zI t (qq k 21) 4 (fun _ => 0), zI t (qq k 22) 4 (fun _ => 0), zA t 2 (qq k 23) 4 (fun _ => none), zA t 2 (qq k 24) 16 (fun _ => none), zJ t ou 1 (fun _ => 0)] (xe_i D vwCl (fun (r : Int32) (_ : Unit) => r = 0) (fun _ => [zJ t ou 1 (xo (1099511627776))])) 0 0 := by
  refine xh_of (by decide) (Nat.le_of_ble_eq_true rfl) ?_
  intro p e s m below meth c ls A Z htab hG hr hlocks hin hA hP hD hS hl
  obtain ⟨hx, hb, hml, hown, hK⟩ := id Z
  have hown : s.vm.findClass "QuorumStoreLaw" = some m.cls := hown
  have hts := hK.1.at (args := ([.ref xa, .int (nI k), .int (nI j), .ref ou] : List Value).toArray)
  have hl : lv_has ls 5 [(0, .ref xa), (1, .int (nI k)), (2, .int (nI j)), (3, .ref ou)] := hl
  refine lv_aload_n hx hb d_W_number_0 rfl (lv_at hl 3 rfl) ?_
  refine lv_iconst (v := 0) hx hb d_W_number_1 (by decide) ?_
  refine lv_aload_n hx hb d_W_number_2 rfl (lv_at hl 0 rfl) ?_
  refine lv_iload_n hx hb d_W_number_3 rfl (lv_at hl 1 rfl) ?_
  refine lv_iload_n hx hb d_W_number_4 rfl (lv_at hl 2 rfl) ?_
  refine xr_call (xs_V (As := [.int (nI k), .int (nI j)]) (rest := [.int 0, .ref ou]) Z (C_Q_number l D t xa nw na rw qq no mk k hk j hj) m_Q_number k_788 k_789 k_790 rfl rfl ⟨Nat.le_of_ble_eq_true rfl, Nat.le_of_ble_eq_true rfl⟩ (va_recv hK.2 hP (ci := 7) (q0 := 0) rfl rfl) (xr_pre hK (hP.sub [0, 1, 2, 3, 4, 5, 6, 7, 8, 9, 10, 11, 12, 13, 14, 15, 16, 17, 18, 19, 20, 21, 22, 23, 24, 25, 26, 27, 28] rfl)) rfl hl.1 rfl (Nat.le_of_ble_eq_true rfl) d_W_number_5 ⟨Nat.le_of_ble_eq_true rfl, Nat.le_of_ble_eq_true rfl⟩) ?_
  refine va_last hx hb hK.2 hP hD hS 29 1 rfl rfl (by unfold vp_in; decide) d_W_number_8 (fun H locs hP hD hS => ?_)
  rw [xu_o] at hP hD
  have hP : va_P D vwCl [zO 7 xa [.ref nw, .ref na, .int 0], zA t 4 na 7 (fun j => some (qq j 0)), zO 2 nw [.ref rw, .int 0, .int 0, .int 0, .int 0], zA t 3 rw 300 (fun _ => none), zO 3 (qq k 0) [.int (nI k), .ref nw, .int 0, .int 0, .int 0, .ref ((qq k 1)), .ref ((qq k 7)), .ref ((qq k 11)), .int 1, .int 0, .int 0, .int (nI (8 + 3 * k)), .int ((-1)), .int 0, .ref ((qq k 15))], zO 5 (qq k 1) [.ref ((qq k 2)), .ref ((qq k 3)), .ref ((qq k 4)), .ref ((qq k 5)), .ref ((qq k 6)), .int 1], zJ t (qq k 2) 32 (fun _ => 1099511627776), zI t (qq k 3) 8 (fun _ => 0), zJ t (qq k 4) 8 (fun _ => 0), zI t (qq k 5) 4 (xm 1), zI t (qq k 6) 4 (xm mk), zO 4 (qq k 7) [.ref ((qq k 8)), .ref ((qq k 9)), .ref ((qq k 10))], zI t (qq k 8) 32 (fun _ => 0), zI t (qq k 9) 32 (fun _ => 0), zA t 2 (qq k 10) 32 (fun _ => none), zO 4 (qq k 11) [.ref ((qq k 12)), .ref ((qq k 13)), .ref ((qq k 14))], zI t (qq k 12) 64 (fun _ => 0), zI t (qq k 13) 64 (fun _ => 0), zA t 2 (qq k 14) 64 (fun _ => none), zO 0 (qq k 15) [.ref ((no k)), .int 0, .ref ((qq k 16)), .ref ((qq k 20)), .ref ((qq k 24)), .int 0, .int 0, .int 0], zO 4 (qq k 16) [.ref ((qq k 17)), .ref ((qq k 18)), .ref ((qq k 19))], zI t (qq k 17) 32 (fun _ => 0), zI t (qq k 18) 32 (fun _ => 0), zA t 2 (qq k 19) 32 (fun _ => none), zO 4 (qq k 20) [.ref ((qq k 21)), .ref ((qq k 22)), .ref ((qq k 23))], zI t (qq k 21) 4 (fun _ => 0), zI t (qq k 22) 4 (fun _ => 0), zA t 2 (qq k 23) 4 (fun _ => none), zA t 2 (qq k 24) 16 (fun _ => none), zJ t ou 1 (xo (1099511627776))] H := hP
  have hD : va_D A [zO 7 xa [.ref nw, .ref na, .int 0], zA t 4 na 7 (fun j => some (qq j 0)), zO 2 nw [.ref rw, .int 0, .int 0, .int 0, .int 0], zA t 3 rw 300 (fun _ => none), zO 3 (qq k 0) [.int (nI k), .ref nw, .int 0, .int 0, .int 0, .ref ((qq k 1)), .ref ((qq k 7)), .ref ((qq k 11)), .int 1, .int 0, .int 0, .int (nI (8 + 3 * k)), .int ((-1)), .int 0, .ref ((qq k 15))], zO 5 (qq k 1) [.ref ((qq k 2)), .ref ((qq k 3)), .ref ((qq k 4)), .ref ((qq k 5)), .ref ((qq k 6)), .int 1], zJ t (qq k 2) 32 (fun _ => 1099511627776), zI t (qq k 3) 8 (fun _ => 0), zJ t (qq k 4) 8 (fun _ => 0), zI t (qq k 5) 4 (xm 1), zI t (qq k 6) 4 (xm mk), zO 4 (qq k 7) [.ref ((qq k 8)), .ref ((qq k 9)), .ref ((qq k 10))], zI t (qq k 8) 32 (fun _ => 0), zI t (qq k 9) 32 (fun _ => 0), zA t 2 (qq k 10) 32 (fun _ => none), zO 4 (qq k 11) [.ref ((qq k 12)), .ref ((qq k 13)), .ref ((qq k 14))], zI t (qq k 12) 64 (fun _ => 0), zI t (qq k 13) 64 (fun _ => 0), zA t 2 (qq k 14) 64 (fun _ => none), zO 0 (qq k 15) [.ref ((no k)), .int 0, .ref ((qq k 16)), .ref ((qq k 20)), .ref ((qq k 24)), .int 0, .int 0, .int 0], zO 4 (qq k 16) [.ref ((qq k 17)), .ref ((qq k 18)), .ref ((qq k 19))], zI t (qq k 17) 32 (fun _ => 0), zI t (qq k 18) 32 (fun _ => 0), zA t 2 (qq k 19) 32 (fun _ => none), zO 4 (qq k 20) [.ref ((qq k 21)), .ref ((qq k 22)), .ref ((qq k 23))], zI t (qq k 21) 4 (fun _ => 0), zI t (qq k 22) 4 (fun _ => 0), zA t 2 (qq k 23) 4 (fun _ => none), zA t 2 (qq k 24) 16 (fun _ => none), zJ t ou 1 (xo (1099511627776))] := hD
  refine lv_goto (tgt := 16) hx hb d_W_number_9 (by decide) ?_
  refine lv_iconst (v := 0) hx hb d_W_number_16 (by decide) ?_
  have hP := hP.sub (ws' := [zJ t ou 1 (xo (1099511627776))]) [29] rfl
  have hD := hD.sub (ws' := [zJ t ou 1 (xo (1099511627776))]) [29] (by decide) rfl
  exact W.iret hx hb hr (fun t ht hW => ⟨⟨0, (), rfl, rfl, by rw [ht]; exact hP, hD⟩, hS.F ht⟩) hS.2.2 d_W_number_17
theorem d_W_known_0 : decode c_W_known 0 = .ok (.aload 4, 2) := by decide +kernel
theorem d_W_known_2 : decode c_W_known 2 = .ok (.iconst 0, 1) := by decide +kernel
theorem d_W_known_3 : decode c_W_known 3 = .ok (.aload_n 0, 1) := by decide +kernel
theorem d_W_known_4 : decode c_W_known 4 = .ok (.iload_n 1, 1) := by decide +kernel
theorem d_W_known_5 : decode c_W_known 5 = .ok (.iload_n 2, 1) := by decide +kernel
theorem d_W_known_6 : decode c_W_known 6 = .ok (.iload_n 3, 1) := by decide +kernel
theorem d_W_known_7 : decode c_W_known 7 = .ok (.invokevirtual 54, 3) := by decide +kernel
theorem d_W_known_15 : decode c_W_known 15 = .ok (.astore 5, 2) := by decide +kernel
theorem d_W_known_17 : decode c_W_known 17 = .ok (.iconst 1, 1) := by decide +kernel
theorem d_W_known_18 : decode c_W_known 18 = .ok (.ireturn, 1) := by decide +kernel
set_option maxHeartbeats 4000000 in
set_option maxRecDepth 100000 in
/-- known: the throw is caught -/
theorem H_known (l : Launch) (hfl : l.flags = pinnedFlags ++ [noTraceFlag]) (D : va_G) (t : Nat → ClassId) (xa nw na rw ou : Nat) (qq : Nat → Nat → Nat) (n a2 a3 : Int32) (hn : n < 0 ∨ 7 ≤ n) : xh_C l D vwCl (xTY t) y_W_known c_W_known 6 (Option.some FieldType.int) [(0, 12, 15, 18), (0, 12, 19, 13)] ({ frames := 8, cells := 1, slots := 6, locals := 127 }) [.ref xa, .int n, .int a2, .int a3, .ref ou] [zO 7 xa [.ref nw, .ref na, .int 0], zA t 4 na 7 (fun j => some (qq j 0)), zO 2 nw [.ref rw, .int 0, .int 0, .int 0, .int 0], zA t 3 rw 300 (fun _ => none), zJ t ou 1 (fun _ => 0)] (xe_i D vwCl (fun (r : Int32) (_ : Unit) => r = 1) (fun _ => [])) 1 6 := by
  refine xh_of (by decide) (Nat.le_of_ble_eq_true rfl) ?_
  intro p e s m below meth c ls A Z htab hG hr hlocks hin hA hP hD hS hl
  obtain ⟨hx, hb, hml, hown, hK⟩ := id Z
  have hown : s.vm.findClass "QuorumStoreLaw" = some m.cls := hown
  have hts := hK.1.at (args := ([.ref xa, .int n, .int a2, .int a3, .ref ou] : List Value).toArray)
  have hl : lv_has ls 6 [(0, .ref xa), (1, .int n), (2, .int a2), (3, .int a3), (4, .ref ou)] := hl
  refine lv_aload hx hb d_W_known_0 (lv_at hl 4 rfl) ?_
  refine lv_iconst (v := 0) hx hb d_W_known_2 (by decide) ?_
  refine lv_aload_n hx hb d_W_known_3 rfl (lv_at hl 0 rfl) ?_
  refine lv_iload_n hx hb d_W_known_4 rfl (lv_at hl 1 rfl) ?_
  refine lv_iload_n hx hb d_W_known_5 rfl (lv_at hl 2 rfl) ?_
  refine lv_iload_n hx hb d_W_known_6 rfl (lv_at hl 3 rfl) ?_
  refine xt_catch (hpc := 15) (xt_V (As := [.int n, .int a2, .int a3]) (rest := [.int 0, .ref ou]) Z (T_Q_known l hfl D t xa nw na qq n a2 a3 hn) m_Q_known k_796 k_797 k_798 rfl rfl ⟨Nat.le_of_ble_eq_true rfl, Nat.le_of_ble_eq_true rfl⟩ (va_recv hK.2 hP (ci := 7) (q0 := 0) rfl rfl) (hP.sub [0, 1] rfl) hG.1 (fun _ _ => rfl) rfl hl.1 rfl (Nat.le_of_ble_eq_true rfl) d_W_known_7 ⟨Nat.le_of_ble_eq_true rfl, Nat.le_of_ble_eq_true rfl⟩) (fun T a cell X9 g1 g2 g3 => xf_first (g := F0 m 7 ls [.int 0, .ref ou]) X9 htab rfl rfl (by decide) hown (hts _ k_544) (hts _ k_555) g1 g2 g3) (fun H1 x hold => ?_)
  have hS := xh_S1 hS hold
  refine lv_astore (lv' := [(5, .ref x), (0, .ref xa), (1, .int n), (2, .int a2), (3, .int a3), (4, .ref ou)]) hx hb d_W_known_15 hl (by decide) rfl (fun ls hl => ?_)
  refine lv_iconst (v := 1) hx hb d_W_known_17 (by decide) ?_
  exact W.iret hx hb hr (fun t ht hW => ⟨⟨_, (), rfl, rfl, xn_P, xn_D⟩, hS.F ht⟩) hS.2.2 d_W_known_18
set_option maxHeartbeats 4000000 in
set_option maxRecDepth 100000 in
/-- known: the throw is caught -/
theorem H2_known (l : Launch) (hfl : l.flags = pinnedFlags ++ [noTraceFlag]) (D : va_G) (t : Nat → ClassId) (xa nw na rw ou : Nat) (qq : Nat → Nat → Nat) (no : Nat → Nat) (mk : Int32) (k : Nat) (hk : k < 7) (a2 a3 : Int32) : xh_C l D vwCl (xTY t) y_W_known c_W_known 6 (Option.some FieldType.int) [(0, 12, 15, 18), (0, 12, 19, 13)] ({ frames := 7, cells := 1, slots := 6, locals := 106 }) [.ref xa, .int (nI k), .int a2, .int a3, .ref ou] [zO 7 xa [.ref nw, .ref na, .int 0], zA t 4 na 7 (fun j => some (qq j 0)), zO 2 nw [.ref rw, .int 0, .int 0, .int 0, .int 0], zA t 3 rw 300 (fun _ => none), zO 3 (qq k 0) [.int (nI k), .ref nw, .int 0, .int 0, .int 0, .ref ((qq k 1)), .ref ((qq k 7)), .ref ((qq k 11)), .int 1, .int 0, .int 0, .int (nI (8 + 3 * k)), .int ((-1)), .int 0, .ref ((qq k 15))], zO 5 (qq k 1) [.ref ((qq k 2)), .ref ((qq k 3)), .ref ((qq k 4)), .ref ((qq k 5)), .ref ((qq k 6)), .int 1], zJ t (qq k 2) 32 (fun _ => 1099511627776), zI t (qq k 3) 8 (fun _ => 0), zJ t (qq k 4) 8 (fun _ => 0), zI t (qq k 5) 4 (xm 1), zI t (qq k 6) 4 (xm mk), zO 4 (qq k 7) [.ref ((qq k 8)), .ref ((qq k 9)), .ref ((qq k 10))], zI t (qq k 8) 32 (fun _ => 0), zI t (qq k 9) 32 (fun _ => 0), zA t 2 (qq k 10) 32 (fun _ => none), zO 4 (qq k 11) [.ref ((qq k 12)), .ref ((qq k 13)), .ref ((qq k 14))], zI t (qq k 12) 64 (fun _ => 0), zI t (qq k 13) 64 (fun _ => 0), zA t 2 (qq k 14) 64 (fun _ => none), zO 0 (qq k 15) [.ref ((no k)), .int 0, .ref ((qq k 16)), .ref ((qq k 20)), .ref ((qq k 24)), .int 0, .int 0, .int 0], zO 4 (qq k 16) [.ref ((qq k 17)), .ref ((qq k 18)), .ref ((qq k 19))], zI t (qq k 17) 32 (fun _ => 0), zI t (qq k 18) 32 (fun _ => 0), zA t 2 (qq k 19) 32 (fun _ => none), zO 4 (qq k 20) [.ref ((qq k 21)), .ref ((qq k 22)), .ref ((qq k 23))], zI t (qq k 21) 4 (fun _ => 0), zI t (qq k 22) 4 (fun _ => 0), zA t 2 (qq k 23) 4 (fun _ => none), zA t 2 (qq k 24) 16 (fun _ => none), zJ t ou 1 (fun _ => 0)] (xe_i D vwCl (fun (r : Int32) (_ : Unit) => r = 1) (fun _ => [])) 1 6 := by
  refine xh_of (by decide) (Nat.le_of_ble_eq_true rfl) ?_
  intro p e s m below meth c ls A Z htab hG hr hlocks hin hA hP hD hS hl
  obtain ⟨hx, hb, hml, hown, hK⟩ := id Z
  have hown : s.vm.findClass "QuorumStoreLaw" = some m.cls := hown
  have hts := hK.1.at (args := ([.ref xa, .int (nI k), .int a2, .int a3, .ref ou] : List Value).toArray)
  have hl : lv_has ls 6 [(0, .ref xa), (1, .int (nI k)), (2, .int a2), (3, .int a3), (4, .ref ou)] := hl
  refine lv_aload hx hb d_W_known_0 (lv_at hl 4 rfl) ?_
  refine lv_iconst (v := 0) hx hb d_W_known_2 (by decide) ?_
  refine lv_aload_n hx hb d_W_known_3 rfl (lv_at hl 0 rfl) ?_
  refine lv_iload_n hx hb d_W_known_4 rfl (lv_at hl 1 rfl) ?_
  refine lv_iload_n hx hb d_W_known_5 rfl (lv_at hl 2 rfl) ?_
  refine lv_iload_n hx hb d_W_known_6 rfl (lv_at hl 3 rfl) ?_
  refine xt_catch (hpc := 15) (xt_V (As := [.int (nI k), .int a2, .int a3]) (rest := [.int 0, .ref ou]) Z (T2_Q_known l hfl D t xa nw na rw qq no mk k hk a2 a3) m_Q_known k_796 k_797 k_798 rfl rfl ⟨Nat.le_of_ble_eq_true rfl, Nat.le_of_ble_eq_true rfl⟩ (va_recv hK.2 hP (ci := 7) (q0 := 0) rfl rfl) (hP.sub [0, 1, 2, 3, 4, 5, 6, 7, 8, 9, 10, 11, 12, 13, 14, 15, 16, 17, 18, 19, 20, 21, 22, 23, 24, 25, 26, 27, 28] rfl) hG.1 (fun _ _ => rfl) rfl hl.1 rfl (Nat.le_of_ble_eq_true rfl) d_W_known_7 ⟨Nat.le_of_ble_eq_true rfl, Nat.le_of_ble_eq_true rfl⟩) (fun T a cell X9 g1 g2 g3 => xf_first (g := F0 m 7 ls [.int 0, .ref ou]) X9 htab rfl rfl (by decide) hown (hts _ k_544) (hts _ k_555) g1 g2 g3) (fun H1 x hold => ?_)
  have hS := xh_S1 hS hold
  refine lv_astore (lv' := [(5, .ref x), (0, .ref xa), (1, .int (nI k)), (2, .int a2), (3, .int a3), (4, .ref ou)]) hx hb d_W_known_15 hl (by decide) rfl (fun ls hl => ?_)
  refine lv_iconst (v := 1) hx hb d_W_known_17 (by decide) ?_
  exact W.iret hx hb hr (fun t ht hW => ⟨⟨_, (), rfl, rfl, xn_P, xn_D⟩, hS.F ht⟩) hS.2.2 d_W_known_18
theorem d_W_about_0 : decode c_W_about 0 = .ok (.aload_n 3, 1) := by decide +kernel
theorem d_W_about_1 : decode c_W_about 1 = .ok (.iconst 0, 1) := by decide +kernel
theorem d_W_about_2 : decode c_W_about 2 = .ok (.aload_n 0, 1) := by decide +kernel
theorem d_W_about_3 : decode c_W_about 3 = .ok (.iload_n 1, 1) := by decide +kernel
theorem d_W_about_4 : decode c_W_about 4 = .ok (.iload_n 2, 1) := by decide +kernel
theorem d_W_about_5 : decode c_W_about 5 = .ok (.invokevirtual 58, 3) := by decide +kernel
theorem d_W_about_13 : decode c_W_about 13 = .ok (.astore 4, 2) := by decide +kernel
theorem d_W_about_15 : decode c_W_about 15 = .ok (.iconst 1, 1) := by decide +kernel
theorem d_W_about_16 : decode c_W_about 16 = .ok (.ireturn, 1) := by decide +kernel
set_option maxHeartbeats 4000000 in
set_option maxRecDepth 100000 in
/-- about: the throw is caught -/
theorem H_about (l : Launch) (hfl : l.flags = pinnedFlags ++ [noTraceFlag]) (D : va_G) (t : Nat → ClassId) (xa nw na rw ou : Nat) (qq : Nat → Nat → Nat) (n a2 : Int32) (hn : n < 0 ∨ 7 ≤ n) : xh_C l D vwCl (xTY t) y_W_about c_W_about 5 (Option.some FieldType.int) [(0, 10, 13, 18), (0, 10, 17, 13)] ({ frames := 8, cells := 1, slots := 6, locals := 126 }) [.ref xa, .int n, .int a2, .ref ou] [zO 7 xa [.ref nw, .ref na, .int 0], zA t 4 na 7 (fun j => some (qq j 0)), zO 2 nw [.ref rw, .int 0, .int 0, .int 0, .int 0], zA t 3 rw 300 (fun _ => none), zJ t ou 1 (fun _ => 0)] (xe_i D vwCl (fun (r : Int32) (_ : Unit) => r = 1) (fun _ => [])) 1 6 := by
  refine xh_of (by decide) (Nat.le_of_ble_eq_true rfl) ?_
  intro p e s m below meth c ls A Z htab hG hr hlocks hin hA hP hD hS hl
  obtain ⟨hx, hb, hml, hown, hK⟩ := id Z
  have hown : s.vm.findClass "QuorumStoreLaw" = some m.cls := hown
  have hts := hK.1.at (args := ([.ref xa, .int n, .int a2, .ref ou] : List Value).toArray)
  have hl : lv_has ls 5 [(0, .ref xa), (1, .int n), (2, .int a2), (3, .ref ou)] := hl
  refine lv_aload_n hx hb d_W_about_0 rfl (lv_at hl 3 rfl) ?_
  refine lv_iconst (v := 0) hx hb d_W_about_1 (by decide) ?_
  refine lv_aload_n hx hb d_W_about_2 rfl (lv_at hl 0 rfl) ?_
  refine lv_iload_n hx hb d_W_about_3 rfl (lv_at hl 1 rfl) ?_
  refine lv_iload_n hx hb d_W_about_4 rfl (lv_at hl 2 rfl) ?_
  refine xt_catch (hpc := 13) (xt_V (As := [.int n, .int a2]) (rest := [.int 0, .ref ou]) Z (T_Q_about l hfl D t xa nw na qq n a2 hn) m_Q_about k_805 k_806 k_807 rfl rfl ⟨Nat.le_of_ble_eq_true rfl, Nat.le_of_ble_eq_true rfl⟩ (va_recv hK.2 hP (ci := 7) (q0 := 0) rfl rfl) (hP.sub [0, 1] rfl) hG.1 (fun _ _ => rfl) rfl hl.1 rfl (Nat.le_of_ble_eq_true rfl) d_W_about_5 ⟨Nat.le_of_ble_eq_true rfl, Nat.le_of_ble_eq_true rfl⟩) (fun T a cell X9 g1 g2 g3 => xf_first (g := F0 m 5 ls [.int 0, .ref ou]) X9 htab rfl rfl (by decide) hown (hts _ k_544) (hts _ k_555) g1 g2 g3) (fun H1 x hold => ?_)
  have hS := xh_S1 hS hold
  refine lv_astore (lv' := [(4, .ref x), (0, .ref xa), (1, .int n), (2, .int a2), (3, .ref ou)]) hx hb d_W_about_13 hl (by decide) rfl (fun ls hl => ?_)
  refine lv_iconst (v := 1) hx hb d_W_about_15 (by decide) ?_
  exact W.iret hx hb hr (fun t ht hW => ⟨⟨_, (), rfl, rfl, xn_P, xn_D⟩, hS.F ht⟩) hS.2.2 d_W_about_16
theorem d_W_about_17 : decode c_W_about 17 = .ok (.astore 4, 2) := by decide +kernel
theorem d_W_about_19 : decode c_W_about 19 = .ok (.iconst 2, 1) := by decide +kernel
theorem d_W_about_20 : decode c_W_about 20 = .ok (.ireturn, 1) := by decide +kernel
set_option maxHeartbeats 4000000 in
set_option maxRecDepth 100000 in
/-- about: the throw is caught -/
theorem H2_about (l : Launch) (hfl : l.flags = pinnedFlags ++ [noTraceFlag]) (D : va_G) (t : Nat → ClassId) (xa nw na rw ou : Nat) (qq : Nat → Nat → Nat) (no : Nat → Nat) (mk : Int32) (k : Nat) (hk : k < 7) (wh : Int32) (hw : wh.toInt < 0 ∨ 13 < wh.toInt) : xh_C l D vwCl (xTY t) y_W_about c_W_about 5 (Option.some FieldType.int) [(0, 10, 13, 18), (0, 10, 17, 13)] ({ frames := 7, cells := 1, slots := 6, locals := 105 }) [.ref xa, .int (nI k), .int wh, .ref ou] [zO 7 xa [.ref nw, .ref na, .int 0], zA t 4 na 7 (fun j => some (qq j 0)), zO 2 nw [.ref rw, .int 0, .int 0, .int 0, .int 0], zA t 3 rw 300 (fun _ => none), zO 3 (qq k 0) [.int (nI k), .ref nw, .int 0, .int 0, .int 0, .ref ((qq k 1)), .ref ((qq k 7)), .ref ((qq k 11)), .int 1, .int 0, .int 0, .int (nI (8 + 3 * k)), .int ((-1)), .int 0, .ref ((qq k 15))], zO 5 (qq k 1) [.ref ((qq k 2)), .ref ((qq k 3)), .ref ((qq k 4)), .ref ((qq k 5)), .ref ((qq k 6)), .int 1], zJ t (qq k 2) 32 (fun _ => 1099511627776), zI t (qq k 3) 8 (fun _ => 0), zJ t (qq k 4) 8 (fun _ => 0), zI t (qq k 5) 4 (xm 1), zI t (qq k 6) 4 (xm mk), zO 4 (qq k 7) [.ref ((qq k 8)), .ref ((qq k 9)), .ref ((qq k 10))], zI t (qq k 8) 32 (fun _ => 0), zI t (qq k 9) 32 (fun _ => 0), zA t 2 (qq k 10) 32 (fun _ => none), zO 4 (qq k 11) [.ref ((qq k 12)), .ref ((qq k 13)), .ref ((qq k 14))], zI t (qq k 12) 64 (fun _ => 0), zI t (qq k 13) 64 (fun _ => 0), zA t 2 (qq k 14) 64 (fun _ => none), zO 0 (qq k 15) [.ref ((no k)), .int 0, .ref ((qq k 16)), .ref ((qq k 20)), .ref ((qq k 24)), .int 0, .int 0, .int 0], zO 4 (qq k 16) [.ref ((qq k 17)), .ref ((qq k 18)), .ref ((qq k 19))], zI t (qq k 17) 32 (fun _ => 0), zI t (qq k 18) 32 (fun _ => 0), zA t 2 (qq k 19) 32 (fun _ => none), zO 4 (qq k 20) [.ref ((qq k 21)), .ref ((qq k 22)), .ref ((qq k 23))], zI t (qq k 21) 4 (fun _ => 0), zI t (qq k 22) 4 (fun _ => 0), zA t 2 (qq k 23) 4 (fun _ => none), zA t 2 (qq k 24) 16 (fun _ => none), zJ t ou 1 (fun _ => 0)] (xe_i D vwCl (fun (r : Int32) (_ : Unit) => r = 2) (fun _ => [])) 1 6 := by
  refine xh_of (by decide) (Nat.le_of_ble_eq_true rfl) ?_
  intro p e s m below meth c ls A Z htab hG hr hlocks hin hA hP hD hS hl
  obtain ⟨hx, hb, hml, hown, hK⟩ := id Z
  have hown : s.vm.findClass "QuorumStoreLaw" = some m.cls := hown
  have hts := hK.1.at (args := ([.ref xa, .int (nI k), .int wh, .ref ou] : List Value).toArray)
  have hl : lv_has ls 5 [(0, .ref xa), (1, .int (nI k)), (2, .int wh), (3, .ref ou)] := hl
  refine lv_aload_n hx hb d_W_about_0 rfl (lv_at hl 3 rfl) ?_
  refine lv_iconst (v := 0) hx hb d_W_about_1 (by decide) ?_
  refine lv_aload_n hx hb d_W_about_2 rfl (lv_at hl 0 rfl) ?_
  refine lv_iload_n hx hb d_W_about_3 rfl (lv_at hl 1 rfl) ?_
  refine lv_iload_n hx hb d_W_about_4 rfl (lv_at hl 2 rfl) ?_
  refine xt_catch (hpc := 17) (xt_V (As := [.int (nI k), .int wh]) (rest := [.int 0, .ref ou]) Z (T2_Q_about l hfl D t xa nw na rw qq no mk k hk wh hw) m_Q_about k_805 k_806 k_807 rfl rfl ⟨Nat.le_of_ble_eq_true rfl, Nat.le_of_ble_eq_true rfl⟩ (va_recv hK.2 hP (ci := 7) (q0 := 0) rfl rfl) (hP.sub [0, 1, 2, 3, 4, 5, 6, 7, 8, 9, 10, 11, 12, 13, 14, 15, 16, 17, 18, 19, 20, 21, 22, 23, 24, 25, 26, 27, 28] rfl) hG.1 (fun _ _ => rfl) rfl hl.1 rfl (Nat.le_of_ble_eq_true rfl) d_W_about_5 ⟨Nat.le_of_ble_eq_true rfl, Nat.le_of_ble_eq_true rfl⟩) (fun T a cell X9 g1 g2 g3 => xf_second (g := F0 m 5 ls [.int 0, .ref ou]) X9 htab rfl rfl (by decide) rfl (by decide) hown (hts _ k_544) (hts _ k_275) (xc_nw (State.WarmedH.refl s) hG.2.2) (hts _ k_282) g1 g2 g3) (fun H1 x hold => ?_)
  have hS := xh_S1 hS hold
  refine lv_astore (lv' := [(4, .ref x), (0, .ref xa), (1, .int (nI k)), (2, .int wh), (3, .ref ou)]) hx hb d_W_about_17 hl (by decide) rfl (fun ls hl => ?_)
  refine lv_iconst (v := 2) hx hb d_W_about_19 (by decide) ?_
  exact W.iret hx hb hr (fun t ht hW => ⟨⟨_, (), rfl, rfl, xn_P, xn_D⟩, hS.F ht⟩) hS.2.2 d_W_about_20
theorem d_W_about_8 : decode c_W_about 8 = .ok (.i2l, 1) := by decide +kernel
theorem d_W_about_9 : decode c_W_about 9 = .ok (.lastore, 1) := by decide +kernel
theorem d_W_about_10 : decode c_W_about 10 = .ok (.goto 11, 3) := by decide +kernel
theorem d_W_about_21 : decode c_W_about 21 = .ok (.iconst 0, 1) := by decide +kernel
theorem d_W_about_22 : decode c_W_about 22 = .ok (.ireturn, 1) := by decide +kernel
set_option maxHeartbeats 4000000 in
set_option maxRecDepth 100000 in
/-- about: its answer -/
theorem R0_about (l : Launch) (hfl : l.flags = pinnedFlags ++ [noTraceFlag]) (D : va_G) (t : Nat → ClassId) (xa nw na rw ou : Nat) (qq : Nat → Nat → Nat) (no : Nat → Nat) (mk : Int32) (k : Nat) (hk : k < 7) : xh_C l D vwCl (xTY t) y_W_about c_W_about 5 (Option.some FieldType.int) [(0, 10, 13, 18), (0, 10, 17, 13)] ({ frames := 2, cells := 0, slots := 0, locals := 44 }) [.ref xa, .int (nI k), .int 0, .ref ou] [zO 7 xa [.ref nw, .ref na, .int 0], zA t 4 na 7 (fun j => some (qq j 0)), zO 2 nw [.ref rw, .int 0, .int 0, .int 0, .int 0], zA t 3 rw 300 (fun _ => none), zO 3 (qq k 0) [.int (nI k), .ref nw, .int 0, .int 0, .int 0, .ref ((qq k 1)), .ref ((qq k 7)), .ref ((qq k 11)), .int 1, .int 0, .int 0, .int (nI (8 + 3 * k)), .int ((-1)), .int 0, .ref ((qq k 15))], zO 5 (qq k 1) [.ref ((qq k 2)), .ref ((qq k 3)), .ref ((qq k 4)), .ref ((qq k 5)), .ref ((qq k 6)), .int 1], zJ t (qq k 2) 32 (fun _ => 1099511627776), zI t (qq k 3) 8 (fun _ => 0), zJ t (qq k 4) 8 (fun _ => 0), zI t (qq k 5) 4 (xm 1), zI t (qq k 6) 4 (xm mk), zO 4 (qq k 7) [.ref ((qq k 8)), .ref ((qq k 9)), .ref ((qq k 10))], zI t (qq k 8) 32 (fun _ => 0), zI t (qq k 9) 32 (fun _ => 0), zA t 2 (qq k 10) 32 (fun _ => none), zO 4 (qq k 11) [.ref ((qq k 12)), .ref ((qq k 13)), .ref ((qq k 14))], zI t (qq k 12) 64 (fun _ => 0), zI t (qq k 13) 64 (fun _ => 0), zA t 2 (qq k 14) 64 (fun _ => none), zO 0 (qq k 15) [.ref ((no k)), .int 0, .ref ((qq k 16)), .ref ((qq k 20)), .ref ((qq k 24)), .int 0, .int 0, .int 0], zO 4 (qq k 16) [.ref ((qq k 17)), .ref ((qq k 18)), .ref ((qq k 19))], zI t (qq k 17) 32 (fun _ => 0), zI t (qq k 18) 32 (fun _ => 0), zA t 2 (qq k 19) 32 (fun _ => none), zO 4 (qq k 20) [.ref ((qq k 21)), .ref ((qq k 22)), .ref ((qq k 23))], zI t (qq k 21) 4 (fun _ => 0), zI t (qq k 22) 4 (fun _ => 0), zA t 2 (qq k 23) 4 (fun _ => none), zA t 2 (qq k 24) 16 (fun _ => none), zJ t ou 1 (fun _ => 0)] (xe_i D vwCl (fun (r : Int32) (_ : Unit) => r = 0) (fun _ => [zJ t ou 1 (xo ((1 : Int32).toInt64))])) 0 0 := by
  refine xh_of (by decide) (Nat.le_of_ble_eq_true rfl) ?_
  intro p e s m below meth c ls A Z htab hG hr hlocks hin hA hP hD hS hl
  obtain ⟨hx, hb, hml, hown, hK⟩ := id Z
  have hown : s.vm.findClass "QuorumStoreLaw" = some m.cls := hown
  have hts := hK.1.at (args := ([.ref xa, .int (nI k), .int 0, .ref ou] : List Value).toArray)
  have hl : lv_has ls 5 [(0, .ref xa), (1, .int (nI k)), (2, .int 0), (3, .ref ou)] := hl
  refine lv_aload_n hx hb d_W_about_0 rfl (lv_at hl 3 rfl) ?_
  refine lv_iconst (v := 0) hx hb d_W_about_1 (by decide) ?_
  refine lv_aload_n hx hb d_W_about_2 rfl (lv_at hl 0 rfl) ?_
  refine lv_iload_n hx hb d_W_about_3 rfl (lv_at hl 1 rfl) ?_
  refine lv_iload_n hx hb d_W_about_4 rfl (lv_at hl 2 rfl) ?_
  refine xr_call (xs_V (As := [.int (nI k), .int 0]) (rest := [.int 0, .ref ou]) Z (C_Q_about_0 l D t xa nw na rw qq no mk k hk) m_Q_about k_805 k_806 k_807 rfl rfl ⟨Nat.le_of_ble_eq_true rfl, Nat.le_of_ble_eq_true rfl⟩ (va_recv hK.2 hP (ci := 7) (q0 := 0) rfl rfl) (xr_pre hK (hP.sub [0, 1, 2, 3, 4, 5, 6, 7, 8, 9, 10, 11, 12, 13, 14, 15, 16, 17, 18, 19, 20, 21, 22, 23, 24, 25, 26, 27, 28] rfl)) rfl hl.1 rfl (Nat.le_of_ble_eq_true rfl) d_W_about_5 ⟨Nat.le_of_ble_eq_true rfl, Nat.le_of_ble_eq_true rfl⟩) ?_
  refine lv_i2l (v := (1 : Int32).toInt64) hx hb d_W_about_8 rfl ?_
  refine va_last hx hb hK.2 hP hD hS 29 1 rfl rfl (by unfold vp_in; decide) d_W_about_9 (fun H locs hP hD hS => ?_)
  rw [xu_o] at hP hD
  have hP : va_P D vwCl [zO 7 xa [.ref nw, .ref na, .int 0], zA t 4 na 7 (fun j => some (qq j 0)), zO 2 nw [.ref rw, .int 0, .int 0, .int 0, .int 0], zA t 3 rw 300 (fun _ => none), zO 3 (qq k 0) [.int (nI k), .ref nw, .int 0, .int 0, .int 0, .ref ((qq k 1)), .ref ((qq k 7)), .ref ((qq k 11)), .int 1, .int 0, .int 0, .int (nI (8 + 3 * k)), .int ((-1)), .int 0, .ref ((qq k 15))], zO 5 (qq k 1) [.ref ((qq k 2)), .ref ((qq k 3)), .ref ((qq k 4)), .ref ((qq k 5)), .ref ((qq k 6)), .int 1], zJ t (qq k 2) 32 (fun _ => 1099511627776), zI t (qq k 3) 8 (fun _ => 0), zJ t (qq k 4) 8 (fun _ => 0), zI t (qq k 5) 4 (xm 1), zI t (qq k 6) 4 (xm mk), zO 4 (qq k 7) [.ref ((qq k 8)), .ref ((qq k 9)), .ref ((qq k 10))], zI t (qq k 8) 32 (fun _ => 0), zI t (qq k 9) 32 (fun _ => 0), zA t 2 (qq k 10) 32 (fun _ => none), zO 4 (qq k 11) [.ref ((qq k 12)), .ref ((qq k 13)), .ref ((qq k 14))], zI t (qq k 12) 64 (fun _ => 0), zI t (qq k 13) 64 (fun _ => 0), zA t 2 (qq k 14) 64 (fun _ => none), zO 0 (qq k 15) [.ref ((no k)), .int 0, .ref ((qq k 16)), .ref ((qq k 20)), .ref ((qq k 24)), .int 0, .int 0, .int 0], zO 4 (qq k 16) [.ref ((qq k 17)), .ref ((qq k 18)), .ref ((qq k 19))], zI t (qq k 17) 32 (fun _ => 0), zI t (qq k 18) 32 (fun _ => 0), zA t 2 (qq k 19) 32 (fun _ => none), zO 4 (qq k 20) [.ref ((qq k 21)), .ref ((qq k 22)), .ref ((qq k 23))], zI t (qq k 21) 4 (fun _ => 0), zI t (qq k 22) 4 (fun _ => 0), zA t 2 (qq k 23) 4 (fun _ => none), zA t 2 (qq k 24) 16 (fun _ => none), zJ t ou 1 (xo ((1 : Int32).toInt64))] H := hP
  have hD : va_D A [zO 7 xa [.ref nw, .ref na, .int 0], zA t 4 na 7 (fun j => some (qq j 0)), zO 2 nw [.ref rw, .int 0, .int 0, .int 0, .int 0], zA t 3 rw 300 (fun _ => none), zO 3 (qq k 0) [.int (nI k), .ref nw, .int 0, .int 0, .int 0, .ref ((qq k 1)), .ref ((qq k 7)), .ref ((qq k 11)), .int 1, .int 0, .int 0, .int (nI (8 + 3 * k)), .int ((-1)), .int 0, .ref ((qq k 15))], zO 5 (qq k 1) [.ref ((qq k 2)), .ref ((qq k 3)), .ref ((qq k 4)), .ref ((qq k 5)), .ref ((qq k 6)), .int 1], zJ t (qq k 2) 32 (fun _ => 1099511627776), zI t (qq k 3) 8 (fun _ => 0), zJ t (qq k 4) 8 (fun _ => 0), zI t (qq k 5) 4 (xm 1), zI t (qq k 6) 4 (xm mk), zO 4 (qq k 7) [.ref ((qq k 8)), .ref ((qq k 9)), .ref ((qq k 10))], zI t (qq k 8) 32 (fun _ => 0), zI t (qq k 9) 32 (fun _ => 0), zA t 2 (qq k 10) 32 (fun _ => none), zO 4 (qq k 11) [.ref ((qq k 12)), .ref ((qq k 13)), .ref ((qq k 14))], zI t (qq k 12) 64 (fun _ => 0), zI t (qq k 13) 64 (fun _ => 0), zA t 2 (qq k 14) 64 (fun _ => none), zO 0 (qq k 15) [.ref ((no k)), .int 0, .ref ((qq k 16)), .ref ((qq k 20)), .ref ((qq k 24)), .int 0, .int 0, .int 0], zO 4 (qq k 16) [.ref ((qq k 17)), .ref ((qq k 18)), .ref ((qq k 19))], zI t (qq k 17) 32 (fun _ => 0), zI t (qq k 18) 32 (fun _ => 0), zA t 2 (qq k 19) 32 (fun _ => none), zO 4 (qq k 20) [.ref ((qq k 21)), .ref ((qq k 22)), .ref ((qq k 23))], zI t (qq k 21) 4 (fun _ => 0), zI t (qq k 22) 4 (fun _ => 0), zA t 2 (qq k 23) 4 (fun _ => none), zA t 2 (qq k 24) 16 (fun _ => none), zJ t ou 1 (xo ((1 : Int32).toInt64))] := hD
  refine lv_goto (tgt := 21) hx hb d_W_about_10 (by decide) ?_
  refine lv_iconst (v := 0) hx hb d_W_about_21 (by decide) ?_
  have hP := hP.sub (ws' := [zJ t ou 1 (xo ((1 : Int32).toInt64))]) [29] rfl
  have hD := hD.sub (ws' := [zJ t ou 1 (xo ((1 : Int32).toInt64))]) [29] (by decide) rfl
  exact W.iret hx hb hr (fun t ht hW => ⟨⟨0, (), rfl, rfl, by rw [ht]; exact hP, hD⟩, hS.F ht⟩) hS.2.2 d_W_about_22
set_option maxHeartbeats 4000000 in
set_option maxRecDepth 100000 in
/-- about: its answer -/
theorem R1_about (l : Launch) (hfl : l.flags = pinnedFlags ++ [noTraceFlag]) (D : va_G) (t : Nat → ClassId) (xa nw na rw ou : Nat) (qq : Nat → Nat → Nat) (no : Nat → Nat) (mk : Int32) (k : Nat) (hk : k < 7) : xh_C l D vwCl (xTY t) y_W_about c_W_about 5 (Option.some FieldType.int) [(0, 10, 13, 18), (0, 10, 17, 13)] ({ frames := 2, cells := 0, slots := 0, locals := 44 }) [.ref xa, .int (nI k), .int 1, .ref ou] [zO 7 xa [.ref nw, .ref na, .int 0], zA t 4 na 7 (fun j => some (qq j 0)), zO 2 nw [.ref rw, .int 0, .int 0, .int 0, .int 0], zA t 3 rw 300 (fun _ => none), zO 3 (qq k 0) [.int (nI k), .ref nw, .int 0, .int 0, .int 0, .ref ((qq k 1)), .ref ((qq k 7)), .ref ((qq k 11)), .int 1, .int 0, .int 0, .int (nI (8 + 3 * k)), .int ((-1)), .int 0, .ref ((qq k 15))], zO 5 (qq k 1) [.ref ((qq k 2)), .ref ((qq k 3)), .ref ((qq k 4)), .ref ((qq k 5)), .ref ((qq k 6)), .int 1], zJ t (qq k 2) 32 (fun _ => 1099511627776), zI t (qq k 3) 8 (fun _ => 0), zJ t (qq k 4) 8 (fun _ => 0), zI t (qq k 5) 4 (xm 1), zI t (qq k 6) 4 (xm mk), zO 4 (qq k 7) [.ref ((qq k 8)), .ref ((qq k 9)), .ref ((qq k 10))], zI t (qq k 8) 32 (fun _ => 0), zI t (qq k 9) 32 (fun _ => 0), zA t 2 (qq k 10) 32 (fun _ => none), zO 4 (qq k 11) [.ref ((qq k 12)), .ref ((qq k 13)), .ref ((qq k 14))], zI t (qq k 12) 64 (fun _ => 0), zI t (qq k 13) 64 (fun _ => 0), zA t 2 (qq k 14) 64 (fun _ => none), zO 0 (qq k 15) [.ref ((no k)), .int 0, .ref ((qq k 16)), .ref ((qq k 20)), .ref ((qq k 24)), .int 0, .int 0, .int 0], zO 4 (qq k 16) [.ref ((qq k 17)), .ref ((qq k 18)), .ref ((qq k 19))], zI t (qq k 17) 32 (fun _ => 0), zI t (qq k 18) 32 (fun _ => 0), zA t 2 (qq k 19) 32 (fun _ => none), zO 4 (qq k 20) [.ref ((qq k 21)), .ref ((qq k 22)), .ref ((qq k 23))], zI t (qq k 21) 4 (fun _ => 0), zI t (qq k 22) 4 (fun _ => 0), zA t 2 (qq k 23) 4 (fun _ => none), zA t 2 (qq k 24) 16 (fun _ => none), zJ t ou 1 (fun _ => 0)] (xe_i D vwCl (fun (r : Int32) (_ : Unit) => r = 0) (fun _ => [zJ t ou 1 (xo ((0 : Int32).toInt64))])) 0 0 := by
  refine xh_of (by decide) (Nat.le_of_ble_eq_true rfl) ?_
  intro p e s m below meth c ls A Z htab hG hr hlocks hin hA hP hD hS hl
  obtain ⟨hx, hb, hml, hown, hK⟩ := id Z
  have hown : s.vm.findClass "QuorumStoreLaw" = some m.cls := hown
  have hts := hK.1.at (args := ([.ref xa, .int (nI k), .int 1, .ref ou] : List Value).toArray)
  have hl : lv_has ls 5 [(0, .ref xa), (1, .int (nI k)), (2, .int 1), (3, .ref ou)] := hl
  refine lv_aload_n hx hb d_W_about_0 rfl (lv_at hl 3 rfl) ?_
  refine lv_iconst (v := 0) hx hb d_W_about_1 (by decide) ?_
  refine lv_aload_n hx hb d_W_about_2 rfl (lv_at hl 0 rfl) ?_
  refine lv_iload_n hx hb d_W_about_3 rfl (lv_at hl 1 rfl) ?_
  refine lv_iload_n hx hb d_W_about_4 rfl (lv_at hl 2 rfl) ?_
  refine xr_call (xs_V (As := [.int (nI k), .int 1]) (rest := [.int 0, .ref ou]) Z (C_Q_about_1 l D t xa nw na rw qq no mk k hk) m_Q_about k_805 k_806 k_807 rfl rfl ⟨Nat.le_of_ble_eq_true rfl, Nat.le_of_ble_eq_true rfl⟩ (va_recv hK.2 hP (ci := 7) (q0 := 0) rfl rfl) (xr_pre hK (hP.sub [0, 1, 2, 3, 4, 5, 6, 7, 8, 9, 10, 11, 12, 13, 14, 15, 16, 17, 18, 19, 20, 21, 22, 23, 24, 25, 26, 27, 28] rfl)) rfl hl.1 rfl (Nat.le_of_ble_eq_true rfl) d_W_about_5 ⟨Nat.le_of_ble_eq_true rfl, Nat.le_of_ble_eq_true rfl⟩) ?_
  refine lv_i2l (v := (0 : Int32).toInt64) hx hb d_W_about_8 rfl ?_
  refine va_last hx hb hK.2 hP hD hS 29 1 rfl rfl (by unfold vp_in; decide) d_W_about_9 (fun H locs hP hD hS => ?_)
  rw [xu_o] at hP hD
  have hP : va_P D vwCl [zO 7 xa [.ref nw, .ref na, .int 0], zA t 4 na 7 (fun j => some (qq j 0)), zO 2 nw [.ref rw, .int 0, .int 0, .int 0, .int 0], zA t 3 rw 300 (fun _ => none), zO 3 (qq k 0) [.int (nI k), .ref nw, .int 0, .int 0, .int 0, .ref ((qq k 1)), .ref ((qq k 7)), .ref ((qq k 11)), .int 1, .int 0, .int 0, .int (nI (8 + 3 * k)), .int ((-1)), .int 0, .ref ((qq k 15))], zO 5 (qq k 1) [.ref ((qq k 2)), .ref ((qq k 3)), .ref ((qq k 4)), .ref ((qq k 5)), .ref ((qq k 6)), .int 1], zJ t (qq k 2) 32 (fun _ => 1099511627776), zI t (qq k 3) 8 (fun _ => 0), zJ t (qq k 4) 8 (fun _ => 0), zI t (qq k 5) 4 (xm 1), zI t (qq k 6) 4 (xm mk), zO 4 (qq k 7) [.ref ((qq k 8)), .ref ((qq k 9)), .ref ((qq k 10))], zI t (qq k 8) 32 (fun _ => 0), zI t (qq k 9) 32 (fun _ => 0), zA t 2 (qq k 10) 32 (fun _ => none), zO 4 (qq k 11) [.ref ((qq k 12)), .ref ((qq k 13)), .ref ((qq k 14))], zI t (qq k 12) 64 (fun _ => 0), zI t (qq k 13) 64 (fun _ => 0), zA t 2 (qq k 14) 64 (fun _ => none), zO 0 (qq k 15) [.ref ((no k)), .int 0, .ref ((qq k 16)), .ref ((qq k 20)), .ref ((qq k 24)), .int 0, .int 0, .int 0], zO 4 (qq k 16) [.ref ((qq k 17)), .ref ((qq k 18)), .ref ((qq k 19))], zI t (qq k 17) 32 (fun _ => 0), zI t (qq k 18) 32 (fun _ => 0), zA t 2 (qq k 19) 32 (fun _ => none), zO 4 (qq k 20) [.ref ((qq k 21)), .ref ((qq k 22)), .ref ((qq k 23))], zI t (qq k 21) 4 (fun _ => 0), zI t (qq k 22) 4 (fun _ => 0), zA t 2 (qq k 23) 4 (fun _ => none), zA t 2 (qq k 24) 16 (fun _ => none), zJ t ou 1 (xo ((0 : Int32).toInt64))] H := hP
  have hD : va_D A [zO 7 xa [.ref nw, .ref na, .int 0], zA t 4 na 7 (fun j => some (qq j 0)), zO 2 nw [.ref rw, .int 0, .int 0, .int 0, .int 0], zA t 3 rw 300 (fun _ => none), zO 3 (qq k 0) [.int (nI k), .ref nw, .int 0, .int 0, .int 0, .ref ((qq k 1)), .ref ((qq k 7)), .ref ((qq k 11)), .int 1, .int 0, .int 0, .int (nI (8 + 3 * k)), .int ((-1)), .int 0, .ref ((qq k 15))], zO 5 (qq k 1) [.ref ((qq k 2)), .ref ((qq k 3)), .ref ((qq k 4)), .ref ((qq k 5)), .ref ((qq k 6)), .int 1], zJ t (qq k 2) 32 (fun _ => 1099511627776), zI t (qq k 3) 8 (fun _ => 0), zJ t (qq k 4) 8 (fun _ => 0), zI t (qq k 5) 4 (xm 1), zI t (qq k 6) 4 (xm mk), zO 4 (qq k 7) [.ref ((qq k 8)), .ref ((qq k 9)), .ref ((qq k 10))], zI t (qq k 8) 32 (fun _ => 0), zI t (qq k 9) 32 (fun _ => 0), zA t 2 (qq k 10) 32 (fun _ => none), zO 4 (qq k 11) [.ref ((qq k 12)), .ref ((qq k 13)), .ref ((qq k 14))], zI t (qq k 12) 64 (fun _ => 0), zI t (qq k 13) 64 (fun _ => 0), zA t 2 (qq k 14) 64 (fun _ => none), zO 0 (qq k 15) [.ref ((no k)), .int 0, .ref ((qq k 16)), .ref ((qq k 20)), .ref ((qq k 24)), .int 0, .int 0, .int 0], zO 4 (qq k 16) [.ref ((qq k 17)), .ref ((qq k 18)), .ref ((qq k 19))], zI t (qq k 17) 32 (fun _ => 0), zI t (qq k 18) 32 (fun _ => 0), zA t 2 (qq k 19) 32 (fun _ => none), zO 4 (qq k 20) [.ref ((qq k 21)), .ref ((qq k 22)), .ref ((qq k 23))], zI t (qq k 21) 4 (fun _ => 0), zI t (qq k 22) 4 (fun _ => 0), zA t 2 (qq k 23) 4 (fun _ => none), zA t 2 (qq k 24) 16 (fun _ => none), zJ t ou 1 (xo ((0 : Int32).toInt64))] := hD
  refine lv_goto (tgt := 21) hx hb d_W_about_10 (by decide) ?_
  refine lv_iconst (v := 0) hx hb d_W_about_21 (by decide) ?_
  have hP := hP.sub (ws' := [zJ t ou 1 (xo ((0 : Int32).toInt64))]) [29] rfl
  have hD := hD.sub (ws' := [zJ t ou 1 (xo ((0 : Int32).toInt64))]) [29] (by decide) rfl
  exact W.iret hx hb hr (fun t ht hW => ⟨⟨0, (), rfl, rfl, by rw [ht]; exact hP, hD⟩, hS.F ht⟩) hS.2.2 d_W_about_22
set_option maxHeartbeats 4000000 in
set_option maxRecDepth 100000 in
/-- about: its answer -/
theorem R2_about (l : Launch) (hfl : l.flags = pinnedFlags ++ [noTraceFlag]) (D : va_G) (t : Nat → ClassId) (xa nw na rw ou : Nat) (qq : Nat → Nat → Nat) (no : Nat → Nat) (mk : Int32) (k : Nat) (hk : k < 7) : xh_C l D vwCl (xTY t) y_W_about c_W_about 5 (Option.some FieldType.int) [(0, 10, 13, 18), (0, 10, 17, 13)] ({ frames := 2, cells := 0, slots := 0, locals := 44 }) [.ref xa, .int (nI k), .int 2, .ref ou] [zO 7 xa [.ref nw, .ref na, .int 0], zA t 4 na 7 (fun j => some (qq j 0)), zO 2 nw [.ref rw, .int 0, .int 0, .int 0, .int 0], zA t 3 rw 300 (fun _ => none), zO 3 (qq k 0) [.int (nI k), .ref nw, .int 0, .int 0, .int 0, .ref ((qq k 1)), .ref ((qq k 7)), .ref ((qq k 11)), .int 1, .int 0, .int 0, .int (nI (8 + 3 * k)), .int ((-1)), .int 0, .ref ((qq k 15))], zO 5 (qq k 1) [.ref ((qq k 2)), .ref ((qq k 3)), .ref ((qq k 4)), .ref ((qq k 5)), .ref ((qq k 6)), .int 1], zJ t (qq k 2) 32 (fun _ => 1099511627776), zI t (qq k 3) 8 (fun _ => 0), zJ t (qq k 4) 8 (fun _ => 0), zI t (qq k 5) 4 (xm 1), zI t (qq k 6) 4 (xm mk), zO 4 (qq k 7) [.ref ((qq k 8)), .ref ((qq k 9)), .ref ((qq k 10))], zI t (qq k 8) 32 (fun _ => 0), zI t (qq k 9) 32 (fun _ => 0), zA t 2 (qq k 10) 32 (fun _ => none), zO 4 (qq k 11) [.ref ((qq k 12)), .ref ((qq k 13)), .ref ((qq k 14))], zI t (qq k 12) 64 (fun _ => 0), zI t (qq k 13) 64 (fun _ => 0), zA t 2 (qq k 14) 64 (fun _ => none), zO 0 (qq k 15) [.ref ((no k)), .int 0, .ref ((qq k 16)), .ref ((qq k 20)), .ref ((qq k 24)), .int 0, .int 0, .int 0], zO 4 (qq k 16) [.ref ((qq k 17)), .ref ((qq k 18)), .ref ((qq k 19))], zI t (qq k 17) 32 (fun _ => 0), zI t (qq k 18) 32 (fun _ => 0), zA t 2 (qq k 19) 32 (fun _ => none), zO 4 (qq k 20) [.ref ((qq k 21)), .ref ((qq k 22)), .ref ((qq k 23))], zI t (qq k 21) 4 (fun _ => 0), zI t (qq k 22) 4 (fun _ => 0), zA t 2 (qq k 23) 4 (fun _ => none), zA t 2 (qq k 24) 16 (fun _ => none), zJ t ou 1 (fun _ => 0)] (xe_i D vwCl (fun (r : Int32) (_ : Unit) => r = 0) (fun _ => [zJ t ou 1 (xo ((0 : Int32).toInt64))])) 0 0 := by
  refine xh_of (by decide) (Nat.le_of_ble_eq_true rfl) ?_
  intro p e s m below meth c ls A Z htab hG hr hlocks hin hA hP hD hS hl
  obtain ⟨hx, hb, hml, hown, hK⟩ := id Z
  have hown : s.vm.findClass "QuorumStoreLaw" = some m.cls := hown
  have hts := hK.1.at (args := ([.ref xa, .int (nI k), .int 2, .ref ou] : List Value).toArray)
  have hl : lv_has ls 5 [(0, .ref xa), (1, .int (nI k)), (2, .int 2), (3, .ref ou)] := hl
  refine lv_aload_n hx hb d_W_about_0 rfl (lv_at hl 3 rfl) ?_
  refine lv_iconst (v := 0) hx hb d_W_about_1 (by decide) ?_
  refine lv_aload_n hx hb d_W_about_2 rfl (lv_at hl 0 rfl) ?_
  refine lv_iload_n hx hb d_W_about_3 rfl (lv_at hl 1 rfl) ?_
  refine lv_iload_n hx hb d_W_about_4 rfl (lv_at hl 2 rfl) ?_
  refine xr_call (xs_V (As := [.int (nI k), .int 2]) (rest := [.int 0, .ref ou]) Z (C_Q_about_2 l D t xa nw na rw qq no mk k hk) m_Q_about k_805 k_806 k_807 rfl rfl ⟨Nat.le_of_ble_eq_true rfl, Nat.le_of_ble_eq_true rfl⟩ (va_recv hK.2 hP (ci := 7) (q0 := 0) rfl rfl) (xr_pre hK (hP.sub [0, 1, 2, 3, 4, 5, 6, 7, 8, 9, 10, 11, 12, 13, 14, 15, 16, 17, 18, 19, 20, 21, 22, 23, 24, 25, 26, 27, 28] rfl)) rfl hl.1 rfl (Nat.le_of_ble_eq_true rfl) d_W_about_5 ⟨Nat.le_of_ble_eq_true rfl, Nat.le_of_ble_eq_true rfl⟩) ?_
  refine lv_i2l (v := (0 : Int32).toInt64) hx hb d_W_about_8 rfl ?_
  refine va_last hx hb hK.2 hP hD hS 29 1 rfl rfl (by unfold vp_in; decide) d_W_about_9 (fun H locs hP hD hS => ?_)
  rw [xu_o] at hP hD
  have hP : va_P D vwCl [zO 7 xa [.ref nw, .ref na, .int 0], zA t 4 na 7 (fun j => some (qq j 0)), zO 2 nw [.ref rw, .int 0, .int 0, .int 0, .int 0], zA t 3 rw 300 (fun _ => none), zO 3 (qq k 0) [.int (nI k), .ref nw, .int 0, .int 0, .int 0, .ref ((qq k 1)), .ref ((qq k 7)), .ref ((qq k 11)), .int 1, .int 0, .int 0, .int (nI (8 + 3 * k)), .int ((-1)), .int 0, .ref ((qq k 15))], zO 5 (qq k 1) [.ref ((qq k 2)), .ref ((qq k 3)), .ref ((qq k 4)), .ref ((qq k 5)), .ref ((qq k 6)), .int 1], zJ t (qq k 2) 32 (fun _ => 1099511627776), zI t (qq k 3) 8 (fun _ => 0), zJ t (qq k 4) 8 (fun _ => 0), zI t (qq k 5) 4 (xm 1), zI t (qq k 6) 4 (xm mk), zO 4 (qq k 7) [.ref ((qq k 8)), .ref ((qq k 9)), .ref ((qq k 10))], zI t (qq k 8) 32 (fun _ => 0), zI t (qq k 9) 32 (fun _ => 0), zA t 2 (qq k 10) 32 (fun _ => none), zO 4 (qq k 11) [.ref ((qq k 12)), .ref ((qq k 13)), .ref ((qq k 14))], zI t (qq k 12) 64 (fun _ => 0), zI t (qq k 13) 64 (fun _ => 0), zA t 2 (qq k 14) 64 (fun _ => none), zO 0 (qq k 15) [.ref ((no k)), .int 0, .ref ((qq k 16)), .ref ((qq k 20)), .ref ((qq k 24)), .int 0, .int 0, .int 0], zO 4 (qq k 16) [.ref ((qq k 17)), .ref ((qq k 18)), .ref ((qq k 19))], zI t (qq k 17) 32 (fun _ => 0), zI t (qq k 18) 32 (fun _ => 0), zA t 2 (qq k 19) 32 (fun _ => none), zO 4 (qq k 20) [.ref ((qq k 21)), .ref ((qq k 22)), .ref ((qq k 23))], zI t (qq k 21) 4 (fun _ => 0), zI t (qq k 22) 4 (fun _ => 0), zA t 2 (qq k 23) 4 (fun _ => none), zA t 2 (qq k 24) 16 (fun _ => none), zJ t ou 1 (xo ((0 : Int32).toInt64))] H := hP
  have hD : va_D A [zO 7 xa [.ref nw, .ref na, .int 0], zA t 4 na 7 (fun j => some (qq j 0)), zO 2 nw [.ref rw, .int 0, .int 0, .int 0, .int 0], zA t 3 rw 300 (fun _ => none), zO 3 (qq k 0) [.int (nI k), .ref nw, .int 0, .int 0, .int 0, .ref ((qq k 1)), .ref ((qq k 7)), .ref ((qq k 11)), .int 1, .int 0, .int 0, .int (nI (8 + 3 * k)), .int ((-1)), .int 0, .ref ((qq k 15))], zO 5 (qq k 1) [.ref ((qq k 2)), .ref ((qq k 3)), .ref ((qq k 4)), .ref ((qq k 5)), .ref ((qq k 6)), .int 1], zJ t (qq k 2) 32 (fun _ => 1099511627776), zI t (qq k 3) 8 (fun _ => 0), zJ t (qq k 4) 8 (fun _ => 0), zI t (qq k 5) 4 (xm 1), zI t (qq k 6) 4 (xm mk), zO 4 (qq k 7) [.ref ((qq k 8)), .ref ((qq k 9)), .ref ((qq k 10))], zI t (qq k 8) 32 (fun _ => 0), zI t (qq k 9) 32 (fun _ => 0), zA t 2 (qq k 10) 32 (fun _ => none), zO 4 (qq k 11) [.ref ((qq k 12)), .ref ((qq k 13)), .ref ((qq k 14))], zI t (qq k 12) 64 (fun _ => 0), zI t (qq k 13) 64 (fun _ => 0), zA t 2 (qq k 14) 64 (fun _ => none), zO 0 (qq k 15) [.ref ((no k)), .int 0, .ref ((qq k 16)), .ref ((qq k 20)), .ref ((qq k 24)), .int 0, .int 0, .int 0], zO 4 (qq k 16) [.ref ((qq k 17)), .ref ((qq k 18)), .ref ((qq k 19))], zI t (qq k 17) 32 (fun _ => 0), zI t (qq k 18) 32 (fun _ => 0), zA t 2 (qq k 19) 32 (fun _ => none), zO 4 (qq k 20) [.ref ((qq k 21)), .ref ((qq k 22)), .ref ((qq k 23))], zI t (qq k 21) 4 (fun _ => 0), zI t (qq k 22) 4 (fun _ => 0), zA t 2 (qq k 23) 4 (fun _ => none), zA t 2 (qq k 24) 16 (fun _ => none), zJ t ou 1 (xo ((0 : Int32).toInt64))] := hD
  refine lv_goto (tgt := 21) hx hb d_W_about_10 (by decide) ?_
  refine lv_iconst (v := 0) hx hb d_W_about_21 (by decide) ?_
  have hP := hP.sub (ws' := [zJ t ou 1 (xo ((0 : Int32).toInt64))]) [29] rfl
  have hD := hD.sub (ws' := [zJ t ou 1 (xo ((0 : Int32).toInt64))]) [29] (by decide) rfl
  exact W.iret hx hb hr (fun t ht hW => ⟨⟨0, (), rfl, rfl, by rw [ht]; exact hP, hD⟩, hS.F ht⟩) hS.2.2 d_W_about_22
set_option maxHeartbeats 4000000 in
set_option maxRecDepth 100000 in
/-- about: its answer -/
theorem R3_about (l : Launch) (hfl : l.flags = pinnedFlags ++ [noTraceFlag]) (D : va_G) (t : Nat → ClassId) (xa nw na rw ou : Nat) (qq : Nat → Nat → Nat) (no : Nat → Nat) (mk : Int32) (k : Nat) (hk : k < 7) : xh_C l D vwCl (xTY t) y_W_about c_W_about 5 (Option.some FieldType.int) [(0, 10, 13, 18), (0, 10, 17, 13)] ({ frames := 2, cells := 0, slots := 0, locals := 44 }) [.ref xa, .int (nI k), .int 3, .ref ou] [zO 7 xa [.ref nw, .ref na, .int 0], zA t 4 na 7 (fun j => some (qq j 0)), zO 2 nw [.ref rw, .int 0, .int 0, .int 0, .int 0], zA t 3 rw 300 (fun _ => none), zO 3 (qq k 0) [.int (nI k), .ref nw, .int 0, .int 0, .int 0, .ref ((qq k 1)), .ref ((qq k 7)), .ref ((qq k 11)), .int 1, .int 0, .int 0, .int (nI (8 + 3 * k)), .int ((-1)), .int 0, .ref ((qq k 15))], zO 5 (qq k 1) [.ref ((qq k 2)), .ref ((qq k 3)), .ref ((qq k 4)), .ref ((qq k 5)), .ref ((qq k 6)), .int 1], zJ t (qq k 2) 32 (fun _ => 1099511627776), zI t (qq k 3) 8 (fun _ => 0), zJ t (qq k 4) 8 (fun _ => 0), zI t (qq k 5) 4 (xm 1), zI t (qq k 6) 4 (xm mk), zO 4 (qq k 7) [.ref ((qq k 8)), .ref ((qq k 9)), .ref ((qq k 10))], zI t (qq k 8) 32 (fun _ => 0), zI t (qq k 9) 32 (fun _ => 0), zA t 2 (qq k 10) 32 (fun _ => none), zO 4 (qq k 11) [.ref ((qq k 12)), .ref ((qq k 13)), .ref ((qq k 14))], zI t (qq k 12) 64 (fun _ => 0), zI t (qq k 13) 64 (fun _ => 0), zA t 2 (qq k 14) 64 (fun _ => none), zO 0 (qq k 15) [.ref ((no k)), .int 0, .ref ((qq k 16)), .ref ((qq k 20)), .ref ((qq k 24)), .int 0, .int 0, .int 0], zO 4 (qq k 16) [.ref ((qq k 17)), .ref ((qq k 18)), .ref ((qq k 19))], zI t (qq k 17) 32 (fun _ => 0), zI t (qq k 18) 32 (fun _ => 0), zA t 2 (qq k 19) 32 (fun _ => none), zO 4 (qq k 20) [.ref ((qq k 21)), .ref ((qq k 22)), .ref ((qq k 23))], zI t (qq k 21) 4 (fun _ => 0), zI t (qq k 22) 4 (fun _ => 0), zA t 2 (qq k 23) 4 (fun _ => none), zA t 2 (qq k 24) 16 (fun _ => none), zJ t ou 1 (fun _ => 0)] (xe_i D vwCl (fun (r : Int32) (_ : Unit) => r = 0) (fun _ => [zJ t ou 1 (xo ((0 : Int32).toInt64))])) 0 0 := by
  refine xh_of (by decide) (Nat.le_of_ble_eq_true rfl) ?_
  intro p e s m below meth c ls A Z htab hG hr hlocks hin hA hP hD hS hl
  obtain ⟨hx, hb, hml, hown, hK⟩ := id Z
  have hown : s.vm.findClass "QuorumStoreLaw" = some m.cls := hown
  have hts := hK.1.at (args := ([.ref xa, .int (nI k), .int 3, .ref ou] : List Value).toArray)
  have hl : lv_has ls 5 [(0, .ref xa), (1, .int (nI k)), (2, .int 3), (3, .ref ou)] := hl
  refine lv_aload_n hx hb d_W_about_0 rfl (lv_at hl 3 rfl) ?_
  refine lv_iconst (v := 0) hx hb d_W_about_1 (by decide) ?_
  refine lv_aload_n hx hb d_W_about_2 rfl (lv_at hl 0 rfl) ?_
  refine lv_iload_n hx hb d_W_about_3 rfl (lv_at hl 1 rfl) ?_
  refine lv_iload_n hx hb d_W_about_4 rfl (lv_at hl 2 rfl) ?_
  refine xr_call (xs_V (As := [.int (nI k), .int 3]) (rest := [.int 0, .ref ou]) Z (C_Q_about_3 l D t xa nw na rw qq no mk k hk) m_Q_about k_805 k_806 k_807 rfl rfl ⟨Nat.le_of_ble_eq_true rfl, Nat.le_of_ble_eq_true rfl⟩ (va_recv hK.2 hP (ci := 7) (q0 := 0) rfl rfl) (xr_pre hK (hP.sub [0, 1, 2, 3, 4, 5, 6, 7, 8, 9, 10, 11, 12, 13, 14, 15, 16, 17, 18, 19, 20, 21, 22, 23, 24, 25, 26, 27, 28] rfl)) rfl hl.1 rfl (Nat.le_of_ble_eq_true rfl) d_W_about_5 ⟨Nat.le_of_ble_eq_true rfl, Nat.le_of_ble_eq_true rfl⟩) ?_
  refine lv_i2l (v := (0 : Int32).toInt64) hx hb d_W_about_8 rfl ?_
  refine va_last hx hb hK.2 hP hD hS 29 1 rfl rfl (by unfold vp_in; decide) d_W_about_9 (fun H locs hP hD hS => ?_)
  rw [xu_o] at hP hD
  have hP : va_P D vwCl [zO 7 xa [.ref nw, .ref na, .int 0], zA t 4 na 7 (fun j => some (qq j 0)), zO 2 nw [.ref rw, .int 0, .int 0, .int 0, .int 0], zA t 3 rw 300 (fun _ => none), zO 3 (qq k 0) [.int (nI k), .ref nw, .int 0, .int 0, .int 0, .ref ((qq k 1)), .ref ((qq k 7)), .ref ((qq k 11)), .int 1, .int 0, .int 0, .int (nI (8 + 3 * k)), .int ((-1)), .int 0, .ref ((qq k 15))], zO 5 (qq k 1) [.ref ((qq k 2)), .ref ((qq k 3)), .ref ((qq k 4)), .ref ((qq k 5)), .ref ((qq k 6)), .int 1], zJ t (qq k 2) 32 (fun _ => 1099511627776), zI t (qq k 3) 8 (fun _ => 0), zJ t (qq k 4) 8 (fun _ => 0), zI t (qq k 5) 4 (xm 1), zI t (qq k 6) 4 (xm mk), zO 4 (qq k 7) [.ref ((qq k 8)), .ref ((qq k 9)), .ref ((qq k 10))], zI t (qq k 8) 32 (fun _ => 0), zI t (qq k 9) 32 (fun _ => 0), zA t 2 (qq k 10) 32 (fun _ => none), zO 4 (qq k 11) [.ref ((qq k 12)), .ref ((qq k 13)), .ref ((qq k 14))], zI t (qq k 12) 64 (fun _ => 0), zI t (qq k 13) 64 (fun _ => 0), zA t 2 (qq k 14) 64 (fun _ => none), zO 0 (qq k 15) [.ref ((no k)), .int 0, .ref ((qq k 16)), .ref ((qq k 20)), .ref ((qq k 24)), .int 0, .int 0, .int 0], zO 4 (qq k 16) [.ref ((qq k 17)), .ref ((qq k 18)), .ref ((qq k 19))], zI t (qq k 17) 32 (fun _ => 0), zI t (qq k 18) 32 (fun _ => 0), zA t 2 (qq k 19) 32 (fun _ => none), zO 4 (qq k 20) [.ref ((qq k 21)), .ref ((qq k 22)), .ref ((qq k 23))], zI t (qq k 21) 4 (fun _ => 0), zI t (qq k 22) 4 (fun _ => 0), zA t 2 (qq k 23) 4 (fun _ => none), zA t 2 (qq k 24) 16 (fun _ => none), zJ t ou 1 (xo ((0 : Int32).toInt64))] H := hP
  have hD : va_D A [zO 7 xa [.ref nw, .ref na, .int 0], zA t 4 na 7 (fun j => some (qq j 0)), zO 2 nw [.ref rw, .int 0, .int 0, .int 0, .int 0], zA t 3 rw 300 (fun _ => none), zO 3 (qq k 0) [.int (nI k), .ref nw, .int 0, .int 0, .int 0, .ref ((qq k 1)), .ref ((qq k 7)), .ref ((qq k 11)), .int 1, .int 0, .int 0, .int (nI (8 + 3 * k)), .int ((-1)), .int 0, .ref ((qq k 15))], zO 5 (qq k 1) [.ref ((qq k 2)), .ref ((qq k 3)), .ref ((qq k 4)), .ref ((qq k 5)), .ref ((qq k 6)), .int 1], zJ t (qq k 2) 32 (fun _ => 1099511627776), zI t (qq k 3) 8 (fun _ => 0), zJ t (qq k 4) 8 (fun _ => 0), zI t (qq k 5) 4 (xm 1), zI t (qq k 6) 4 (xm mk), zO 4 (qq k 7) [.ref ((qq k 8)), .ref ((qq k 9)), .ref ((qq k 10))], zI t (qq k 8) 32 (fun _ => 0), zI t (qq k 9) 32 (fun _ => 0), zA t 2 (qq k 10) 32 (fun _ => none), zO 4 (qq k 11) [.ref ((qq k 12)), .ref ((qq k 13)), .ref ((qq k 14))], zI t (qq k 12) 64 (fun _ => 0), zI t (qq k 13) 64 (fun _ => 0), zA t 2 (qq k 14) 64 (fun _ => none), zO 0 (qq k 15) [.ref ((no k)), .int 0, .ref ((qq k 16)), .ref ((qq k 20)), .ref ((qq k 24)), .int 0, .int 0, .int 0], zO 4 (qq k 16) [.ref ((qq k 17)), .ref ((qq k 18)), .ref ((qq k 19))], zI t (qq k 17) 32 (fun _ => 0), zI t (qq k 18) 32 (fun _ => 0), zA t 2 (qq k 19) 32 (fun _ => none), zO 4 (qq k 20) [.ref ((qq k 21)), .ref ((qq k 22)), .ref ((qq k 23))], zI t (qq k 21) 4 (fun _ => 0), zI t (qq k 22) 4 (fun _ => 0), zA t 2 (qq k 23) 4 (fun _ => none), zA t 2 (qq k 24) 16 (fun _ => none), zJ t ou 1 (xo ((0 : Int32).toInt64))] := hD
  refine lv_goto (tgt := 21) hx hb d_W_about_10 (by decide) ?_
  refine lv_iconst (v := 0) hx hb d_W_about_21 (by decide) ?_
  have hP := hP.sub (ws' := [zJ t ou 1 (xo ((0 : Int32).toInt64))]) [29] rfl
  have hD := hD.sub (ws' := [zJ t ou 1 (xo ((0 : Int32).toInt64))]) [29] (by decide) rfl
  exact W.iret hx hb hr (fun t ht hW => ⟨⟨0, (), rfl, rfl, by rw [ht]; exact hP, hD⟩, hS.F ht⟩) hS.2.2 d_W_about_22
set_option maxHeartbeats 4000000 in
set_option maxRecDepth 100000 in
/-- about: its answer -/
theorem R4_about (l : Launch) (hfl : l.flags = pinnedFlags ++ [noTraceFlag]) (D : va_G) (t : Nat → ClassId) (xa nw na rw ou : Nat) (qq : Nat → Nat → Nat) (no : Nat → Nat) (mk : Int32) (k : Nat) (hk : k < 7) : xh_C l D vwCl (xTY t) y_W_about c_W_about 5 (Option.some FieldType.int) [(0, 10, 13, 18), (0, 10, 17, 13)] ({ frames := 2, cells := 0, slots := 0, locals := 44 }) [.ref xa, .int (nI k), .int 4, .ref ou] [zO 7 xa [.ref nw, .ref na, .int 0], zA t 4 na 7 (fun j => some (qq j 0)), zO 2 nw [.ref rw, .int 0, .int 0, .int 0, .int 0], zA t 3 rw 300 (fun _ => none), zO 3 (qq k 0) [.int (nI k), .ref nw, .int 0, .int 0, .int 0, .ref ((qq k 1)), .ref ((qq k 7)), .ref ((qq k 11)), .int 1, .int 0, .int 0, .int (nI (8 + 3 * k)), .int ((-1)), .int 0, .ref ((qq k 15))], zO 5 (qq k 1) [.ref ((qq k 2)), .ref ((qq k 3)), .ref ((qq k 4)), .ref ((qq k 5)), .ref ((qq k 6)), .int 1], zJ t (qq k 2) 32 (fun _ => 1099511627776), zI t (qq k 3) 8 (fun _ => 0), zJ t (qq k 4) 8 (fun _ => 0), zI t (qq k 5) 4 (xm 1), zI t (qq k 6) 4 (xm mk), zO 4 (qq k 7) [.ref ((qq k 8)), .ref ((qq k 9)), .ref ((qq k 10))], zI t (qq k 8) 32 (fun _ => 0), zI t (qq k 9) 32 (fun _ => 0), zA t 2 (qq k 10) 32 (fun _ => none), zO 4 (qq k 11) [.ref ((qq k 12)), .ref ((qq k 13)), .ref ((qq k 14))], zI t (qq k 12) 64 (fun _ => 0), zI t (qq k 13) 64 (fun _ => 0), zA t 2 (qq k 14) 64 (fun _ => none), zO 0 (qq k 15) [.ref ((no k)), .int 0, .ref ((qq k 16)), .ref ((qq k 20)), .ref ((qq k 24)), .int 0, .int 0, .int 0], zO 4 (qq k 16) [.ref ((qq k 17)), .ref ((qq k 18)), .ref ((qq k 19))], zI t (qq k 17) 32 (fun _ => 0), zI t (qq k 18) 32 (fun _ => 0), zA t 2 (qq k 19) 32 (fun _ => none), zO 4 (qq k 20) [.ref ((qq k 21)), .ref ((qq k 22)), .ref ((qq k 23))], zI t (qq k 21) 4 (fun _ => 0), zI t (qq k 22) 4 (fun _ => 0), zA t 2 (qq k 23) 4 (fun _ => none), zA t 2 (qq k 24) 16 (fun _ => none), zJ t ou 1 (fun _ => 0)] (xe_i D vwCl (fun (r : Int32) (_ : Unit) => r = 0) (fun _ => [zJ t ou 1 (xo ((0 : Int32).toInt64))])) 0 0 := by
  refine xh_of (by decide) (Nat.le_of_ble_eq_true rfl) ?_
  intro p e s m below meth c ls A Z htab hG hr hlocks hin hA hP hD hS hl
  obtain ⟨hx, hb, hml, hown, hK⟩ := id Z
  have hown : s.vm.findClass "QuorumStoreLaw" = some m.cls := hown
  have hts := hK.1.at (args := ([.ref xa, .int (nI k), .int 4, .ref ou] : List Value).toArray)
  have hl : lv_has ls 5 [(0, .ref xa), (1, .int (nI k)), (2, .int 4), (3, .ref ou)] := hl
  refine lv_aload_n hx hb d_W_about_0 rfl (lv_at hl 3 rfl) ?_
  refine lv_iconst (v := 0) hx hb d_W_about_1 (by decide) ?_
  refine lv_aload_n hx hb d_W_about_2 rfl (lv_at hl 0 rfl) ?_
  refine lv_iload_n hx hb d_W_about_3 rfl (lv_at hl 1 rfl) ?_
  refine lv_iload_n hx hb d_W_about_4 rfl (lv_at hl 2 rfl) ?_
  refine xr_call (xs_V (As := [.int (nI k), .int 4]) (rest := [.int 0, .ref ou]) Z (C_Q_about_4 l D t xa nw na rw qq no mk k hk) m_Q_about k_805 k_806 k_807 rfl rfl ⟨Nat.le_of_ble_eq_true rfl, Nat.le_of_ble_eq_true rfl⟩ (va_recv hK.2 hP (ci := 7) (q0 := 0) rfl rfl) (xr_pre hK (hP.sub [0, 1, 2, 3, 4, 5, 6, 7, 8, 9, 10, 11, 12, 13, 14, 15, 16, 17, 18, 19, 20, 21, 22, 23, 24, 25, 26, 27, 28] rfl)) rfl hl.1 rfl (Nat.le_of_ble_eq_true rfl) d_W_about_5 ⟨Nat.le_of_ble_eq_true rfl, Nat.le_of_ble_eq_true rfl⟩) ?_
  refine lv_i2l (v := (0 : Int32).toInt64) hx hb d_W_about_8 rfl ?_
  refine va_last hx hb hK.2 hP hD hS 29 1 rfl rfl (by unfold vp_in; decide) d_W_about_9 (fun H locs hP hD hS => ?_)
  rw [xu_o] at hP hD
  have hP : va_P D vwCl [zO 7 xa [.ref nw, .ref na, .int 0], zA t 4 na 7 (fun j => some (qq j 0)), zO 2 nw [.ref rw, .int 0, .int 0, .int 0, .int 0], zA t 3 rw 300 (fun _ => none), zO 3 (qq k 0) [.int (nI k), .ref nw, .int 0, .int 0, .int 0, .ref ((qq k 1)), .ref ((qq k 7)), .ref ((qq k 11)), .int 1, .int 0, .int 0, .int (nI (8 + 3 * k)), .int ((-1)), .int 0, .ref ((qq k 15))], zO 5 (qq k 1) [.ref ((qq k 2)), .ref ((qq k 3)), .ref ((qq k 4)), .ref ((qq k 5)), .ref ((qq k 6)), .int 1], zJ t (qq k 2) 32 (fun _ => 1099511627776), zI t (qq k 3) 8 (fun _ => 0), zJ t (qq k 4) 8 (fun _ => 0), zI t (qq k 5) 4 (xm 1), zI t (qq k 6) 4 (xm mk), zO 4 (qq k 7) [.ref ((qq k 8)), .ref ((qq k 9)), .ref ((qq k 10))], zI t (qq k 8) 32 (fun _ => 0), zI t (qq k 9) 32 (fun _ => 0), zA t 2 (qq k 10) 32 (fun _ => none), zO 4 (qq k 11) [.ref ((qq k 12)), .ref ((qq k 13)), .ref ((qq k 14))], zI t (qq k 12) 64 (fun _ => 0), zI t (qq k 13) 64 (fun _ => 0), zA t 2 (qq k 14) 64 (fun _ => none), zO 0 (qq k 15) [.ref ((no k)), .int 0, .ref ((qq k 16)), .ref ((qq k 20)), .ref ((qq k 24)), .int 0, .int 0, .int 0], zO 4 (qq k 16) [.ref ((qq k 17)), .ref ((qq k 18)), .ref ((qq k 19))], zI t (qq k 17) 32 (fun _ => 0), zI t (qq k 18) 32 (fun _ => 0), zA t 2 (qq k 19) 32 (fun _ => none), zO 4 (qq k 20) [.ref ((qq k 21)), .ref ((qq k 22)), .ref ((qq k 23))], zI t (qq k 21) 4 (fun _ => 0), zI t (qq k 22) 4 (fun _ => 0), zA t 2 (qq k 23) 4 (fun _ => none), zA t 2 (qq k 24) 16 (fun _ => none), zJ t ou 1 (xo ((0 : Int32).toInt64))] H := hP
  have hD : va_D A [zO 7 xa [.ref nw, .ref na, .int 0], zA t 4 na 7 (fun j => some (qq j 0)), zO 2 nw [.ref rw, .int 0, .int 0, .int 0, .int 0], zA t 3 rw 300 (fun _ => none), zO 3 (qq k 0) [.int (nI k), .ref nw, .int 0, .int 0, .int 0, .ref ((qq k 1)), .ref ((qq k 7)), .ref ((qq k 11)), .int 1, .int 0, .int 0, .int (nI (8 + 3 * k)), .int ((-1)), .int 0, .ref ((qq k 15))], zO 5 (qq k 1) [.ref ((qq k 2)), .ref ((qq k 3)), .ref ((qq k 4)), .ref ((qq k 5)), .ref ((qq k 6)), .int 1], zJ t (qq k 2) 32 (fun _ => 1099511627776), zI t (qq k 3) 8 (fun _ => 0), zJ t (qq k 4) 8 (fun _ => 0), zI t (qq k 5) 4 (xm 1), zI t (qq k 6) 4 (xm mk), zO 4 (qq k 7) [.ref ((qq k 8)), .ref ((qq k 9)), .ref ((qq k 10))], zI t (qq k 8) 32 (fun _ => 0), zI t (qq k 9) 32 (fun _ => 0), zA t 2 (qq k 10) 32 (fun _ => none), zO 4 (qq k 11) [.ref ((qq k 12)), .ref ((qq k 13)), .ref ((qq k 14))], zI t (qq k 12) 64 (fun _ => 0), zI t (qq k 13) 64 (fun _ => 0), zA t 2 (qq k 14) 64 (fun _ => none), zO 0 (qq k 15) [.ref ((no k)), .int 0, .ref ((qq k 16)), .ref ((qq k 20)), .ref ((qq k 24)), .int 0, .int 0, .int 0], zO 4 (qq k 16) [.ref ((qq k 17)), .ref ((qq k 18)), .ref ((qq k 19))], zI t (qq k 17) 32 (fun _ => 0), zI t (qq k 18) 32 (fun _ => 0), zA t 2 (qq k 19) 32 (fun _ => none), zO 4 (qq k 20) [.ref ((qq k 21)), .ref ((qq k 22)), .ref ((qq k 23))], zI t (qq k 21) 4 (fun _ => 0), zI t (qq k 22) 4 (fun _ => 0), zA t 2 (qq k 23) 4 (fun _ => none), zA t 2 (qq k 24) 16 (fun _ => none), zJ t ou 1 (xo ((0 : Int32).toInt64))] := hD
  refine lv_goto (tgt := 21) hx hb d_W_about_10 (by decide) ?_
  refine lv_iconst (v := 0) hx hb d_W_about_21 (by decide) ?_
  have hP := hP.sub (ws' := [zJ t ou 1 (xo ((0 : Int32).toInt64))]) [29] rfl
  have hD := hD.sub (ws' := [zJ t ou 1 (xo ((0 : Int32).toInt64))]) [29] (by decide) rfl
  exact W.iret hx hb hr (fun t ht hW => ⟨⟨0, (), rfl, rfl, by rw [ht]; exact hP, hD⟩, hS.F ht⟩) hS.2.2 d_W_about_22
set_option maxHeartbeats 4000000 in
set_option maxRecDepth 100000 in
/-- about: its answer -/
theorem R5_about (l : Launch) (hfl : l.flags = pinnedFlags ++ [noTraceFlag]) (D : va_G) (t : Nat → ClassId) (xa nw na rw ou : Nat) (qq : Nat → Nat → Nat) (no : Nat → Nat) (mk : Int32) (k : Nat) (hk : k < 7) : xh_C l D vwCl (xTY t) y_W_about c_W_about 5 (Option.some FieldType.int) [(0, 10, 13, 18), (0, 10, 17, 13)] ({ frames := 2, cells := 0, slots := 0, locals := 44 }) [.ref xa, .int (nI k), .int 5, .ref ou] [zO 7 xa [.ref nw, .ref na, .int 0], zA t 4 na 7 (fun j => some (qq j 0)), zO 2 nw [.ref rw, .int 0, .int 0, .int 0, .int 0], zA t 3 rw 300 (fun _ => none), zO 3 (qq k 0) [.int (nI k), .ref nw, .int 0, .int 0, .int 0, .ref ((qq k 1)), .ref ((qq k 7)), .ref ((qq k 11)), .int 1, .int 0, .int 0, .int (nI (8 + 3 * k)), .int ((-1)), .int 0, .ref ((qq k 15))], zO 5 (qq k 1) [.ref ((qq k 2)), .ref ((qq k 3)), .ref ((qq k 4)), .ref ((qq k 5)), .ref ((qq k 6)), .int 1], zJ t (qq k 2) 32 (fun _ => 1099511627776), zI t (qq k 3) 8 (fun _ => 0), zJ t (qq k 4) 8 (fun _ => 0), zI t (qq k 5) 4 (xm 1), zI t (qq k 6) 4 (xm mk), zO 4 (qq k 7) [.ref ((qq k 8)), .ref ((qq k 9)), .ref ((qq k 10))], zI t (qq k 8) 32 (fun _ => 0), zI t (qq k 9) 32 (fun _ => 0), zA t 2 (qq k 10) 32 (fun _ => none), zO 4 (qq k 11) [.ref ((qq k 12)), .ref ((qq k 13)), .ref ((qq k 14))], zI t (qq k 12) 64 (fun _ => 0), zI t (qq k 13) 64 (fun _ => 0), zA t 2 (qq k 14) 64 (fun _ => none), zO 0 (qq k 15) [.ref ((no k)), .int 0, .ref ((qq k 16)), .ref ((qq k 20)), .ref ((qq k 24)), .int 0, .int 0, .int 0], zO 4 (qq k 16) [.ref ((qq k 17)), .ref ((qq k 18)), .ref ((qq k 19))], zI t (qq k 17) 32 (fun _ => 0), zI t (qq k 18) 32 (fun _ => 0), zA t 2 (qq k 19) 32 (fun _ => none), zO 4 (qq k 20) [.ref ((qq k 21)), .ref ((qq k 22)), .ref ((qq k 23))], zI t (qq k 21) 4 (fun _ => 0), zI t (qq k 22) 4 (fun _ => 0), zA t 2 (qq k 23) 4 (fun _ => none), zA t 2 (qq k 24) 16 (fun _ => none), zJ t ou 1 (fun _ => 0)] (xe_i D vwCl (fun (r : Int32) (_ : Unit) => r = 0) (fun _ => [zJ t ou 1 (xo ((0 : Int32).toInt64))])) 0 0 := by
  refine xh_of (by decide) (Nat.le_of_ble_eq_true rfl) ?_
  intro p e s m below meth c ls A Z htab hG hr hlocks hin hA hP hD hS hl
  obtain ⟨hx, hb, hml, hown, hK⟩ := id Z
  have hown : s.vm.findClass "QuorumStoreLaw" = some m.cls := hown
  have hts := hK.1.at (args := ([.ref xa, .int (nI k), .int 5, .ref ou] : List Value).toArray)
  have hl : lv_has ls 5 [(0, .ref xa), (1, .int (nI k)), (2, .int 5), (3, .ref ou)] := hl
  refine lv_aload_n hx hb d_W_about_0 rfl (lv_at hl 3 rfl) ?_
  refine lv_iconst (v := 0) hx hb d_W_about_1 (by decide) ?_
  refine lv_aload_n hx hb d_W_about_2 rfl (lv_at hl 0 rfl) ?_
  refine lv_iload_n hx hb d_W_about_3 rfl (lv_at hl 1 rfl) ?_
  refine lv_iload_n hx hb d_W_about_4 rfl (lv_at hl 2 rfl) ?_
  refine xr_call (xs_V (As := [.int (nI k), .int 5]) (rest := [.int 0, .ref ou]) Z (C_Q_about_5 l D t xa nw na rw qq no mk k hk) m_Q_about k_805 k_806 k_807 rfl rfl ⟨Nat.le_of_ble_eq_true rfl, Nat.le_of_ble_eq_true rfl⟩ (va_recv hK.2 hP (ci := 7) (q0 := 0) rfl rfl) (xr_pre hK (hP.sub [0, 1, 2, 3, 4, 5, 6, 7, 8, 9, 10, 11, 12, 13, 14, 15, 16, 17, 18, 19, 20, 21, 22, 23, 24, 25, 26, 27, 28] rfl)) rfl hl.1 rfl (Nat.le_of_ble_eq_true rfl) d_W_about_5 ⟨Nat.le_of_ble_eq_true rfl, Nat.le_of_ble_eq_true rfl⟩) ?_
  refine lv_i2l (v := (0 : Int32).toInt64) hx hb d_W_about_8 rfl ?_
  refine va_last hx hb hK.2 hP hD hS 29 1 rfl rfl (by unfold vp_in; decide) d_W_about_9 (fun H locs hP hD hS => ?_)
  rw [xu_o] at hP hD
  have hP : va_P D vwCl [zO 7 xa [.ref nw, .ref na, .int 0], zA t 4 na 7 (fun j => some (qq j 0)), zO 2 nw [.ref rw, .int 0, .int 0, .int 0, .int 0], zA t 3 rw 300 (fun _ => none), zO 3 (qq k 0) [.int (nI k), .ref nw, .int 0, .int 0, .int 0, .ref ((qq k 1)), .ref ((qq k 7)), .ref ((qq k 11)), .int 1, .int 0, .int 0, .int (nI (8 + 3 * k)), .int ((-1)), .int 0, .ref ((qq k 15))], zO 5 (qq k 1) [.ref ((qq k 2)), .ref ((qq k 3)), .ref ((qq k 4)), .ref ((qq k 5)), .ref ((qq k 6)), .int 1], zJ t (qq k 2) 32 (fun _ => 1099511627776), zI t (qq k 3) 8 (fun _ => 0), zJ t (qq k 4) 8 (fun _ => 0), zI t (qq k 5) 4 (xm 1), zI t (qq k 6) 4 (xm mk), zO 4 (qq k 7) [.ref ((qq k 8)), .ref ((qq k 9)), .ref ((qq k 10))], zI t (qq k 8) 32 (fun _ => 0), zI t (qq k 9) 32 (fun _ => 0), zA t 2 (qq k 10) 32 (fun _ => none), zO 4 (qq k 11) [.ref ((qq k 12)), .ref ((qq k 13)), .ref ((qq k 14))], zI t (qq k 12) 64 (fun _ => 0), zI t (qq k 13) 64 (fun _ => 0), zA t 2 (qq k 14) 64 (fun _ => none), zO 0 (qq k 15) [.ref ((no k)), .int 0, .ref ((qq k 16)), .ref ((qq k 20)), .ref ((qq k 24)), .int 0, .int 0, .int 0], zO 4 (qq k 16) [.ref ((qq k 17)), .ref ((qq k 18)), .ref ((qq k 19))], zI t (qq k 17) 32 (fun _ => 0), zI t (qq k 18) 32 (fun _ => 0), zA t 2 (qq k 19) 32 (fun _ => none), zO 4 (qq k 20) [.ref ((qq k 21)), .ref ((qq k 22)), .ref ((qq k 23))], zI t (qq k 21) 4 (fun _ => 0), zI t (qq k 22) 4 (fun _ => 0), zA t 2 (qq k 23) 4 (fun _ => none), zA t 2 (qq k 24) 16 (fun _ => none), zJ t ou 1 (xo ((0 : Int32).toInt64))] H := hP
  have hD : va_D A [zO 7 xa [.ref nw, .ref na, .int 0], zA t 4 na 7 (fun j => some (qq j 0)), zO 2 nw [.ref rw, .int 0, .int 0, .int 0, .int 0], zA t 3 rw 300 (fun _ => none), zO 3 (qq k 0) [.int (nI k), .ref nw, .int 0, .int 0, .int 0, .ref ((qq k 1)), .ref ((qq k 7)), .ref ((qq k 11)), .int 1, .int 0, .int 0, .int (nI (8 + 3 * k)), .int ((-1)), .int 0, .ref ((qq k 15))], zO 5 (qq k 1) [.ref ((qq k 2)), .ref ((qq k 3)), .ref ((qq k 4)), .ref ((qq k 5)), .ref ((qq k 6)), .int 1], zJ t (qq k 2) 32 (fun _ => 1099511627776), zI t (qq k 3) 8 (fun _ => 0), zJ t (qq k 4) 8 (fun _ => 0), zI t (qq k 5) 4 (xm 1), zI t (qq k 6) 4 (xm mk), zO 4 (qq k 7) [.ref ((qq k 8)), .ref ((qq k 9)), .ref ((qq k 10))], zI t (qq k 8) 32 (fun _ => 0), zI t (qq k 9) 32 (fun _ => 0), zA t 2 (qq k 10) 32 (fun _ => none), zO 4 (qq k 11) [.ref ((qq k 12)), .ref ((qq k 13)), .ref ((qq k 14))], zI t (qq k 12) 64 (fun _ => 0), zI t (qq k 13) 64 (fun _ => 0), zA t 2 (qq k 14) 64 (fun _ => none), zO 0 (qq k 15) [.ref ((no k)), .int 0, .ref ((qq k 16)), .ref ((qq k 20)), .ref ((qq k 24)), .int 0, .int 0, .int 0], zO 4 (qq k 16) [.ref ((qq k 17)), .ref ((qq k 18)), .ref ((qq k 19))], zI t (qq k 17) 32 (fun _ => 0), zI t (qq k 18) 32 (fun _ => 0), zA t 2 (qq k 19) 32 (fun _ => none), zO 4 (qq k 20) [.ref ((qq k 21)), .ref ((qq k 22)), .ref ((qq k 23))], zI t (qq k 21) 4 (fun _ => 0), zI t (qq k 22) 4 (fun _ => 0), zA t 2 (qq k 23) 4 (fun _ => none), zA t 2 (qq k 24) 16 (fun _ => none), zJ t ou 1 (xo ((0 : Int32).toInt64))] := hD
  refine lv_goto (tgt := 21) hx hb d_W_about_10 (by decide) ?_
  refine lv_iconst (v := 0) hx hb d_W_about_21 (by decide) ?_
  have hP := hP.sub (ws' := [zJ t ou 1 (xo ((0 : Int32).toInt64))]) [29] rfl
  have hD := hD.sub (ws' := [zJ t ou 1 (xo ((0 : Int32).toInt64))]) [29] (by decide) rfl
  exact W.iret hx hb hr (fun t ht hW => ⟨⟨0, (), rfl, rfl, by rw [ht]; exact hP, hD⟩, hS.F ht⟩) hS.2.2 d_W_about_22
set_option maxHeartbeats 4000000 in
set_option maxRecDepth 100000 in
/-- about: its answer -/
theorem R6_about (l : Launch) (hfl : l.flags = pinnedFlags ++ [noTraceFlag]) (D : va_G) (t : Nat → ClassId) (xa nw na rw ou : Nat) (qq : Nat → Nat → Nat) (no : Nat → Nat) (mk : Int32) (k : Nat) (hk : k < 7) : xh_C l D vwCl (xTY t) y_W_about c_W_about 5 (Option.some FieldType.int) [(0, 10, 13, 18), (0, 10, 17, 13)] ({ frames := 2, cells := 0, slots := 0, locals := 45 }) [.ref xa, .int (nI k), .int 6, .ref ou] [zO 7 xa [.ref nw, .ref na, .int 0], zA t 4 na 7 (fun j => some (qq j 0)), zO 2 nw [.ref rw, .int 0, .int 0, .int 0, .int 0], zA t 3 rw 300 (fun _ => none), zO 3 (qq k 0) [.int (nI k), .ref nw, .int 0, .int 0, .int 0, .ref ((qq k 1)), .ref ((qq k 7)), .ref ((qq k 11)), .int 1, .int 0, .int 0, .int (nI (8 + 3 * k)), .int ((-1)), .int 0, .ref ((qq k 15))], zO 5 (qq k 1) [.ref ((qq k 2)), .ref ((qq k 3)), .ref ((qq k 4)), .ref ((qq k 5)), .ref ((qq k 6)), .int 1], zJ t (qq k 2) 32 (fun _ => 1099511627776), zI t (qq k 3) 8 (fun _ => 0), zJ t (qq k 4) 8 (fun _ => 0), zI t (qq k 5) 4 (xm 1), zI t (qq k 6) 4 (xm mk), zO 4 (qq k 7) [.ref ((qq k 8)), .ref ((qq k 9)), .ref ((qq k 10))], zI t (qq k 8) 32 (fun _ => 0), zI t (qq k 9) 32 (fun _ => 0), zA t 2 (qq k 10) 32 (fun _ => none), zO 4 (qq k 11) [.ref ((qq k 12)), .ref ((qq k 13)), .ref ((qq k 14))], zI t (qq k 12) 64 (fun _ => 0), zI t (qq k 13) 64 (fun _ => 0), zA t 2 (qq k 14) 64 (fun _ => none), zO 0 (qq k 15) [.ref ((no k)), .int 0, .ref ((qq k 16)), .ref ((qq k 20)), .ref ((qq k 24)), .int 0, .int 0, .int 0], zO 4 (qq k 16) [.ref ((qq k 17)), .ref ((qq k 18)), .ref ((qq k 19))], zI t (qq k 17) 32 (fun _ => 0), zI t (qq k 18) 32 (fun _ => 0), zA t 2 (qq k 19) 32 (fun _ => none), zO 4 (qq k 20) [.ref ((qq k 21)), .ref ((qq k 22)), .ref ((qq k 23))], zI t (qq k 21) 4 (fun _ => 0), zI t (qq k 22) 4 (fun _ => 0), zA t 2 (qq k 23) 4 (fun _ => none), zA t 2 (qq k 24) 16 (fun _ => none), zJ t ou 1 (fun _ => 0)] (xe_i D vwCl (fun (r : Int32) (_ : Unit) => r = 0) (fun _ => [zJ t ou 1 (xo ((mk : Int32).toInt64))])) 0 0 := by
  refine xh_of (by decide) (Nat.le_of_ble_eq_true rfl) ?_
  intro p e s m below meth c ls A Z htab hG hr hlocks hin hA hP hD hS hl
  obtain ⟨hx, hb, hml, hown, hK⟩ := id Z
  have hown : s.vm.findClass "QuorumStoreLaw" = some m.cls := hown
  have hts := hK.1.at (args := ([.ref xa, .int (nI k), .int 6, .ref ou] : List Value).toArray)
  have hl : lv_has ls 5 [(0, .ref xa), (1, .int (nI k)), (2, .int 6), (3, .ref ou)] := hl
  refine lv_aload_n hx hb d_W_about_0 rfl (lv_at hl 3 rfl) ?_
  refine lv_iconst (v := 0) hx hb d_W_about_1 (by decide) ?_
  refine lv_aload_n hx hb d_W_about_2 rfl (lv_at hl 0 rfl) ?_
  refine lv_iload_n hx hb d_W_about_3 rfl (lv_at hl 1 rfl) ?_
  refine lv_iload_n hx hb d_W_about_4 rfl (lv_at hl 2 rfl) ?_
  refine xr_call (xs_V (As := [.int (nI k), .int 6]) (rest := [.int 0, .ref ou]) Z (C_Q_about_6 l D t xa nw na rw qq no mk k hk) m_Q_about k_805 k_806 k_807 rfl rfl ⟨Nat.le_of_ble_eq_true rfl, Nat.le_of_ble_eq_true rfl⟩ (va_recv hK.2 hP (ci := 7) (q0 := 0) rfl rfl) (xr_pre hK (hP.sub [0, 1, 2, 3, 4, 5, 6, 7, 8, 9, 10, 11, 12, 13, 14, 15, 16, 17, 18, 19, 20, 21, 22, 23, 24, 25, 26, 27, 28] rfl)) rfl hl.1 rfl (Nat.le_of_ble_eq_true rfl) d_W_about_5 ⟨Nat.le_of_ble_eq_true rfl, Nat.le_of_ble_eq_true rfl⟩) ?_
  refine lv_i2l (v := (mk : Int32).toInt64) hx hb d_W_about_8 rfl ?_
  refine va_last hx hb hK.2 hP hD hS 29 1 rfl rfl (by unfold vp_in; decide) d_W_about_9 (fun H locs hP hD hS => ?_)
  rw [xu_o] at hP hD
  have hP : va_P D vwCl [zO 7 xa [.ref nw, .ref na, .int 0], zA t 4 na 7 (fun j => some (qq j 0)), zO 2 nw [.ref rw, .int 0, .int 0, .int 0, .int 0], zA t 3 rw 300 (fun _ => none), zO 3 (qq k 0) [.int (nI k), .ref nw, .int 0, .int 0, .int 0, .ref ((qq k 1)), .ref ((qq k 7)), .ref ((qq k 11)), .int 1, .int 0, .int 0, .int (nI (8 + 3 * k)), .int ((-1)), .int 0, .ref ((qq k 15))], zO 5 (qq k 1) [.ref ((qq k 2)), .ref ((qq k 3)), .ref ((qq k 4)), .ref ((qq k 5)), .ref ((qq k 6)), .int 1], zJ t (qq k 2) 32 (fun _ => 1099511627776), zI t (qq k 3) 8 (fun _ => 0), zJ t (qq k 4) 8 (fun _ => 0), zI t (qq k 5) 4 (xm 1), zI t (qq k 6) 4 (xm mk), zO 4 (qq k 7) [.ref ((qq k 8)), .ref ((qq k 9)), .ref ((qq k 10))], zI t (qq k 8) 32 (fun _ => 0), zI t (qq k 9) 32 (fun _ => 0), zA t 2 (qq k 10) 32 (fun _ => none), zO 4 (qq k 11) [.ref ((qq k 12)), .ref ((qq k 13)), .ref ((qq k 14))], zI t (qq k 12) 64 (fun _ => 0), zI t (qq k 13) 64 (fun _ => 0), zA t 2 (qq k 14) 64 (fun _ => none), zO 0 (qq k 15) [.ref ((no k)), .int 0, .ref ((qq k 16)), .ref ((qq k 20)), .ref ((qq k 24)), .int 0, .int 0, .int 0], zO 4 (qq k 16) [.ref ((qq k 17)), .ref ((qq k 18)), .ref ((qq k 19))], zI t (qq k 17) 32 (fun _ => 0), zI t (qq k 18) 32 (fun _ => 0), zA t 2 (qq k 19) 32 (fun _ => none), zO 4 (qq k 20) [.ref ((qq k 21)), .ref ((qq k 22)), .ref ((qq k 23))], zI t (qq k 21) 4 (fun _ => 0), zI t (qq k 22) 4 (fun _ => 0), zA t 2 (qq k 23) 4 (fun _ => none), zA t 2 (qq k 24) 16 (fun _ => none), zJ t ou 1 (xo ((mk : Int32).toInt64))] H := hP
  have hD : va_D A [zO 7 xa [.ref nw, .ref na, .int 0], zA t 4 na 7 (fun j => some (qq j 0)), zO 2 nw [.ref rw, .int 0, .int 0, .int 0, .int 0], zA t 3 rw 300 (fun _ => none), zO 3 (qq k 0) [.int (nI k), .ref nw, .int 0, .int 0, .int 0, .ref ((qq k 1)), .ref ((qq k 7)), .ref ((qq k 11)), .int 1, .int 0, .int 0, .int (nI (8 + 3 * k)), .int ((-1)), .int 0, .ref ((qq k 15))], zO 5 (qq k 1) [.ref ((qq k 2)), .ref ((qq k 3)), .ref ((qq k 4)), .ref ((qq k 5)), .ref ((qq k 6)), .int 1], zJ t (qq k 2) 32 (fun _ => 1099511627776), zI t (qq k 3) 8 (fun _ => 0), zJ t (qq k 4) 8 (fun _ => 0), zI t (qq k 5) 4 (xm 1), zI t (qq k 6) 4 (xm mk), zO 4 (qq k 7) [.ref ((qq k 8)), .ref ((qq k 9)), .ref ((qq k 10))], zI t (qq k 8) 32 (fun _ => 0), zI t (qq k 9) 32 (fun _ => 0), zA t 2 (qq k 10) 32 (fun _ => none), zO 4 (qq k 11) [.ref ((qq k 12)), .ref ((qq k 13)), .ref ((qq k 14))], zI t (qq k 12) 64 (fun _ => 0), zI t (qq k 13) 64 (fun _ => 0), zA t 2 (qq k 14) 64 (fun _ => none), zO 0 (qq k 15) [.ref ((no k)), .int 0, .ref ((qq k 16)), .ref ((qq k 20)), .ref ((qq k 24)), .int 0, .int 0, .int 0], zO 4 (qq k 16) [.ref ((qq k 17)), .ref ((qq k 18)), .ref ((qq k 19))], zI t (qq k 17) 32 (fun _ => 0), zI t (qq k 18) 32 (fun _ => 0), zA t 2 (qq k 19) 32 (fun _ => none), zO 4 (qq k 20) [.ref ((qq k 21)), .ref ((qq k 22)), .ref ((qq k 23))], zI t (qq k 21) 4 (fun _ => 0), zI t (qq k 22) 4 (fun _ => 0), zA t 2 (qq k 23) 4 (fun _ => none), zA t 2 (qq k 24) 16 (fun _ => none), zJ t ou 1 (xo ((mk : Int32).toInt64))] := hD
  refine lv_goto (tgt := 21) hx hb d_W_about_10 (by decide) ?_
  refine lv_iconst (v := 0) hx hb d_W_about_21 (by decide) ?_
  have hP := hP.sub (ws' := [zJ t ou 1 (xo ((mk : Int32).toInt64))]) [29] rfl
  have hD := hD.sub (ws' := [zJ t ou 1 (xo ((mk : Int32).toInt64))]) [29] (by decide) rfl
  exact W.iret hx hb hr (fun t ht hW => ⟨⟨0, (), rfl, rfl, by rw [ht]; exact hP, hD⟩, hS.F ht⟩) hS.2.2 d_W_about_22
set_option maxHeartbeats 4000000 in
set_option maxRecDepth 100000 in
/-- about: its answer -/
theorem R7_about (l : Launch) (hfl : l.flags = pinnedFlags ++ [noTraceFlag]) (D : va_G) (t : Nat → ClassId) (xa nw na rw ou : Nat) (qq : Nat → Nat → Nat) (no : Nat → Nat) (mk : Int32) (k : Nat) (hk : k < 7) : xh_C l D vwCl (xTY t) y_W_about c_W_about 5 (Option.some FieldType.int) [(0, 10, 13, 18), (0, 10, 17, 13)] ({ frames := 2, cells := 0, slots := 0, locals := 44 }) [.ref xa, .int (nI k), .int 7, .ref ou] [zO 7 xa [.ref nw, .ref na, .int 0], zA t 4 na 7 (fun j => some (qq j 0)), zO 2 nw [.ref rw, .int 0, .int 0, .int 0, .int 0], zA t 3 rw 300 (fun _ => none), zO 3 (qq k 0) [.int (nI k), .ref nw, .int 0, .int 0, .int 0, .ref ((qq k 1)), .ref ((qq k 7)), .ref ((qq k 11)), .int 1, .int 0, .int 0, .int (nI (8 + 3 * k)), .int ((-1)), .int 0, .ref ((qq k 15))], zO 5 (qq k 1) [.ref ((qq k 2)), .ref ((qq k 3)), .ref ((qq k 4)), .ref ((qq k 5)), .ref ((qq k 6)), .int 1], zJ t (qq k 2) 32 (fun _ => 1099511627776), zI t (qq k 3) 8 (fun _ => 0), zJ t (qq k 4) 8 (fun _ => 0), zI t (qq k 5) 4 (xm 1), zI t (qq k 6) 4 (xm mk), zO 4 (qq k 7) [.ref ((qq k 8)), .ref ((qq k 9)), .ref ((qq k 10))], zI t (qq k 8) 32 (fun _ => 0), zI t (qq k 9) 32 (fun _ => 0), zA t 2 (qq k 10) 32 (fun _ => none), zO 4 (qq k 11) [.ref ((qq k 12)), .ref ((qq k 13)), .ref ((qq k 14))], zI t (qq k 12) 64 (fun _ => 0), zI t (qq k 13) 64 (fun _ => 0), zA t 2 (qq k 14) 64 (fun _ => none), zO 0 (qq k 15) [.ref ((no k)), .int 0, .ref ((qq k 16)), .ref ((qq k 20)), .ref ((qq k 24)), .int 0, .int 0, .int 0], zO 4 (qq k 16) [.ref ((qq k 17)), .ref ((qq k 18)), .ref ((qq k 19))], zI t (qq k 17) 32 (fun _ => 0), zI t (qq k 18) 32 (fun _ => 0), zA t 2 (qq k 19) 32 (fun _ => none), zO 4 (qq k 20) [.ref ((qq k 21)), .ref ((qq k 22)), .ref ((qq k 23))], zI t (qq k 21) 4 (fun _ => 0), zI t (qq k 22) 4 (fun _ => 0), zA t 2 (qq k 23) 4 (fun _ => none), zA t 2 (qq k 24) 16 (fun _ => none), zJ t ou 1 (fun _ => 0)] (xe_i D vwCl (fun (r : Int32) (_ : Unit) => r = 0) (fun _ => [zJ t ou 1 (xo (((-1) : Int32).toInt64))])) 0 0 := by
  refine xh_of (by decide) (Nat.le_of_ble_eq_true rfl) ?_
  intro p e s m below meth c ls A Z htab hG hr hlocks hin hA hP hD hS hl
  obtain ⟨hx, hb, hml, hown, hK⟩ := id Z
  have hown : s.vm.findClass "QuorumStoreLaw" = some m.cls := hown
  have hts := hK.1.at (args := ([.ref xa, .int (nI k), .int 7, .ref ou] : List Value).toArray)
  have hl : lv_has ls 5 [(0, .ref xa), (1, .int (nI k)), (2, .int 7), (3, .ref ou)] := hl
  refine lv_aload_n hx hb d_W_about_0 rfl (lv_at hl 3 rfl) ?_
  refine lv_iconst (v := 0) hx hb d_W_about_1 (by decide) ?_
  refine lv_aload_n hx hb d_W_about_2 rfl (lv_at hl 0 rfl) ?_
  refine lv_iload_n hx hb d_W_about_3 rfl (lv_at hl 1 rfl) ?_
  refine lv_iload_n hx hb d_W_about_4 rfl (lv_at hl 2 rfl) ?_
  refine xr_call (xs_V (As := [.int (nI k), .int 7]) (rest := [.int 0, .ref ou]) Z (C_Q_about_7 l D t xa nw na rw qq no mk k hk) m_Q_about k_805 k_806 k_807 rfl rfl ⟨Nat.le_of_ble_eq_true rfl, Nat.le_of_ble_eq_true rfl⟩ (va_recv hK.2 hP (ci := 7) (q0 := 0) rfl rfl) (xr_pre hK (hP.sub [0, 1, 2, 3, 4, 5, 6, 7, 8, 9, 10, 11, 12, 13, 14, 15, 16, 17, 18, 19, 20, 21, 22, 23, 24, 25, 26, 27, 28] rfl)) rfl hl.1 rfl (Nat.le_of_ble_eq_true rfl) d_W_about_5 ⟨Nat.le_of_ble_eq_true rfl, Nat.le_of_ble_eq_true rfl⟩) ?_
  refine lv_i2l (v := ((-1) : Int32).toInt64) hx hb d_W_about_8 rfl ?_
  refine va_last hx hb hK.2 hP hD hS 29 1 rfl rfl (by unfold vp_in; decide) d_W_about_9 (fun H locs hP hD hS => ?_)
  rw [xu_o] at hP hD
  have hP : va_P D vwCl [zO 7 xa [.ref nw, .ref na, .int 0], zA t 4 na 7 (fun j => some (qq j 0)), zO 2 nw [.ref rw, .int 0, .int 0, .int 0, .int 0], zA t 3 rw 300 (fun _ => none), zO 3 (qq k 0) [.int (nI k), .ref nw, .int 0, .int 0, .int 0, .ref ((qq k 1)), .ref ((qq k 7)), .ref ((qq k 11)), .int 1, .int 0, .int 0, .int (nI (8 + 3 * k)), .int ((-1)), .int 0, .ref ((qq k 15))], zO 5 (qq k 1) [.ref ((qq k 2)), .ref ((qq k 3)), .ref ((qq k 4)), .ref ((qq k 5)), .ref ((qq k 6)), .int 1], zJ t (qq k 2) 32 (fun _ => 1099511627776), zI t (qq k 3) 8 (fun _ => 0), zJ t (qq k 4) 8 (fun _ => 0), zI t (qq k 5) 4 (xm 1), zI t (qq k 6) 4 (xm mk), zO 4 (qq k 7) [.ref ((qq k 8)), .ref ((qq k 9)), .ref ((qq k 10))], zI t (qq k 8) 32 (fun _ => 0), zI t (qq k 9) 32 (fun _ => 0), zA t 2 (qq k 10) 32 (fun _ => none), zO 4 (qq k 11) [.ref ((qq k 12)), .ref ((qq k 13)), .ref ((qq k 14))], zI t (qq k 12) 64 (fun _ => 0), zI t (qq k 13) 64 (fun _ => 0), zA t 2 (qq k 14) 64 (fun _ => none), zO 0 (qq k 15) [.ref ((no k)), .int 0, .ref ((qq k 16)), .ref ((qq k 20)), .ref ((qq k 24)), .int 0, .int 0, .int 0], zO 4 (qq k 16) [.ref ((qq k 17)), .ref ((qq k 18)), .ref ((qq k 19))], zI t (qq k 17) 32 (fun _ => 0), zI t (qq k 18) 32 (fun _ => 0), zA t 2 (qq k 19) 32 (fun _ => none), zO 4 (qq k 20) [.ref ((qq k 21)), .ref ((qq k 22)), .ref ((qq k 23))], zI t (qq k 21) 4 (fun _ => 0), zI t (qq k 22) 4 (fun _ => 0), zA t 2 (qq k 23) 4 (fun _ => none), zA t 2 (qq k 24) 16 (fun _ => none), zJ t ou 1 (xo (((-1) : Int32).toInt64))] H := hP
  have hD : va_D A [zO 7 xa [.ref nw, .ref na, .int 0], zA t 4 na 7 (fun j => some (qq j 0)), zO 2 nw [.ref rw, .int 0, .int 0, .int 0, .int 0], zA t 3 rw 300 (fun _ => none), zO 3 (qq k 0) [.int (nI k), .ref nw, .int 0, .int 0, .int 0, .ref ((qq k 1)), .ref ((qq k 7)), .ref ((qq k 11)), .int 1, .int 0, .int 0, .int (nI (8 + 3 * k)), .int ((-1)), .int 0, .ref ((qq k 15))], zO 5 (qq k 1) [.ref ((qq k 2)), .ref ((qq k 3)), .ref ((qq k 4)), .ref ((qq k 5)), .ref ((qq k 6)), .int 1], zJ t (qq k 2) 32 (fun _ => 1099511627776), zI t (qq k 3) 8 (fun _ => 0), zJ t (qq k 4) 8 (fun _ => 0), zI t (qq k 5) 4 (xm 1), zI t (qq k 6) 4 (xm mk), zO 4 (qq k 7) [.ref ((qq k 8)), .ref ((qq k 9)), .ref ((qq k 10))], zI t (qq k 8) 32 (fun _ => 0), zI t (qq k 9) 32 (fun _ => 0), zA t 2 (qq k 10) 32 (fun _ => none), zO 4 (qq k 11) [.ref ((qq k 12)), .ref ((qq k 13)), .ref ((qq k 14))], zI t (qq k 12) 64 (fun _ => 0), zI t (qq k 13) 64 (fun _ => 0), zA t 2 (qq k 14) 64 (fun _ => none), zO 0 (qq k 15) [.ref ((no k)), .int 0, .ref ((qq k 16)), .ref ((qq k 20)), .ref ((qq k 24)), .int 0, .int 0, .int 0], zO 4 (qq k 16) [.ref ((qq k 17)), .ref ((qq k 18)), .ref ((qq k 19))], zI t (qq k 17) 32 (fun _ => 0), zI t (qq k 18) 32 (fun _ => 0), zA t 2 (qq k 19) 32 (fun _ => none), zO 4 (qq k 20) [.ref ((qq k 21)), .ref ((qq k 22)), .ref ((qq k 23))], zI t (qq k 21) 4 (fun _ => 0), zI t (qq k 22) 4 (fun _ => 0), zA t 2 (qq k 23) 4 (fun _ => none), zA t 2 (qq k 24) 16 (fun _ => none), zJ t ou 1 (xo (((-1) : Int32).toInt64))] := hD
  refine lv_goto (tgt := 21) hx hb d_W_about_10 (by decide) ?_
  refine lv_iconst (v := 0) hx hb d_W_about_21 (by decide) ?_
  have hP := hP.sub (ws' := [zJ t ou 1 (xo (((-1) : Int32).toInt64))]) [29] rfl
  have hD := hD.sub (ws' := [zJ t ou 1 (xo (((-1) : Int32).toInt64))]) [29] (by decide) rfl
  exact W.iret hx hb hr (fun t ht hW => ⟨⟨0, (), rfl, rfl, by rw [ht]; exact hP, hD⟩, hS.F ht⟩) hS.2.2 d_W_about_22
set_option maxHeartbeats 4000000 in
set_option maxRecDepth 100000 in
/-- about: its answer -/
theorem R8_about (l : Launch) (hfl : l.flags = pinnedFlags ++ [noTraceFlag]) (D : va_G) (t : Nat → ClassId) (xa nw na rw ou : Nat) (qq : Nat → Nat → Nat) (no : Nat → Nat) (mk : Int32) (k : Nat) (hk : k < 7) : xh_C l D vwCl (xTY t) y_W_about c_W_about 5 (Option.some FieldType.int) [(0, 10, 13, 18), (0, 10, 17, 13)] ({ frames := 2, cells := 0, slots := 0, locals := 44 }) [.ref xa, .int (nI k), .int 8, .ref ou] [zO 7 xa [.ref nw, .ref na, .int 0], zA t 4 na 7 (fun j => some (qq j 0)), zO 2 nw [.ref rw, .int 0, .int 0, .int 0, .int 0], zA t 3 rw 300 (fun _ => none), zO 3 (qq k 0) [.int (nI k), .ref nw, .int 0, .int 0, .int 0, .ref ((qq k 1)), .ref ((qq k 7)), .ref ((qq k 11)), .int 1, .int 0, .int 0, .int (nI (8 + 3 * k)), .int ((-1)), .int 0, .ref ((qq k 15))], zO 5 (qq k 1) [.ref ((qq k 2)), .ref ((qq k 3)), .ref ((qq k 4)), .ref ((qq k 5)), .ref ((qq k 6)), .int 1], zJ t (qq k 2) 32 (fun _ => 1099511627776), zI t (qq k 3) 8 (fun _ => 0), zJ t (qq k 4) 8 (fun _ => 0), zI t (qq k 5) 4 (xm 1), zI t (qq k 6) 4 (xm mk), zO 4 (qq k 7) [.ref ((qq k 8)), .ref ((qq k 9)), .ref ((qq k 10))], zI t (qq k 8) 32 (fun _ => 0), zI t (qq k 9) 32 (fun _ => 0), zA t 2 (qq k 10) 32 (fun _ => none), zO 4 (qq k 11) [.ref ((qq k 12)), .ref ((qq k 13)), .ref ((qq k 14))], zI t (qq k 12) 64 (fun _ => 0), zI t (qq k 13) 64 (fun _ => 0), zA t 2 (qq k 14) 64 (fun _ => none), zO 0 (qq k 15) [.ref ((no k)), .int 0, .ref ((qq k 16)), .ref ((qq k 20)), .ref ((qq k 24)), .int 0, .int 0, .int 0], zO 4 (qq k 16) [.ref ((qq k 17)), .ref ((qq k 18)), .ref ((qq k 19))], zI t (qq k 17) 32 (fun _ => 0), zI t (qq k 18) 32 (fun _ => 0), zA t 2 (qq k 19) 32 (fun _ => none), zO 4 (qq k 20) [.ref ((qq k 21)), .ref ((qq k 22)), .ref ((qq k 23))], zI t (qq k 21) 4 (fun _ => 0), zI t (qq k 22) 4 (fun _ => 0), zA t 2 (qq k 23) 4 (fun _ => none), zA t 2 (qq k 24) 16 (fun _ => none), zJ t ou 1 (fun _ => 0)] (xe_i D vwCl (fun (r : Int32) (_ : Unit) => r = 0) (fun _ => [zJ t ou 1 (xo ((nI (8 + 3 * k) : Int32).toInt64))])) 0 0 := by
  refine xh_of (by decide) (Nat.le_of_ble_eq_true rfl) ?_
  intro p e s m below meth c ls A Z htab hG hr hlocks hin hA hP hD hS hl
  obtain ⟨hx, hb, hml, hown, hK⟩ := id Z
  have hown : s.vm.findClass "QuorumStoreLaw" = some m.cls := hown
  have hts := hK.1.at (args := ([.ref xa, .int (nI k), .int 8, .ref ou] : List Value).toArray)
  have hl : lv_has ls 5 [(0, .ref xa), (1, .int (nI k)), (2, .int 8), (3, .ref ou)] := hl
  refine lv_aload_n hx hb d_W_about_0 rfl (lv_at hl 3 rfl) ?_
  refine lv_iconst (v := 0) hx hb d_W_about_1 (by decide) ?_
  refine lv_aload_n hx hb d_W_about_2 rfl (lv_at hl 0 rfl) ?_
  refine lv_iload_n hx hb d_W_about_3 rfl (lv_at hl 1 rfl) ?_
  refine lv_iload_n hx hb d_W_about_4 rfl (lv_at hl 2 rfl) ?_
  refine xr_call (xs_V (As := [.int (nI k), .int 8]) (rest := [.int 0, .ref ou]) Z (C_Q_about_8 l D t xa nw na rw qq no mk k hk) m_Q_about k_805 k_806 k_807 rfl rfl ⟨Nat.le_of_ble_eq_true rfl, Nat.le_of_ble_eq_true rfl⟩ (va_recv hK.2 hP (ci := 7) (q0 := 0) rfl rfl) (xr_pre hK (hP.sub [0, 1, 2, 3, 4, 5, 6, 7, 8, 9, 10, 11, 12, 13, 14, 15, 16, 17, 18, 19, 20, 21, 22, 23, 24, 25, 26, 27, 28] rfl)) rfl hl.1 rfl (Nat.le_of_ble_eq_true rfl) d_W_about_5 ⟨Nat.le_of_ble_eq_true rfl, Nat.le_of_ble_eq_true rfl⟩) ?_
  refine lv_i2l (v := (nI (8 + 3 * k) : Int32).toInt64) hx hb d_W_about_8 rfl ?_
  refine va_last hx hb hK.2 hP hD hS 29 1 rfl rfl (by unfold vp_in; decide) d_W_about_9 (fun H locs hP hD hS => ?_)
  rw [xu_o] at hP hD
  have hP : va_P D vwCl [zO 7 xa [.ref nw, .ref na, .int 0], zA t 4 na 7 (fun j => some (qq j 0)), zO 2 nw [.ref rw, .int 0, .int 0, .int 0, .int 0], zA t 3 rw 300 (fun _ => none), zO 3 (qq k 0) [.int (nI k), .ref nw, .int 0, .int 0, .int 0, .ref ((qq k 1)), .ref ((qq k 7)), .ref ((qq k 11)), .int 1, .int 0, .int 0, .int (nI (8 + 3 * k)), .int ((-1)), .int 0, .ref ((qq k 15))], zO 5 (qq k 1) [.ref ((qq k 2)), .ref ((qq k 3)), .ref ((qq k 4)), .ref ((qq k 5)), .ref ((qq k 6)), .int 1], zJ t (qq k 2) 32 (fun _ => 1099511627776), zI t (qq k 3) 8 (fun _ => 0), zJ t (qq k 4) 8 (fun _ => 0), zI t (qq k 5) 4 (xm 1), zI t (qq k 6) 4 (xm mk), zO 4 (qq k 7) [.ref ((qq k 8)), .ref ((qq k 9)), .ref ((qq k 10))], zI t (qq k 8) 32 (fun _ => 0), zI t (qq k 9) 32 (fun _ => 0), zA t 2 (qq k 10) 32 (fun _ => none), zO 4 (qq k 11) [.ref ((qq k 12)), .ref ((qq k 13)), .ref ((qq k 14))], zI t (qq k 12) 64 (fun _ => 0), zI t (qq k 13) 64 (fun _ => 0), zA t 2 (qq k 14) 64 (fun _ => none), zO 0 (qq k 15) [.ref ((no k)), .int 0, .ref ((qq k 16)), .ref ((qq k 20)), .ref ((qq k 24)), .int 0, .int 0, .int 0], zO 4 (qq k 16) [.ref ((qq k 17)), .ref ((qq k 18)), .ref ((qq k 19))], zI t (qq k 17) 32 (fun _ => 0), zI t (qq k 18) 32 (fun _ => 0), zA t 2 (qq k 19) 32 (fun _ => none), zO 4 (qq k 20) [.ref ((qq k 21)), .ref ((qq k 22)), .ref ((qq k 23))], zI t (qq k 21) 4 (fun _ => 0), zI t (qq k 22) 4 (fun _ => 0), zA t 2 (qq k 23) 4 (fun _ => none), zA t 2 (qq k 24) 16 (fun _ => none), zJ t ou 1 (xo ((nI (8 + 3 * k) : Int32).toInt64))] H := hP
  have hD : va_D A [zO 7 xa [.ref nw, .ref na, .int 0], zA t 4 na 7 (fun j => some (qq j 0)), zO 2 nw [.ref rw, .int 0, .int 0, .int 0, .int 0], zA t 3 rw 300 (fun _ => none), zO 3 (qq k 0) [.int (nI k), .ref nw, .int 0, .int 0, .int 0, .ref ((qq k 1)), .ref ((qq k 7)), .ref ((qq k 11)), .int 1, .int 0, .int 0, .int (nI (8 + 3 * k)), .int ((-1)), .int 0, .ref ((qq k 15))], zO 5 (qq k 1) [.ref ((qq k 2)), .ref ((qq k 3)), .ref ((qq k 4)), .ref ((qq k 5)), .ref ((qq k 6)), .int 1], zJ t (qq k 2) 32 (fun _ => 1099511627776), zI t (qq k 3) 8 (fun _ => 0), zJ t (qq k 4) 8 (fun _ => 0), zI t (qq k 5) 4 (xm 1), zI t (qq k 6) 4 (xm mk), zO 4 (qq k 7) [.ref ((qq k 8)), .ref ((qq k 9)), .ref ((qq k 10))], zI t (qq k 8) 32 (fun _ => 0), zI t (qq k 9) 32 (fun _ => 0), zA t 2 (qq k 10) 32 (fun _ => none), zO 4 (qq k 11) [.ref ((qq k 12)), .ref ((qq k 13)), .ref ((qq k 14))], zI t (qq k 12) 64 (fun _ => 0), zI t (qq k 13) 64 (fun _ => 0), zA t 2 (qq k 14) 64 (fun _ => none), zO 0 (qq k 15) [.ref ((no k)), .int 0, .ref ((qq k 16)), .ref ((qq k 20)), .ref ((qq k 24)), .int 0, .int 0, .int 0], zO 4 (qq k 16) [.ref ((qq k 17)), .ref ((qq k 18)), .ref ((qq k 19))], zI t (qq k 17) 32 (fun _ => 0), zI t (qq k 18) 32 (fun _ => 0), zA t 2 (qq k 19) 32 (fun _ => none), zO 4 (qq k 20) [.ref ((qq k 21)), .ref ((qq k 22)), .ref ((qq k 23))], zI t (qq k 21) 4 (fun _ => 0), zI t (qq k 22) 4 (fun _ => 0), zA t 2 (qq k 23) 4 (fun _ => none), zA t 2 (qq k 24) 16 (fun _ => none), zJ t ou 1 (xo ((nI (8 + 3 * k) : Int32).toInt64))] := hD
  refine lv_goto (tgt := 21) hx hb d_W_about_10 (by decide) ?_
  refine lv_iconst (v := 0) hx hb d_W_about_21 (by decide) ?_
  have hP := hP.sub (ws' := [zJ t ou 1 (xo ((nI (8 + 3 * k) : Int32).toInt64))]) [29] rfl
  have hD := hD.sub (ws' := [zJ t ou 1 (xo ((nI (8 + 3 * k) : Int32).toInt64))]) [29] (by decide) rfl
  exact W.iret hx hb hr (fun t ht hW => ⟨⟨0, (), rfl, rfl, by rw [ht]; exact hP, hD⟩, hS.F ht⟩) hS.2.2 d_W_about_22
set_option maxHeartbeats 4000000 in
set_option maxRecDepth 100000 in
/-- about: its answer -/
theorem R9_about (l : Launch) (hfl : l.flags = pinnedFlags ++ [noTraceFlag]) (D : va_G) (t : Nat → ClassId) (xa nw na rw ou : Nat) (qq : Nat → Nat → Nat) (no : Nat → Nat) (mk : Int32) (k : Nat) (hk : k < 7) : xh_C l D vwCl (xTY t) y_W_about c_W_about 5 (Option.some FieldType.int) [(0, 10, 13, 18), (0, 10, 17, 13)] ({ frames := 2, cells := 0, slots := 0, locals := 44 }) [.ref xa, .int (nI k), .int 9, .ref ou] [zO 7 xa [.ref nw, .ref na, .int 0], zA t 4 na 7 (fun j => some (qq j 0)), zO 2 nw [.ref rw, .int 0, .int 0, .int 0, .int 0], zA t 3 rw 300 (fun _ => none), zO 3 (qq k 0) [.int (nI k), .ref nw, .int 0, .int 0, .int 0, .ref ((qq k 1)), .ref ((qq k 7)), .ref ((qq k 11)), .int 1, .int 0, .int 0, .int (nI (8 + 3 * k)), .int ((-1)), .int 0, .ref ((qq k 15))], zO 5 (qq k 1) [.ref ((qq k 2)), .ref ((qq k 3)), .ref ((qq k 4)), .ref ((qq k 5)), .ref ((qq k 6)), .int 1], zJ t (qq k 2) 32 (fun _ => 1099511627776), zI t (qq k 3) 8 (fun _ => 0), zJ t (qq k 4) 8 (fun _ => 0), zI t (qq k 5) 4 (xm 1), zI t (qq k 6) 4 (xm mk), zO 4 (qq k 7) [.ref ((qq k 8)), .ref ((qq k 9)), .ref ((qq k 10))], zI t (qq k 8) 32 (fun _ => 0), zI t (qq k 9) 32 (fun _ => 0), zA t 2 (qq k 10) 32 (fun _ => none), zO 4 (qq k 11) [.ref ((qq k 12)), .ref ((qq k 13)), .ref ((qq k 14))], zI t (qq k 12) 64 (fun _ => 0), zI t (qq k 13) 64 (fun _ => 0), zA t 2 (qq k 14) 64 (fun _ => none), zO 0 (qq k 15) [.ref ((no k)), .int 0, .ref ((qq k 16)), .ref ((qq k 20)), .ref ((qq k 24)), .int 0, .int 0, .int 0], zO 4 (qq k 16) [.ref ((qq k 17)), .ref ((qq k 18)), .ref ((qq k 19))], zI t (qq k 17) 32 (fun _ => 0), zI t (qq k 18) 32 (fun _ => 0), zA t 2 (qq k 19) 32 (fun _ => none), zO 4 (qq k 20) [.ref ((qq k 21)), .ref ((qq k 22)), .ref ((qq k 23))], zI t (qq k 21) 4 (fun _ => 0), zI t (qq k 22) 4 (fun _ => 0), zA t 2 (qq k 23) 4 (fun _ => none), zA t 2 (qq k 24) 16 (fun _ => none), zJ t ou 1 (fun _ => 0)] (xe_i D vwCl (fun (r : Int32) (_ : Unit) => r = 0) (fun _ => [zJ t ou 1 (xo ((0 : Int32).toInt64))])) 0 0 := by
  refine xh_of (by decide) (Nat.le_of_ble_eq_true rfl) ?_
  intro p e s m below meth c ls A Z htab hG hr hlocks hin hA hP hD hS hl
  obtain ⟨hx, hb, hml, hown, hK⟩ := id Z
  have hown : s.vm.findClass "QuorumStoreLaw" = some m.cls := hown
  have hts := hK.1.at (args := ([.ref xa, .int (nI k), .int 9, .ref ou] : List Value).toArray)
  have hl : lv_has ls 5 [(0, .ref xa), (1, .int (nI k)), (2, .int 9), (3, .ref ou)] := hl
  refine lv_aload_n hx hb d_W_about_0 rfl (lv_at hl 3 rfl) ?_
  refine lv_iconst (v := 0) hx hb d_W_about_1 (by decide) ?_
  refine lv_aload_n hx hb d_W_about_2 rfl (lv_at hl 0 rfl) ?_
  refine lv_iload_n hx hb d_W_about_3 rfl (lv_at hl 1 rfl) ?_
  refine lv_iload_n hx hb d_W_about_4 rfl (lv_at hl 2 rfl) ?_
  refine xr_call (xs_V (As := [.int (nI k), .int 9]) (rest := [.int 0, .ref ou]) Z (C_Q_about_9 l D t xa nw na rw qq no mk k hk) m_Q_about k_805 k_806 k_807 rfl rfl ⟨Nat.le_of_ble_eq_true rfl, Nat.le_of_ble_eq_true rfl⟩ (va_recv hK.2 hP (ci := 7) (q0 := 0) rfl rfl) (xr_pre hK (hP.sub [0, 1, 2, 3, 4, 5, 6, 7, 8, 9, 10, 11, 12, 13, 14, 15, 16, 17, 18, 19, 20, 21, 22, 23, 24, 25, 26, 27, 28] rfl)) rfl hl.1 rfl (Nat.le_of_ble_eq_true rfl) d_W_about_5 ⟨Nat.le_of_ble_eq_true rfl, Nat.le_of_ble_eq_true rfl⟩) ?_
  refine lv_i2l (v := (0 : Int32).toInt64) hx hb d_W_about_8 rfl ?_
  refine va_last hx hb hK.2 hP hD hS 29 1 rfl rfl (by unfold vp_in; decide) d_W_about_9 (fun H locs hP hD hS => ?_)
  rw [xu_o] at hP hD
  have hP : va_P D vwCl [zO 7 xa [.ref nw, .ref na, .int 0], zA t 4 na 7 (fun j => some (qq j 0)), zO 2 nw [.ref rw, .int 0, .int 0, .int 0, .int 0], zA t 3 rw 300 (fun _ => none), zO 3 (qq k 0) [.int (nI k), .ref nw, .int 0, .int 0, .int 0, .ref ((qq k 1)), .ref ((qq k 7)), .ref ((qq k 11)), .int 1, .int 0, .int 0, .int (nI (8 + 3 * k)), .int ((-1)), .int 0, .ref ((qq k 15))], zO 5 (qq k 1) [.ref ((qq k 2)), .ref ((qq k 3)), .ref ((qq k 4)), .ref ((qq k 5)), .ref ((qq k 6)), .int 1], zJ t (qq k 2) 32 (fun _ => 1099511627776), zI t (qq k 3) 8 (fun _ => 0), zJ t (qq k 4) 8 (fun _ => 0), zI t (qq k 5) 4 (xm 1), zI t (qq k 6) 4 (xm mk), zO 4 (qq k 7) [.ref ((qq k 8)), .ref ((qq k 9)), .ref ((qq k 10))], zI t (qq k 8) 32 (fun _ => 0), zI t (qq k 9) 32 (fun _ => 0), zA t 2 (qq k 10) 32 (fun _ => none), zO 4 (qq k 11) [.ref ((qq k 12)), .ref ((qq k 13)), .ref ((qq k 14))], zI t (qq k 12) 64 (fun _ => 0), zI t (qq k 13) 64 (fun _ => 0), zA t 2 (qq k 14) 64 (fun _ => none), zO 0 (qq k 15) [.ref ((no k)), .int 0, .ref ((qq k 16)), .ref ((qq k 20)), .ref ((qq k 24)), .int 0, .int 0, .int 0], zO 4 (qq k 16) [.ref ((qq k 17)), .ref ((qq k 18)), .ref ((qq k 19))], zI t (qq k 17) 32 (fun _ => 0), zI t (qq k 18) 32 (fun _ => 0), zA t 2 (qq k 19) 32 (fun _ => none), zO 4 (qq k 20) [.ref ((qq k 21)), .ref ((qq k 22)), .ref ((qq k 23))], zI t (qq k 21) 4 (fun _ => 0), zI t (qq k 22) 4 (fun _ => 0), zA t 2 (qq k 23) 4 (fun _ => none), zA t 2 (qq k 24) 16 (fun _ => none), zJ t ou 1 (xo ((0 : Int32).toInt64))] H := hP
  have hD : va_D A [zO 7 xa [.ref nw, .ref na, .int 0], zA t 4 na 7 (fun j => some (qq j 0)), zO 2 nw [.ref rw, .int 0, .int 0, .int 0, .int 0], zA t 3 rw 300 (fun _ => none), zO 3 (qq k 0) [.int (nI k), .ref nw, .int 0, .int 0, .int 0, .ref ((qq k 1)), .ref ((qq k 7)), .ref ((qq k 11)), .int 1, .int 0, .int 0, .int (nI (8 + 3 * k)), .int ((-1)), .int 0, .ref ((qq k 15))], zO 5 (qq k 1) [.ref ((qq k 2)), .ref ((qq k 3)), .ref ((qq k 4)), .ref ((qq k 5)), .ref ((qq k 6)), .int 1], zJ t (qq k 2) 32 (fun _ => 1099511627776), zI t (qq k 3) 8 (fun _ => 0), zJ t (qq k 4) 8 (fun _ => 0), zI t (qq k 5) 4 (xm 1), zI t (qq k 6) 4 (xm mk), zO 4 (qq k 7) [.ref ((qq k 8)), .ref ((qq k 9)), .ref ((qq k 10))], zI t (qq k 8) 32 (fun _ => 0), zI t (qq k 9) 32 (fun _ => 0), zA t 2 (qq k 10) 32 (fun _ => none), zO 4 (qq k 11) [.ref ((qq k 12)), .ref ((qq k 13)), .ref ((qq k 14))], zI t (qq k 12) 64 (fun _ => 0), zI t (qq k 13) 64 (fun _ => 0), zA t 2 (qq k 14) 64 (fun _ => none), zO 0 (qq k 15) [.ref ((no k)), .int 0, .ref ((qq k 16)), .ref ((qq k 20)), .ref ((qq k 24)), .int 0, .int 0, .int 0], zO 4 (qq k 16) [.ref ((qq k 17)), .ref ((qq k 18)), .ref ((qq k 19))], zI t (qq k 17) 32 (fun _ => 0), zI t (qq k 18) 32 (fun _ => 0), zA t 2 (qq k 19) 32 (fun _ => none), zO 4 (qq k 20) [.ref ((qq k 21)), .ref ((qq k 22)), .ref ((qq k 23))], zI t (qq k 21) 4 (fun _ => 0), zI t (qq k 22) 4 (fun _ => 0), zA t 2 (qq k 23) 4 (fun _ => none), zA t 2 (qq k 24) 16 (fun _ => none), zJ t ou 1 (xo ((0 : Int32).toInt64))] := hD
  refine lv_goto (tgt := 21) hx hb d_W_about_10 (by decide) ?_
  refine lv_iconst (v := 0) hx hb d_W_about_21 (by decide) ?_
  have hP := hP.sub (ws' := [zJ t ou 1 (xo ((0 : Int32).toInt64))]) [29] rfl
  have hD := hD.sub (ws' := [zJ t ou 1 (xo ((0 : Int32).toInt64))]) [29] (by decide) rfl
  exact W.iret hx hb hr (fun t ht hW => ⟨⟨0, (), rfl, rfl, by rw [ht]; exact hP, hD⟩, hS.F ht⟩) hS.2.2 d_W_about_22
set_option maxHeartbeats 4000000 in
set_option maxRecDepth 100000 in
/-- about: its answer -/
theorem R10_about (l : Launch) (hfl : l.flags = pinnedFlags ++ [noTraceFlag]) (D : va_G) (t : Nat → ClassId) (xa nw na rw ou : Nat) (qq : Nat → Nat → Nat) (no : Nat → Nat) (mk : Int32) (k : Nat) (hk : k < 7) : xh_C l D vwCl (xTY t) y_W_about c_W_about 5 (Option.some FieldType.int) [(0, 10, 13, 18), (0, 10, 17, 13)] ({ frames := 2, cells := 0, slots := 0, locals := 44 }) [.ref xa, .int (nI k), .int 10, .ref ou] [zO 7 xa [.ref nw, .ref na, .int 0], zA t 4 na 7 (fun j => some (qq j 0)), zO 2 nw [.ref rw, .int 0, .int 0, .int 0, .int 0], zA t 3 rw 300 (fun _ => none), zO 3 (qq k 0) [.int (nI k), .ref nw, .int 0, .int 0, .int 0, .ref ((qq k 1)), .ref ((qq k 7)), .ref ((qq k 11)), .int 1, .int 0, .int 0, .int (nI (8 + 3 * k)), .int ((-1)), .int 0, .ref ((qq k 15))], zO 5 (qq k 1) [.ref ((qq k 2)), .ref ((qq k 3)), .ref ((qq k 4)), .ref ((qq k 5)), .ref ((qq k 6)), .int 1], zJ t (qq k 2) 32 (fun _ => 1099511627776), zI t (qq k 3) 8 (fun _ => 0), zJ t (qq k 4) 8 (fun _ => 0), zI t (qq k 5) 4 (xm 1), zI t (qq k 6) 4 (xm mk), zO 4 (qq k 7) [.ref ((qq k 8)), .ref ((qq k 9)), .ref ((qq k 10))], zI t (qq k 8) 32 (fun _ => 0), zI t (qq k 9) 32 (fun _ => 0), zA t 2 (qq k 10) 32 (fun _ => none), zO 4 (qq k 11) [.ref ((qq k 12)), .ref ((qq k 13)), .ref ((qq k 14))], zI t (qq k 12) 64 (fun _ => 0), zI t (qq k 13) 64 (fun _ => 0), zA t 2 (qq k 14) 64 (fun _ => none), zO 0 (qq k 15) [.ref ((no k)), .int 0, .ref ((qq k 16)), .ref ((qq k 20)), .ref ((qq k 24)), .int 0, .int 0, .int 0], zO 4 (qq k 16) [.ref ((qq k 17)), .ref ((qq k 18)), .ref ((qq k 19))], zI t (qq k 17) 32 (fun _ => 0), zI t (qq k 18) 32 (fun _ => 0), zA t 2 (qq k 19) 32 (fun _ => none), zO 4 (qq k 20) [.ref ((qq k 21)), .ref ((qq k 22)), .ref ((qq k 23))], zI t (qq k 21) 4 (fun _ => 0), zI t (qq k 22) 4 (fun _ => 0), zA t 2 (qq k 23) 4 (fun _ => none), zA t 2 (qq k 24) 16 (fun _ => none), zJ t ou 1 (fun _ => 0)] (xe_i D vwCl (fun (r : Int32) (_ : Unit) => r = 0) (fun _ => [zJ t ou 1 (xo ((0 : Int32).toInt64))])) 0 0 := by
  refine xh_of (by decide) (Nat.le_of_ble_eq_true rfl) ?_
  intro p e s m below meth c ls A Z htab hG hr hlocks hin hA hP hD hS hl
  obtain ⟨hx, hb, hml, hown, hK⟩ := id Z
  have hown : s.vm.findClass "QuorumStoreLaw" = some m.cls := hown
  have hts := hK.1.at (args := ([.ref xa, .int (nI k), .int 10, .ref ou] : List Value).toArray)
  have hl : lv_has ls 5 [(0, .ref xa), (1, .int (nI k)), (2, .int 10), (3, .ref ou)] := hl
  refine lv_aload_n hx hb d_W_about_0 rfl (lv_at hl 3 rfl) ?_
  refine lv_iconst (v := 0) hx hb d_W_about_1 (by decide) ?_
  refine lv_aload_n hx hb d_W_about_2 rfl (lv_at hl 0 rfl) ?_
  refine lv_iload_n hx hb d_W_about_3 rfl (lv_at hl 1 rfl) ?_
  refine lv_iload_n hx hb d_W_about_4 rfl (lv_at hl 2 rfl) ?_
  refine xr_call (xs_V (As := [.int (nI k), .int 10]) (rest := [.int 0, .ref ou]) Z (C_Q_about_10 l D t xa nw na rw qq no mk k hk) m_Q_about k_805 k_806 k_807 rfl rfl ⟨Nat.le_of_ble_eq_true rfl, Nat.le_of_ble_eq_true rfl⟩ (va_recv hK.2 hP (ci := 7) (q0 := 0) rfl rfl) (xr_pre hK (hP.sub [0, 1, 2, 3, 4, 5, 6, 7, 8, 9, 10, 11, 12, 13, 14, 15, 16, 17, 18, 19, 20, 21, 22, 23, 24, 25, 26, 27, 28] rfl)) rfl hl.1 rfl (Nat.le_of_ble_eq_true rfl) d_W_about_5 ⟨Nat.le_of_ble_eq_true rfl, Nat.le_of_ble_eq_true rfl⟩) ?_
  refine lv_i2l (v := (0 : Int32).toInt64) hx hb d_W_about_8 rfl ?_
  refine va_last hx hb hK.2 hP hD hS 29 1 rfl rfl (by unfold vp_in; decide) d_W_about_9 (fun H locs hP hD hS => ?_)
  rw [xu_o] at hP hD
  have hP : va_P D vwCl [zO 7 xa [.ref nw, .ref na, .int 0], zA t 4 na 7 (fun j => some (qq j 0)), zO 2 nw [.ref rw, .int 0, .int 0, .int 0, .int 0], zA t 3 rw 300 (fun _ => none), zO 3 (qq k 0) [.int (nI k), .ref nw, .int 0, .int 0, .int 0, .ref ((qq k 1)), .ref ((qq k 7)), .ref ((qq k 11)), .int 1, .int 0, .int 0, .int (nI (8 + 3 * k)), .int ((-1)), .int 0, .ref ((qq k 15))], zO 5 (qq k 1) [.ref ((qq k 2)), .ref ((qq k 3)), .ref ((qq k 4)), .ref ((qq k 5)), .ref ((qq k 6)), .int 1], zJ t (qq k 2) 32 (fun _ => 1099511627776), zI t (qq k 3) 8 (fun _ => 0), zJ t (qq k 4) 8 (fun _ => 0), zI t (qq k 5) 4 (xm 1), zI t (qq k 6) 4 (xm mk), zO 4 (qq k 7) [.ref ((qq k 8)), .ref ((qq k 9)), .ref ((qq k 10))], zI t (qq k 8) 32 (fun _ => 0), zI t (qq k 9) 32 (fun _ => 0), zA t 2 (qq k 10) 32 (fun _ => none), zO 4 (qq k 11) [.ref ((qq k 12)), .ref ((qq k 13)), .ref ((qq k 14))], zI t (qq k 12) 64 (fun _ => 0), zI t (qq k 13) 64 (fun _ => 0), zA t 2 (qq k 14) 64 (fun _ => none), zO 0 (qq k 15) [.ref ((no k)), .int 0, .ref ((qq k 16)), .ref ((qq k 20)), .ref ((qq k 24)), .int 0, .int 0, .int 0], zO 4 (qq k 16) [.ref ((qq k 17)), .ref ((qq k 18)), .ref ((qq k 19))], zI t (qq k 17) 32 (fun _ => 0), zI t (qq k 18) 32 (fun _ => 0), zA t 2 (qq k 19) 32 (fun _ => none), zO 4 (qq k 20) [.ref ((qq k 21)), .ref ((qq k 22)), .ref ((qq k 23))], zI t (qq k 21) 4 (fun _ => 0), zI t (qq k 22) 4 (fun _ => 0), zA t 2 (qq k 23) 4 (fun _ => none), zA t 2 (qq k 24) 16 (fun _ => none), zJ t ou 1 (xo ((0 : Int32).toInt64))] H := hP
  have hD : va_D A [zO 7 xa [.ref nw, .ref na, .int 0], zA t 4 na 7 (fun j => some (qq j 0)), zO 2 nw [.ref rw, .int 0, .int 0, .int 0, .int 0], zA t 3 rw 300 (fun _ => none), zO 3 (qq k 0) [.int (nI k), .ref nw, .int 0, .int 0, .int 0, .ref ((qq k 1)), .ref ((qq k 7)), .ref ((qq k 11)), .int 1, .int 0, .int 0, .int (nI (8 + 3 * k)), .int ((-1)), .int 0, .ref ((qq k 15))], zO 5 (qq k 1) [.ref ((qq k 2)), .ref ((qq k 3)), .ref ((qq k 4)), .ref ((qq k 5)), .ref ((qq k 6)), .int 1], zJ t (qq k 2) 32 (fun _ => 1099511627776), zI t (qq k 3) 8 (fun _ => 0), zJ t (qq k 4) 8 (fun _ => 0), zI t (qq k 5) 4 (xm 1), zI t (qq k 6) 4 (xm mk), zO 4 (qq k 7) [.ref ((qq k 8)), .ref ((qq k 9)), .ref ((qq k 10))], zI t (qq k 8) 32 (fun _ => 0), zI t (qq k 9) 32 (fun _ => 0), zA t 2 (qq k 10) 32 (fun _ => none), zO 4 (qq k 11) [.ref ((qq k 12)), .ref ((qq k 13)), .ref ((qq k 14))], zI t (qq k 12) 64 (fun _ => 0), zI t (qq k 13) 64 (fun _ => 0), zA t 2 (qq k 14) 64 (fun _ => none), zO 0 (qq k 15) [.ref ((no k)), .int 0, .ref ((qq k 16)), .ref ((qq k 20)), .ref ((qq k 24)), .int 0, .int 0, .int 0], zO 4 (qq k 16) [.ref ((qq k 17)), .ref ((qq k 18)), .ref ((qq k 19))], zI t (qq k 17) 32 (fun _ => 0), zI t (qq k 18) 32 (fun _ => 0), zA t 2 (qq k 19) 32 (fun _ => none), zO 4 (qq k 20) [.ref ((qq k 21)), .ref ((qq k 22)), .ref ((qq k 23))], zI t (qq k 21) 4 (fun _ => 0), zI t (qq k 22) 4 (fun _ => 0), zA t 2 (qq k 23) 4 (fun _ => none), zA t 2 (qq k 24) 16 (fun _ => none), zJ t ou 1 (xo ((0 : Int32).toInt64))] := hD
  refine lv_goto (tgt := 21) hx hb d_W_about_10 (by decide) ?_
  refine lv_iconst (v := 0) hx hb d_W_about_21 (by decide) ?_
  have hP := hP.sub (ws' := [zJ t ou 1 (xo ((0 : Int32).toInt64))]) [29] rfl
  have hD := hD.sub (ws' := [zJ t ou 1 (xo ((0 : Int32).toInt64))]) [29] (by decide) rfl
  exact W.iret hx hb hr (fun t ht hW => ⟨⟨0, (), rfl, rfl, by rw [ht]; exact hP, hD⟩, hS.F ht⟩) hS.2.2 d_W_about_22
set_option maxHeartbeats 4000000 in
set_option maxRecDepth 100000 in
/-- about: its answer -/
theorem R11_about (l : Launch) (hfl : l.flags = pinnedFlags ++ [noTraceFlag]) (D : va_G) (t : Nat → ClassId) (xa nw na rw ou : Nat) (qq : Nat → Nat → Nat) (no : Nat → Nat) (mk : Int32) (k : Nat) (hk : k < 7) : xh_C l D vwCl (xTY t) y_W_about c_W_about 5 (Option.some FieldType.int) [(0, 10, 13, 18), (0, 10, 17, 13)] ({ frames := 2, cells := 0, slots := 0, locals := 44 }) [.ref xa, .int (nI k), .int 11, .ref ou] [zO 7 xa [.ref nw, .ref na, .int 0], zA t 4 na 7 (fun j => some (qq j 0)), zO 2 nw [.ref rw, .int 0, .int 0, .int 0, .int 0], zA t 3 rw 300 (fun _ => none), zO 3 (qq k 0) [.int (nI k), .ref nw, .int 0, .int 0, .int 0, .ref ((qq k 1)), .ref ((qq k 7)), .ref ((qq k 11)), .int 1, .int 0, .int 0, .int (nI (8 + 3 * k)), .int ((-1)), .int 0, .ref ((qq k 15))], zO 5 (qq k 1) [.ref ((qq k 2)), .ref ((qq k 3)), .ref ((qq k 4)), .ref ((qq k 5)), .ref ((qq k 6)), .int 1], zJ t (qq k 2) 32 (fun _ => 1099511627776), zI t (qq k 3) 8 (fun _ => 0), zJ t (qq k 4) 8 (fun _ => 0), zI t (qq k 5) 4 (xm 1), zI t (qq k 6) 4 (xm mk), zO 4 (qq k 7) [.ref ((qq k 8)), .ref ((qq k 9)), .ref ((qq k 10))], zI t (qq k 8) 32 (fun _ => 0), zI t (qq k 9) 32 (fun _ => 0), zA t 2 (qq k 10) 32 (fun _ => none), zO 4 (qq k 11) [.ref ((qq k 12)), .ref ((qq k 13)), .ref ((qq k 14))], zI t (qq k 12) 64 (fun _ => 0), zI t (qq k 13) 64 (fun _ => 0), zA t 2 (qq k 14) 64 (fun _ => none), zO 0 (qq k 15) [.ref ((no k)), .int 0, .ref ((qq k 16)), .ref ((qq k 20)), .ref ((qq k 24)), .int 0, .int 0, .int 0], zO 4 (qq k 16) [.ref ((qq k 17)), .ref ((qq k 18)), .ref ((qq k 19))], zI t (qq k 17) 32 (fun _ => 0), zI t (qq k 18) 32 (fun _ => 0), zA t 2 (qq k 19) 32 (fun _ => none), zO 4 (qq k 20) [.ref ((qq k 21)), .ref ((qq k 22)), .ref ((qq k 23))], zI t (qq k 21) 4 (fun _ => 0), zI t (qq k 22) 4 (fun _ => 0), zA t 2 (qq k 23) 4 (fun _ => none), zA t 2 (qq k 24) 16 (fun _ => none), zJ t ou 1 (fun _ => 0)] (xe_i D vwCl (fun (r : Int32) (_ : Unit) => r = 0) (fun _ => [zJ t ou 1 (xo ((0 : Int32).toInt64))])) 0 0 := by
  refine xh_of (by decide) (Nat.le_of_ble_eq_true rfl) ?_
  intro p e s m below meth c ls A Z htab hG hr hlocks hin hA hP hD hS hl
  obtain ⟨hx, hb, hml, hown, hK⟩ := id Z
  have hown : s.vm.findClass "QuorumStoreLaw" = some m.cls := hown
  have hts := hK.1.at (args := ([.ref xa, .int (nI k), .int 11, .ref ou] : List Value).toArray)
  have hl : lv_has ls 5 [(0, .ref xa), (1, .int (nI k)), (2, .int 11), (3, .ref ou)] := hl
  refine lv_aload_n hx hb d_W_about_0 rfl (lv_at hl 3 rfl) ?_
  refine lv_iconst (v := 0) hx hb d_W_about_1 (by decide) ?_
  refine lv_aload_n hx hb d_W_about_2 rfl (lv_at hl 0 rfl) ?_
  refine lv_iload_n hx hb d_W_about_3 rfl (lv_at hl 1 rfl) ?_
  refine lv_iload_n hx hb d_W_about_4 rfl (lv_at hl 2 rfl) ?_
  refine xr_call (xs_V (As := [.int (nI k), .int 11]) (rest := [.int 0, .ref ou]) Z (C_Q_about_11 l D t xa nw na rw qq no mk k hk) m_Q_about k_805 k_806 k_807 rfl rfl ⟨Nat.le_of_ble_eq_true rfl, Nat.le_of_ble_eq_true rfl⟩ (va_recv hK.2 hP (ci := 7) (q0 := 0) rfl rfl) (xr_pre hK (hP.sub [0, 1, 2, 3, 4, 5, 6, 7, 8, 9, 10, 11, 12, 13, 14, 15, 16, 17, 18, 19, 20, 21, 22, 23, 24, 25, 26, 27, 28] rfl)) rfl hl.1 rfl (Nat.le_of_ble_eq_true rfl) d_W_about_5 ⟨Nat.le_of_ble_eq_true rfl, Nat.le_of_ble_eq_true rfl⟩) ?_
  refine lv_i2l (v := (0 : Int32).toInt64) hx hb d_W_about_8 rfl ?_
  refine va_last hx hb hK.2 hP hD hS 29 1 rfl rfl (by unfold vp_in; decide) d_W_about_9 (fun H locs hP hD hS => ?_)
  rw [xu_o] at hP hD
  have hP : va_P D vwCl [zO 7 xa [.ref nw, .ref na, .int 0], zA t 4 na 7 (fun j => some (qq j 0)), zO 2 nw [.ref rw, .int 0, .int 0, .int 0, .int 0], zA t 3 rw 300 (fun _ => none), zO 3 (qq k 0) [.int (nI k), .ref nw, .int 0, .int 0, .int 0, .ref ((qq k 1)), .ref ((qq k 7)), .ref ((qq k 11)), .int 1, .int 0, .int 0, .int (nI (8 + 3 * k)), .int ((-1)), .int 0, .ref ((qq k 15))], zO 5 (qq k 1) [.ref ((qq k 2)), .ref ((qq k 3)), .ref ((qq k 4)), .ref ((qq k 5)), .ref ((qq k 6)), .int 1], zJ t (qq k 2) 32 (fun _ => 1099511627776), zI t (qq k 3) 8 (fun _ => 0), zJ t (qq k 4) 8 (fun _ => 0), zI t (qq k 5) 4 (xm 1), zI t (qq k 6) 4 (xm mk), zO 4 (qq k 7) [.ref ((qq k 8)), .ref ((qq k 9)), .ref ((qq k 10))], zI t (qq k 8) 32 (fun _ => 0), zI t (qq k 9) 32 (fun _ => 0), zA t 2 (qq k 10) 32 (fun _ => none), zO 4 (qq k 11) [.ref ((qq k 12)), .ref ((qq k 13)), .ref ((qq k 14))], zI t (qq k 12) 64 (fun _ => 0), zI t (qq k 13) 64 (fun _ => 0), zA t 2 (qq k 14) 64 (fun _ => none), zO 0 (qq k 15) [.ref ((no k)), .int 0, .ref ((qq k 16)), .ref ((qq k 20)), .ref ((qq k 24)), .int 0, .int 0, .int 0], zO 4 (qq k 16) [.ref ((qq k 17)), .ref ((qq k 18)), .ref ((qq k 19))], zI t (qq k 17) 32 (fun _ => 0), zI t (qq k 18) 32 (fun _ => 0), zA t 2 (qq k 19) 32 (fun _ => none), zO 4 (qq k 20) [.ref ((qq k 21)), .ref ((qq k 22)), .ref ((qq k 23))], zI t (qq k 21) 4 (fun _ => 0), zI t (qq k 22) 4 (fun _ => 0), zA t 2 (qq k 23) 4 (fun _ => none), zA t 2 (qq k 24) 16 (fun _ => none), zJ t ou 1 (xo ((0 : Int32).toInt64))] H := hP
  have hD : va_D A [zO 7 xa [.ref nw, .ref na, .int 0], zA t 4 na 7 (fun j => some (qq j 0)), zO 2 nw [.ref rw, .int 0, .int 0, .int 0, .int 0], zA t 3 rw 300 (fun _ => none), zO 3 (qq k 0) [.int (nI k), .ref nw, .int 0, .int 0, .int 0, .ref ((qq k 1)), .ref ((qq k 7)), .ref ((qq k 11)), .int 1, .int 0, .int 0, .int (nI (8 + 3 * k)), .int ((-1)), .int 0, .ref ((qq k 15))], zO 5 (qq k 1) [.ref ((qq k 2)), .ref ((qq k 3)), .ref ((qq k 4)), .ref ((qq k 5)), .ref ((qq k 6)), .int 1], zJ t (qq k 2) 32 (fun _ => 1099511627776), zI t (qq k 3) 8 (fun _ => 0), zJ t (qq k 4) 8 (fun _ => 0), zI t (qq k 5) 4 (xm 1), zI t (qq k 6) 4 (xm mk), zO 4 (qq k 7) [.ref ((qq k 8)), .ref ((qq k 9)), .ref ((qq k 10))], zI t (qq k 8) 32 (fun _ => 0), zI t (qq k 9) 32 (fun _ => 0), zA t 2 (qq k 10) 32 (fun _ => none), zO 4 (qq k 11) [.ref ((qq k 12)), .ref ((qq k 13)), .ref ((qq k 14))], zI t (qq k 12) 64 (fun _ => 0), zI t (qq k 13) 64 (fun _ => 0), zA t 2 (qq k 14) 64 (fun _ => none), zO 0 (qq k 15) [.ref ((no k)), .int 0, .ref ((qq k 16)), .ref ((qq k 20)), .ref ((qq k 24)), .int 0, .int 0, .int 0], zO 4 (qq k 16) [.ref ((qq k 17)), .ref ((qq k 18)), .ref ((qq k 19))], zI t (qq k 17) 32 (fun _ => 0), zI t (qq k 18) 32 (fun _ => 0), zA t 2 (qq k 19) 32 (fun _ => none), zO 4 (qq k 20) [.ref ((qq k 21)), .ref ((qq k 22)), .ref ((qq k 23))], zI t (qq k 21) 4 (fun _ => 0), zI t (qq k 22) 4 (fun _ => 0), zA t 2 (qq k 23) 4 (fun _ => none), zA t 2 (qq k 24) 16 (fun _ => none), zJ t ou 1 (xo ((0 : Int32).toInt64))] := hD
  refine lv_goto (tgt := 21) hx hb d_W_about_10 (by decide) ?_
  refine lv_iconst (v := 0) hx hb d_W_about_21 (by decide) ?_
  have hP := hP.sub (ws' := [zJ t ou 1 (xo ((0 : Int32).toInt64))]) [29] rfl
  have hD := hD.sub (ws' := [zJ t ou 1 (xo ((0 : Int32).toInt64))]) [29] (by decide) rfl
  exact W.iret hx hb hr (fun t ht hW => ⟨⟨0, (), rfl, rfl, by rw [ht]; exact hP, hD⟩, hS.F ht⟩) hS.2.2 d_W_about_22
set_option maxHeartbeats 4000000 in
set_option maxRecDepth 100000 in
/-- about: its answer -/
theorem R12_about (l : Launch) (hfl : l.flags = pinnedFlags ++ [noTraceFlag]) (D : va_G) (t : Nat → ClassId) (xa nw na rw ou : Nat) (qq : Nat → Nat → Nat) (no : Nat → Nat) (mk : Int32) (k : Nat) (hk : k < 7) : xh_C l D vwCl (xTY t) y_W_about c_W_about 5 (Option.some FieldType.int) [(0, 10, 13, 18), (0, 10, 17, 13)] ({ frames := 2, cells := 0, slots := 0, locals := 45 }) [.ref xa, .int (nI k), .int 12, .ref ou] [zO 7 xa [.ref nw, .ref na, .int 0], zA t 4 na 7 (fun j => some (qq j 0)), zO 2 nw [.ref rw, .int 0, .int 0, .int 0, .int 0], zA t 3 rw 300 (fun _ => none), zO 3 (qq k 0) [.int (nI k), .ref nw, .int 0, .int 0, .int 0, .ref ((qq k 1)), .ref ((qq k 7)), .ref ((qq k 11)), .int 1, .int 0, .int 0, .int (nI (8 + 3 * k)), .int ((-1)), .int 0, .ref ((qq k 15))], zO 5 (qq k 1) [.ref ((qq k 2)), .ref ((qq k 3)), .ref ((qq k 4)), .ref ((qq k 5)), .ref ((qq k 6)), .int 1], zJ t (qq k 2) 32 (fun _ => 1099511627776), zI t (qq k 3) 8 (fun _ => 0), zJ t (qq k 4) 8 (fun _ => 0), zI t (qq k 5) 4 (xm 1), zI t (qq k 6) 4 (xm mk), zO 4 (qq k 7) [.ref ((qq k 8)), .ref ((qq k 9)), .ref ((qq k 10))], zI t (qq k 8) 32 (fun _ => 0), zI t (qq k 9) 32 (fun _ => 0), zA t 2 (qq k 10) 32 (fun _ => none), zO 4 (qq k 11) [.ref ((qq k 12)), .ref ((qq k 13)), .ref ((qq k 14))], zI t (qq k 12) 64 (fun _ => 0), zI t (qq k 13) 64 (fun _ => 0), zA t 2 (qq k 14) 64 (fun _ => none), zO 0 (qq k 15) [.ref ((no k)), .int 0, .ref ((qq k 16)), .ref ((qq k 20)), .ref ((qq k 24)), .int 0, .int 0, .int 0], zO 4 (qq k 16) [.ref ((qq k 17)), .ref ((qq k 18)), .ref ((qq k 19))], zI t (qq k 17) 32 (fun _ => 0), zI t (qq k 18) 32 (fun _ => 0), zA t 2 (qq k 19) 32 (fun _ => none), zO 4 (qq k 20) [.ref ((qq k 21)), .ref ((qq k 22)), .ref ((qq k 23))], zI t (qq k 21) 4 (fun _ => 0), zI t (qq k 22) 4 (fun _ => 0), zA t 2 (qq k 23) 4 (fun _ => none), zA t 2 (qq k 24) 16 (fun _ => none), zJ t ou 1 (fun _ => 0)] (xe_i D vwCl (fun (r : Int32) (_ : Unit) => r = 0) (fun _ => [zJ t ou 1 (xo ((0 : Int32).toInt64))])) 0 0 := by
  refine xh_of (by decide) (Nat.le_of_ble_eq_true rfl) ?_
  intro p e s m below meth c ls A Z htab hG hr hlocks hin hA hP hD hS hl
  obtain ⟨hx, hb, hml, hown, hK⟩ := id Z
  have hown : s.vm.findClass "QuorumStoreLaw" = some m.cls := hown
  have hts := hK.1.at (args := ([.ref xa, .int (nI k), .int 12, .ref ou] : List Value).toArray)
  have hl : lv_has ls 5 [(0, .ref xa), (1, .int (nI k)), (2, .int 12), (3, .ref ou)] := hl
  refine lv_aload_n hx hb d_W_about_0 rfl (lv_at hl 3 rfl) ?_
  refine lv_iconst (v := 0) hx hb d_W_about_1 (by decide) ?_
  refine lv_aload_n hx hb d_W_about_2 rfl (lv_at hl 0 rfl) ?_
  refine lv_iload_n hx hb d_W_about_3 rfl (lv_at hl 1 rfl) ?_
  refine lv_iload_n hx hb d_W_about_4 rfl (lv_at hl 2 rfl) ?_
  refine xr_call (xs_V (As := [.int (nI k), .int 12]) (rest := [.int 0, .ref ou]) Z (C_Q_about_12 l D t xa nw na rw qq no mk k hk) m_Q_about k_805 k_806 k_807 rfl rfl ⟨Nat.le_of_ble_eq_true rfl, Nat.le_of_ble_eq_true rfl⟩ (va_recv hK.2 hP (ci := 7) (q0 := 0) rfl rfl) (xr_pre hK (hP.sub [0, 1, 2, 3, 4, 5, 6, 7, 8, 9, 10, 11, 12, 13, 14, 15, 16, 17, 18, 19, 20, 21, 22, 23, 24, 25, 26, 27, 28] rfl)) rfl hl.1 rfl (Nat.le_of_ble_eq_true rfl) d_W_about_5 ⟨Nat.le_of_ble_eq_true rfl, Nat.le_of_ble_eq_true rfl⟩) ?_
  refine lv_i2l (v := (0 : Int32).toInt64) hx hb d_W_about_8 rfl ?_
  refine va_last hx hb hK.2 hP hD hS 29 1 rfl rfl (by unfold vp_in; decide) d_W_about_9 (fun H locs hP hD hS => ?_)
  rw [xu_o] at hP hD
  have hP : va_P D vwCl [zO 7 xa [.ref nw, .ref na, .int 0], zA t 4 na 7 (fun j => some (qq j 0)), zO 2 nw [.ref rw, .int 0, .int 0, .int 0, .int 0], zA t 3 rw 300 (fun _ => none), zO 3 (qq k 0) [.int (nI k), .ref nw, .int 0, .int 0, .int 0, .ref ((qq k 1)), .ref ((qq k 7)), .ref ((qq k 11)), .int 1, .int 0, .int 0, .int (nI (8 + 3 * k)), .int ((-1)), .int 0, .ref ((qq k 15))], zO 5 (qq k 1) [.ref ((qq k 2)), .ref ((qq k 3)), .ref ((qq k 4)), .ref ((qq k 5)), .ref ((qq k 6)), .int 1], zJ t (qq k 2) 32 (fun _ => 1099511627776), zI t (qq k 3) 8 (fun _ => 0), zJ t (qq k 4) 8 (fun _ => 0), zI t (qq k 5) 4 (xm 1), zI t (qq k 6) 4 (xm mk), zO 4 (qq k 7) [.ref ((qq k 8)), .ref ((qq k 9)), .ref ((qq k 10))], zI t (qq k 8) 32 (fun _ => 0), zI t (qq k 9) 32 (fun _ => 0), zA t 2 (qq k 10) 32 (fun _ => none), zO 4 (qq k 11) [.ref ((qq k 12)), .ref ((qq k 13)), .ref ((qq k 14))], zI t (qq k 12) 64 (fun _ => 0), zI t (qq k 13) 64 (fun _ => 0), zA t 2 (qq k 14) 64 (fun _ => none), zO 0 (qq k 15) [.ref ((no k)), .int 0, .ref ((qq k 16)), .ref ((qq k 20)), .ref ((qq k 24)), .int 0, .int 0, .int 0], zO 4 (qq k 16) [.ref ((qq k 17)), .ref ((qq k 18)), .ref ((qq k 19))], zI t (qq k 17) 32 (fun _ => 0), zI t (qq k 18) 32 (fun _ => 0), zA t 2 (qq k 19) 32 (fun _ => none), zO 4 (qq k 20) [.ref ((qq k 21)), .ref ((qq k 22)), .ref ((qq k 23))], zI t (qq k 21) 4 (fun _ => 0), zI t (qq k 22) 4 (fun _ => 0), zA t 2 (qq k 23) 4 (fun _ => none), zA t 2 (qq k 24) 16 (fun _ => none), zJ t ou 1 (xo ((0 : Int32).toInt64))] H := hP
  have hD : va_D A [zO 7 xa [.ref nw, .ref na, .int 0], zA t 4 na 7 (fun j => some (qq j 0)), zO 2 nw [.ref rw, .int 0, .int 0, .int 0, .int 0], zA t 3 rw 300 (fun _ => none), zO 3 (qq k 0) [.int (nI k), .ref nw, .int 0, .int 0, .int 0, .ref ((qq k 1)), .ref ((qq k 7)), .ref ((qq k 11)), .int 1, .int 0, .int 0, .int (nI (8 + 3 * k)), .int ((-1)), .int 0, .ref ((qq k 15))], zO 5 (qq k 1) [.ref ((qq k 2)), .ref ((qq k 3)), .ref ((qq k 4)), .ref ((qq k 5)), .ref ((qq k 6)), .int 1], zJ t (qq k 2) 32 (fun _ => 1099511627776), zI t (qq k 3) 8 (fun _ => 0), zJ t (qq k 4) 8 (fun _ => 0), zI t (qq k 5) 4 (xm 1), zI t (qq k 6) 4 (xm mk), zO 4 (qq k 7) [.ref ((qq k 8)), .ref ((qq k 9)), .ref ((qq k 10))], zI t (qq k 8) 32 (fun _ => 0), zI t (qq k 9) 32 (fun _ => 0), zA t 2 (qq k 10) 32 (fun _ => none), zO 4 (qq k 11) [.ref ((qq k 12)), .ref ((qq k 13)), .ref ((qq k 14))], zI t (qq k 12) 64 (fun _ => 0), zI t (qq k 13) 64 (fun _ => 0), zA t 2 (qq k 14) 64 (fun _ => none), zO 0 (qq k 15) [.ref ((no k)), .int 0, .ref ((qq k 16)), .ref ((qq k 20)), .ref ((qq k 24)), .int 0, .int 0, .int 0], zO 4 (qq k 16) [.ref ((qq k 17)), .ref ((qq k 18)), .ref ((qq k 19))], zI t (qq k 17) 32 (fun _ => 0), zI t (qq k 18) 32 (fun _ => 0), zA t 2 (qq k 19) 32 (fun _ => none), zO 4 (qq k 20) [.ref ((qq k 21)), .ref ((qq k 22)), .ref ((qq k 23))], zI t (qq k 21) 4 (fun _ => 0), zI t (qq k 22) 4 (fun _ => 0), zA t 2 (qq k 23) 4 (fun _ => none), zA t 2 (qq k 24) 16 (fun _ => none), zJ t ou 1 (xo ((0 : Int32).toInt64))] := hD
  refine lv_goto (tgt := 21) hx hb d_W_about_10 (by decide) ?_
  refine lv_iconst (v := 0) hx hb d_W_about_21 (by decide) ?_
  have hP := hP.sub (ws' := [zJ t ou 1 (xo ((0 : Int32).toInt64))]) [29] rfl
  have hD := hD.sub (ws' := [zJ t ou 1 (xo ((0 : Int32).toInt64))]) [29] (by decide) rfl
  exact W.iret hx hb hr (fun t ht hW => ⟨⟨0, (), rfl, rfl, by rw [ht]; exact hP, hD⟩, hS.F ht⟩) hS.2.2 d_W_about_22
set_option maxHeartbeats 4000000 in
set_option maxRecDepth 100000 in
/-- about: its answer -/
theorem R13_about (l : Launch) (hfl : l.flags = pinnedFlags ++ [noTraceFlag]) (D : va_G) (t : Nat → ClassId) (xa nw na rw ou : Nat) (qq : Nat → Nat → Nat) (no : Nat → Nat) (mk : Int32) (k : Nat) (hk : k < 7) : xh_C l D vwCl (xTY t) y_W_about c_W_about 5 (Option.some FieldType.int) [(0, 10, 13, 18), (0, 10, 17, 13)] ({ frames := 2, cells := 0, slots := 0, locals := 44 }) [.ref xa, .int (nI k), .int 13, .ref ou] [zO 7 xa [.ref nw, .ref na, .int 0], zA t 4 na 7 (fun j => some (qq j 0)), zO 2 nw [.ref rw, .int 0, .int 0, .int 0, .int 0], zA t 3 rw 300 (fun _ => none), zO 3 (qq k 0) [.int (nI k), .ref nw, .int 0, .int 0, .int 0, .ref ((qq k 1)), .ref ((qq k 7)), .ref ((qq k 11)), .int 1, .int 0, .int 0, .int (nI (8 + 3 * k)), .int ((-1)), .int 0, .ref ((qq k 15))], zO 5 (qq k 1) [.ref ((qq k 2)), .ref ((qq k 3)), .ref ((qq k 4)), .ref ((qq k 5)), .ref ((qq k 6)), .int 1], zJ t (qq k 2) 32 (fun _ => 1099511627776), zI t (qq k 3) 8 (fun _ => 0), zJ t (qq k 4) 8 (fun _ => 0), zI t (qq k 5) 4 (xm 1), zI t (qq k 6) 4 (xm mk), zO 4 (qq k 7) [.ref ((qq k 8)), .ref ((qq k 9)), .ref ((qq k 10))], zI t (qq k 8) 32 (fun _ => 0), zI t (qq k 9) 32 (fun _ => 0), zA t 2 (qq k 10) 32 (fun _ => none), zO 4 (qq k 11) [.ref ((qq k 12)), .ref ((qq k 13)), .ref ((qq k 14))], zI t (qq k 12) 64 (fun _ => 0), zI t (qq k 13) 64 (fun _ => 0), zA t 2 (qq k 14) 64 (fun _ => none), zO 0 (qq k 15) [.ref ((no k)), .int 0, .ref ((qq k 16)), .ref ((qq k 20)), .ref ((qq k 24)), .int 0, .int 0, .int 0], zO 4 (qq k 16) [.ref ((qq k 17)), .ref ((qq k 18)), .ref ((qq k 19))], zI t (qq k 17) 32 (fun _ => 0), zI t (qq k 18) 32 (fun _ => 0), zA t 2 (qq k 19) 32 (fun _ => none), zO 4 (qq k 20) [.ref ((qq k 21)), .ref ((qq k 22)), .ref ((qq k 23))], zI t (qq k 21) 4 (fun _ => 0), zI t (qq k 22) 4 (fun _ => 0), zA t 2 (qq k 23) 4 (fun _ => none), zA t 2 (qq k 24) 16 (fun _ => none), zJ t ou 1 (fun _ => 0)] (xe_i D vwCl (fun (r : Int32) (_ : Unit) => r = 0) (fun _ => [zJ t ou 1 (xo ((1 : Int32).toInt64))])) 0 0 := by
  refine xh_of (by decide) (Nat.le_of_ble_eq_true rfl) ?_
  intro p e s m below meth c ls A Z htab hG hr hlocks hin hA hP hD hS hl
  obtain ⟨hx, hb, hml, hown, hK⟩ := id Z
  have hown : s.vm.findClass "QuorumStoreLaw" = some m.cls := hown
  have hts := hK.1.at (args := ([.ref xa, .int (nI k), .int 13, .ref ou] : List Value).toArray)
  have hl : lv_has ls 5 [(0, .ref xa), (1, .int (nI k)), (2, .int 13), (3, .ref ou)] := hl
  refine lv_aload_n hx hb d_W_about_0 rfl (lv_at hl 3 rfl) ?_
  refine lv_iconst (v := 0) hx hb d_W_about_1 (by decide) ?_
  refine lv_aload_n hx hb d_W_about_2 rfl (lv_at hl 0 rfl) ?_
  refine lv_iload_n hx hb d_W_about_3 rfl (lv_at hl 1 rfl) ?_
  refine lv_iload_n hx hb d_W_about_4 rfl (lv_at hl 2 rfl) ?_
  refine xr_call (xs_V (As := [.int (nI k), .int 13]) (rest := [.int 0, .ref ou]) Z (C_Q_about_13 l D t xa nw na rw qq no mk k hk) m_Q_about k_805 k_806 k_807 rfl rfl ⟨Nat.le_of_ble_eq_true rfl, Nat.le_of_ble_eq_true rfl⟩ (va_recv hK.2 hP (ci := 7) (q0 := 0) rfl rfl) (xr_pre hK (hP.sub [0, 1, 2, 3, 4, 5, 6, 7, 8, 9, 10, 11, 12, 13, 14, 15, 16, 17, 18, 19, 20, 21, 22, 23, 24, 25, 26, 27, 28] rfl)) rfl hl.1 rfl (Nat.le_of_ble_eq_true rfl) d_W_about_5 ⟨Nat.le_of_ble_eq_true rfl, Nat.le_of_ble_eq_true rfl⟩) ?_
  refine lv_i2l (v := (1 : Int32).toInt64) hx hb d_W_about_8 rfl ?_
  refine va_last hx hb hK.2 hP hD hS 29 1 rfl rfl (by unfold vp_in; decide) d_W_about_9 (fun H locs hP hD hS => ?_)
  rw [xu_o] at hP hD
  have hP : va_P D vwCl [zO 7 xa [.ref nw, .ref na, .int 0], zA t 4 na 7 (fun j => some (qq j 0)), zO 2 nw [.ref rw, .int 0, .int 0, .int 0, .int 0], zA t 3 rw 300 (fun _ => none), zO 3 (qq k 0) [.int (nI k), .ref nw, .int 0, .int 0, .int 0, .ref ((qq k 1)), .ref ((qq k 7)), .ref ((qq k 11)), .int 1, .int 0, .int 0, .int (nI (8 + 3 * k)), .int ((-1)), .int 0, .ref ((qq k 15))], zO 5 (qq k 1) [.ref ((qq k 2)), .ref ((qq k 3)), .ref ((qq k 4)), .ref ((qq k 5)), .ref ((qq k 6)), .int 1], zJ t (qq k 2) 32 (fun _ => 1099511627776), zI t (qq k 3) 8 (fun _ => 0), zJ t (qq k 4) 8 (fun _ => 0), zI t (qq k 5) 4 (xm 1), zI t (qq k 6) 4 (xm mk), zO 4 (qq k 7) [.ref ((qq k 8)), .ref ((qq k 9)), .ref ((qq k 10))], zI t (qq k 8) 32 (fun _ => 0), zI t (qq k 9) 32 (fun _ => 0), zA t 2 (qq k 10) 32 (fun _ => none), zO 4 (qq k 11) [.ref ((qq k 12)), .ref ((qq k 13)), .ref ((qq k 14))], zI t (qq k 12) 64 (fun _ => 0), zI t (qq k 13) 64 (fun _ => 0), zA t 2 (qq k 14) 64 (fun _ => none), zO 0 (qq k 15) [.ref ((no k)), .int 0, .ref ((qq k 16)), .ref ((qq k 20)), .ref ((qq k 24)), .int 0, .int 0, .int 0], zO 4 (qq k 16) [.ref ((qq k 17)), .ref ((qq k 18)), .ref ((qq k 19))], zI t (qq k 17) 32 (fun _ => 0), zI t (qq k 18) 32 (fun _ => 0), zA t 2 (qq k 19) 32 (fun _ => none), zO 4 (qq k 20) [.ref ((qq k 21)), .ref ((qq k 22)), .ref ((qq k 23))], zI t (qq k 21) 4 (fun _ => 0), zI t (qq k 22) 4 (fun _ => 0), zA t 2 (qq k 23) 4 (fun _ => none), zA t 2 (qq k 24) 16 (fun _ => none), zJ t ou 1 (xo ((1 : Int32).toInt64))] H := hP
  have hD : va_D A [zO 7 xa [.ref nw, .ref na, .int 0], zA t 4 na 7 (fun j => some (qq j 0)), zO 2 nw [.ref rw, .int 0, .int 0, .int 0, .int 0], zA t 3 rw 300 (fun _ => none), zO 3 (qq k 0) [.int (nI k), .ref nw, .int 0, .int 0, .int 0, .ref ((qq k 1)), .ref ((qq k 7)), .ref ((qq k 11)), .int 1, .int 0, .int 0, .int (nI (8 + 3 * k)), .int ((-1)), .int 0, .ref ((qq k 15))], zO 5 (qq k 1) [.ref ((qq k 2)), .ref ((qq k 3)), .ref ((qq k 4)), .ref ((qq k 5)), .ref ((qq k 6)), .int 1], zJ t (qq k 2) 32 (fun _ => 1099511627776), zI t (qq k 3) 8 (fun _ => 0), zJ t (qq k 4) 8 (fun _ => 0), zI t (qq k 5) 4 (xm 1), zI t (qq k 6) 4 (xm mk), zO 4 (qq k 7) [.ref ((qq k 8)), .ref ((qq k 9)), .ref ((qq k 10))], zI t (qq k 8) 32 (fun _ => 0), zI t (qq k 9) 32 (fun _ => 0), zA t 2 (qq k 10) 32 (fun _ => none), zO 4 (qq k 11) [.ref ((qq k 12)), .ref ((qq k 13)), .ref ((qq k 14))], zI t (qq k 12) 64 (fun _ => 0), zI t (qq k 13) 64 (fun _ => 0), zA t 2 (qq k 14) 64 (fun _ => none), zO 0 (qq k 15) [.ref ((no k)), .int 0, .ref ((qq k 16)), .ref ((qq k 20)), .ref ((qq k 24)), .int 0, .int 0, .int 0], zO 4 (qq k 16) [.ref ((qq k 17)), .ref ((qq k 18)), .ref ((qq k 19))], zI t (qq k 17) 32 (fun _ => 0), zI t (qq k 18) 32 (fun _ => 0), zA t 2 (qq k 19) 32 (fun _ => none), zO 4 (qq k 20) [.ref ((qq k 21)), .ref ((qq k 22)), .ref ((qq k 23))], zI t (qq k 21) 4 (fun _ => 0), zI t (qq k 22) 4 (fun _ => 0), zA t 2 (qq k 23) 4 (fun _ => none), zA t 2 (qq k 24) 16 (fun _ => none), zJ t ou 1 (xo ((1 : Int32).toInt64))] := hD
  refine lv_goto (tgt := 21) hx hb d_W_about_10 (by decide) ?_
  refine lv_iconst (v := 0) hx hb d_W_about_21 (by decide) ?_
  have hP := hP.sub (ws' := [zJ t ou 1 (xo ((1 : Int32).toInt64))]) [29] rfl
  have hD := hD.sub (ws' := [zJ t ou 1 (xo ((1 : Int32).toInt64))]) [29] (by decide) rfl
  exact W.iret hx hb hr (fun t ht hW => ⟨⟨0, (), rfl, rfl, by rw [ht]; exact hP, hD⟩, hS.F ht⟩) hS.2.2 d_W_about_22
theorem d_W_key_7 : decode c_W_key 7 = .ok (.i2l, 1) := by decide +kernel
theorem d_W_key_8 : decode c_W_key 8 = .ok (.lastore, 1) := by decide +kernel
theorem d_W_key_9 : decode c_W_key 9 = .ok (.goto 6, 3) := by decide +kernel
theorem d_W_key_15 : decode c_W_key 15 = .ok (.iconst 0, 1) := by decide +kernel
theorem d_W_key_16 : decode c_W_key 16 = .ok (.ireturn, 1) := by decide +kernel
set_option maxHeartbeats 4000000 in
set_option maxRecDepth 100000 in
/-- key: the first -/
theorem R_key (l : Launch) (hfl : l.flags = pinnedFlags ++ [noTraceFlag]) (D : va_G) (t : Nat → ClassId) (xa nw na rw ou : Nat) (qq : Nat → Nat → Nat) (j : Nat) (hj : j < 32) : xh_C l D vwCl (xTY t) y_W_key c_W_key 4 (Option.some FieldType.int) [(0, 9, 12, 13)] ({ frames := 1, cells := 0, slots := 0, locals := 22 }) [.ref xa, .int (nI j), .ref ou] [zO 7 xa [.ref nw, .ref na, .int 0], zA t 4 na 7 (fun j => some (qq j 0)), zO 2 nw [.ref rw, .int 0, .int 0, .int 0, .int 0], zA t 3 rw 300 (fun _ => none), zJ t ou 1 (fun _ => 0)] (xe_i D vwCl (fun (r : Int32) (_ : Unit) => r = 0) (fun _ => [zJ t ou 1 (xo (0 : Int32).toInt64)])) 0 0 := by
  refine xh_of (by decide) (Nat.le_of_ble_eq_true rfl) ?_
  intro p e s m below meth c ls A Z htab hG hr hlocks hin hA hP hD hS hl
  obtain ⟨hx, hb, hml, hown, hK⟩ := id Z
  have hown : s.vm.findClass "QuorumStoreLaw" = some m.cls := hown
  have hts := hK.1.at (args := ([.ref xa, .int (nI j), .ref ou] : List Value).toArray)
  have hl : lv_has ls 4 [(0, .ref xa), (1, .int (nI j)), (2, .ref ou)] := hl
  refine lv_aload_n hx hb d_W_key_0 rfl (lv_at hl 2 rfl) ?_
  refine lv_iconst (v := 0) hx hb d_W_key_1 (by decide) ?_
  refine lv_aload_n hx hb d_W_key_2 rfl (lv_at hl 0 rfl) ?_
  refine lv_iload_n hx hb d_W_key_3 rfl (lv_at hl 1 rfl) ?_
  refine xe_calli (wr := [zA t 4 na 7 (fun j => some (qq j 0)), zO 2 nw [.ref rw, .int 0, .int 0, .int 0, .int 0], zA t 3 rw 300 (fun _ => none), zJ t ou 1 (fun _ => 0)]) (xs_V (As := [.int (nI j)]) (rest := [.int 0, .ref ou]) Z (C_Q_key l D t xa nw na j hj s.heap.size) m_Q_key k_735 k_736 k_737 rfl rfl ⟨Nat.le_of_ble_eq_true rfl, Nat.le_of_ble_eq_true rfl⟩ (va_recv hK.2 hP (ci := 7) (q0 := 0) rfl rfl) (xe_pre hK (hP.sub [0] rfl) (hD.sub [0] (by decide) rfl)) rfl hl.1 rfl (Nat.le_of_ble_eq_true rfl) d_W_key_4 ⟨Nat.le_of_ble_eq_true rfl, Nat.le_of_ble_eq_true rfl⟩) hP hD hS hA [0] [1, 2, 3, 4] rfl rfl (by decide) (by decide) (fun r_1 u_ H locs hw hP hD hS => ?_)
  have hP : va_P D vwCl [zA t 4 na 7 (fun j => some (qq j 0)), zO 2 nw [.ref rw, .int 0, .int 0, .int 0, .int 0], zA t 3 rw 300 (fun _ => none), zJ t ou 1 (fun _ => 0), zO 7 xa [.ref nw, .ref na, .int (nI j)]] H := hP
  have hD : va_D A [zA t 4 na 7 (fun j => some (qq j 0)), zO 2 nw [.ref rw, .int 0, .int 0, .int 0, .int 0], zA t 3 rw 300 (fun _ => none), zJ t ou 1 (fun _ => 0), zO 7 xa [.ref nw, .ref na, .int (nI j)]] := hD
  obtain rfl := hw
  refine lv_i2l (v := (0 : Int32).toInt64) hx hb d_W_key_7 rfl ?_
  refine va_last hx hb hK.2 hP hD hS 3 1 rfl rfl (by unfold vp_in; decide) d_W_key_8 (fun H locs hP hD hS => ?_)
  rw [xu_o] at hP hD
  have hP : va_P D vwCl [zA t 4 na 7 (fun j => some (qq j 0)), zO 2 nw [.ref rw, .int 0, .int 0, .int 0, .int 0], zA t 3 rw 300 (fun _ => none), zJ t ou 1 (xo ((0 : Int32).toInt64)), zO 7 xa [.ref nw, .ref na, .int (nI j)]] H := hP
  have hD : va_D A [zA t 4 na 7 (fun j => some (qq j 0)), zO 2 nw [.ref rw, .int 0, .int 0, .int 0, .int 0], zA t 3 rw 300 (fun _ => none), zJ t ou 1 (xo ((0 : Int32).toInt64)), zO 7 xa [.ref nw, .ref na, .int (nI j)]] := hD
  refine lv_goto (tgt := 15) hx hb d_W_key_9 (by decide) ?_
  refine lv_iconst (v := 0) hx hb d_W_key_15 (by decide) ?_
  have hP := hP.sub (ws' := [zJ t ou 1 (xo ((0 : Int32).toInt64))]) [3] rfl
  have hD := hD.sub (ws' := [zJ t ou 1 (xo ((0 : Int32).toInt64))]) [3] (by decide) rfl
  exact W.iret hx hb hr (fun t ht hW => ⟨⟨0, (), rfl, rfl, by rw [ht]; exact hP, hD⟩, hS.F ht⟩) hS.2.2 d_W_key_16
theorem d_W_fall_5 : decode c_W_fall 5 = .ok (.goto 9, 3) := by decide +kernel
theorem d_W_fall_14 : decode c_W_fall 14 = .ok (.iconst 0, 1) := by decide +kernel
theorem d_W_fall_15 : decode c_W_fall 15 = .ok (.ireturn, 1) := by decide +kernel
set_option maxHeartbeats 4000000 in
set_option maxRecDepth 100000 in
/-- fall of a live node -/
theorem R_fall (l : Launch) (hfl : l.flags = pinnedFlags ++ [noTraceFlag]) (D : va_G) (t : Nat → ClassId) (xa nw na rw ou : Nat) (qq : Nat → Nat → Nat) (no : Nat → Nat) (mk : Int32) (k : Nat) (hk : k < 7) : xh_C l D vwCl (xTY t) y_W_fall c_W_fall 3 (Option.some FieldType.int) [(0, 5, 8, 18), (0, 5, 11, 26)] ({ frames := 5, cells := 0, slots := 0, locals := 105 }) [.ref xa, .int (nI k)] [zO 7 xa [.ref nw, .ref na, .int 0], zA t 4 na 7 (fun j => some (qq j 0)), zO 2 nw [.ref rw, .int 0, .int 0, .int 0, .int 0], zA t 3 rw 300 (fun _ => none), zO 3 (qq k 0) [.int (nI k), .ref nw, .int 0, .int 0, .int 0, .ref ((qq k 1)), .ref ((qq k 7)), .ref ((qq k 11)), .int 1, .int 0, .int 0, .int (nI (8 + 3 * k)), .int ((-1)), .int 0, .ref ((qq k 15))], zO 5 (qq k 1) [.ref ((qq k 2)), .ref ((qq k 3)), .ref ((qq k 4)), .ref ((qq k 5)), .ref ((qq k 6)), .int 1], zJ t (qq k 2) 32 (fun _ => 1099511627776), zI t (qq k 3) 8 (fun _ => 0), zJ t (qq k 4) 8 (fun _ => 0), zI t (qq k 5) 4 (xm 1), zI t (qq k 6) 4 (xm mk), zO 4 (qq k 7) [.ref ((qq k 8)), .ref ((qq k 9)), .ref ((qq k 10))], zI t (qq k 8) 32 (fun _ => 0), zI t (qq k 9) 32 (fun _ => 0), zA t 2 (qq k 10) 32 (fun _ => none), zO 4 (qq k 11) [.ref ((qq k 12)), .ref ((qq k 13)), .ref ((qq k 14))], zI t (qq k 12) 64 (fun _ => 0), zI t (qq k 13) 64 (fun _ => 0), zA t 2 (qq k 14) 64 (fun _ => none), zO 0 (qq k 15) [.ref ((no k)), .int 0, .ref ((qq k 16)), .ref ((qq k 20)), .ref ((qq k 24)), .int 0, .int 0, .int 0], zO 4 (qq k 16) [.ref ((qq k 17)), .ref ((qq k 18)), .ref ((qq k 19))], zI t (qq k 17) 32 (fun _ => 0), zI t (qq k 18) 32 (fun _ => 0), zA t 2 (qq k 19) 32 (fun _ => none), zO 4 (qq k 20) [.ref ((qq k 21)), .ref ((qq k 22)), .ref ((qq k 23))], zI t (qq k 21) 4 (fun _ => 0), zI t (qq k 22) 4 (fun _ => 0), zA t 2 (qq k 23) 4 (fun _ => none), zA t 2 (qq k 24) 16 (fun _ => none), zJ t ou 1 (fun _ => 0)] (xe_i D vwCl (fun (r : Int32) (_ : Unit) => r = 0) (fun _ => [])) 0 0 := by
  refine xh_of (by decide) (Nat.le_of_ble_eq_true rfl) ?_
  intro p e s m below meth c ls A Z htab hG hr hlocks hin hA hP hD hS hl
  obtain ⟨hx, hb, hml, hown, hK⟩ := id Z
  have hown : s.vm.findClass "QuorumStoreLaw" = some m.cls := hown
  have hts := hK.1.at (args := ([.ref xa, .int (nI k)] : List Value).toArray)
  have hl : lv_has ls 3 [(0, .ref xa), (1, .int (nI k))] := hl
  refine lv_aload_n hx hb d_W_fall_0 rfl (lv_at hl 0 rfl) ?_
  refine lv_iload_n hx hb d_W_fall_1 rfl (lv_at hl 1 rfl) ?_
  refine xe_callv (wr := [zJ t ou 1 (fun _ => 0)]) (xs_V (As := [.int (nI k)]) (rest := []) Z (C_Q_fall l D t xa nw na rw qq no mk k hk s.heap.size) m_Q_fall k_706 k_707 k_708 rfl rfl ⟨Nat.le_of_ble_eq_true rfl, Nat.le_of_ble_eq_true rfl⟩ (va_recv hK.2 hP (ci := 7) (q0 := 0) rfl rfl) (xe_pre hK (hP.sub [0, 1, 2, 3, 4, 5, 6, 7, 8, 9, 10, 11, 12, 13, 14, 15, 16, 17, 18, 19, 20, 21, 22, 23, 24, 25, 26, 27, 28] rfl) (hD.sub [0, 1, 2, 3, 4, 5, 6, 7, 8, 9, 10, 11, 12, 13, 14, 15, 16, 17, 18, 19, 20, 21, 22, 23, 24, 25, 26, 27, 28] (by decide) rfl)) rfl hl.1 rfl (Nat.le_of_ble_eq_true rfl) d_W_fall_2 ⟨Nat.le_of_ble_eq_true rfl, Nat.le_of_ble_eq_true rfl⟩) hP hD hS hA [0, 1, 2, 3, 4, 5, 6, 7, 8, 9, 10, 11, 12, 13, 14, 15, 16, 17, 18, 19, 20, 21, 22, 23, 24, 25, 26, 27, 28] [29] rfl rfl (by decide) (by decide) (fun u_ H locs _ hP hD hS => ?_)
  have hP : va_P D vwCl [zJ t ou 1 (fun _ => 0)] H := hP
  have hD : va_D A [zJ t ou 1 (fun _ => 0)] := hD
  refine lv_goto (tgt := 14) hx hb d_W_fall_5 (by decide) ?_
  refine lv_iconst (v := 0) hx hb d_W_fall_14 (by decide) ?_
  have hP := hP.sub (ws' := []) [] rfl
  have hD := hD.sub (ws' := []) [] (by decide) rfl
  exact W.iret hx hb hr (fun t ht hW => ⟨⟨0, (), rfl, rfl, by rw [ht]; exact hP, hD⟩, hS.F ht⟩) hS.2.2 d_W_fall_15
theorem d_W_tick_7 : decode c_W_tick 7 = .ok (.i2l, 1) := by decide +kernel
theorem d_W_tick_8 : decode c_W_tick 8 = .ok (.lastore, 1) := by decide +kernel
theorem d_W_tick_9 : decode c_W_tick 9 = .ok (.goto 6, 3) := by decide +kernel
theorem d_W_tick_15 : decode c_W_tick 15 = .ok (.iconst 0, 1) := by decide +kernel
theorem d_W_tick_16 : decode c_W_tick 16 = .ok (.ireturn, 1) := by decide +kernel
set_option maxHeartbeats 4000000 in
set_option maxRecDepth 100000 in
/-- tick: the number of messages -/
theorem R_tick (l : Launch) (hfl : l.flags = pinnedFlags ++ [noTraceFlag]) (D : va_G) (t : Nat → ClassId) (xa nw na rw ou : Nat) (ky : Int32) (qq : Nat → Nat → Nat) (no : Nat → Nat) (mk : Int32) (N : Nat) (hN1 : 1 ≤ N) (hN2 : N ≤ 50) (st : Nat → xNS) (z : Nat) (hz : z ≤ 300) (hok : ∀ k, k < 7 → xok k (st k)) (x y : Int32) (g : Nat → Option Nat) (Rz : Nat) (hR : xit mk N [((st 0).1, (st 0).2.1), ((st 1).1, (st 1).2.1), ((st 2).1, (st 2).2.1), ((st 3).1, (st 3).2.1), ((st 4).1, (st 4).2.1), ((st 5).1, (st 5).2.1), ((st 6).1, (st 6).2.1)] z = Rz) : xh_C l D vwCl (xTY t) y_W_tick c_W_tick 4 (Option.some FieldType.int) [(0, 9, 12, 13)] ({ frames := 7, cells := 4900, slots := 39200, locals := 162 }) [.ref xa, .int (nI N), .ref ou] ((([zO 7 xa [.ref nw, .ref na, .int ky], zA t 4 na 7 (fun j => some (qq j 0))] ++ [zO 2 nw [.ref rw, .int (nI z), .int x, .int y, .int 0], zA t 3 rw 300 g]) ++ wNs t qq nw no mk [(0, (st 0)), (1, (st 1)), (2, (st 2)), (3, (st 3)), (4, (st 4)), (5, (st 5)), (6, (st 6))]) ++ [zJ t ou 1 (fun _ => 0)]) (xe_i D vwCl (fun (r : Int32) (_ : Unit) => r = 0) (fun _ => [zJ t ou 1 (xo (nI Rz : Int32).toInt64)])) 4900 39200 := by
  refine xh_of (by decide) (Nat.le_of_ble_eq_true rfl) ?_
  intro p e s m below meth c ls A Z htab hG hr hlocks hin hA hP hD hS hl
  obtain ⟨hx, hb, hml, hown, hK⟩ := id Z
  have hown : s.vm.findClass "QuorumStoreLaw" = some m.cls := hown
  have hts := hK.1.at (args := ([.ref xa, .int (nI N), .ref ou] : List Value).toArray)
  have hl : lv_has ls 4 [(0, .ref xa), (1, .int (nI N)), (2, .ref ou)] := hl
  refine lv_aload_n hx hb d_W_tick_0 rfl (lv_at hl 2 rfl) ?_
  refine lv_iconst (v := 0) hx hb d_W_tick_1 (by decide) ?_
  refine lv_aload_n hx hb d_W_tick_2 rfl (lv_at hl 0 rfl) ?_
  refine lv_iload_n hx hb d_W_tick_3 rfl (lv_at hl 1 rfl) ?_
  have hP : va_P D vwCl ([zJ t ou 1 (fun _ => 0)] ++ (([zO 7 xa [.ref nw, .ref na, .int ky], zA t 4 na 7 (fun j => some (qq j 0))] ++ [zO 2 nw [.ref rw, .int (nI z), .int x, .int y, .int 0], zA t 3 rw 300 g]) ++ wNs t qq nw no mk [(0, (st 0)), (1, (st 1)), (2, (st 2)), (3, (st 3)), (4, (st 4)), (5, (st 5)), (6, (st 6))])) s.heap := xd_P hP (fun q h => List.perm_append_comm.mem_iff.mp h)
  have hD : va_D A ([zJ t ou 1 (fun _ => 0)] ++ (([zO 7 xa [.ref nw, .ref na, .int ky], zA t 4 na 7 (fun j => some (qq j 0))] ++ [zO 2 nw [.ref rw, .int (nI z), .int x, .int y, .int 0], zA t 3 rw 300 g]) ++ wNs t qq nw no mk [(0, (st 0)), (1, (st 1)), (2, (st 2)), (3, (st 3)), (4, (st 4)), (5, (st 5)), (6, (st 6))])) := xd_perm hD List.perm_append_comm
  have hPc : va_P D vwCl (([zO 7 xa [.ref nw, .ref na, .int ky], zA t 4 na 7 (fun j => some (qq j 0))] ++ [zO 2 nw [.ref rw, .int (nI z), .int x, .int y, .int 0], zA t 3 rw 300 g]) ++ wNs t qq nw no mk [(0, (st 0)), (1, (st 1)), (2, (st 2)), (3, (st 3)), (4, (st 4)), (5, (st 5)), (6, (st 6))]) s.heap := xd_P hP (fun q h => List.mem_append_right _ h)
  have hDc : va_D A (([zO 7 xa [.ref nw, .ref na, .int ky], zA t 4 na 7 (fun j => some (qq j 0))] ++ [zO 2 nw [.ref rw, .int (nI z), .int x, .int y, .int 0], zA t 3 rw 300 g]) ++ wNs t qq nw no mk [(0, (st 0)), (1, (st 1)), (2, (st 2)), (3, (st 3)), (4, (st 4)), (5, (st 5)), (6, (st 6))]) := xd_R hD
  refine xe_sfxi (wr := [zJ t ou 1 (fun _ => 0)]) (wc := (([zO 7 xa [.ref nw, .ref na, .int ky], zA t 4 na 7 (fun j => some (qq j 0))] ++ [zO 2 nw [.ref rw, .int (nI z), .int x, .int y, .int 0], zA t 3 rw 300 g]) ++ wNs t qq nw no mk [(0, (st 0)), (1, (st 1)), (2, (st 2)), (3, (st 3)), (4, (st 4)), (5, (st 5)), (6, (st 6))])) (xs_V (As := [.int (nI N)]) (rest := [.int 0, .ref ou]) Z (C_Q_tick l D t xa nw na rw ky qq no mk N hN1 hN2 st z hz hok x y g Rz hR s.heap.size) m_Q_tick k_276 k_277 k_278 rfl rfl ⟨Nat.le_of_ble_eq_true rfl, Nat.le_of_ble_eq_true rfl⟩ (va_recv hK.2 hPc (ci := 7) (q0 := 0) rfl rfl) (xe_pre hK hPc hDc) rfl hl.1 rfl (Nat.le_of_ble_eq_true rfl) d_W_tick_4 ⟨Nat.le_of_ble_eq_true rfl, Nat.le_of_ble_eq_true rfl⟩) hP hD hS hA (fun r_ u_ H locs hw hP hD hS => ?_)
  obtain rfl := hw
  have hP : va_P D vwCl [zJ t ou 1 (fun _ => 0)] H := hP
  have hD : va_D A [zJ t ou 1 (fun _ => 0)] := hD
  refine lv_i2l (v := (nI Rz : Int32).toInt64) hx hb d_W_tick_7 rfl ?_
  refine va_last hx hb hK.2 hP hD hS 0 1 rfl rfl (by unfold vp_in; decide) d_W_tick_8 (fun H locs hP hD hS => ?_)
  rw [xu_o] at hP hD
  have hP : va_P D vwCl [zJ t ou 1 (xo ((nI Rz : Int32).toInt64))] H := hP
  have hD : va_D A [zJ t ou 1 (xo ((nI Rz : Int32).toInt64))] := hD
  refine lv_goto (tgt := 15) hx hb d_W_tick_9 (by decide) ?_
  refine lv_iconst (v := 0) hx hb d_W_tick_15 (by decide) ?_
  exact W.iret hx hb hr (fun t ht hW => ⟨⟨0, (), rfl, rfl, by rw [ht]; exact hP, hD⟩, hS.F ht⟩) hS.2.2 d_W_tick_16
