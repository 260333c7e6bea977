/-! Methods of the class that write. -/
theorem xu_i (k : Nat) : upd (fun _ => (0 : Int32)) k 0 = fun _ => 0 := by
  funext j
  simp [upd]
theorem xu_q (k : Nat) : va_up (fun _ => (none : Option Nat)) k none = fun _ => none := by
  funext j
  simp [va_up]
theorem d_R_clearPlace_0 : decode c_R_clearPlace 0 = .ok (.aload_n 0, 1) := by decide +kernel
theorem d_R_clearPlace_1 : decode c_R_clearPlace 1 = .ok (.getfield 7, 3) := by decide +kernel
theorem d_R_clearPlace_4 : decode c_R_clearPlace 4 = .ok (.iload_n 1, 1) := by decide +kernel
theorem d_R_clearPlace_5 : decode c_R_clearPlace 5 = .ok (.iconst 0, 1) := by decide +kernel
theorem d_R_clearPlace_6 : decode c_R_clearPlace 6 = .ok (.iastore, 1) := by decide +kernel
theorem d_R_clearPlace_7 : decode c_R_clearPlace 7 = .ok (.aload_n 0, 1) := by decide +kernel
theorem d_R_clearPlace_8 : decode c_R_clearPlace 8 = .ok (.getfield 13, 3) := by decide +kernel
theorem d_R_clearPlace_11 : decode c_R_clearPlace 11 = .ok (.iload_n 1, 1) := by decide +kernel
theorem d_R_clearPlace_12 : decode c_R_clearPlace 12 = .ok (.iconst 0, 1) := by decide +kernel
theorem d_R_clearPlace_13 : decode c_R_clearPlace 13 = .ok (.iastore, 1) := by decide +kernel
theorem d_R_clearPlace_14 : decode c_R_clearPlace 14 = .ok (.aload_n 0, 1) := by decide +kernel
theorem d_R_clearPlace_15 : decode c_R_clearPlace 15 = .ok (.getfield 18, 3) := by decide +kernel
theorem d_R_clearPlace_18 : decode c_R_clearPlace 18 = .ok (.iload_n 1, 1) := by decide +kernel
theorem d_R_clearPlace_19 : decode c_R_clearPlace 19 = .ok (.aconst_null, 1) := by decide +kernel
theorem d_R_clearPlace_20 : decode c_R_clearPlace 20 = .ok (.aastore, 1) := by decide +kernel
theorem d_R_clearPlace_21 : decode c_R_clearPlace 21 = .ok (.return_, 1) := by decide +kernel
set_option maxHeartbeats 4000000 in
set_option maxRecDepth 100000 in
/-- clearPlace on an empty row -/
theorem C_R_clearPlace (l : Launch) (D : va_G) (t : Nat → ClassId) (h a b v w j : Nat) (hj : j < w) (hw : w = 4 ∨ w = 32 ∨ w = 64) : xe_C l D vwCl (xTY t) y_R_clearPlace c_R_clearPlace 2 (Option.none : Option FieldType) ({ frames := 0, cells := 0, slots := 0, locals := 0 }) [.ref h, .int (nI j)] [zO 4 h [.ref a, .ref b, .ref v], zI t a w (fun _ => 0), zI t b w (fun _ => 0), zA t 2 v w (fun _ => none)] (xe_v D vwCl (fun _ : Unit => True) (fun _ => [zO 4 h [.ref a, .ref b, .ref v], zI t a w (fun _ => 0), zI t b w (fun _ => 0), zA t 2 v w (fun _ => none)])) 0 0 := by
  refine xe_of (by decide) (Nat.le_of_ble_eq_true rfl) ?_
  intro p e s m below meth c ls A Z hr hlocks hin hA hP hD hS hl
  obtain ⟨hx, hb, hml, hown, hK⟩ := id Z
  have hown : s.vm.findClass "QuorumStore$Row" = some m.cls := hown
  have hts := hK.1.at (args := ([.ref h, .int (nI j)] : List Value).toArray)
  have hl : lv_has ls 2 [(0, .ref h), (1, .int (nI j))] := hl
  refine lv_aload_n hx hb d_R_clearPlace_0 rfl (lv_at hl 0 rfl) ?_
  refine va_get (ci := 4) (C := "QuorumStore$Row") (T := TX4) (N := 3) hx hb hts inX4 hown hK.2 hP 0 rfl rfl 0 (by decide) (hts _ k_75) (fun _ h9 => h9) rfl d_R_clearPlace_1 ?_
  refine lv_iload_n hx hb d_R_clearPlace_4 rfl (lv_at hl 1 rfl) ?_
  refine lv_iconst (v := 0) hx hb d_R_clearPlace_5 (by decide) ?_
  refine va_iast hx hb hK.2 hP hD hS 1 0 rfl rfl (vp_in_nI hj (by omega)) d_R_clearPlace_6 (fun H locs hP hD hS => ?_)
  rw [xu_i] at hP hD
  have hP : va_P D vwCl [zO 4 h [.ref a, .ref b, .ref v], zI t a w (fun _ => 0), zI t b w (fun _ => 0), zA t 2 v w (fun _ => none)] H := hP
  have hD : va_D A [zO 4 h [.ref a, .ref b, .ref v], zI t a w (fun _ => 0), zI t b w (fun _ => 0), zA t 2 v w (fun _ => none)] := hD
  refine lv_aload_n hx hb d_R_clearPlace_7 rfl (lv_at hl 0 rfl) ?_
  refine va_get (ci := 4) (C := "QuorumStore$Row") (T := TX4) (N := 3) hx hb hts inX4 hown hK.2 hP 0 rfl rfl 1 (by decide) (hts _ k_76) (fun _ h9 => h9) rfl d_R_clearPlace_8 ?_
  refine lv_iload_n hx hb d_R_clearPlace_11 rfl (lv_at hl 1 rfl) ?_
  refine lv_iconst (v := 0) hx hb d_R_clearPlace_12 (by decide) ?_
  refine va_iast hx hb hK.2 hP hD hS 2 0 rfl rfl (vp_in_nI hj (by omega)) d_R_clearPlace_13 (fun H locs hP hD hS => ?_)
  rw [xu_i] at hP hD
  have hP : va_P D vwCl [zO 4 h [.ref a, .ref b, .ref v], zI t a w (fun _ => 0), zI t b w (fun _ => 0), zA t 2 v w (fun _ => none)] H := hP
  have hD : va_D A [zO 4 h [.ref a, .ref b, .ref v], zI t a w (fun _ => 0), zI t b w (fun _ => 0), zA t 2 v w (fun _ => none)] := hD
  refine lv_aload_n hx hb d_R_clearPlace_14 rfl (lv_at hl 0 rfl) ?_
  refine va_get (ci := 4) (C := "QuorumStore$Row") (T := TX4) (N := 3) hx hb hts inX4 hown hK.2 hP 0 rfl rfl 2 (by decide) (hts _ k_77) (fun _ h9 => h9) rfl d_R_clearPlace_15 ?_
  refine lv_iload_n hx hb d_R_clearPlace_18 rfl (lv_at hl 1 rfl) ?_
  refine lv_null hx hb d_R_clearPlace_19 ?_
  refine va_astqN hx hb hK.2 hP hD hS 3 2 rfl rfl (vp_in_nI hj (by omega)) d_R_clearPlace_20 (fun H locs hP hD hS => ?_)
  rw [xu_q] at hP hD
  have hP : va_P D vwCl [zO 4 h [.ref a, .ref b, .ref v], zI t a w (fun _ => 0), zI t b w (fun _ => 0), zA t 2 v w (fun _ => none)] H := hP
  have hD : va_D A [zO 4 h [.ref a, .ref b, .ref v], zI t a w (fun _ => 0), zI t b w (fun _ => 0), zA t 2 v w (fun _ => none)] := hD
  exact W.vret hx hb hr (fun t ht hW => ⟨⟨(), rfl, trivial, by rw [ht]; exact hP, hD⟩, hS.F ht⟩) hS.2.2 d_R_clearPlace_21
theorem d_R_forgetAll_0 : decode c_R_forgetAll 0 = .ok (.iconst 0, 1) := by decide +kernel
theorem d_R_forgetAll_1 : decode c_R_forgetAll 1 = .ok (.istore_n 1, 1) := by decide +kernel
theorem d_R_forgetAll_2 : decode c_R_forgetAll 2 = .ok (.iload_n 1, 1) := by decide +kernel
theorem d_R_forgetAll_3 : decode c_R_forgetAll 3 = .ok (.aload_n 0, 1) := by decide +kernel
theorem d_R_forgetAll_4 : decode c_R_forgetAll 4 = .ok (.getfield 7, 3) := by decide +kernel
theorem d_R_forgetAll_7 : decode c_R_forgetAll 7 = .ok (.arraylength, 1) := by decide +kernel
theorem d_R_forgetAll_8 : decode c_R_forgetAll 8 = .ok (.if_icmp .ge 14, 3) := by decide +kernel
theorem d_R_forgetAll_11 : decode c_R_forgetAll 11 = .ok (.aload_n 0, 1) := by decide +kernel
theorem d_R_forgetAll_12 : decode c_R_forgetAll 12 = .ok (.iload_n 1, 1) := by decide +kernel
theorem d_R_forgetAll_13 : decode c_R_forgetAll 13 = .ok (.invokevirtual 22, 3) := by decide +kernel
theorem d_R_forgetAll_16 : decode c_R_forgetAll 16 = .ok (.iinc 1 1, 3) := by decide +kernel
theorem d_R_forgetAll_19 : decode c_R_forgetAll 19 = .ok (.goto (-17), 3) := by decide +kernel
theorem d_R_forgetAll_22 : decode c_R_forgetAll 22 = .ok (.return_, 1) := by decide +kernel
set_option maxHeartbeats 4000000 in
set_option maxRecDepth 100000 in
/-- forgetAll on an empty row -/
theorem C_R_forgetAll (l : Launch) (D : va_G) (t : Nat → ClassId) (h a b v w : Nat) (hw : w = 4 ∨ w = 32 ∨ w = 64) : xe_C l D vwCl (xTY t) y_R_forgetAll c_R_forgetAll 2 (Option.none : Option FieldType) ({ frames := 1, cells := 0, slots := 0, locals := 21 }) [.ref h] [zO 4 h [.ref a, .ref b, .ref v], zI t a w (fun _ => 0), zI t b w (fun _ => 0), zA t 2 v w (fun _ => none)] (xe_v D vwCl (fun _ : Unit => True) (fun _ => [zO 4 h [.ref a, .ref b, .ref v], zI t a w (fun _ => 0), zI t b w (fun _ => 0), zA t 2 v w (fun _ => none)])) 0 0 := by
  refine xe_of (by decide) (Nat.le_of_ble_eq_true rfl) ?_
  intro p e s m below meth c ls A Z hr hlocks hin hA hP hD hS hl
  obtain ⟨hx, hb, hml, hown, hK⟩ := id Z
  have hown : s.vm.findClass "QuorumStore$Row" = some m.cls := hown
  have hts := hK.1.at (args := ([.ref h] : List Value).toArray)
  have hl : lv_has ls 2 [(0, .ref h)] := hl
  refine lv_iconst (v := 0) hx hb d_R_forgetAll_0 (by decide) ?_
  refine lv_istore_n (lv' := [(1, .int 0), (0, .ref h)]) hx hb d_R_forgetAll_1 rfl hl (by decide) rfl (fun ls hl => ?_)
  have loop : ∀ (n : Nat) (i : Nat), i + n = w → ∀ (H : Heap) (locs : List Loc), va_P D vwCl [zO 4 h [.ref a, .ref b, .ref v], zI t a w (fun _ => 0), zI t b w (fun _ => 0), zA t 2 v w (fun _ => none)] H → va_D A [zO 4 h [.ref a, .ref b, .ref v], zI t a w (fun _ => 0), zI t b w (fun _ => 0), zA t 2 v w (fun _ => none)] → va_S A s.heap H locs → ∀ (ls : Array Slot), lv_has ls 2 [(1, .int (nI i)), (0, .ref h)] → W p l e ({ frames := 1, cells := 0, slots := 0, locals := 21 } : Room) s m ([.ref h] : List Value).toArray below meth c H locs 0 0 (MQ below ((xe_v D vwCl (fun _ : Unit => True) (fun _ => [zO 4 h [.ref a, .ref b, .ref v], zI t a w (fun _ => 0), zI t b w (fun _ => 0), zA t 2 v w (fun _ => none)])) A) ([.ref h] : List Value).toArray s 0 0 A) (F0 m 2 ls []) := by
    intro n
    induction n with
    | zero =>
      intro i hi H locs hP hD hS ls hl
      refine lv_iload_n hx hb d_R_forgetAll_2 rfl (lv_at hl 0 rfl) ?_
      refine lv_aload_n hx hb d_R_forgetAll_3 rfl (lv_at hl 1 rfl) ?_
      refine va_get (ci := 4) (C := "QuorumStore$Row") (T := TX4) (N := 3) hx hb hts inX4 hown hK.2 hP 0 rfl rfl 0 (by decide) (hts _ k_75) (fun _ h9 => h9) rfl d_R_forgetAll_4 ?_
      refine va_alen (v := nI w) hx hb hK.2 hP 1 0 rfl rfl rfl d_R_forgetAll_7 ?_
      refine lv_icmp_ge (tgt := 22) hx hb d_R_forgetAll_8 (by decide) (fun _ => ?_) (fun c_1 => absurd (nI_le (by omega) (by omega)) c_1)
      exact W.vret hx hb hr (fun t ht hW => ⟨⟨(), rfl, trivial, by rw [ht]; exact hP, hD⟩, hS.F ht⟩) hS.2.2 d_R_forgetAll_22
    | succ n ih =>
      intro i hi H locs hP hD hS ls hl
      refine lv_iload_n hx hb d_R_forgetAll_2 rfl (lv_at hl 0 rfl) ?_
      refine lv_aload_n hx hb d_R_forgetAll_3 rfl (lv_at hl 1 rfl) ?_
      refine va_get (ci := 4) (C := "QuorumStore$Row") (T := TX4) (N := 3) hx hb hts inX4 hown hK.2 hP 0 rfl rfl 0 (by decide) (hts _ k_75) (fun _ h9 => h9) rfl d_R_forgetAll_4 ?_
      refine va_alen (v := nI w) hx hb hK.2 hP 1 0 rfl rfl rfl d_R_forgetAll_7 ?_
      refine lv_icmp_ge (tgt := 22) hx hb d_R_forgetAll_8 (by decide) (fun c_2 => absurd c_2 (nI_ge (by omega) (by omega))) (fun _ => ?_)
      refine lv_aload_n hx hb d_R_forgetAll_11 rfl (lv_at hl 1 rfl) ?_
      refine lv_iload_n hx hb d_R_forgetAll_12 rfl (lv_at hl 0 rfl) ?_
      refine xe_callv (wr := []) (xs_V (As := [.int (nI i)]) (rest := []) Z (C_R_clearPlace l D t h a b v w i (by omega) hw H.size) m_R_clearPlace k_452 k_454 ks_6 rfl rfl ⟨Nat.le_of_ble_eq_true rfl, Nat.le_of_ble_eq_true rfl⟩ (va_recv hK.2 hP (ci := 4) (q0 := 0) rfl rfl) (xe_pre hK (hP.sub [0, 1, 2, 3] rfl) (hD.sub [0, 1, 2, 3] (by decide) rfl)) rfl hl.1 rfl (Nat.le_of_ble_eq_true rfl) d_R_forgetAll_13 ⟨Nat.le_of_ble_eq_true rfl, Nat.le_of_ble_eq_true rfl⟩) hP hD hS hA [0, 1, 2, 3] [] rfl rfl (by decide) (by decide) (fun u_ H locs _ hP hD hS => ?_)
      have hP : va_P D vwCl [zO 4 h [.ref a, .ref b, .ref v], zI t a w (fun _ => 0), zI t b w (fun _ => 0), zA t 2 v w (fun _ => none)] H := hP
      have hD : va_D A [zO 4 h [.ref a, .ref b, .ref v], zI t a w (fun _ => 0), zI t b w (fun _ => 0), zA t 2 v w (fun _ => none)] := hD
      refine lv_iinc (v := nI (i + 1)) (lv' := [(1, .int (nI (i + 1))), (0, .ref h)]) hx hb d_R_forgetAll_16 hl (k := 0) rfl (nI_1 i) (by decide) rfl (fun ls hl => ?_)
      refine lv_goto (tgt := 2) hx hb d_R_forgetAll_19 (by decide) ?_
      exact ih (i + 1) (by omega) H locs hP hD hS ls (lv_sub hl [0, 1] rfl)
  exact loop w 0 (by omega) _ _ hP hD hS ls (lv_sub hl [0, 1] rfl)
theorem d_L_clear_0 : decode c_L_clear 0 = .ok (.aload_n 0, 1) := by decide +kernel
theorem d_L_clear_1 : decode c_L_clear 1 = .ok (.iconst 0, 1) := by decide +kernel
theorem d_L_clear_2 : decode c_L_clear 2 = .ok (.putfield 36, 3) := by decide +kernel
theorem d_L_clear_5 : decode c_L_clear 5 = .ok (.aload_n 0, 1) := by decide +kernel
theorem d_L_clear_6 : decode c_L_clear 6 = .ok (.getfield 25, 3) := by decide +kernel
theorem d_L_clear_9 : decode c_L_clear 9 = .ok (.invokevirtual 40, 3) := by decide +kernel
theorem d_L_clear_12 : decode c_L_clear 12 = .ok (.aload_n 0, 1) := by decide +kernel
theorem d_L_clear_13 : decode c_L_clear 13 = .ok (.getfield 29, 3) := by decide +kernel
theorem d_L_clear_16 : decode c_L_clear 16 = .ok (.invokevirtual 40, 3) := by decide +kernel
theorem d_L_clear_19 : decode c_L_clear 19 = .ok (.iconst 0, 1) := by decide +kernel
theorem d_L_clear_20 : decode c_L_clear 20 = .ok (.istore_n 1, 1) := by decide +kernel
theorem d_L_clear_21 : decode c_L_clear 21 = .ok (.iload_n 1, 1) := by decide +kernel
theorem d_L_clear_22 : decode c_L_clear 22 = .ok (.bipush 16, 2) := by decide +kernel
theorem d_L_clear_24 : decode c_L_clear 24 = .ok (.if_icmp .ge 16, 3) := by decide +kernel
theorem d_L_clear_27 : decode c_L_clear 27 = .ok (.aload_n 0, 1) := by decide +kernel
theorem d_L_clear_28 : decode c_L_clear 28 = .ok (.getfield 32, 3) := by decide +kernel
theorem d_L_clear_31 : decode c_L_clear 31 = .ok (.iload_n 1, 1) := by decide +kernel
theorem d_L_clear_32 : decode c_L_clear 32 = .ok (.aconst_null, 1) := by decide +kernel
theorem d_L_clear_33 : decode c_L_clear 33 = .ok (.aastore, 1) := by decide +kernel
theorem d_L_clear_34 : decode c_L_clear 34 = .ok (.iinc 1 1, 3) := by decide +kernel
theorem d_L_clear_37 : decode c_L_clear 37 = .ok (.goto (-16), 3) := by decide +kernel
theorem d_L_clear_40 : decode c_L_clear 40 = .ok (.aload_n 0, 1) := by decide +kernel
theorem d_L_clear_41 : decode c_L_clear 41 = .ok (.iconst 0, 1) := by decide +kernel
theorem d_L_clear_42 : decode c_L_clear 42 = .ok (.putfield 43, 3) := by decide +kernel
theorem d_L_clear_45 : decode c_L_clear 45 = .ok (.return_, 1) := by decide +kernel
set_option maxHeartbeats 4000000 in
set_option maxRecDepth 100000 in
/-- clear of what is empty already -/
theorem C_L_clear (l : Launch) (D : va_G) (t : Nat → ClassId) (q : Nat → Nat) (no : Nat) (gr sp : Int32) : xe_C l D vwCl (xTY t) y_L_clear c_L_clear 2 (Option.none : Option FieldType) ({ frames := 2, cells := 0, slots := 0, locals := 42 }) [.ref ((q 15))] [zO 0 (q 15) [.ref no, .int gr, .ref ((q 16)), .ref ((q 20)), .ref ((q 24)), .int 0, .int 0, .int sp], zO 4 (q 16) [.ref ((q 17)), .ref ((q 18)), .ref ((q 19))], zI t (q 17) 32 (fun _ => 0), zI t (q 18) 32 (fun _ => 0), zA t 2 (q 19) 32 (fun _ => none), zO 4 (q 20) [.ref ((q 21)), .ref ((q 22)), .ref ((q 23))], zI t (q 21) 4 (fun _ => 0), zI t (q 22) 4 (fun _ => 0), zA t 2 (q 23) 4 (fun _ => none), zA t 2 (q 24) 16 (fun _ => none)] (xe_v D vwCl (fun _ : Unit => True) (fun _ => [zO 0 (q 15) [.ref no, .int 0, .ref ((q 16)), .ref ((q 20)), .ref ((q 24)), .int 0, .int 0, .int sp], zO 4 (q 16) [.ref ((q 17)), .ref ((q 18)), .ref ((q 19))], zI t (q 17) 32 (fun _ => 0), zI t (q 18) 32 (fun _ => 0), zA t 2 (q 19) 32 (fun _ => none), zO 4 (q 20) [.ref ((q 21)), .ref ((q 22)), .ref ((q 23))], zI t (q 21) 4 (fun _ => 0), zI t (q 22) 4 (fun _ => 0), zA t 2 (q 23) 4 (fun _ => none), zA t 2 (q 24) 16 (fun _ => none)])) 0 0 := by
  refine xe_of (by decide) (Nat.le_of_ble_eq_true rfl) ?_
  intro p e s m below meth c ls A Z hr hlocks hin hA hP hD hS hl
  obtain ⟨hx, hb, hml, hown, hK⟩ := id Z
  have hown : s.vm.findClass "QuorumStore$Lead" = some m.cls := hown
  have hts := hK.1.at (args := ([.ref ((q 15))] : List Value).toArray)
  have hl : lv_has ls 2 [(0, .ref ((q 15)))] := hl
  refine lv_aload_n hx hb d_L_clear_0 rfl (lv_at hl 0 rfl) ?_
  refine lv_iconst (v := 0) hx hb d_L_clear_1 (by decide) ?_
  refine va_put (ci := 0) (v := .int 0) (ty := tyX0 1) (C := "QuorumStore$Lead") (T := TX0) (N := 8) hx hb hts inX0 tyX0 okX0 nmX0 hown hK.2 hP hD hS 0 rfl rfl 1 (by decide) (hts _ k_135) (fun _ h9 => h9) rfl (by decide +kernel) rfl rfl (Nat.le_of_ble_eq_true rfl) d_L_clear_2 (fun H locs hP hD hS => ?_)
  have hP : va_P D vwCl [zO 0 (q 15) [.ref no, .int 0, .ref ((q 16)), .ref ((q 20)), .ref ((q 24)), .int 0, .int 0, .int sp], zO 4 (q 16) [.ref ((q 17)), .ref ((q 18)), .ref ((q 19))], zI t (q 17) 32 (fun _ => 0), zI t (q 18) 32 (fun _ => 0), zA t 2 (q 19) 32 (fun _ => none), zO 4 (q 20) [.ref ((q 21)), .ref ((q 22)), .ref ((q 23))], zI t (q 21) 4 (fun _ => 0), zI t (q 22) 4 (fun _ => 0), zA t 2 (q 23) 4 (fun _ => none), zA t 2 (q 24) 16 (fun _ => none)] H := hP
  have hD : va_D A [zO 0 (q 15) [.ref no, .int 0, .ref ((q 16)), .ref ((q 20)), .ref ((q 24)), .int 0, .int 0, .int sp], zO 4 (q 16) [.ref ((q 17)), .ref ((q 18)), .ref ((q 19))], zI t (q 17) 32 (fun _ => 0), zI t (q 18) 32 (fun _ => 0), zA t 2 (q 19) 32 (fun _ => none), zO 4 (q 20) [.ref ((q 21)), .ref ((q 22)), .ref ((q 23))], zI t (q 21) 4 (fun _ => 0), zI t (q 22) 4 (fun _ => 0), zA t 2 (q 23) 4 (fun _ => none), zA t 2 (q 24) 16 (fun _ => none)] := hD
  refine lv_aload_n hx hb d_L_clear_5 rfl (lv_at hl 0 rfl) ?_
  refine va_get (ci := 0) (C := "QuorumStore$Lead") (T := TX0) (N := 8) hx hb hts inX0 hown hK.2 hP 0 rfl rfl 2 (by decide) (hts _ k_138) (fun _ h9 => h9) rfl d_L_clear_6 ?_
  refine xe_callv (wr := [zO 0 (q 15) [.ref no, .int 0, .ref ((q 16)), .ref ((q 20)), .ref ((q 24)), .int 0, .int 0, .int sp], zO 4 (q 20) [.ref ((q 21)), .ref ((q 22)), .ref ((q 23))], zI t (q 21) 4 (fun _ => 0), zI t (q 22) 4 (fun _ => 0), zA t 2 (q 23) 4 (fun _ => none), zA t 2 (q 24) 16 (fun _ => none)]) (xs_V (As := []) (rest := []) Z (C_R_forgetAll l D t (q 16) (q 17) (q 18) (q 19) 32 (by decide) H.size) m_R_forgetAll k_448 k_449 k_450 rfl rfl ⟨Nat.le_of_ble_eq_true rfl, Nat.le_of_ble_eq_true rfl⟩ (va_recv hK.2 hP (ci := 4) (q0 := 1) rfl rfl) (xe_pre hK (hP.sub [1, 2, 3, 4] rfl) (hD.sub [1, 2, 3, 4] (by decide) rfl)) rfl hl.1 rfl (Nat.le_of_ble_eq_true rfl) d_L_clear_9 ⟨Nat.le_of_ble_eq_true rfl, Nat.le_of_ble_eq_true rfl⟩) hP hD hS hA [1, 2, 3, 4] [0, 5, 6, 7, 8, 9] rfl rfl (by decide) (by decide) (fun u_ H locs _ hP hD hS => ?_)
  have hP : va_P D vwCl [zO 0 (q 15) [.ref no, .int 0, .ref ((q 16)), .ref ((q 20)), .ref ((q 24)), .int 0, .int 0, .int sp], zO 4 (q 20) [.ref ((q 21)), .ref ((q 22)), .ref ((q 23))], zI t (q 21) 4 (fun _ => 0), zI t (q 22) 4 (fun _ => 0), zA t 2 (q 23) 4 (fun _ => none), zA t 2 (q 24) 16 (fun _ => none), zO 4 (q 16) [.ref ((q 17)), .ref ((q 18)), .ref ((q 19))], zI t (q 17) 32 (fun _ => 0), zI t (q 18) 32 (fun _ => 0), zA t 2 (q 19) 32 (fun _ => none)] H := hP
  have hD : va_D A [zO 0 (q 15) [.ref no, .int 0, .ref ((q 16)), .ref ((q 20)), .ref ((q 24)), .int 0, .int 0, .int sp], zO 4 (q 20) [.ref ((q 21)), .ref ((q 22)), .ref ((q 23))], zI t (q 21) 4 (fun _ => 0), zI t (q 22) 4 (fun _ => 0), zA t 2 (q 23) 4 (fun _ => none), zA t 2 (q 24) 16 (fun _ => none), zO 4 (q 16) [.ref ((q 17)), .ref ((q 18)), .ref ((q 19))], zI t (q 17) 32 (fun _ => 0), zI t (q 18) 32 (fun _ => 0), zA t 2 (q 19) 32 (fun _ => none)] := hD
  refine lv_aload_n hx hb d_L_clear_12 rfl (lv_at hl 0 rfl) ?_
  refine va_get (ci := 0) (C := "QuorumStore$Lead") (T := TX0) (N := 8) hx hb hts inX0 hown hK.2 hP 0 rfl rfl 3 (by decide) (hts _ k_140) (fun _ h9 => h9) rfl d_L_clear_13 ?_
  refine xe_callv (wr := [zO 0 (q 15) [.ref no, .int 0, .ref ((q 16)), .ref ((q 20)), .ref ((q 24)), .int 0, .int 0, .int sp], zA t 2 (q 24) 16 (fun _ => none), zO 4 (q 16) [.ref ((q 17)), .ref ((q 18)), .ref ((q 19))], zI t (q 17) 32 (fun _ => 0), zI t (q 18) 32 (fun _ => 0), zA t 2 (q 19) 32 (fun _ => none)]) (xs_V (As := []) (rest := []) Z (C_R_forgetAll l D t (q 20) (q 21) (q 22) (q 23) 4 (by decide) H.size) m_R_forgetAll k_448 k_449 k_450 rfl rfl ⟨Nat.le_of_ble_eq_true rfl, Nat.le_of_ble_eq_true rfl⟩ (va_recv hK.2 hP (ci := 4) (q0 := 1) rfl rfl) (xe_pre hK (hP.sub [1, 2, 3, 4] rfl) (hD.sub [1, 2, 3, 4] (by decide) rfl)) rfl hl.1 rfl (Nat.le_of_ble_eq_true rfl) d_L_clear_16 ⟨Nat.le_of_ble_eq_true rfl, Nat.le_of_ble_eq_true rfl⟩) hP hD hS hA [1, 2, 3, 4] [0, 5, 6, 7, 8, 9] rfl rfl (by decide) (by decide) (fun u_ H locs _ hP hD hS => ?_)
  have hP : va_P D vwCl [zO 0 (q 15) [.ref no, .int 0, .ref ((q 16)), .ref ((q 20)), .ref ((q 24)), .int 0, .int 0, .int sp], zA t 2 (q 24) 16 (fun _ => none), zO 4 (q 16) [.ref ((q 17)), .ref ((q 18)), .ref ((q 19))], zI t (q 17) 32 (fun _ => 0), zI t (q 18) 32 (fun _ => 0), zA t 2 (q 19) 32 (fun _ => none), zO 4 (q 20) [.ref ((q 21)), .ref ((q 22)), .ref ((q 23))], zI t (q 21) 4 (fun _ => 0), zI t (q 22) 4 (fun _ => 0), zA t 2 (q 23) 4 (fun _ => none)] H := hP
  have hD : va_D A [zO 0 (q 15) [.ref no, .int 0, .ref ((q 16)), .ref ((q 20)), .ref ((q 24)), .int 0, .int 0, .int sp], zA t 2 (q 24) 16 (fun _ => none), zO 4 (q 16) [.ref ((q 17)), .ref ((q 18)), .ref ((q 19))], zI t (q 17) 32 (fun _ => 0), zI t (q 18) 32 (fun _ => 0), zA t 2 (q 19) 32 (fun _ => none), zO 4 (q 20) [.ref ((q 21)), .ref ((q 22)), .ref ((q 23))], zI t (q 21) 4 (fun _ => 0), zI t (q 22) 4 (fun _ => 0), zA t 2 (q 23) 4 (fun _ => none)] := hD
  refine lv_iconst (v := 0) hx hb d_L_clear_19 (by decide) ?_
  refine lv_istore_n (lv' := [(1, .int 0), (0, .ref ((q 15)))]) hx hb d_L_clear_20 rfl hl (by decide) rfl (fun ls hl => ?_)
  have loop : ∀ (n : Nat) (i : Nat), i + n = 16 → ∀ (H : Heap) (locs : List Loc), va_P D vwCl [zO 0 (q 15) [.ref no, .int 0, .ref ((q 16)), .ref ((q 20)), .ref ((q 24)), .int 0, .int 0, .int sp], zA t 2 (q 24) 16 (fun _ => none), zO 4 (q 16) [.ref ((q 17)), .ref ((q 18)), .ref ((q 19))], zI t (q 17) 32 (fun _ => 0), zI t (q 18) 32 (fun _ => 0), zA t 2 (q 19) 32 (fun _ => none), zO 4 (q 20) [.ref ((q 21)), .ref ((q 22)), .ref ((q 23))], zI t (q 21) 4 (fun _ => 0), zI t (q 22) 4 (fun _ => 0), zA t 2 (q 23) 4 (fun _ => none)] H → va_D A [zO 0 (q 15) [.ref no, .int 0, .ref ((q 16)), .ref ((q 20)), .ref ((q 24)), .int 0, .int 0, .int sp], zA t 2 (q 24) 16 (fun _ => none), zO 4 (q 16) [.ref ((q 17)), .ref ((q 18)), .ref ((q 19))], zI t (q 17) 32 (fun _ => 0), zI t (q 18) 32 (fun _ => 0), zA t 2 (q 19) 32 (fun _ => none), zO 4 (q 20) [.ref ((q 21)), .ref ((q 22)), .ref ((q 23))], zI t (q 21) 4 (fun _ => 0), zI t (q 22) 4 (fun _ => 0), zA t 2 (q 23) 4 (fun _ => none)] → va_S A s.heap H locs → ∀ (ls : Array Slot), lv_has ls 2 [(1, .int (nI i)), (0, .ref ((q 15)))] → W p l e ({ frames := 2, cells := 0, slots := 0, locals := 42 } : Room) s m ([.ref ((q 15))] : List Value).toArray below meth c H locs 0 0 (MQ below ((xe_v D vwCl (fun _ : Unit => True) (fun _ => [zO 0 (q 15) [.ref no, .int 0, .ref ((q 16)), .ref ((q 20)), .ref ((q 24)), .int 0, .int 0, .int sp], zO 4 (q 16) [.ref ((q 17)), .ref ((q 18)), .ref ((q 19))], zI t (q 17) 32 (fun _ => 0), zI t (q 18) 32 (fun _ => 0), zA t 2 (q 19) 32 (fun _ => none), zO 4 (q 20) [.ref ((q 21)), .ref ((q 22)), .ref ((q 23))], zI t (q 21) 4 (fun _ => 0), zI t (q 22) 4 (fun _ => 0), zA t 2 (q 23) 4 (fun _ => none), zA t 2 (q 24) 16 (fun _ => none)])) A) ([.ref ((q 15))] : List Value).toArray s 0 0 A) (F0 m 21 ls []) := by
    intro n
    induction n with
    | zero =>
      intro i hi H locs hP hD hS ls hl
      refine lv_iload_n hx hb d_L_clear_21 rfl (lv_at hl 0 rfl) ?_
      refine lv_bipush (v := 16) hx hb d_L_clear_22 (by decide) ?_
      refine lv_icmp_ge (tgt := 40) hx hb d_L_clear_24 (by decide) (fun _ => ?_) (fun c_1 => absurd (nI_le (b := i) (a := 16) (by omega) (by omega)) c_1)
      refine lv_aload_n hx hb d_L_clear_40 rfl (lv_at hl 1 rfl) ?_
      refine lv_iconst (v := 0) hx hb d_L_clear_41 (by decide) ?_
      refine va_put (ci := 0) (v := .int 0) (ty := tyX0 5) (C := "QuorumStore$Lead") (T := TX0) (N := 8) hx hb hts inX0 tyX0 okX0 nmX0 hown hK.2 hP hD hS 0 rfl rfl 5 (by decide) (hts _ k_144) (fun _ h9 => h9) rfl (by decide +kernel) rfl rfl (Nat.le_of_ble_eq_true rfl) d_L_clear_42 (fun H locs hP hD hS => ?_)
      have hP : va_P D vwCl [zO 0 (q 15) [.ref no, .int 0, .ref ((q 16)), .ref ((q 20)), .ref ((q 24)), .int 0, .int 0, .int sp], zA t 2 (q 24) 16 (fun _ => none), zO 4 (q 16) [.ref ((q 17)), .ref ((q 18)), .ref ((q 19))], zI t (q 17) 32 (fun _ => 0), zI t (q 18) 32 (fun _ => 0), zA t 2 (q 19) 32 (fun _ => none), zO 4 (q 20) [.ref ((q 21)), .ref ((q 22)), .ref ((q 23))], zI t (q 21) 4 (fun _ => 0), zI t (q 22) 4 (fun _ => 0), zA t 2 (q 23) 4 (fun _ => none)] H := hP
      have hD : va_D A [zO 0 (q 15) [.ref no, .int 0, .ref ((q 16)), .ref ((q 20)), .ref ((q 24)), .int 0, .int 0, .int sp], zA t 2 (q 24) 16 (fun _ => none), zO 4 (q 16) [.ref ((q 17)), .ref ((q 18)), .ref ((q 19))], zI t (q 17) 32 (fun _ => 0), zI t (q 18) 32 (fun _ => 0), zA t 2 (q 19) 32 (fun _ => none), zO 4 (q 20) [.ref ((q 21)), .ref ((q 22)), .ref ((q 23))], zI t (q 21) 4 (fun _ => 0), zI t (q 22) 4 (fun _ => 0), zA t 2 (q 23) 4 (fun _ => none)] := hD
      have hP := hP.sub (ws' := [zO 0 (q 15) [.ref no, .int 0, .ref ((q 16)), .ref ((q 20)), .ref ((q 24)), .int 0, .int 0, .int sp], zO 4 (q 16) [.ref ((q 17)), .ref ((q 18)), .ref ((q 19))], zI t (q 17) 32 (fun _ => 0), zI t (q 18) 32 (fun _ => 0), zA t 2 (q 19) 32 (fun _ => none), zO 4 (q 20) [.ref ((q 21)), .ref ((q 22)), .ref ((q 23))], zI t (q 21) 4 (fun _ => 0), zI t (q 22) 4 (fun _ => 0), zA t 2 (q 23) 4 (fun _ => none), zA t 2 (q 24) 16 (fun _ => none)]) [0, 2, 3, 4, 5, 6, 7, 8, 9, 1] rfl
      have hD := hD.sub (ws' := [zO 0 (q 15) [.ref no, .int 0, .ref ((q 16)), .ref ((q 20)), .ref ((q 24)), .int 0, .int 0, .int sp], zO 4 (q 16) [.ref ((q 17)), .ref ((q 18)), .ref ((q 19))], zI t (q 17) 32 (fun _ => 0), zI t (q 18) 32 (fun _ => 0), zA t 2 (q 19) 32 (fun _ => none), zO 4 (q 20) [.ref ((q 21)), .ref ((q 22)), .ref ((q 23))], zI t (q 21) 4 (fun _ => 0), zI t (q 22) 4 (fun _ => 0), zA t 2 (q 23) 4 (fun _ => none), zA t 2 (q 24) 16 (fun _ => none)]) [0, 2, 3, 4, 5, 6, 7, 8, 9, 1] (by decide) rfl
      exact W.vret hx hb hr (fun t ht hW => ⟨⟨(), rfl, trivial, by rw [ht]; exact hP, hD⟩, hS.F ht⟩) hS.2.2 d_L_clear_45
    | succ n ih =>
      intro i hi H locs hP hD hS ls hl
      refine lv_iload_n hx hb d_L_clear_21 rfl (lv_at hl 0 rfl) ?_
      refine lv_bipush (v := 16) hx hb d_L_clear_22 (by decide) ?_
      refine lv_icmp_ge (tgt := 40) hx hb d_L_clear_24 (by decide) (fun c_2 => absurd c_2 (nI_ge (a := i) (b := 16) (by omega) (by omega))) (fun _ => ?_)
      refine lv_aload_n hx hb d_L_clear_27 rfl (lv_at hl 1 rfl) ?_
      refine va_get (ci := 0) (C := "QuorumStore$Lead") (T := TX0) (N := 8) hx hb hts inX0 hown hK.2 hP 0 rfl rfl 4 (by decide) (hts _ k_143) (fun _ h9 => h9) rfl d_L_clear_28 ?_
      refine lv_iload_n hx hb d_L_clear_31 rfl (lv_at hl 0 rfl) ?_
      refine lv_null hx hb d_L_clear_32 ?_
      refine va_astqN hx hb hK.2 hP hD hS 1 2 rfl rfl (vp_in_nI (by omega) (by decide)) d_L_clear_33 (fun H locs hP hD hS => ?_)
      rw [xu_q] at hP hD
      have hP : va_P D vwCl [zO 0 (q 15) [.ref no, .int 0, .ref ((q 16)), .ref ((q 20)), .ref ((q 24)), .int 0, .int 0, .int sp], zA t 2 (q 24) 16 (fun _ => none), zO 4 (q 16) [.ref ((q 17)), .ref ((q 18)), .ref ((q 19))], zI t (q 17) 32 (fun _ => 0), zI t (q 18) 32 (fun _ => 0), zA t 2 (q 19) 32 (fun _ => none), zO 4 (q 20) [.ref ((q 21)), .ref ((q 22)), .ref ((q 23))], zI t (q 21) 4 (fun _ => 0), zI t (q 22) 4 (fun _ => 0), zA t 2 (q 23) 4 (fun _ => none)] H := hP
      have hD : va_D A [zO 0 (q 15) [.ref no, .int 0, .ref ((q 16)), .ref ((q 20)), .ref ((q 24)), .int 0, .int 0, .int sp], zA t 2 (q 24) 16 (fun _ => none), zO 4 (q 16) [.ref ((q 17)), .ref ((q 18)), .ref ((q 19))], zI t (q 17) 32 (fun _ => 0), zI t (q 18) 32 (fun _ => 0), zA t 2 (q 19) 32 (fun _ => none), zO 4 (q 20) [.ref ((q 21)), .ref ((q 22)), .ref ((q 23))], zI t (q 21) 4 (fun _ => 0), zI t (q 22) 4 (fun _ => 0), zA t 2 (q 23) 4 (fun _ => none)] := hD
      refine lv_iinc (v := nI (i + 1)) (lv' := [(1, .int (nI (i + 1))), (0, .ref ((q 15)))]) hx hb d_L_clear_34 hl (k := 0) rfl (nI_1 i) (by decide) rfl (fun ls hl => ?_)
      refine lv_goto (tgt := 21) hx hb d_L_clear_37 (by decide) ?_
      exact ih (i + 1) (by omega) H locs hP hD hS ls (lv_sub hl [0, 1] rfl)
  exact loop 16 0 (by omega) _ _ hP hD hS ls (lv_sub hl [0, 1] rfl)
theorem d_M_init_0 : decode c_M_init 0 = .ok (.aload_n 0, 1) := by decide +kernel
theorem d_M_init_1 : decode c_M_init 1 = .ok (.invokespecial 1, 3) := by decide +kernel
theorem d_M_init_4 : decode c_M_init 4 = .ok (.aload_n 0, 1) := by decide +kernel
theorem d_M_init_5 : decode c_M_init 5 = .ok (.iload_n 1, 1) := by decide +kernel
theorem d_M_init_6 : decode c_M_init 6 = .ok (.putfield 7, 3) := by decide +kernel
theorem d_M_init_9 : decode c_M_init 9 = .ok (.aload_n 0, 1) := by decide +kernel
theorem d_M_init_10 : decode c_M_init 10 = .ok (.iload_n 2, 1) := by decide +kernel
theorem d_M_init_11 : decode c_M_init 11 = .ok (.putfield 13, 3) := by decide +kernel
theorem d_M_init_14 : decode c_M_init 14 = .ok (.aload_n 0, 1) := by decide +kernel
theorem d_M_init_15 : decode c_M_init 15 = .ok (.iload_n 3, 1) := by decide +kernel
theorem d_M_init_16 : decode c_M_init 16 = .ok (.putfield 16, 3) := by decide +kernel
theorem d_M_init_19 : decode c_M_init 19 = .ok (.aload_n 0, 1) := by decide +kernel
theorem d_M_init_20 : decode c_M_init 20 = .ok (.iload 4, 2) := by decide +kernel
theorem d_M_init_22 : decode c_M_init 22 = .ok (.putfield 19, 3) := by decide +kernel
theorem d_M_init_25 : decode c_M_init 25 = .ok (.aload_n 0, 1) := by decide +kernel
theorem d_M_init_26 : decode c_M_init 26 = .ok (.iload 5, 2) := by decide +kernel
theorem d_M_init_28 : decode c_M_init 28 = .ok (.putfield 22, 3) := by decide +kernel
theorem d_M_init_31 : decode c_M_init 31 = .ok (.aload_n 0, 1) := by decide +kernel
theorem d_M_init_32 : decode c_M_init 32 = .ok (.aload 6, 2) := by decide +kernel
theorem d_M_init_34 : decode c_M_init 34 = .ok (.putfield 25, 3) := by decide +kernel
theorem d_M_init_37 : decode c_M_init 37 = .ok (.return_, 1) := by decide +kernel
set_option maxHeartbeats 4000000 in
set_option maxRecDepth 100000 in
/-- a message without a value -/
theorem C_M_init (l : Launch) (D : va_G) (t : Nat → ClassId) (mq : Nat) (k fm tt bl sl : Int32) : xe_C l D vwCl (xTY t) y_M_init c_M_init 7 (Option.none : Option FieldType) ({ frames := 1, cells := 0, slots := 0, locals := 20 }) [.ref mq, .int k, .int fm, .int tt, .int bl, .int sl, .null] [zO 1 mq [.int 0, .int 0, .int 0, .int 0, .int 0, .null, .null, .null]] (xe_v D vwCl (fun _ : Unit => True) (fun _ => [zO 1 mq [.int k, .int fm, .int tt, .int bl, .int sl, .null, .null, .null]])) 0 0 := by
  refine xe_of (by decide) (Nat.le_of_ble_eq_true rfl) ?_
  intro p e s m below meth c ls A Z hr hlocks hin hA hP hD hS hl
  obtain ⟨hx, hb, hml, hown, hK⟩ := id Z
  have hown : s.vm.findClass "QuorumStore$Message" = some m.cls := hown
  have hts := hK.1.at (args := ([.ref mq, .int k, .int fm, .int tt, .int bl, .int sl, .null] : List Value).toArray)
  have hl : lv_has ls 7 [(0, .ref mq), (1, .int k), (2, .int fm), (3, .int tt), (4, .int bl), (5, .int sl), (6, .null)] := hl
  refine lv_aload_n hx hb d_M_init_0 rfl (lv_at hl 0 rfl) ?_
  refine W.objInit hx hb hown (hts _ k_379) (hts _ k_30) (hts _ k_31) rfl (by rw [hml]; exact hl.1) rfl d_M_init_1 (Nat.le_of_ble_eq_true rfl) (Nat.le_of_ble_eq_true rfl) ?_
  refine W.eq (g2 := F0 m 4 ls []) rfl ?_
  refine lv_aload_n hx hb d_M_init_4 rfl (lv_at hl 0 rfl) ?_
  refine lv_iload_n hx hb d_M_init_5 rfl (lv_at hl 1 rfl) ?_
  refine va_putF (ci := 1) (v := .int k) (ty := tyX1 0) (C := "QuorumStore$Message") (T := TX1) (N := 8) hx hb hts inX1 tyX1 okX1 nmX1 hown hK.2 hP hD hS 0 rfl rfl 0 (by decide) (hts _ k_380) (fun _ h9 => h9) rfl hin rfl (by decide +kernel) rfl rfl (Nat.le_of_ble_eq_true rfl) d_M_init_6 (fun H locs hP hD hS => ?_)
  have hP : va_P D vwCl [zO 1 mq [.int k, .int 0, .int 0, .int 0, .int 0, .null, .null, .null]] H := hP
  have hD : va_D A [zO 1 mq [.int k, .int 0, .int 0, .int 0, .int 0, .null, .null, .null]] := hD
  refine lv_aload_n hx hb d_M_init_9 rfl (lv_at hl 0 rfl) ?_
  refine lv_iload_n hx hb d_M_init_10 rfl (lv_at hl 2 rfl) ?_
  refine va_putF (ci := 1) (v := .int fm) (ty := tyX1 1) (C := "QuorumStore$Message") (T := TX1) (N := 8) hx hb hts inX1 tyX1 okX1 nmX1 hown hK.2 hP hD hS 0 rfl rfl 1 (by decide) (hts _ k_383) (fun _ h9 => h9) rfl hin rfl (by decide +kernel) rfl rfl (Nat.le_of_ble_eq_true rfl) d_M_init_11 (fun H locs hP hD hS => ?_)
  have hP : va_P D vwCl [zO 1 mq [.int k, .int fm, .int 0, .int 0, .int 0, .null, .null, .null]] H := hP
  have hD : va_D A [zO 1 mq [.int k, .int fm, .int 0, .int 0, .int 0, .null, .null, .null]] := hD
  refine lv_aload_n hx hb d_M_init_14 rfl (lv_at hl 0 rfl) ?_
  refine lv_iload_n hx hb d_M_init_15 rfl (lv_at hl 3 rfl) ?_
  refine va_putF (ci := 1) (v := .int tt) (ty := tyX1 2) (C := "QuorumStore$Message") (T := TX1) (N := 8) hx hb hts inX1 tyX1 okX1 nmX1 hown hK.2 hP hD hS 0 rfl rfl 2 (by decide) (hts _ k_386) (fun _ h9 => h9) rfl hin rfl (by decide +kernel) rfl rfl (Nat.le_of_ble_eq_true rfl) d_M_init_16 (fun H locs hP hD hS => ?_)
  have hP : va_P D vwCl [zO 1 mq [.int k, .int fm, .int tt, .int 0, .int 0, .null, .null, .null]] H := hP
  have hD : va_D A [zO 1 mq [.int k, .int fm, .int tt, .int 0, .int 0, .null, .null, .null]] := hD
  refine lv_aload_n hx hb d_M_init_19 rfl (lv_at hl 0 rfl) ?_
  refine lv_iload hx hb d_M_init_20 (lv_at hl 4 rfl) ?_
  refine va_putF (ci := 1) (v := .int bl) (ty := tyX1 3) (C := "QuorumStore$Message") (T := TX1) (N := 8) hx hb hts inX1 tyX1 okX1 nmX1 hown hK.2 hP hD hS 0 rfl rfl 3 (by decide) (hts _ k_388) (fun _ h9 => h9) rfl hin rfl (by decide +kernel) rfl rfl (Nat.le_of_ble_eq_true rfl) d_M_init_22 (fun H locs hP hD hS => ?_)
  have hP : va_P D vwCl [zO 1 mq [.int k, .int fm, .int tt, .int bl, .int 0, .null, .null, .null]] H := hP
  have hD : va_D A [zO 1 mq [.int k, .int fm, .int tt, .int bl, .int 0, .null, .null, .null]] := hD
  refine lv_aload_n hx hb d_M_init_25 rfl (lv_at hl 0 rfl) ?_
  refine lv_iload hx hb d_M_init_26 (lv_at hl 5 rfl) ?_
  refine va_putF (ci := 1) (v := .int sl) (ty := tyX1 4) (C := "QuorumStore$Message") (T := TX1) (N := 8) hx hb hts inX1 tyX1 okX1 nmX1 hown hK.2 hP hD hS 0 rfl rfl 4 (by decide) (hts _ k_391) (fun _ h9 => h9) rfl hin rfl (by decide +kernel) rfl rfl (Nat.le_of_ble_eq_true rfl) d_M_init_28 (fun H locs hP hD hS => ?_)
  have hP : va_P D vwCl [zO 1 mq [.int k, .int fm, .int tt, .int bl, .int sl, .null, .null, .null]] H := hP
  have hD : va_D A [zO 1 mq [.int k, .int fm, .int tt, .int bl, .int sl, .null, .null, .null]] := hD
  refine lv_aload_n hx hb d_M_init_31 rfl (lv_at hl 0 rfl) ?_
  refine lv_aloadN hx hb d_M_init_32 (lv_at hl 6 rfl) ?_
  refine va_putF (ci := 1) (v := .null) (ty := tyX1 5) (C := "QuorumStore$Message") (T := TX1) (N := 8) hx hb hts inX1 tyX1 okX1 nmX1 hown hK.2 hP hD hS 0 rfl rfl 5 (by decide) (hts _ k_394) (fun _ h9 => h9) rfl hin rfl (by decide +kernel) rfl rfl (Nat.le_of_ble_eq_true rfl) d_M_init_34 (fun H locs hP hD hS => ?_)
  have hP : va_P D vwCl [zO 1 mq [.int k, .int fm, .int tt, .int bl, .int sl, .null, .null, .null]] H := hP
  have hD : va_D A [zO 1 mq [.int k, .int fm, .int tt, .int bl, .int sl, .null, .null, .null]] := hD
  exact W.vret hx hb hr (fun t ht hW => ⟨⟨(), rfl, trivial, by rw [ht]; exact hP, hD⟩, hS.F ht⟩) hS.2.2 d_M_init_37
theorem d_N_send_0 : decode c_N_send 0 = .ok (.aload_n 0, 1) := by decide +kernel
theorem d_N_send_1 : decode c_N_send 1 = .ok (.dup, 1) := by decide +kernel
theorem d_N_send_2 : decode c_N_send 2 = .ok (.getfield 21, 3) := by decide +kernel
theorem d_N_send_5 : decode c_N_send 5 = .ok (.iconst 1, 1) := by decide +kernel
theorem d_N_send_6 : decode c_N_send 6 = .ok (.iadd, 1) := by decide +kernel
theorem d_N_send_7 : decode c_N_send 7 = .ok (.putfield 21, 3) := by decide +kernel
theorem d_N_send_10 : decode c_N_send 10 = .ok (.aload_n 0, 1) := by decide +kernel
theorem d_N_send_11 : decode c_N_send 11 = .ok (.getfield 17, 3) := by decide +kernel
theorem d_N_send_14 : decode c_N_send 14 = .ok (.sipush 300, 3) := by decide +kernel
theorem d_N_send_17 : decode c_N_send 17 = .ok (.if_icmp .ge 26, 3) := by decide +kernel
theorem d_N_send_20 : decode c_N_send 20 = .ok (.aload_n 0, 1) := by decide +kernel
theorem d_N_send_21 : decode c_N_send 21 = .ok (.getfield 11, 3) := by decide +kernel
theorem d_N_send_24 : decode c_N_send 24 = .ok (.aload_n 0, 1) := by decide +kernel
theorem d_N_send_25 : decode c_N_send 25 = .ok (.getfield 17, 3) := by decide +kernel
theorem d_N_send_28 : decode c_N_send 28 = .ok (.aload_n 1, 1) := by decide +kernel
theorem d_N_send_29 : decode c_N_send 29 = .ok (.aastore, 1) := by decide +kernel
theorem d_N_send_30 : decode c_N_send 30 = .ok (.aload_n 0, 1) := by decide +kernel
theorem d_N_send_31 : decode c_N_send 31 = .ok (.dup, 1) := by decide +kernel
theorem d_N_send_32 : decode c_N_send 32 = .ok (.getfield 17, 3) := by decide +kernel
theorem d_N_send_35 : decode c_N_send 35 = .ok (.iconst 1, 1) := by decide +kernel
theorem d_N_send_36 : decode c_N_send 36 = .ok (.iadd, 1) := by decide +kernel
theorem d_N_send_37 : decode c_N_send 37 = .ok (.putfield 17, 3) := by decide +kernel
theorem d_N_send_40 : decode c_N_send 40 = .ok (.goto 13, 3) := by decide +kernel
theorem d_N_send_53 : decode c_N_send 53 = .ok (.return_, 1) := by decide +kernel
set_option maxHeartbeats 4000000 in
set_option maxRecDepth 100000 in
/-- send where there is room -/
theorem C_N_send (l : Launch) (D : va_G) (t : Nat → ClassId) (nw rw mq : Nat) (z : Nat) (hlt : z < 300) (x y : Int32) (g : Nat → Option Nat) (k fm tt bl sl : Int32) : xe_C l D vwCl (xTY t) y_N_send c_N_send 2 (Option.none : Option FieldType) ({ frames := 0, cells := 0, slots := 0, locals := 0 }) [.ref nw, .ref mq] [zO 2 nw [.ref rw, .int (nI z), .int x, .int y, .int 0], zA t 3 rw 300 g, zO 1 mq [.int k, .int fm, .int tt, .int bl, .int sl, .null, .null, .null]] (xe_v D vwCl (fun _ : Int32 × Int32 × (Nat → Option Nat) => True) (fun u : Int32 × Int32 × (Nat → Option Nat) => [zO 2 nw [.ref rw, .int (nI (min 300 (z + 1))), .int u.1, .int u.2.1, .int 0], zA t 3 rw 300 u.2.2])) 0 0 := by
  refine xe_of (by decide) (Nat.le_of_ble_eq_true rfl) ?_
  intro p e s m below meth c ls A Z hr hlocks hin hA hP hD hS hl
  obtain ⟨hx, hb, hml, hown, hK⟩ := id Z
  have hown : s.vm.findClass "QuorumStore$Network" = some m.cls := hown
  have hts := hK.1.at (args := ([.ref nw, .ref mq] : List Value).toArray)
  have hl : lv_has ls 2 [(0, .ref nw), (1, .ref mq)] := hl
  refine lv_aload_n hx hb d_N_send_0 rfl (lv_at hl 0 rfl) ?_
  refine lv_dup hx hb d_N_send_1 rfl ?_
  refine va_get (ci := 2) (C := "QuorumStore$Network") (T := TX2) (N := 5) hx hb hts inX2 hown hK.2 hP 0 rfl rfl 2 (by decide) (hts _ k_44) (fun _ h9 => h9) rfl d_N_send_2 ?_
  refine lv_iconst (v := 1) hx hb d_N_send_5 (by decide) ?_
  refine lv_iadd hx hb d_N_send_6 ?_
  refine lv_topi (fun f_1 ef_1 => ?_)
  refine va_put (ci := 2) (v := .int f_1) (ty := tyX2 2) (C := "QuorumStore$Network") (T := TX2) (N := 5) hx hb hts inX2 tyX2 okX2 nmX2 hown hK.2 hP hD hS 0 rfl rfl 2 (by decide) (hts _ k_44) (fun _ h9 => h9) rfl (by decide +kernel) rfl rfl (Nat.le_of_ble_eq_true rfl) d_N_send_7 (fun H locs hP hD hS => ?_)
  have hP : va_P D vwCl [zO 2 nw [.ref rw, .int (nI z), .int f_1, .int y, .int 0], zA t 3 rw 300 g, zO 1 mq [.int k, .int fm, .int tt, .int bl, .int sl, .null, .null, .null]] H := hP
  have hD : va_D A [zO 2 nw [.ref rw, .int (nI z), .int f_1, .int y, .int 0], zA t 3 rw 300 g, zO 1 mq [.int k, .int fm, .int tt, .int bl, .int sl, .null, .null, .null]] := hD
  refine lv_aload_n hx hb d_N_send_10 rfl (lv_at hl 0 rfl) ?_
  refine va_get (ci := 2) (C := "QuorumStore$Network") (T := TX2) (N := 5) hx hb hts inX2 hown hK.2 hP 0 rfl rfl 1 (by decide) (hts _ k_42) (fun _ h9 => h9) rfl d_N_send_11 ?_
  refine lv_sipush (v := 300) hx hb d_N_send_14 (by decide) ?_
  refine lv_icmp_ge (tgt := 43) hx hb d_N_send_17 (by decide) (fun c_2 => absurd c_2 (nI_ge (a := z) (b := 300) hlt (by decide))) (fun _ => ?_)
  refine lv_aload_n hx hb d_N_send_20 rfl (lv_at hl 0 rfl) ?_
  refine va_get (ci := 2) (C := "QuorumStore$Network") (T := TX2) (N := 5) hx hb hts inX2 hown hK.2 hP 0 rfl rfl 0 (by decide) (hts _ k_40) (fun _ h9 => h9) rfl d_N_send_21 ?_
  refine lv_aload_n hx hb d_N_send_24 rfl (lv_at hl 0 rfl) ?_
  refine va_get (ci := 2) (C := "QuorumStore$Network") (T := TX2) (N := 5) hx hb hts inX2 hown hK.2 hP 0 rfl rfl 1 (by decide) (hts _ k_42) (fun _ h9 => h9) rfl d_N_send_25 ?_
  refine lv_aload_n hx hb d_N_send_28 rfl (lv_at hl 1 rfl) ?_
  refine va_astq hx hb hK.2 hP hD hS 1 3 2 1 rfl rfl rfl rfl (vp_in_nI hlt (by decide)) d_N_send_29 (fun H locs hP hD hS => ?_)
  have hP : va_P D vwCl [zO 2 nw [.ref rw, .int (nI z), .int f_1, .int y, .int 0], zA t 3 rw 300 (va_up (g) (nI z).toNatClampNeg (some mq)), zO 1 mq [.int k, .int fm, .int tt, .int bl, .int sl, .null, .null, .null]] H := hP
  have hD : va_D A [zO 2 nw [.ref rw, .int (nI z), .int f_1, .int y, .int 0], zA t 3 rw 300 (va_up (g) (nI z).toNatClampNeg (some mq)), zO 1 mq [.int k, .int fm, .int tt, .int bl, .int sl, .null, .null, .null]] := hD
  refine lv_aload_n hx hb d_N_send_30 rfl (lv_at hl 0 rfl) ?_
  refine lv_dup hx hb d_N_send_31 rfl ?_
  refine va_get (ci := 2) (C := "QuorumStore$Network") (T := TX2) (N := 5) hx hb hts inX2 hown hK.2 hP 0 rfl rfl 1 (by decide) (hts _ k_42) (fun _ h9 => h9) rfl d_N_send_32 ?_
  refine lv_iconst (v := 1) hx hb d_N_send_35 (by decide) ?_
  refine lv_iadd hx hb d_N_send_36 ?_
  refine lv_topi (fun f_3 ef_3 => ?_)
  refine va_put (ci := 2) (v := .int f_3) (ty := tyX2 1) (C := "QuorumStore$Network") (T := TX2) (N := 5) hx hb hts inX2 tyX2 okX2 nmX2 hown hK.2 hP hD hS 0 rfl rfl 1 (by decide) (hts _ k_42) (fun _ h9 => h9) rfl (by decide +kernel) rfl rfl (Nat.le_of_ble_eq_true rfl) d_N_send_37 (fun H locs hP hD hS => ?_)
  have hP : va_P D vwCl [zO 2 nw [.ref rw, .int f_3, .int f_1, .int y, .int 0], zA t 3 rw 300 (va_up (g) (nI z).toNatClampNeg (some mq)), zO 1 mq [.int k, .int fm, .int tt, .int bl, .int sl, .null, .null, .null]] H := hP
  have hD : va_D A [zO 2 nw [.ref rw, .int f_3, .int f_1, .int y, .int 0], zA t 3 rw 300 (va_up (g) (nI z).toNatClampNeg (some mq)), zO 1 mq [.int k, .int fm, .int tt, .int bl, .int sl, .null, .null, .null]] := hD
  refine lv_goto (tgt := 53) hx hb d_N_send_40 (by decide) ?_
  have e9 : nI z + 1 = nI (min 300 (z + 1)) := by rw [nI_1, Nat.min_eq_right (by omega)]
  rw [ef_3, e9] at hP hD
  have hP := hP.sub (ws' := [zO 2 nw [.ref rw, .int (nI (min 300 (z + 1))), .int f_1, .int y, .int 0], zA t 3 rw 300 (va_up (g) (nI z).toNatClampNeg (some mq))]) [0, 1] rfl
  have hD := hD.sub (ws' := [zO 2 nw [.ref rw, .int (nI (min 300 (z + 1))), .int f_1, .int y, .int 0], zA t 3 rw 300 (va_up (g) (nI z).toNatClampNeg (some mq))]) [0, 1] (by decide) rfl
  exact W.vret hx hb hr (fun t ht hW => ⟨⟨(_, _, _), rfl, trivial, by rw [ht]; exact hP, hD⟩, hS.F ht⟩) hS.2.2 d_N_send_53
theorem d_N_sendPlain_0 : decode c_N_sendPlain 0 = .ok (.aload_n 0, 1) := by decide +kernel
theorem d_N_sendPlain_1 : decode c_N_sendPlain 1 = .ok (.getfield 17, 3) := by decide +kernel
theorem d_N_sendPlain_4 : decode c_N_sendPlain 4 = .ok (.sipush 300, 3) := by decide +kernel
theorem d_N_sendPlain_7 : decode c_N_sendPlain 7 = .ok (.if_icmp .lt 26, 3) := by decide +kernel
theorem d_N_sendPlain_10 : decode c_N_sendPlain 10 = .ok (.aload_n 0, 1) := by decide +kernel
theorem d_N_sendPlain_11 : decode c_N_sendPlain 11 = .ok (.dup, 1) := by decide +kernel
theorem d_N_sendPlain_12 : decode c_N_sendPlain 12 = .ok (.getfield 21, 3) := by decide +kernel
theorem d_N_sendPlain_15 : decode c_N_sendPlain 15 = .ok (.iconst 1, 1) := by decide +kernel
theorem d_N_sendPlain_16 : decode c_N_sendPlain 16 = .ok (.iadd, 1) := by decide +kernel
theorem d_N_sendPlain_17 : decode c_N_sendPlain 17 = .ok (.putfield 21, 3) := by decide +kernel
theorem d_N_sendPlain_20 : decode c_N_sendPlain 20 = .ok (.aload_n 0, 1) := by decide +kernel
theorem d_N_sendPlain_21 : decode c_N_sendPlain 21 = .ok (.dup, 1) := by decide +kernel
theorem d_N_sendPlain_22 : decode c_N_sendPlain 22 = .ok (.getfield 24, 3) := by decide +kernel
theorem d_N_sendPlain_25 : decode c_N_sendPlain 25 = .ok (.iconst 1, 1) := by decide +kernel
theorem d_N_sendPlain_26 : decode c_N_sendPlain 26 = .ok (.iadd, 1) := by decide +kernel
theorem d_N_sendPlain_27 : decode c_N_sendPlain 27 = .ok (.putfield 24, 3) := by decide +kernel
theorem d_N_sendPlain_30 : decode c_N_sendPlain 30 = .ok (.goto 23, 3) := by decide +kernel
theorem d_N_sendPlain_33 : decode c_N_sendPlain 33 = .ok (.aload_n 0, 1) := by decide +kernel
theorem d_N_sendPlain_34 : decode c_N_sendPlain 34 = .ok (.new 9, 3) := by decide +kernel
theorem d_N_sendPlain_37 : decode c_N_sendPlain 37 = .ok (.dup, 1) := by decide +kernel
theorem d_N_sendPlain_38 : decode c_N_sendPlain 38 = .ok (.iload_n 1, 1) := by decide +kernel
theorem d_N_sendPlain_39 : decode c_N_sendPlain 39 = .ok (.iload_n 2, 1) := by decide +kernel
theorem d_N_sendPlain_40 : decode c_N_sendPlain 40 = .ok (.iload_n 3, 1) := by decide +kernel
theorem d_N_sendPlain_41 : decode c_N_sendPlain 41 = .ok (.iload 4, 2) := by decide +kernel
theorem d_N_sendPlain_43 : decode c_N_sendPlain 43 = .ok (.iload 5, 2) := by decide +kernel
theorem d_N_sendPlain_45 : decode c_N_sendPlain 45 = .ok (.aload 6, 2) := by decide +kernel
theorem d_N_sendPlain_47 : decode c_N_sendPlain 47 = .ok (.invokespecial 27, 3) := by decide +kernel
theorem d_N_sendPlain_50 : decode c_N_sendPlain 50 = .ok (.invokevirtual 30, 3) := by decide +kernel
theorem d_N_sendPlain_53 : decode c_N_sendPlain 53 = .ok (.return_, 1) := by decide +kernel
set_option maxHeartbeats 4000000 in
set_option maxRecDepth 100000 in
/-- sendPlain of a message without a value -/
theorem C_N_sendPlain (l : Launch) (D : va_G) (t : Nat → ClassId) (nw rw : Nat) (z : Nat) (hz : z ≤ 300) (x y : Int32) (g : Nat → Option Nat) (k fm tt bl sl : Int32) : xe_C l D vwCl (xTY t) y_N_sendPlain c_N_sendPlain 7 (Option.none : Option FieldType) ({ frames := 2, cells := 1, slots := 8, locals := 46 }) [.ref nw, .int k, .int fm, .int tt, .int bl, .int sl, .null] [zO 2 nw [.ref rw, .int (nI z), .int x, .int y, .int 0], zA t 3 rw 300 g] (xe_v D vwCl (fun _ : Int32 × Int32 × (Nat → Option Nat) => True) (fun u : Int32 × Int32 × (Nat → Option Nat) => [zO 2 nw [.ref rw, .int (nI (min 300 (z + 1))), .int u.1, .int u.2.1, .int 0], zA t 3 rw 300 u.2.2])) 1 8 := by
  refine xe_of (by decide) (Nat.le_of_ble_eq_true rfl) ?_
  intro p e s m below meth c ls A Z hr hlocks hin hA hP hD hS hl
  obtain ⟨hx, hb, hml, hown, hK⟩ := id Z
  have hown : s.vm.findClass "QuorumStore$Network" = some m.cls := hown
  have hts := hK.1.at (args := ([.ref nw, .int k, .int fm, .int tt, .int bl, .int sl, .null] : List Value).toArray)
  have hl : lv_has ls 7 [(0, .ref nw), (1, .int k), (2, .int fm), (3, .int tt), (4, .int bl), (5, .int sl), (6, .null)] := hl
  refine lv_aload_n hx hb d_N_sendPlain_0 rfl (lv_at hl 0 rfl) ?_
  refine va_get (ci := 2) (C := "QuorumStore$Network") (T := TX2) (N := 5) hx hb hts inX2 hown hK.2 hP 0 rfl rfl 1 (by decide) (hts _ k_42) (fun _ h9 => h9) rfl d_N_sendPlain_1 ?_
  refine lv_sipush (v := 300) hx hb d_N_sendPlain_4 (by decide) ?_
  refine lv_icmp_lt (tgt := 33) hx hb d_N_sendPlain_7 (by decide) (fun c_1 => ?_) (fun c_1 => ?_)
  · have hlt : z < 300 := by
      rcases Nat.lt_or_ge z 300 with h | h
      · exact h
      · exact absurd c_1 (nI_nlt h (by omega))
    refine lv_aload_n hx hb d_N_sendPlain_33 rfl (lv_at hl 0 rfl) ?_
    refine va_new (ci := 1) (fs := [.int 0, .int 0, .int 0, .int 0, .int 0, .null, .null, .null]) (C := "QuorumStore$Message") (T := TX1) (N := 8) hx hb hts inX1 tyX1 okX1 hown (hts _ k_38) (hts _ k_375) (hts _ k_17) hK.2 hP hD hS hA rfl (by decide) (Nat.le_of_ble_eq_true rfl) (Nat.le_of_ble_eq_true rfl) d_N_sendPlain_34 (fun q_2 H hP hD hS => ?_)
    have hP : va_P D vwCl [zO 2 nw [.ref rw, .int (nI z), .int x, .int y, .int 0], zA t 3 rw 300 g, zO 1 q_2 [.int 0, .int 0, .int 0, .int 0, .int 0, .null, .null, .null]] H := hP
    have hD : va_D A [zO 2 nw [.ref rw, .int (nI z), .int x, .int y, .int 0], zA t 3 rw 300 g, zO 1 q_2 [.int 0, .int 0, .int 0, .int 0, .int 0, .null, .null, .null]] := hD
    refine lv_dup hx hb d_N_sendPlain_37 rfl ?_
    refine lv_iload_n hx hb d_N_sendPlain_38 rfl (lv_at hl 1 rfl) ?_
    refine lv_iload_n hx hb d_N_sendPlain_39 rfl (lv_at hl 2 rfl) ?_
    refine lv_iload_n hx hb d_N_sendPlain_40 rfl (lv_at hl 3 rfl) ?_
    refine lv_iload hx hb d_N_sendPlain_41 (lv_at hl 4 rfl) ?_
    refine lv_iload hx hb d_N_sendPlain_43 (lv_at hl 5 rfl) ?_
    refine lv_aloadN hx hb d_N_sendPlain_45 (lv_at hl 6 rfl) ?_
    refine xe_callv (wr := [zO 2 nw [.ref rw, .int (nI z), .int x, .int y, .int 0], zA t 3 rw 300 g]) (xs_I (As := [.int k, .int fm, .int tt, .int bl, .int sl, .null]) (rest := [.ref q_2, .ref nw]) Z (C_M_init l D t q_2 k fm tt bl sl H.size) m_M_init k_376 k_377 rfl rfl rfl ⟨Nat.le_of_ble_eq_true rfl, Nat.le_of_ble_eq_true rfl⟩ (xe_pre hK (hP.sub [2] rfl) (hD.sub [2] (by decide) rfl)) rfl hl.1 rfl (Nat.le_of_ble_eq_true rfl) d_N_sendPlain_47 ⟨Nat.le_of_ble_eq_true rfl, Nat.le_of_ble_eq_true rfl⟩) hP hD hS hA [2] [0, 1] rfl rfl (by decide) (by decide) (fun u_ H locs _ hP hD hS => ?_)
    have hP : va_P D vwCl [zO 2 nw [.ref rw, .int (nI z), .int x, .int y, .int 0], zA t 3 rw 300 g, zO 1 q_2 [.int k, .int fm, .int tt, .int bl, .int sl, .null, .null, .null]] H := hP
    have hD : va_D A [zO 2 nw [.ref rw, .int (nI z), .int x, .int y, .int 0], zA t 3 rw 300 g, zO 1 q_2 [.int k, .int fm, .int tt, .int bl, .int sl, .null, .null, .null]] := hD
    refine xe_callv (wr := []) (xs_V (As := [.ref q_2]) (rest := []) Z (C_N_send l D t nw rw q_2 z hlt x y g k fm tt bl sl H.size) m_N_send k_416 k_417 k_418 rfl rfl ⟨Nat.le_of_ble_eq_true rfl, Nat.le_of_ble_eq_true rfl⟩ (va_recv hK.2 hP (ci := 2) (q0 := 0) rfl rfl) (xe_pre hK (hP.sub [0, 1, 2] rfl) (hD.sub [0, 1, 2] (by decide) rfl)) rfl hl.1 rfl (Nat.le_of_ble_eq_true rfl) d_N_sendPlain_50 ⟨Nat.le_of_ble_eq_true rfl, Nat.le_of_ble_eq_true rfl⟩) hP hD hS hA [0, 1, 2] [] rfl rfl (by decide) (by decide) (fun u_ H locs _ hP hD hS => ?_)
    obtain ⟨x2, y2, g2⟩ := u_
    have hP : va_P D vwCl [zO 2 nw [.ref rw, .int (nI (min 300 (z + 1))), .int x2, .int y2, .int 0], zA t 3 rw 300 g2] H := hP
    have hD : va_D A [zO 2 nw [.ref rw, .int (nI (min 300 (z + 1))), .int x2, .int y2, .int 0], zA t 3 rw 300 g2] := hD
    exact W.vret hx hb hr (fun t ht hW => ⟨⟨(_, _, _), rfl, trivial, by rw [ht]; exact hP, hD⟩, hS.F ht⟩) hS.2.2 d_N_sendPlain_53
  · have hz3 : z = 300 := by
      rcases Nat.lt_or_ge z 300 with h | h
      · exact absurd (nI_lt h (by decide)) c_1
      · omega
    subst hz3
    refine lv_aload_n hx hb d_N_sendPlain_10 rfl (lv_at hl 0 rfl) ?_
    refine lv_dup hx hb d_N_sendPlain_11 rfl ?_
    refine va_get (ci := 2) (C := "QuorumStore$Network") (T := TX2) (N := 5) hx hb hts inX2 hown hK.2 hP 0 rfl rfl 2 (by decide) (hts _ k_44) (fun _ h9 => h9) rfl d_N_sendPlain_12 ?_
    refine lv_iconst (v := 1) hx hb d_N_sendPlain_15 (by decide) ?_
    refine lv_iadd hx hb d_N_sendPlain_16 ?_
    refine lv_topi (fun f_3 ef_3 => ?_)
    refine va_put (ci := 2) (v := .int f_3) (ty := tyX2 2) (C := "QuorumStore$Network") (T := TX2) (N := 5) hx hb hts inX2 tyX2 okX2 nmX2 hown hK.2 hP hD hS 0 rfl rfl 2 (by decide) (hts _ k_44) (fun _ h9 => h9) rfl (by decide +kernel) rfl rfl (Nat.le_of_ble_eq_true rfl) d_N_sendPlain_17 (fun H locs hP hD hS => ?_)
    have hP : va_P D vwCl [zO 2 nw [.ref rw, .int (nI 300), .int f_3, .int y, .int 0], zA t 3 rw 300 g] H := hP
    have hD : va_D A [zO 2 nw [.ref rw, .int (nI 300), .int f_3, .int y, .int 0], zA t 3 rw 300 g] := hD
    refine lv_aload_n hx hb d_N_sendPlain_20 rfl (lv_at hl 0 rfl) ?_
    refine lv_dup hx hb d_N_sendPlain_21 rfl ?_
    refine va_get (ci := 2) (C := "QuorumStore$Network") (T := TX2) (N := 5) hx hb hts inX2 hown hK.2 hP 0 rfl rfl 3 (by decide) (hts _ k_46) (fun _ h9 => h9) rfl d_N_sendPlain_22 ?_
    refine lv_iconst (v := 1) hx hb d_N_sendPlain_25 (by decide) ?_
    refine lv_iadd hx hb d_N_sendPlain_26 ?_
    refine lv_topi (fun f_4 ef_4 => ?_)
    refine va_put (ci := 2) (v := .int f_4) (ty := tyX2 3) (C := "QuorumStore$Network") (T := TX2) (N := 5) hx hb hts inX2 tyX2 okX2 nmX2 hown hK.2 hP hD hS 0 rfl rfl 3 (by decide) (hts _ k_46) (fun _ h9 => h9) rfl (by decide +kernel) rfl rfl (Nat.le_of_ble_eq_true rfl) d_N_sendPlain_27 (fun H locs hP hD hS => ?_)
    have hP : va_P D vwCl [zO 2 nw [.ref rw, .int (nI 300), .int f_3, .int f_4, .int 0], zA t 3 rw 300 g] H := hP
    have hD : va_D A [zO 2 nw [.ref rw, .int (nI 300), .int f_3, .int f_4, .int 0], zA t 3 rw 300 g] := hD
    refine lv_goto (tgt := 53) hx hb d_N_sendPlain_30 (by decide) ?_
    refine W.widen (k := 1) (n := 8) (by decide) (by decide) ?_
    exact W.vret hx hb hr (fun t ht hW => ⟨⟨(_, _, _), rfl, trivial, by rw [ht]; exact hP, hD⟩, hS.F ht⟩) hS.2.2 d_N_sendPlain_53
