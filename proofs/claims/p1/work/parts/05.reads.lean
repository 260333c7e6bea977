/-! Methods of the class that only read, on what a new object holds. -/
theorem d_R_valueAt_0 : decode c_R_valueAt 0 = .ok (.iload_n 1, 1) := by decide +kernel
theorem d_R_valueAt_1 : decode c_R_valueAt 1 = .ok (.aload_n 0, 1) := by decide +kernel
theorem d_R_valueAt_2 : decode c_R_valueAt 2 = .ok (.getfield 7, 3) := by decide +kernel
theorem d_R_valueAt_5 : decode c_R_valueAt 5 = .ok (.arraylength, 1) := by decide +kernel
theorem d_R_valueAt_6 : decode c_R_valueAt 6 = .ok (.iconst 1, 1) := by decide +kernel
theorem d_R_valueAt_7 : decode c_R_valueAt 7 = .ok (.isub, 1) := by decide +kernel
theorem d_R_valueAt_8 : decode c_R_valueAt 8 = .ok (.iand, 1) := by decide +kernel
theorem d_R_valueAt_9 : decode c_R_valueAt 9 = .ok (.istore_n 2, 1) := by decide +kernel
theorem d_R_valueAt_10 : decode c_R_valueAt 10 = .ok (.aload_n 0, 1) := by decide +kernel
theorem d_R_valueAt_11 : decode c_R_valueAt 11 = .ok (.getfield 7, 3) := by decide +kernel
theorem d_R_valueAt_14 : decode c_R_valueAt 14 = .ok (.iload_n 2, 1) := by decide +kernel
theorem d_R_valueAt_15 : decode c_R_valueAt 15 = .ok (.iaload, 1) := by decide +kernel
theorem d_R_valueAt_16 : decode c_R_valueAt 16 = .ok (.iload_n 1, 1) := by decide +kernel
theorem d_R_valueAt_17 : decode c_R_valueAt 17 = .ok (.if_icmp .ne 12, 3) := by decide +kernel
theorem d_R_valueAt_20 : decode c_R_valueAt 20 = .ok (.aload_n 0, 1) := by decide +kernel
theorem d_R_valueAt_21 : decode c_R_valueAt 21 = .ok (.getfield 18, 3) := by decide +kernel
theorem d_R_valueAt_24 : decode c_R_valueAt 24 = .ok (.iload_n 2, 1) := by decide +kernel
theorem d_R_valueAt_25 : decode c_R_valueAt 25 = .ok (.aaload, 1) := by decide +kernel
theorem d_R_valueAt_26 : decode c_R_valueAt 26 = .ok (.goto 4, 3) := by decide +kernel
theorem d_R_valueAt_29 : decode c_R_valueAt 29 = .ok (.aconst_null, 1) := by decide +kernel
theorem d_R_valueAt_30 : decode c_R_valueAt 30 = .ok (.areturn, 1) := by decide +kernel
set_option maxHeartbeats 4000000 in
set_option maxRecDepth 100000 in
/-- R_valueAt on an empty row -/
theorem C_R_valueAt (l : Launch) (D : va_G) (t : Nat → ClassId) (h a b v w : Nat) (hw : w = 4 ∨ w = 32 ∨ w = 64) (slot : Int32) : xr_C l D vwCl (xTY t) y_R_valueAt c_R_valueAt 3 (Option.some (FieldType.object "QuorumStore$Value")) ({ frames := 0, cells := 0, slots := 0, locals := 0 }) [.ref h, .int slot] [zO 4 h [.ref a, .ref b, .ref v], zI t a w (fun _ => 0), zI t b w (fun _ => 0), zA t 2 v w (fun _ => none)] (xr_Q (some .null)) := by
  refine xr_of (by decide) (Nat.le_of_ble_eq_true rfl) ?_
  intro p e s m below meth c ls Z hr hlocks hP hl
  obtain ⟨hx, hb, hml, hown, hK⟩ := id Z
  have hown : s.vm.findClass "QuorumStore$Row" = some m.cls := hown
  have hts := hK.1.at (args := ([.ref h, .int slot] : List Value).toArray)
  have hl : lv_has ls 3 [(0, .ref h), (1, .int slot)] := hl
  refine lv_iload_n hx hb d_R_valueAt_0 rfl (lv_at hl 1 rfl) ?_
  refine lv_aload_n hx hb d_R_valueAt_1 rfl (lv_at hl 0 rfl) ?_
  refine va_get (ci := 4) (C := "QuorumStore$Row") (T := TX4) (N := 3) hx hb hts inX4 hown hK.2 hP 0 rfl rfl 0 (by decide) (hts _ k_75) (fun _ h9 => h9) rfl d_R_valueAt_2 ?_
  refine va_alen (v := nI w) hx hb hK.2 hP 1 0 rfl rfl rfl d_R_valueAt_5 ?_
  refine lv_iconst (v := 1) hx hb d_R_valueAt_6 (by decide) ?_
  refine lv_isub hx hb d_R_valueAt_7 ?_
  refine lv_iand hx hb d_R_valueAt_8 ?_
  refine lv_topi (fun pl epl => ?_)
  have hpl : vp_in pl w := by rw [epl]; exact xv_and slot hw
  refine lv_istore_n (lv' := [(2, .int pl), (0, .ref h), (1, .int slot)]) hx hb d_R_valueAt_9 rfl hl (by decide) rfl (fun ls hl => ?_)
  refine lv_aload_n hx hb d_R_valueAt_10 rfl (lv_at hl 1 rfl) ?_
  refine va_get (ci := 4) (C := "QuorumStore$Row") (T := TX4) (N := 3) hx hb hts inX4 hown hK.2 hP 0 rfl rfl 0 (by decide) (hts _ k_75) (fun _ h9 => h9) rfl d_R_valueAt_11 ?_
  refine lv_iload_n hx hb d_R_valueAt_14 rfl (lv_at hl 0 rfl) ?_
  refine va_iald hx hb hK.2 hP 1 0 rfl rfl hpl d_R_valueAt_15 ?_
  refine lv_iload_n hx hb d_R_valueAt_16 rfl (lv_at hl 2 rfl) ?_
  refine lv_icmp_ne (tgt := 29) hx hb d_R_valueAt_17 (by decide) (fun c_1 => ?_) (fun c_1 => ?_)
  · refine lv_null hx hb d_R_valueAt_29 ?_
    exact W.aret hx hb hr (Or.inl ⟨_, rfl⟩) (Or.inl rfl) (fun t ht _ => ⟨rfl, ht⟩) (fun q h => by cases h) d_R_valueAt_30
  · refine lv_aload_n hx hb d_R_valueAt_20 rfl (lv_at hl 1 rfl) ?_
    refine va_get (ci := 4) (C := "QuorumStore$Row") (T := TX4) (N := 3) hx hb hts inX4 hown hK.2 hP 0 rfl rfl 2 (by decide) (hts _ k_77) (fun _ h9 => h9) rfl d_R_valueAt_21 ?_
    refine lv_iload_n hx hb d_R_valueAt_24 rfl (lv_at hl 0 rfl) ?_
    refine va_aldq hx hb hK.2 hP 3 2 rfl rfl hpl d_R_valueAt_25 ?_
    refine lv_goto (tgt := 30) hx hb d_R_valueAt_26 (by decide) ?_
    exact W.aret hx hb hr (Or.inl ⟨_, rfl⟩) (Or.inl rfl) (fun t ht _ => ⟨rfl, ht⟩) (fun q h => by cases h) d_R_valueAt_30
theorem d_R_markAt_0 : decode c_R_markAt 0 = .ok (.iload_n 1, 1) := by decide +kernel
theorem d_R_markAt_1 : decode c_R_markAt 1 = .ok (.aload_n 0, 1) := by decide +kernel
theorem d_R_markAt_2 : decode c_R_markAt 2 = .ok (.getfield 7, 3) := by decide +kernel
theorem d_R_markAt_5 : decode c_R_markAt 5 = .ok (.arraylength, 1) := by decide +kernel
theorem d_R_markAt_6 : decode c_R_markAt 6 = .ok (.iconst 1, 1) := by decide +kernel
theorem d_R_markAt_7 : decode c_R_markAt 7 = .ok (.isub, 1) := by decide +kernel
theorem d_R_markAt_8 : decode c_R_markAt 8 = .ok (.iand, 1) := by decide +kernel
theorem d_R_markAt_9 : decode c_R_markAt 9 = .ok (.istore_n 2, 1) := by decide +kernel
theorem d_R_markAt_10 : decode c_R_markAt 10 = .ok (.aload_n 0, 1) := by decide +kernel
theorem d_R_markAt_11 : decode c_R_markAt 11 = .ok (.getfield 7, 3) := by decide +kernel
theorem d_R_markAt_14 : decode c_R_markAt 14 = .ok (.iload_n 2, 1) := by decide +kernel
theorem d_R_markAt_15 : decode c_R_markAt 15 = .ok (.iaload, 1) := by decide +kernel
theorem d_R_markAt_16 : decode c_R_markAt 16 = .ok (.iload_n 1, 1) := by decide +kernel
theorem d_R_markAt_17 : decode c_R_markAt 17 = .ok (.if_icmp .ne 12, 3) := by decide +kernel
theorem d_R_markAt_20 : decode c_R_markAt 20 = .ok (.aload_n 0, 1) := by decide +kernel
theorem d_R_markAt_21 : decode c_R_markAt 21 = .ok (.getfield 13, 3) := by decide +kernel
theorem d_R_markAt_24 : decode c_R_markAt 24 = .ok (.iload_n 2, 1) := by decide +kernel
theorem d_R_markAt_25 : decode c_R_markAt 25 = .ok (.iaload, 1) := by decide +kernel
theorem d_R_markAt_26 : decode c_R_markAt 26 = .ok (.goto 4, 3) := by decide +kernel
theorem d_R_markAt_29 : decode c_R_markAt 29 = .ok (.iconst 0, 1) := by decide +kernel
theorem d_R_markAt_30 : decode c_R_markAt 30 = .ok (.ireturn, 1) := by decide +kernel
set_option maxHeartbeats 4000000 in
set_option maxRecDepth 100000 in
/-- R_markAt on an empty row -/
theorem C_R_markAt (l : Launch) (D : va_G) (t : Nat → ClassId) (h a b v w : Nat) (hw : w = 4 ∨ w = 32 ∨ w = 64) (slot : Int32) : xr_C l D vwCl (xTY t) y_R_markAt c_R_markAt 3 (Option.some FieldType.int) ({ frames := 0, cells := 0, slots := 0, locals := 0 }) [.ref h, .int slot] [zO 4 h [.ref a, .ref b, .ref v], zI t a w (fun _ => 0), zI t b w (fun _ => 0), zA t 2 v w (fun _ => none)] (xr_Q (some (.int 0))) := by
  refine xr_of (by decide) (Nat.le_of_ble_eq_true rfl) ?_
  intro p e s m below meth c ls Z hr hlocks hP hl
  obtain ⟨hx, hb, hml, hown, hK⟩ := id Z
  have hown : s.vm.findClass "QuorumStore$Row" = some m.cls := hown
  have hts := hK.1.at (args := ([.ref h, .int slot] : List Value).toArray)
  have hl : lv_has ls 3 [(0, .ref h), (1, .int slot)] := hl
  refine lv_iload_n hx hb d_R_markAt_0 rfl (lv_at hl 1 rfl) ?_
  refine lv_aload_n hx hb d_R_markAt_1 rfl (lv_at hl 0 rfl) ?_
  refine va_get (ci := 4) (C := "QuorumStore$Row") (T := TX4) (N := 3) hx hb hts inX4 hown hK.2 hP 0 rfl rfl 0 (by decide) (hts _ k_75) (fun _ h9 => h9) rfl d_R_markAt_2 ?_
  refine va_alen (v := nI w) hx hb hK.2 hP 1 0 rfl rfl rfl d_R_markAt_5 ?_
  refine lv_iconst (v := 1) hx hb d_R_markAt_6 (by decide) ?_
  refine lv_isub hx hb d_R_markAt_7 ?_
  refine lv_iand hx hb d_R_markAt_8 ?_
  refine lv_topi (fun pl epl => ?_)
  have hpl : vp_in pl w := by rw [epl]; exact xv_and slot hw
  refine lv_istore_n (lv' := [(2, .int pl), (0, .ref h), (1, .int slot)]) hx hb d_R_markAt_9 rfl hl (by decide) rfl (fun ls hl => ?_)
  refine lv_aload_n hx hb d_R_markAt_10 rfl (lv_at hl 1 rfl) ?_
  refine va_get (ci := 4) (C := "QuorumStore$Row") (T := TX4) (N := 3) hx hb hts inX4 hown hK.2 hP 0 rfl rfl 0 (by decide) (hts _ k_75) (fun _ h9 => h9) rfl d_R_markAt_11 ?_
  refine lv_iload_n hx hb d_R_markAt_14 rfl (lv_at hl 0 rfl) ?_
  refine va_iald hx hb hK.2 hP 1 0 rfl rfl hpl d_R_markAt_15 ?_
  refine lv_iload_n hx hb d_R_markAt_16 rfl (lv_at hl 2 rfl) ?_
  refine lv_icmp_ne (tgt := 29) hx hb d_R_markAt_17 (by decide) (fun c_1 => ?_) (fun c_1 => ?_)
  · refine lv_iconst (v := 0) hx hb d_R_markAt_29 (by decide) ?_
    exact W.iret hx hb hr (fun t ht _ => ⟨rfl, ht⟩) (fun q h => by cases h) d_R_markAt_30
  · refine lv_aload_n hx hb d_R_markAt_20 rfl (lv_at hl 1 rfl) ?_
    refine va_get (ci := 4) (C := "QuorumStore$Row") (T := TX4) (N := 3) hx hb hts inX4 hown hK.2 hP 0 rfl rfl 1 (by decide) (hts _ k_76) (fun _ h9 => h9) rfl d_R_markAt_21 ?_
    refine lv_iload_n hx hb d_R_markAt_24 rfl (lv_at hl 0 rfl) ?_
    refine va_iald hx hb hK.2 hP 2 0 rfl rfl hpl d_R_markAt_25 ?_
    refine lv_goto (tgt := 30) hx hb d_R_markAt_26 (by decide) ?_
    exact W.iret hx hb hr (fun t ht _ => ⟨rfl, ht⟩) (fun q h => by cases h) d_R_markAt_30
theorem d_R_size_0 : decode c_R_size 0 = .ok (.iconst 0, 1) := by decide +kernel
theorem d_R_size_1 : decode c_R_size 1 = .ok (.istore_n 1, 1) := by decide +kernel
theorem d_R_size_2 : decode c_R_size 2 = .ok (.iconst 0, 1) := by decide +kernel
theorem d_R_size_3 : decode c_R_size 3 = .ok (.istore_n 2, 1) := by decide +kernel
theorem d_R_size_4 : decode c_R_size 4 = .ok (.iload_n 2, 1) := by decide +kernel
theorem d_R_size_5 : decode c_R_size 5 = .ok (.aload_n 0, 1) := by decide +kernel
theorem d_R_size_6 : decode c_R_size 6 = .ok (.getfield 7, 3) := by decide +kernel
theorem d_R_size_9 : decode c_R_size 9 = .ok (.arraylength, 1) := by decide +kernel
theorem d_R_size_10 : decode c_R_size 10 = .ok (.if_icmp .ge 21, 3) := by decide +kernel
theorem d_R_size_13 : decode c_R_size 13 = .ok (.aload_n 0, 1) := by decide +kernel
theorem d_R_size_14 : decode c_R_size 14 = .ok (.getfield 7, 3) := by decide +kernel
theorem d_R_size_17 : decode c_R_size 17 = .ok (.iload_n 2, 1) := by decide +kernel
theorem d_R_size_18 : decode c_R_size 18 = .ok (.iaload, 1) := by decide +kernel
theorem d_R_size_19 : decode c_R_size 19 = .ok (.ifCond .eq 6, 3) := by decide +kernel
theorem d_R_size_25 : decode c_R_size 25 = .ok (.iinc 2 1, 3) := by decide +kernel
theorem d_R_size_28 : decode c_R_size 28 = .ok (.goto (-24), 3) := by decide +kernel
theorem d_R_size_31 : decode c_R_size 31 = .ok (.iload_n 1, 1) := by decide +kernel
theorem d_R_size_32 : decode c_R_size 32 = .ok (.ireturn, 1) := by decide +kernel
set_option maxHeartbeats 4000000 in
set_option maxRecDepth 100000 in
/-- size of an empty row -/
theorem C_R_size (l : Launch) (D : va_G) (t : Nat → ClassId) (h a b v w : Nat) (hw : w = 4 ∨ w = 32 ∨ w = 64) : xr_C l D vwCl (xTY t) y_R_size c_R_size 3 (Option.some FieldType.int) ({ frames := 0, cells := 0, slots := 0, locals := 0 }) [.ref h] [zO 4 h [.ref a, .ref b, .ref v], zI t a w (fun _ => 0), zI t b w (fun _ => 0), zA t 2 v w (fun _ => none)] (xr_Q (some (.int 0))) := by
  refine xr_of (by decide) (Nat.le_of_ble_eq_true rfl) ?_
  intro p e s m below meth c ls Z hr hlocks hP hl
  obtain ⟨hx, hb, hml, hown, hK⟩ := id Z
  have hown : s.vm.findClass "QuorumStore$Row" = some m.cls := hown
  have hts := hK.1.at (args := ([.ref h] : List Value).toArray)
  have hl : lv_has ls 3 [(0, .ref h)] := hl
  refine lv_iconst (v := 0) hx hb d_R_size_0 (by decide) ?_
  refine lv_istore_n (lv' := [(1, .int 0), (0, .ref h)]) hx hb d_R_size_1 rfl hl (by decide) rfl (fun ls hl => ?_)
  refine lv_iconst (v := 0) hx hb d_R_size_2 (by decide) ?_
  refine lv_istore_n (lv' := [(2, .int 0), (1, .int 0), (0, .ref h)]) hx hb d_R_size_3 rfl hl (by decide) rfl (fun ls hl => ?_)
  have loop : ∀ (n i : Nat), i + n = w → ∀ (ls : Array Slot), lv_has ls 3 [(2, .int (nI i)), (1, .int 0), (0, .ref h)] → W p l e ({ frames := 0, cells := 0, slots := 0, locals := 0 } : Room) s m ([.ref h] : List Value).toArray below meth c s.heap [] 0 0 (MQ below (xr_Q (some (.int 0))) ([.ref h] : List Value).toArray s 0 0 (fun _ => False)) (F0 m 4 ls []) := by
    intro n
    induction n with
    | zero =>
      intro i hi ls hl
      refine lv_iload_n hx hb d_R_size_4 rfl (lv_at hl 0 rfl) ?_
      refine lv_aload_n hx hb d_R_size_5 rfl (lv_at hl 2 rfl) ?_
      refine va_get (ci := 4) (C := "QuorumStore$Row") (T := TX4) (N := 3) hx hb hts inX4 hown hK.2 hP 0 rfl rfl 0 (by decide) (hts _ k_75) (fun _ h9 => h9) rfl d_R_size_6 ?_
      refine va_alen (v := nI w) hx hb hK.2 hP 1 0 rfl rfl rfl d_R_size_9 ?_
      refine lv_icmp_ge (tgt := 31) hx hb d_R_size_10 (by decide) (fun _ => ?_) (fun c_1 => absurd (nI_le (by omega) (by omega)) c_1)
      refine lv_iload_n hx hb d_R_size_31 rfl (lv_at hl 1 rfl) ?_
      exact W.iret hx hb hr (fun t ht _ => ⟨rfl, ht⟩) (fun q h => by cases h) d_R_size_32
    | succ n ih =>
      intro i hi ls hl
      refine lv_iload_n hx hb d_R_size_4 rfl (lv_at hl 0 rfl) ?_
      refine lv_aload_n hx hb d_R_size_5 rfl (lv_at hl 2 rfl) ?_
      refine va_get (ci := 4) (C := "QuorumStore$Row") (T := TX4) (N := 3) hx hb hts inX4 hown hK.2 hP 0 rfl rfl 0 (by decide) (hts _ k_75) (fun _ h9 => h9) rfl d_R_size_6 ?_
      refine va_alen (v := nI w) hx hb hK.2 hP 1 0 rfl rfl rfl d_R_size_9 ?_
      refine lv_icmp_ge (tgt := 31) hx hb d_R_size_10 (by decide) (fun c_2 => absurd c_2 (nI_ge (by omega) (by omega))) (fun _ => ?_)
      refine lv_aload_n hx hb d_R_size_13 rfl (lv_at hl 2 rfl) ?_
      refine va_get (ci := 4) (C := "QuorumStore$Row") (T := TX4) (N := 3) hx hb hts inX4 hown hK.2 hP 0 rfl rfl 0 (by decide) (hts _ k_75) (fun _ h9 => h9) rfl d_R_size_14 ?_
      refine lv_iload_n hx hb d_R_size_17 rfl (lv_at hl 0 rfl) ?_
      refine va_iald hx hb hK.2 hP 1 0 rfl rfl (vp_in_nI (by omega) (by omega)) d_R_size_18 ?_
      refine lv_if_eq (tgt := 25) hx hb d_R_size_19 (by decide) (fun _ => ?_) (fun c_3 => absurd (rfl) c_3)
      refine lv_iinc (v := nI (i + 1)) (lv' := [(2, .int (nI (i + 1))), (1, .int 0), (0, .ref h)]) hx hb d_R_size_25 hl (k := 0) rfl (nI_1 i) (by decide) rfl (fun ls hl => ?_)
      refine lv_goto (tgt := 4) hx hb d_R_size_28 (by decide) ?_
      exact ih (i + 1) (by omega) ls (lv_sub hl [0, 1, 2] rfl)
  exact loop w 0 (by omega) ls (lv_sub hl [0, 1, 2] rfl)
theorem d_R_lastSlot_0 : decode c_R_lastSlot 0 = .ok (.iconst 0, 1) := by decide +kernel
theorem d_R_lastSlot_1 : decode c_R_lastSlot 1 = .ok (.istore_n 1, 1) := by decide +kernel
theorem d_R_lastSlot_2 : decode c_R_lastSlot 2 = .ok (.iconst 0, 1) := by decide +kernel
theorem d_R_lastSlot_3 : decode c_R_lastSlot 3 = .ok (.istore_n 2, 1) := by decide +kernel
theorem d_R_lastSlot_4 : decode c_R_lastSlot 4 = .ok (.iload_n 2, 1) := by decide +kernel
theorem d_R_lastSlot_5 : decode c_R_lastSlot 5 = .ok (.aload_n 0, 1) := by decide +kernel
theorem d_R_lastSlot_6 : decode c_R_lastSlot 6 = .ok (.getfield 7, 3) := by decide +kernel
theorem d_R_lastSlot_9 : decode c_R_lastSlot 9 = .ok (.arraylength, 1) := by decide +kernel
theorem d_R_lastSlot_10 : decode c_R_lastSlot 10 = .ok (.if_icmp .ge 20, 3) := by decide +kernel
theorem d_R_lastSlot_13 : decode c_R_lastSlot 13 = .ok (.iload_n 1, 1) := by decide +kernel
theorem d_R_lastSlot_14 : decode c_R_lastSlot 14 = .ok (.aload_n 0, 1) := by decide +kernel
theorem d_R_lastSlot_15 : decode c_R_lastSlot 15 = .ok (.getfield 7, 3) := by decide +kernel
theorem d_R_lastSlot_18 : decode c_R_lastSlot 18 = .ok (.iload_n 2, 1) := by decide +kernel
theorem d_R_lastSlot_19 : decode c_R_lastSlot 19 = .ok (.iaload, 1) := by decide +kernel
theorem d_R_lastSlot_20 : decode c_R_lastSlot 20 = .ok (.invokestatic 26, 3) := by decide +kernel
theorem d_R_lastSlot_23 : decode c_R_lastSlot 23 = .ok (.istore_n 1, 1) := by decide +kernel
theorem d_R_lastSlot_24 : decode c_R_lastSlot 24 = .ok (.iinc 2 1, 3) := by decide +kernel
theorem d_R_lastSlot_27 : decode c_R_lastSlot 27 = .ok (.goto (-23), 3) := by decide +kernel
theorem d_R_lastSlot_30 : decode c_R_lastSlot 30 = .ok (.iload_n 1, 1) := by decide +kernel
theorem d_R_lastSlot_31 : decode c_R_lastSlot 31 = .ok (.ireturn, 1) := by decide +kernel
set_option maxHeartbeats 4000000 in
set_option maxRecDepth 100000 in
/-- lastSlot of an empty row -/
theorem C_R_lastSlot (l : Launch) (D : va_G) (t : Nat → ClassId) (h a b v w : Nat) (hw : w = 4 ∨ w = 32 ∨ w = 64) : xr_C l D vwCl (xTY t) y_R_lastSlot c_R_lastSlot 3 (Option.some FieldType.int) ({ frames := 1, cells := 0, slots := 0, locals := 14 }) [.ref h] [zO 4 h [.ref a, .ref b, .ref v], zI t a w (fun _ => 0), zI t b w (fun _ => 0), zA t 2 v w (fun _ => none)] (xr_Q (some (.int 0))) := by
  refine xr_of (by decide) (Nat.le_of_ble_eq_true rfl) ?_
  intro p e s m below meth c ls Z hr hlocks hP hl
  obtain ⟨hx, hb, hml, hown, hK⟩ := id Z
  have hown : s.vm.findClass "QuorumStore$Row" = some m.cls := hown
  have hts := hK.1.at (args := ([.ref h] : List Value).toArray)
  have hl : lv_has ls 3 [(0, .ref h)] := hl
  refine lv_iconst (v := 0) hx hb d_R_lastSlot_0 (by decide) ?_
  refine lv_istore_n (lv' := [(1, .int 0), (0, .ref h)]) hx hb d_R_lastSlot_1 rfl hl (by decide) rfl (fun ls hl => ?_)
  refine lv_iconst (v := 0) hx hb d_R_lastSlot_2 (by decide) ?_
  refine lv_istore_n (lv' := [(2, .int 0), (1, .int 0), (0, .ref h)]) hx hb d_R_lastSlot_3 rfl hl (by decide) rfl (fun ls hl => ?_)
  have loop : ∀ (n i : Nat), i + n = w → ∀ (ls : Array Slot), lv_has ls 3 [(2, .int (nI i)), (1, .int 0), (0, .ref h)] → W p l e ({ frames := 1, cells := 0, slots := 0, locals := 14 } : Room) s m ([.ref h] : List Value).toArray below meth c s.heap [] 0 0 (MQ below (xr_Q (some (.int 0))) ([.ref h] : List Value).toArray s 0 0 (fun _ => False)) (F0 m 4 ls []) := by
    intro n
    induction n with
    | zero =>
      intro i hi ls hl
      refine lv_iload_n hx hb d_R_lastSlot_4 rfl (lv_at hl 0 rfl) ?_
      refine lv_aload_n hx hb d_R_lastSlot_5 rfl (lv_at hl 2 rfl) ?_
      refine va_get (ci := 4) (C := "QuorumStore$Row") (T := TX4) (N := 3) hx hb hts inX4 hown hK.2 hP 0 rfl rfl 0 (by decide) (hts _ k_75) (fun _ h9 => h9) rfl d_R_lastSlot_6 ?_
      refine va_alen (v := nI w) hx hb hK.2 hP 1 0 rfl rfl rfl d_R_lastSlot_9 ?_
      refine lv_icmp_ge (tgt := 30) hx hb d_R_lastSlot_10 (by decide) (fun _ => ?_) (fun c_1 => absurd (nI_le (by omega) (by omega)) c_1)
      refine lv_iload_n hx hb d_R_lastSlot_30 rfl (lv_at hl 1 rfl) ?_
      exact W.iret hx hb hr (fun t ht _ => ⟨rfl, ht⟩) (fun q h => by cases h) d_R_lastSlot_31
    | succ n ih =>
      intro i hi ls hl
      refine lv_iload_n hx hb d_R_lastSlot_4 rfl (lv_at hl 0 rfl) ?_
      refine lv_aload_n hx hb d_R_lastSlot_5 rfl (lv_at hl 2 rfl) ?_
      refine va_get (ci := 4) (C := "QuorumStore$Row") (T := TX4) (N := 3) hx hb hts inX4 hown hK.2 hP 0 rfl rfl 0 (by decide) (hts _ k_75) (fun _ h9 => h9) rfl d_R_lastSlot_6 ?_
      refine va_alen (v := nI w) hx hb hK.2 hP 1 0 rfl rfl rfl d_R_lastSlot_9 ?_
      refine lv_icmp_ge (tgt := 30) hx hb d_R_lastSlot_10 (by decide) (fun c_2 => absurd c_2 (nI_ge (by omega) (by omega))) (fun _ => ?_)
      refine lv_iload_n hx hb d_R_lastSlot_13 rfl (lv_at hl 1 rfl) ?_
      refine lv_aload_n hx hb d_R_lastSlot_14 rfl (lv_at hl 2 rfl) ?_
      refine va_get (ci := 4) (C := "QuorumStore$Row") (T := TX4) (N := 3) hx hb hts inX4 hown hK.2 hP 0 rfl rfl 0 (by decide) (hts _ k_75) (fun _ h9 => h9) rfl d_R_lastSlot_15 ?_
      refine lv_iload_n hx hb d_R_lastSlot_18 rfl (lv_at hl 0 rfl) ?_
      refine va_iald hx hb hK.2 hP 1 0 rfl rfl (vp_in_nI (by omega) (by omega)) d_R_lastSlot_19 ?_
      refine va_mmax hx hb (hml.trans hl.1.symm) hown (hts _ k_499) (hts _ k_442) (hts _ k_18) (hts _ k_443) (Nat.le_of_ble_eq_true rfl) (Nat.le_of_ble_eq_true rfl) (Nat.zero_le _) (Nat.zero_le _) d_R_lastSlot_20 ?_
      refine lv_topi (fun mx emx => ?_)
      obtain rfl : mx = 0 := emx
      refine lv_istore_n (lv' := [(1, .int 0), (2, .int (nI i)), (0, .ref h)]) hx hb d_R_lastSlot_23 rfl hl (by decide) rfl (fun ls hl => ?_)
      refine lv_iinc (v := nI (i + 1)) (lv' := [(2, .int (nI (i + 1))), (1, .int 0), (0, .ref h)]) hx hb d_R_lastSlot_24 hl (k := 1) rfl (nI_1 i) (by decide) rfl (fun ls hl => ?_)
      refine lv_goto (tgt := 4) hx hb d_R_lastSlot_27 (by decide) ?_
      exact ih (i + 1) (by omega) ls (lv_sub hl [0, 1, 2] rfl)
  exact loop w 0 (by omega) ls (lv_sub hl [0, 1, 2] rfl)
theorem d_Q_isIn_0 : decode c_Q_isIn 0 = .ok (.iload_n 0, 1) := by decide +kernel
theorem d_Q_isIn_1 : decode c_Q_isIn 1 = .ok (.iload_n 1, 1) := by decide +kernel
theorem d_Q_isIn_2 : decode c_Q_isIn 2 = .ok (.ishr, 1) := by decide +kernel
theorem d_Q_isIn_3 : decode c_Q_isIn 3 = .ok (.iconst 1, 1) := by decide +kernel
theorem d_Q_isIn_4 : decode c_Q_isIn 4 = .ok (.iand, 1) := by decide +kernel
theorem d_Q_isIn_5 : decode c_Q_isIn 5 = .ok (.ifCond .eq 7, 3) := by decide +kernel
theorem d_Q_isIn_8 : decode c_Q_isIn 8 = .ok (.iconst 1, 1) := by decide +kernel
theorem d_Q_isIn_9 : decode c_Q_isIn 9 = .ok (.goto 4, 3) := by decide +kernel
theorem d_Q_isIn_12 : decode c_Q_isIn 12 = .ok (.iconst 0, 1) := by decide +kernel
theorem d_Q_isIn_13 : decode c_Q_isIn 13 = .ok (.ireturn, 1) := by decide +kernel
set_option maxHeartbeats 4000000 in
set_option maxRecDepth 100000 in
/-- isIn -/
theorem C_Q_isIn (l : Launch) (D : va_G) (t : Nat → ClassId) (a b : Int32) : xr_C l D vwCl (xTY t) y_Q_isIn c_Q_isIn 2 (Option.some FieldType.boolean) ({ frames := 0, cells := 0, slots := 0, locals := 0 }) [.int a, .int b] [] (xr_Q (some (.int (xb a b)))) := by
  refine xr_of (by decide) (Nat.le_of_ble_eq_true rfl) ?_
  intro p e s m below meth c ls Z hr hlocks hP hl
  obtain ⟨hx, hb, hml, hown, hK⟩ := id Z
  have hown : s.vm.findClass "QuorumStore" = some m.cls := hown
  have hts := hK.1.at (args := ([.int a, .int b] : List Value).toArray)
  have hl : lv_has ls 2 [(0, .int a), (1, .int b)] := hl
  refine lv_iload_n hx hb d_Q_isIn_0 rfl (lv_at hl 0 rfl) ?_
  refine lv_iload_n hx hb d_Q_isIn_1 rfl (lv_at hl 1 rfl) ?_
  refine lv_ishr hx hb d_Q_isIn_2 ?_
  refine lv_iconst (v := 1) hx hb d_Q_isIn_3 (by decide) ?_
  refine lv_iand hx hb d_Q_isIn_4 ?_
  refine lv_if_eq (tgt := 12) hx hb d_Q_isIn_5 (by decide) (fun c_1 => ?_) (fun c_1 => ?_)
  · refine lv_iconst (v := 0) hx hb d_Q_isIn_12 (by decide) ?_
    exact W.zret hx hb hr (by decide) (fun t ht _ => ⟨by rw [show xb a b = 0 from if_pos c_1], ht⟩) (fun q h => by cases h) d_Q_isIn_13
  · refine lv_iconst (v := 1) hx hb d_Q_isIn_8 (by decide) ?_
    refine lv_goto (tgt := 13) hx hb d_Q_isIn_9 (by decide) ?_
    exact W.zret hx hb hr (by decide) (fun t ht _ => ⟨by rw [show xb a b = 1 from if_neg c_1], ht⟩) (fun q h => by cases h) d_Q_isIn_13
theorem d_S_configAt_0 : decode c_S_configAt 0 = .ok (.aload_n 0, 1) := by decide +kernel
theorem d_S_configAt_1 : decode c_S_configAt 1 = .ok (.getfield 30, 3) := by decide +kernel
theorem d_S_configAt_4 : decode c_S_configAt 4 = .ok (.iconst 1, 1) := by decide +kernel
theorem d_S_configAt_5 : decode c_S_configAt 5 = .ok (.isub, 1) := by decide +kernel
theorem d_S_configAt_6 : decode c_S_configAt 6 = .ok (.istore_n 2, 1) := by decide +kernel
theorem d_S_configAt_7 : decode c_S_configAt 7 = .ok (.iload_n 2, 1) := by decide +kernel
theorem d_S_configAt_8 : decode c_S_configAt 8 = .ok (.ifCond .le 26, 3) := by decide +kernel
theorem d_S_configAt_34 : decode c_S_configAt 34 = .ok (.aload_n 0, 1) := by decide +kernel
theorem d_S_configAt_35 : decode c_S_configAt 35 = .ok (.getfield 25, 3) := by decide +kernel
theorem d_S_configAt_38 : decode c_S_configAt 38 = .ok (.iconst 0, 1) := by decide +kernel
theorem d_S_configAt_39 : decode c_S_configAt 39 = .ok (.iaload, 1) := by decide +kernel
theorem d_S_configAt_40 : decode c_S_configAt 40 = .ok (.ireturn, 1) := by decide +kernel
set_option maxHeartbeats 4000000 in
set_option maxRecDepth 100000 in
/-- configAt where one pair counts -/
theorem C_S_configAt (l : Launch) (D : va_G) (t : Nat → ClassId) (h n sq r cs cm : Nat) (fn fr : Nat → Int64) (fs fc f : Nat → Int32) (slot : Int32) : xr_C l D vwCl (xTY t) y_S_configAt c_S_configAt 3 (Option.some FieldType.int) ({ frames := 0, cells := 0, slots := 0, locals := 0 }) [.ref h, .int slot] [zO 5 h [.ref n, .ref sq, .ref r, .ref cs, .ref cm, .int 1], zJ t n 32 fn, zI t sq 8 fs, zJ t r 8 fr, zI t cs 4 fc, zI t cm 4 f] (xr_Q (some (.int (f 0)))) := by
  refine xr_of (by decide) (Nat.le_of_ble_eq_true rfl) ?_
  intro p e s m below meth c ls Z hr hlocks hP hl
  obtain ⟨hx, hb, hml, hown, hK⟩ := id Z
  have hown : s.vm.findClass "QuorumStore$State" = some m.cls := hown
  have hts := hK.1.at (args := ([.ref h, .int slot] : List Value).toArray)
  have hl : lv_has ls 3 [(0, .ref h), (1, .int slot)] := hl
  refine lv_aload_n hx hb d_S_configAt_0 rfl (lv_at hl 0 rfl) ?_
  refine va_get (ci := 5) (C := "QuorumStore$State") (T := TX5) (N := 6) hx hb hts inX5 hown hK.2 hP 0 rfl rfl 5 (by decide) (hts _ k_181) (fun _ h9 => h9) rfl d_S_configAt_1 ?_
  refine lv_iconst (v := 1) hx hb d_S_configAt_4 (by decide) ?_
  refine lv_isub hx hb d_S_configAt_5 ?_
  refine lv_istore_n (lv' := [(2, .int ((1) - (1))), (0, .ref h), (1, .int slot)]) hx hb d_S_configAt_6 rfl hl (by decide) rfl (fun ls hl => ?_)
  refine lv_iload_n hx hb d_S_configAt_7 rfl (lv_at hl 0 rfl) ?_
  refine lv_if_le (tgt := 34) hx hb d_S_configAt_8 (by decide) (fun _ => ?_) (fun c_1 => absurd (by decide) c_1)
  refine lv_aload_n hx hb d_S_configAt_34 rfl (lv_at hl 1 rfl) ?_
  refine va_get (ci := 5) (C := "QuorumStore$State") (T := TX5) (N := 6) hx hb hts inX5 hown hK.2 hP 0 rfl rfl 4 (by decide) (hts _ k_180) (fun _ h9 => h9) rfl d_S_configAt_35 ?_
  refine lv_iconst (v := 0) hx hb d_S_configAt_38 (by decide) ?_
  refine va_iald hx hb hK.2 hP 5 0 rfl rfl (by unfold vp_in; decide) d_S_configAt_39 ?_
  exact W.iret hx hb hr (fun t ht _ => ⟨rfl, ht⟩) (fun q h => by cases h) d_S_configAt_40
theorem d_S_membersBehind_0 : decode c_S_membersBehind 0 = .ok (.iconst 0, 1) := by decide +kernel
theorem d_S_membersBehind_1 : decode c_S_membersBehind 1 = .ok (.istore_n 2, 1) := by decide +kernel
theorem d_S_membersBehind_2 : decode c_S_membersBehind 2 = .ok (.iload_n 1, 1) := by decide +kernel
theorem d_S_membersBehind_3 : decode c_S_membersBehind 3 = .ok (.iconst 1, 1) := by decide +kernel
theorem d_S_membersBehind_4 : decode c_S_membersBehind 4 = .ok (.iadd, 1) := by decide +kernel
theorem d_S_membersBehind_5 : decode c_S_membersBehind 5 = .ok (.istore_n 3, 1) := by decide +kernel
theorem d_S_membersBehind_6 : decode c_S_membersBehind 6 = .ok (.iload_n 3, 1) := by decide +kernel
theorem d_S_membersBehind_7 : decode c_S_membersBehind 7 = .ok (.iload_n 1, 1) := by decide +kernel
theorem d_S_membersBehind_8 : decode c_S_membersBehind 8 = .ok (.iconst 4, 1) := by decide +kernel
theorem d_S_membersBehind_9 : decode c_S_membersBehind 9 = .ok (.iadd, 1) := by decide +kernel
theorem d_S_membersBehind_10 : decode c_S_membersBehind 10 = .ok (.if_icmp .gt 17, 3) := by decide +kernel
theorem d_S_membersBehind_13 : decode c_S_membersBehind 13 = .ok (.iload_n 2, 1) := by decide +kernel
theorem d_S_membersBehind_14 : decode c_S_membersBehind 14 = .ok (.aload_n 0, 1) := by decide +kernel
theorem d_S_membersBehind_15 : decode c_S_membersBehind 15 = .ok (.iload_n 3, 1) := by decide +kernel
theorem d_S_membersBehind_16 : decode c_S_membersBehind 16 = .ok (.invokevirtual 40, 3) := by decide +kernel
theorem d_S_membersBehind_19 : decode c_S_membersBehind 19 = .ok (.ior, 1) := by decide +kernel
theorem d_S_membersBehind_20 : decode c_S_membersBehind 20 = .ok (.istore_n 2, 1) := by decide +kernel
theorem d_S_membersBehind_21 : decode c_S_membersBehind 21 = .ok (.iinc 3 1, 3) := by decide +kernel
theorem d_S_membersBehind_24 : decode c_S_membersBehind 24 = .ok (.goto (-18), 3) := by decide +kernel
theorem d_S_membersBehind_27 : decode c_S_membersBehind 27 = .ok (.iload_n 2, 1) := by decide +kernel
theorem d_S_membersBehind_28 : decode c_S_membersBehind 28 = .ok (.ireturn, 1) := by decide +kernel
set_option maxHeartbeats 4000000 in
set_option maxRecDepth 100000 in
/-- membersBehind(0) where one pair counts -/
theorem C_S_membersBehind (l : Launch) (D : va_G) (t : Nat → ClassId) (h n sq r cs cm : Nat) (fn fr : Nat → Int64) (fs fc f : Nat → Int32) : xr_C l D vwCl (xTY t) y_S_membersBehind c_S_membersBehind 4 (Option.some FieldType.int) ({ frames := 1, cells := 0, slots := 0, locals := 22 }) [.ref h, .int 0] [zO 5 h [.ref n, .ref sq, .ref r, .ref cs, .ref cm, .int 1], zJ t n 32 fn, zI t sq 8 fs, zJ t r 8 fr, zI t cs 4 fc, zI t cm 4 f] (xr_Q (some (.int (f 0)))) := by
  refine xr_of (by decide) (Nat.le_of_ble_eq_true rfl) ?_
  intro p e s m below meth c ls Z hr hlocks hP hl
  obtain ⟨hx, hb, hml, hown, hK⟩ := id Z
  have hown : s.vm.findClass "QuorumStore$State" = some m.cls := hown
  have hts := hK.1.at (args := ([.ref h, .int 0] : List Value).toArray)
  have hl : lv_has ls 4 [(0, .ref h), (1, .int 0)] := hl
  refine lv_iconst (v := 0) hx hb d_S_membersBehind_0 (by decide) ?_
  refine lv_istore_n (lv' := [(2, .int 0), (0, .ref h), (1, .int 0)]) hx hb d_S_membersBehind_1 rfl hl (by decide) rfl (fun ls hl => ?_)
  refine lv_iload_n hx hb d_S_membersBehind_2 rfl (lv_at hl 2 rfl) ?_
  refine lv_iconst (v := 1) hx hb d_S_membersBehind_3 (by decide) ?_
  refine lv_iadd hx hb d_S_membersBehind_4 ?_
  refine lv_istore_n (lv' := [(3, .int ((0) + (1))), (2, .int 0), (0, .ref h), (1, .int 0)]) hx hb d_S_membersBehind_5 rfl hl (by decide) rfl (fun ls hl => ?_)
  refine lv_iload_n hx hb d_S_membersBehind_6 rfl (lv_at hl 0 rfl) ?_
  refine lv_iload_n hx hb d_S_membersBehind_7 rfl (lv_at hl 3 rfl) ?_
  refine lv_iconst (v := 4) hx hb d_S_membersBehind_8 (by decide) ?_
  refine lv_iadd hx hb d_S_membersBehind_9 ?_
  refine lv_icmp_gt (tgt := 27) hx hb d_S_membersBehind_10 (by decide) (fun c_1 => absurd c_1 (by decide)) (fun _ => ?_)
  refine lv_iload_n hx hb d_S_membersBehind_13 rfl (lv_at hl 1 rfl) ?_
  refine lv_aload_n hx hb d_S_membersBehind_14 rfl (lv_at hl 2 rfl) ?_
  refine lv_iload_n hx hb d_S_membersBehind_15 rfl (lv_at hl 0 rfl) ?_
  refine xr_call (xs_V (As := [.int ((0) + (1))]) (rest := [.int 0]) Z (C_S_configAt l D t h n sq r cs cm fn fr fs fc f _) m_S_configAt k_364 k_365 k_366 rfl rfl ⟨Nat.le_of_ble_eq_true rfl, Nat.le_of_ble_eq_true rfl⟩ (va_recv hK.2 hP (ci := 5) (q0 := 0) rfl rfl) (xr_pre hK hP) rfl hl.1 rfl (Nat.le_of_ble_eq_true rfl) d_S_membersBehind_16 ⟨Nat.le_of_ble_eq_true rfl, Nat.le_of_ble_eq_true rfl⟩) ?_
  refine lv_ior hx hb d_S_membersBehind_19 ?_
  refine lv_istore_n (lv' := [(2, .int ((0) ||| (f 0))), (3, .int ((0) + (1))), (0, .ref h), (1, .int 0)]) hx hb d_S_membersBehind_20 rfl hl (by decide) rfl (fun ls hl => ?_)
  refine lv_iinc (v := ((0) + (1)) + 1) (lv' := [(3, .int (((0) + (1)) + 1)), (2, .int ((0) ||| (f 0))), (0, .ref h), (1, .int 0)]) hx hb d_S_membersBehind_21 hl (k := 1) rfl rfl (by decide) rfl (fun ls hl => ?_)
  refine lv_goto (tgt := 6) hx hb d_S_membersBehind_24 (by decide) ?_
  refine lv_iload_n hx hb d_S_membersBehind_6 rfl (lv_at hl 0 rfl) ?_
  refine lv_iload_n hx hb d_S_membersBehind_7 rfl (lv_at hl 3 rfl) ?_
  refine lv_iconst (v := 4) hx hb d_S_membersBehind_8 (by decide) ?_
  refine lv_iadd hx hb d_S_membersBehind_9 ?_
  refine lv_icmp_gt (tgt := 27) hx hb d_S_membersBehind_10 (by decide) (fun c_2 => absurd c_2 (by decide)) (fun _ => ?_)
  refine lv_iload_n hx hb d_S_membersBehind_13 rfl (lv_at hl 1 rfl) ?_
  refine lv_aload_n hx hb d_S_membersBehind_14 rfl (lv_at hl 2 rfl) ?_
  refine lv_iload_n hx hb d_S_membersBehind_15 rfl (lv_at hl 0 rfl) ?_
  refine xr_call (xs_V (As := [.int (((0) + (1)) + 1)]) (rest := [.int ((0) ||| (f 0))]) Z (C_S_configAt l D t h n sq r cs cm fn fr fs fc f _) m_S_configAt k_364 k_365 k_366 rfl rfl ⟨Nat.le_of_ble_eq_true rfl, Nat.le_of_ble_eq_true rfl⟩ (va_recv hK.2 hP (ci := 5) (q0 := 0) rfl rfl) (xr_pre hK hP) rfl hl.1 rfl (Nat.le_of_ble_eq_true rfl) d_S_membersBehind_16 ⟨Nat.le_of_ble_eq_true rfl, Nat.le_of_ble_eq_true rfl⟩) ?_
  refine lv_ior hx hb d_S_membersBehind_19 ?_
  refine lv_istore_n (lv' := [(2, .int (((0) ||| (f 0)) ||| (f 0))), (3, .int (((0) + (1)) + 1)), (0, .ref h), (1, .int 0)]) hx hb d_S_membersBehind_20 rfl hl (by decide) rfl (fun ls hl => ?_)
  refine lv_iinc (v := (((0) + (1)) + 1) + 1) (lv' := [(3, .int ((((0) + (1)) + 1) + 1)), (2, .int (((0) ||| (f 0)) ||| (f 0))), (0, .ref h), (1, .int 0)]) hx hb d_S_membersBehind_21 hl (k := 1) rfl rfl (by decide) rfl (fun ls hl => ?_)
  refine lv_goto (tgt := 6) hx hb d_S_membersBehind_24 (by decide) ?_
  refine lv_iload_n hx hb d_S_membersBehind_6 rfl (lv_at hl 0 rfl) ?_
  refine lv_iload_n hx hb d_S_membersBehind_7 rfl (lv_at hl 3 rfl) ?_
  refine lv_iconst (v := 4) hx hb d_S_membersBehind_8 (by decide) ?_
  refine lv_iadd hx hb d_S_membersBehind_9 ?_
  refine lv_icmp_gt (tgt := 27) hx hb d_S_membersBehind_10 (by decide) (fun c_3 => absurd c_3 (by decide)) (fun _ => ?_)
  refine lv_iload_n hx hb d_S_membersBehind_13 rfl (lv_at hl 1 rfl) ?_
  refine lv_aload_n hx hb d_S_membersBehind_14 rfl (lv_at hl 2 rfl) ?_
  refine lv_iload_n hx hb d_S_membersBehind_15 rfl (lv_at hl 0 rfl) ?_
  refine xr_call (xs_V (As := [.int ((((0) + (1)) + 1) + 1)]) (rest := [.int (((0) ||| (f 0)) ||| (f 0))]) Z (C_S_configAt l D t h n sq r cs cm fn fr fs fc f _) m_S_configAt k_364 k_365 k_366 rfl rfl ⟨Nat.le_of_ble_eq_true rfl, Nat.le_of_ble_eq_true rfl⟩ (va_recv hK.2 hP (ci := 5) (q0 := 0) rfl rfl) (xr_pre hK hP) rfl hl.1 rfl (Nat.le_of_ble_eq_true rfl) d_S_membersBehind_16 ⟨Nat.le_of_ble_eq_true rfl, Nat.le_of_ble_eq_true rfl⟩) ?_
  refine lv_ior hx hb d_S_membersBehind_19 ?_
  refine lv_istore_n (lv' := [(2, .int ((((0) ||| (f 0)) ||| (f 0)) ||| (f 0))), (3, .int ((((0) + (1)) + 1) + 1)), (0, .ref h), (1, .int 0)]) hx hb d_S_membersBehind_20 rfl hl (by decide) rfl (fun ls hl => ?_)
  refine lv_iinc (v := ((((0) + (1)) + 1) + 1) + 1) (lv' := [(3, .int (((((0) + (1)) + 1) + 1) + 1)), (2, .int ((((0) ||| (f 0)) ||| (f 0)) ||| (f 0))), (0, .ref h), (1, .int 0)]) hx hb d_S_membersBehind_21 hl (k := 1) rfl rfl (by decide) rfl (fun ls hl => ?_)
  refine lv_goto (tgt := 6) hx hb d_S_membersBehind_24 (by decide) ?_
  refine lv_iload_n hx hb d_S_membersBehind_6 rfl (lv_at hl 0 rfl) ?_
  refine lv_iload_n hx hb d_S_membersBehind_7 rfl (lv_at hl 3 rfl) ?_
  refine lv_iconst (v := 4) hx hb d_S_membersBehind_8 (by decide) ?_
  refine lv_iadd hx hb d_S_membersBehind_9 ?_
  refine lv_icmp_gt (tgt := 27) hx hb d_S_membersBehind_10 (by decide) (fun c_4 => absurd c_4 (by decide)) (fun _ => ?_)
  refine lv_iload_n hx hb d_S_membersBehind_13 rfl (lv_at hl 1 rfl) ?_
  refine lv_aload_n hx hb d_S_membersBehind_14 rfl (lv_at hl 2 rfl) ?_
  refine lv_iload_n hx hb d_S_membersBehind_15 rfl (lv_at hl 0 rfl) ?_
  refine xr_call (xs_V (As := [.int (((((0) + (1)) + 1) + 1) + 1)]) (rest := [.int ((((0) ||| (f 0)) ||| (f 0)) ||| (f 0))]) Z (C_S_configAt l D t h n sq r cs cm fn fr fs fc f _) m_S_configAt k_364 k_365 k_366 rfl rfl ⟨Nat.le_of_ble_eq_true rfl, Nat.le_of_ble_eq_true rfl⟩ (va_recv hK.2 hP (ci := 5) (q0 := 0) rfl rfl) (xr_pre hK hP) rfl hl.1 rfl (Nat.le_of_ble_eq_true rfl) d_S_membersBehind_16 ⟨Nat.le_of_ble_eq_true rfl, Nat.le_of_ble_eq_true rfl⟩) ?_
  refine lv_ior hx hb d_S_membersBehind_19 ?_
  refine lv_istore_n (lv' := [(2, .int (((((0) ||| (f 0)) ||| (f 0)) ||| (f 0)) ||| (f 0))), (3, .int (((((0) + (1)) + 1) + 1) + 1)), (0, .ref h), (1, .int 0)]) hx hb d_S_membersBehind_20 rfl hl (by decide) rfl (fun ls hl => ?_)
  refine lv_iinc (v := (((((0) + (1)) + 1) + 1) + 1) + 1) (lv' := [(3, .int ((((((0) + (1)) + 1) + 1) + 1) + 1)), (2, .int (((((0) ||| (f 0)) ||| (f 0)) ||| (f 0)) ||| (f 0))), (0, .ref h), (1, .int 0)]) hx hb d_S_membersBehind_21 hl (k := 1) rfl rfl (by decide) rfl (fun ls hl => ?_)
  refine lv_goto (tgt := 6) hx hb d_S_membersBehind_24 (by decide) ?_
  refine lv_iload_n hx hb d_S_membersBehind_6 rfl (lv_at hl 0 rfl) ?_
  refine lv_iload_n hx hb d_S_membersBehind_7 rfl (lv_at hl 3 rfl) ?_
  refine lv_iconst (v := 4) hx hb d_S_membersBehind_8 (by decide) ?_
  refine lv_iadd hx hb d_S_membersBehind_9 ?_
  refine lv_icmp_gt (tgt := 27) hx hb d_S_membersBehind_10 (by decide) (fun _ => ?_) (fun c_5 => absurd (by decide) c_5)
  refine lv_iload_n hx hb d_S_membersBehind_27 rfl (lv_at hl 1 rfl) ?_
  exact W.iret hx hb hr (fun t ht _ => ⟨by rw [show ∀ z : Int32, (((0 ||| z) ||| z) ||| z) ||| z = z from fun z => by rw [Int32.zero_or, Int32.or_self, Int32.or_self, Int32.or_self]], ht⟩) (fun q h => by cases h) d_S_membersBehind_28
