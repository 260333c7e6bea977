/-! New objects of the class. -/
theorem xa_V {cA : ClassId} {n : Nat} {F G : Nat → Value} (h : ∀ j, j < n → F j = G j) : arrV cA n F = arrV cA n G := by
  have hs : (arrV cA n F).slots = (arrV cA n G).slots := by
    apply Array.ext_getElem?
    intro i
    rcases Nat.lt_or_ge i n with hi | hi
    · rw [arrV_read _ _ hi, arrV_read _ _ hi, h i hi]
    · rw [Array.getElem?_eq_none (by rw [arrV_size]; exact hi), Array.getElem?_eq_none (by rw [arrV_size]; exact hi)]
  unfold arrV at hs ⊢
  simp only [] at hs
  rw [hs]
theorem xa_J {D : va_G} {cl : List vw_C} {t : Nat → ClassId} {q n : Nat} {f g : Nat → Int64} {H : Heap} (h : ∀ j, j < n → f j = g j) (hP : va_at D cl (zJ t q n f) H) : va_at D cl (zJ t q n g) H := by
  have e : arrV (t 1) n (fun j => Value.long (f j)) = arrV (t 1) n (fun j => Value.long (g j)) := xa_V (fun j hj => by rw [h j hj])
  show H[q]? = some (arrV (t 1) n (fun j => Value.long (g j)))
  rw [← e]
  exact hP
theorem xa_A {D : va_G} {cl : List vw_C} {t : Nat → ClassId} {k q n : Nat} {f g : Nat → Option Nat} {H : Heap} (h : ∀ j, j < n → f j = g j) (hP : va_at D cl (zA t k q n f) H) : va_at D cl (zA t k q n g) H := by
  have e : arrV (t k) n (fun j => va_rf (f j)) = arrV (t k) n (fun j => va_rf (g j)) := xa_V (fun j hj => by rw [h j hj])
  show H[q]? = some (arrV (t k) n (fun j => va_rf (g j)))
  rw [← e]
  exact hP
theorem xd_set {D : va_G} {cl : List vw_C} {ws : va_W} {H : Heap} (hP : va_P D cl ws H) (k : Nat) {a : Nat} {e e' : va_E} (_ : ws[k]? = some (a, e)) (h : va_at D cl (a, e') H) : va_P D cl (ws.set k (a, e')) H := by
  intro i q hi
  rw [List.getElem?_set] at hi
  split at hi
  · split at hi
    · cases hi; exact h
    · cases hi
  · exact hP i q hi
theorem xd_setD {A : Nat → Prop} {ws : va_W} {a : Nat} {e e' : va_E} (hD : va_D A ws) (k : Nat) (hk : ws[k]? = some (a, e)) : va_D A (ws.set k (a, e')) := hD.set hk
theorem xu_m (x : Int32) : upd (fun _ => (0 : Int32)) (0 : Int32).toNatClampNeg x = xm x := by
  funext j
  show (if j = 0 then x else 0) = xm x j
  rfl
theorem xu_J {i : Nat} {x : Int64} (hi : i < 2 ^ 31) : vp_updL (fun j => if j < i then x else 0) (nI i).toNatClampNeg x = fun j => if j < i + 1 then x else 0 := by
  rw [nI_clamp hi]
  funext j
  unfold vp_updL
  by_cases h : j = i
  · rw [if_pos h, if_pos (by omega)]
  · rw [if_neg h]
    show (if j < i then x else 0) = if j < i + 1 then x else 0
    by_cases h2 : j < i
    · rw [if_pos h2, if_pos (by omega)]
    · rw [if_neg h2, if_neg (by omega)]
theorem d_V_init_0 : decode c_V_init 0 = .ok (.aload_n 0, 1) := by decide +kernel
theorem d_V_init_1 : decode c_V_init 1 = .ok (.invokespecial 1, 3) := by decide +kernel
theorem d_V_init_4 : decode c_V_init 4 = .ok (.aload_n 0, 1) := by decide +kernel
theorem d_V_init_5 : decode c_V_init 5 = .ok (.iload_n 1, 1) := by decide +kernel
theorem d_V_init_6 : decode c_V_init 6 = .ok (.putfield 7, 3) := by decide +kernel
theorem d_V_init_9 : decode c_V_init 9 = .ok (.aload_n 0, 1) := by decide +kernel
theorem d_V_init_10 : decode c_V_init 10 = .ok (.iload_n 2, 1) := by decide +kernel
theorem d_V_init_11 : decode c_V_init 11 = .ok (.putfield 13, 3) := by decide +kernel
theorem d_V_init_14 : decode c_V_init 14 = .ok (.aload_n 0, 1) := by decide +kernel
theorem d_V_init_15 : decode c_V_init 15 = .ok (.iload_n 3, 1) := by decide +kernel
theorem d_V_init_16 : decode c_V_init 16 = .ok (.putfield 16, 3) := by decide +kernel
theorem d_V_init_19 : decode c_V_init 19 = .ok (.aload_n 0, 1) := by decide +kernel
theorem d_V_init_20 : decode c_V_init 20 = .ok (.iload 4, 2) := by decide +kernel
theorem d_V_init_22 : decode c_V_init 22 = .ok (.putfield 19, 3) := by decide +kernel
theorem d_V_init_25 : decode c_V_init 25 = .ok (.aload_n 0, 1) := by decide +kernel
theorem d_V_init_26 : decode c_V_init 26 = .ok (.iload 5, 2) := by decide +kernel
theorem d_V_init_28 : decode c_V_init 28 = .ok (.putfield 22, 3) := by decide +kernel
theorem d_V_init_31 : decode c_V_init 31 = .ok (.aload_n 0, 1) := by decide +kernel
theorem d_V_init_32 : decode c_V_init 32 = .ok (.iload 6, 2) := by decide +kernel
theorem d_V_init_34 : decode c_V_init 34 = .ok (.putfield 25, 3) := by decide +kernel
theorem d_V_init_37 : decode c_V_init 37 = .ok (.return_, 1) := by decide +kernel
set_option maxHeartbeats 4000000 in
set_option maxRecDepth 100000 in
/-- a value -/
theorem C_V_init (l : Launch) (D : va_G) (t : Nat → ClassId) (h : Nat) (k1 k2 k3 k4 k5 k6 : Int32) : xe_C l D vwCl (xTY t) y_V_init c_V_init 7 (Option.none : Option FieldType) ({ frames := 1, cells := 0, slots := 0, locals := 20 }) [.ref h, .int k1, .int k2, .int k3, .int k4, .int k5, .int k6] [zO 6 h [.int 0, .int 0, .int 0, .int 0, .int 0, .int 0]] (xe_v D vwCl (fun _ : Unit => True) (fun _ => [zO 6 h [.int k1, .int k2, .int k3, .int k4, .int k5, .int k6]])) 0 0 := by
  refine xe_of (by decide) (Nat.le_of_ble_eq_true rfl) ?_
  intro p e s m below meth c ls A Z hr hlocks hin hA hP hD hS hl
  obtain ⟨hx, hb, hml, hown, hK⟩ := id Z
  have hown : s.vm.findClass "QuorumStore$Value" = some m.cls := hown
  have hts := hK.1.at (args := ([.ref h, .int k1, .int k2, .int k3, .int k4, .int k5, .int k6] : List Value).toArray)
  have hl : lv_has ls 7 [(0, .ref h), (1, .int k1), (2, .int k2), (3, .int k3), (4, .int k4), (5, .int k5), (6, .int k6)] := hl
  refine lv_aload_n hx hb d_V_init_0 rfl (lv_at hl 0 rfl) ?_
  refine W.objInit hx hb hown (hts _ k_98) (hts _ k_30) (hts _ k_31) rfl (by rw [hml]; exact hl.1) rfl d_V_init_1 (Nat.le_of_ble_eq_true rfl) (Nat.le_of_ble_eq_true rfl) ?_
  refine W.eq (g2 := F0 m 4 ls []) rfl ?_
  refine lv_aload_n hx hb d_V_init_4 rfl (lv_at hl 0 rfl) ?_
  refine lv_iload_n hx hb d_V_init_5 rfl (lv_at hl 1 rfl) ?_
  refine va_putF (ci := 6) (v := .int k1) (ty := tyX6 0) (C := "QuorumStore$Value") (T := TX6) (N := 6) hx hb hts inX6 tyX6 okX6 nmX6 hown hK.2 hP hD hS 0 rfl rfl 0 (by decide) (hts _ k_99) (fun _ h9 => h9) rfl hin rfl (by decide +kernel) rfl rfl (Nat.le_of_ble_eq_true rfl) d_V_init_6 (fun H locs hP hD hS => ?_)
  have hP : va_P D vwCl [zO 6 h [.int k1, .int 0, .int 0, .int 0, .int 0, .int 0]] H := hP
  have hD : va_D A [zO 6 h [.int k1, .int 0, .int 0, .int 0, .int 0, .int 0]] := hD
  refine lv_aload_n hx hb d_V_init_9 rfl (lv_at hl 0 rfl) ?_
  refine lv_iload_n hx hb d_V_init_10 rfl (lv_at hl 2 rfl) ?_
  refine va_putF (ci := 6) (v := .int k2) (ty := tyX6 1) (C := "QuorumStore$Value") (T := TX6) (N := 6) hx hb hts inX6 tyX6 okX6 nmX6 hown hK.2 hP hD hS 0 rfl rfl 1 (by decide) (hts _ k_102) (fun _ h9 => h9) rfl hin rfl (by decide +kernel) rfl rfl (Nat.le_of_ble_eq_true rfl) d_V_init_11 (fun H locs hP hD hS => ?_)
  have hP : va_P D vwCl [zO 6 h [.int k1, .int k2, .int 0, .int 0, .int 0, .int 0]] H := hP
  have hD : va_D A [zO 6 h [.int k1, .int k2, .int 0, .int 0, .int 0, .int 0]] := hD
  refine lv_aload_n hx hb d_V_init_14 rfl (lv_at hl 0 rfl) ?_
  refine lv_iload_n hx hb d_V_init_15 rfl (lv_at hl 3 rfl) ?_
  refine va_putF (ci := 6) (v := .int k3) (ty := tyX6 2) (C := "QuorumStore$Value") (T := TX6) (N := 6) hx hb hts inX6 tyX6 okX6 nmX6 hown hK.2 hP hD hS 0 rfl rfl 2 (by decide) (hts _ k_106) (fun _ h9 => h9) rfl hin rfl (by decide +kernel) rfl rfl (Nat.le_of_ble_eq_true rfl) d_V_init_16 (fun H locs hP hD hS => ?_)
  have hP : va_P D vwCl [zO 6 h [.int k1, .int k2, .int k3, .int 0, .int 0, .int 0]] H := hP
  have hD : va_D A [zO 6 h [.int k1, .int k2, .int k3, .int 0, .int 0, .int 0]] := hD
  refine lv_aload_n hx hb d_V_init_19 rfl (lv_at hl 0 rfl) ?_
  refine lv_iload hx hb d_V_init_20 (lv_at hl 4 rfl) ?_
  refine va_putF (ci := 6) (v := .int k4) (ty := tyX6 3) (C := "QuorumStore$Value") (T := TX6) (N := 6) hx hb hts inX6 tyX6 okX6 nmX6 hown hK.2 hP hD hS 0 rfl rfl 3 (by decide) (hts _ k_110) (fun _ h9 => h9) rfl hin rfl (by decide +kernel) rfl rfl (Nat.le_of_ble_eq_true rfl) d_V_init_22 (fun H locs hP hD hS => ?_)
  have hP : va_P D vwCl [zO 6 h [.int k1, .int k2, .int k3, .int k4, .int 0, .int 0]] H := hP
  have hD : va_D A [zO 6 h [.int k1, .int k2, .int k3, .int k4, .int 0, .int 0]] := hD
  refine lv_aload_n hx hb d_V_init_25 rfl (lv_at hl 0 rfl) ?_
  refine lv_iload hx hb d_V_init_26 (lv_at hl 5 rfl) ?_
  refine va_putF (ci := 6) (v := .int k5) (ty := tyX6 4) (C := "QuorumStore$Value") (T := TX6) (N := 6) hx hb hts inX6 tyX6 okX6 nmX6 hown hK.2 hP hD hS 0 rfl rfl 4 (by decide) (hts _ k_113) (fun _ h9 => h9) rfl hin rfl (by decide +kernel) rfl rfl (Nat.le_of_ble_eq_true rfl) d_V_init_28 (fun H locs hP hD hS => ?_)
  have hP : va_P D vwCl [zO 6 h [.int k1, .int k2, .int k3, .int k4, .int k5, .int 0]] H := hP
  have hD : va_D A [zO 6 h [.int k1, .int k2, .int k3, .int k4, .int k5, .int 0]] := hD
  refine lv_aload_n hx hb d_V_init_31 rfl (lv_at hl 0 rfl) ?_
  refine lv_iload hx hb d_V_init_32 (lv_at hl 6 rfl) ?_
  refine va_putF (ci := 6) (v := .int k6) (ty := tyX6 5) (C := "QuorumStore$Value") (T := TX6) (N := 6) hx hb hts inX6 tyX6 okX6 nmX6 hown hK.2 hP hD hS 0 rfl rfl 5 (by decide) (hts _ k_116) (fun _ h9 => h9) rfl hin rfl (by decide +kernel) rfl rfl (Nat.le_of_ble_eq_true rfl) d_V_init_34 (fun H locs hP hD hS => ?_)
  have hP : va_P D vwCl [zO 6 h [.int k1, .int k2, .int k3, .int k4, .int k5, .int k6]] H := hP
  have hD : va_D A [zO 6 h [.int k1, .int k2, .int k3, .int k4, .int k5, .int k6]] := hD
  exact W.vret hx hb hr (fun t ht hW => ⟨⟨(), rfl, trivial, by rw [ht]; exact hP, hD⟩, hS.F ht⟩) hS.2.2 d_V_init_37
theorem d_R_init_0 : decode c_R_init 0 = .ok (.aload_n 0, 1) := by decide +kernel
theorem d_R_init_1 : decode c_R_init 1 = .ok (.invokespecial 1, 3) := by decide +kernel
theorem d_R_init_4 : decode c_R_init 4 = .ok (.aload_n 0, 1) := by decide +kernel
theorem d_R_init_5 : decode c_R_init 5 = .ok (.iload_n 1, 1) := by decide +kernel
theorem d_R_init_6 : decode c_R_init 6 = .ok (.newarray .int, 2) := by decide +kernel
theorem d_R_init_8 : decode c_R_init 8 = .ok (.putfield 7, 3) := by decide +kernel
theorem d_R_init_11 : decode c_R_init 11 = .ok (.aload_n 0, 1) := by decide +kernel
theorem d_R_init_12 : decode c_R_init 12 = .ok (.iload_n 1, 1) := by decide +kernel
theorem d_R_init_13 : decode c_R_init 13 = .ok (.newarray .int, 2) := by decide +kernel
theorem d_R_init_15 : decode c_R_init 15 = .ok (.putfield 13, 3) := by decide +kernel
theorem d_R_init_18 : decode c_R_init 18 = .ok (.aload_n 0, 1) := by decide +kernel
theorem d_R_init_19 : decode c_R_init 19 = .ok (.iload_n 1, 1) := by decide +kernel
theorem d_R_init_20 : decode c_R_init 20 = .ok (.anewarray 16, 3) := by decide +kernel
theorem d_R_init_23 : decode c_R_init 23 = .ok (.putfield 18, 3) := by decide +kernel
theorem d_R_init_26 : decode c_R_init 26 = .ok (.return_, 1) := by decide +kernel
set_option maxHeartbeats 4000000 in
set_option maxRecDepth 100000 in
/-- an empty row of 4 -/
theorem C_R_init_4 (l : Launch) (D : va_G) (t : Nat → ClassId) (h : Nat) : xe_C l D vwCl (xTY t) y_R_init c_R_init 2 (Option.none : Option FieldType) ({ frames := 1, cells := 3, slots := 12, locals := 20 }) [.ref h, .int 4] [zO 4 h [.null, .null, .null]] (xe_v D vwCl (fun _ : Nat × Nat × Nat => True) (fun u => [zO 4 h [.ref u.1, .ref u.2.1, .ref u.2.2], zI t u.1 4 (fun _ => 0), zI t u.2.1 4 (fun _ => 0), zA t 2 u.2.2 4 (fun _ => none)])) 3 12 := by
  refine xe_of (by decide) (Nat.le_of_ble_eq_true rfl) ?_
  intro p e s m below meth c ls A Z hr hlocks hin hA hP hD hS hl
  obtain ⟨hx, hb, hml, hown, hK⟩ := id Z
  have hown : s.vm.findClass "QuorumStore$Row" = some m.cls := hown
  have hts := hK.1.at (args := ([.ref h, .int 4] : List Value).toArray)
  have hl : lv_has ls 2 [(0, .ref h), (1, .int 4)] := hl
  refine lv_aload_n hx hb d_R_init_0 rfl (lv_at hl 0 rfl) ?_
  refine W.objInit hx hb hown (hts _ k_72) (hts _ k_30) (hts _ k_31) rfl (by rw [hml]; exact hl.1) rfl d_R_init_1 (Nat.le_of_ble_eq_true rfl) (Nat.le_of_ble_eq_true rfl) ?_
  refine W.eq (g2 := F0 m 4 ls []) rfl ?_
  refine lv_aload_n hx hb d_R_init_4 rfl (lv_at hl 0 rfl) ?_
  refine lv_iload_n hx hb d_R_init_5 rfl (lv_at hl 1 rfl) ?_
  refine va_newa (atype := .int) (ty := .int) (a0 := (4, .inl (fun _ => 0))) hx hb (hts _ k_86) rfl hK.2 hP hD hS hA (fun _ => rfl) (by decide) rfl (by decide) (Nat.le_of_ble_eq_true rfl) (Nat.le_of_ble_eq_true rfl) d_R_init_6 (fun q_1 c_2 H hKn hP hD hS => ?_)
  obtain rfl : c_2 = t 0 := xk_arr hKn (i := 0) rfl
  have hP : va_P D vwCl [zO 4 h [.null, .null, .null], zI t q_1 4 (fun _ => 0)] H := hP
  have hD : va_D A [zO 4 h [.null, .null, .null], zI t q_1 4 (fun _ => 0)] := hD
  refine va_putF (ci := 4) (v := .ref q_1) (ty := tyX4 0) (C := "QuorumStore$Row") (T := TX4) (N := 3) hx hb hts inX4 tyX4 okX4 nmX4 hown hK.2 hP hD hS 0 rfl rfl 0 (by decide) (hts _ k_75) (fun _ h9 => h9) rfl hin rfl (by decide +kernel) rfl rfl (Nat.le_of_ble_eq_true rfl) d_R_init_8 (fun H locs hP hD hS => ?_)
  have hP : va_P D vwCl [zO 4 h [.ref q_1, .null, .null], zI t q_1 4 (fun _ => 0)] H := hP
  have hD : va_D A [zO 4 h [.ref q_1, .null, .null], zI t q_1 4 (fun _ => 0)] := hD
  refine lv_aload_n hx hb d_R_init_11 rfl (lv_at hl 0 rfl) ?_
  refine lv_iload_n hx hb d_R_init_12 rfl (lv_at hl 1 rfl) ?_
  refine va_newa (atype := .int) (ty := .int) (a0 := (4, .inl (fun _ => 0))) hx hb (hts _ k_86) rfl hK.2 hP hD hS hA (fun _ => rfl) (by decide) rfl (by decide) (Nat.le_of_ble_eq_true rfl) (Nat.le_of_ble_eq_true rfl) d_R_init_13 (fun q_3 c_4 H hKn hP hD hS => ?_)
  obtain rfl : c_4 = t 0 := xk_arr hKn (i := 0) rfl
  have hP : va_P D vwCl [zO 4 h [.ref q_1, .null, .null], zI t q_1 4 (fun _ => 0), zI t q_3 4 (fun _ => 0)] H := hP
  have hD : va_D A [zO 4 h [.ref q_1, .null, .null], zI t q_1 4 (fun _ => 0), zI t q_3 4 (fun _ => 0)] := hD
  refine va_putF (ci := 4) (v := .ref q_3) (ty := tyX4 1) (C := "QuorumStore$Row") (T := TX4) (N := 3) hx hb hts inX4 tyX4 okX4 nmX4 hown hK.2 hP hD hS 0 rfl rfl 1 (by decide) (hts _ k_76) (fun _ h9 => h9) rfl hin rfl (by decide +kernel) rfl rfl (Nat.le_of_ble_eq_true rfl) d_R_init_15 (fun H locs hP hD hS => ?_)
  have hP : va_P D vwCl [zO 4 h [.ref q_1, .ref q_3, .null], zI t q_1 4 (fun _ => 0), zI t q_3 4 (fun _ => 0)] H := hP
  have hD : va_D A [zO 4 h [.ref q_1, .ref q_3, .null], zI t q_1 4 (fun _ => 0), zI t q_3 4 (fun _ => 0)] := hD
  refine lv_aload_n hx hb d_R_init_18 rfl (lv_at hl 0 rfl) ?_
  refine lv_iload_n hx hb d_R_init_19 rfl (lv_at hl 1 rfl) ?_
  refine va_newq (N' := 4) hx hb hown (hts _ k_73) (va_AO.of (hts _ k_74)) hK.2 hP hD hS hA (by decide) rfl (by decide) (Nat.le_of_ble_eq_true rfl) (Nat.le_of_ble_eq_true rfl) d_R_init_20 (fun q_5 c_6 H hKn hP hD hS => ?_)
  obtain rfl : c_6 = t 2 := xk_arr hKn (i := 2) rfl
  have hP : va_P D vwCl [zO 4 h [.ref q_1, .ref q_3, .null], zI t q_1 4 (fun _ => 0), zI t q_3 4 (fun _ => 0), zA t 2 q_5 4 (fun _ => none)] H := hP
  have hD : va_D A [zO 4 h [.ref q_1, .ref q_3, .null], zI t q_1 4 (fun _ => 0), zI t q_3 4 (fun _ => 0), zA t 2 q_5 4 (fun _ => none)] := hD
  refine va_putF (ci := 4) (v := .ref q_5) (ty := tyX4 2) (C := "QuorumStore$Row") (T := TX4) (N := 3) hx hb hts inX4 tyX4 okX4 nmX4 hown hK.2 hP hD hS 0 rfl rfl 2 (by decide) (hts _ k_77) (fun _ h9 => h9) rfl hin rfl (by decide +kernel) rfl rfl (Nat.le_of_ble_eq_true rfl) d_R_init_23 (fun H locs hP hD hS => ?_)
  have hP : va_P D vwCl [zO 4 h [.ref q_1, .ref q_3, .ref q_5], zI t q_1 4 (fun _ => 0), zI t q_3 4 (fun _ => 0), zA t 2 q_5 4 (fun _ => none)] H := hP
  have hD : va_D A [zO 4 h [.ref q_1, .ref q_3, .ref q_5], zI t q_1 4 (fun _ => 0), zI t q_3 4 (fun _ => 0), zA t 2 q_5 4 (fun _ => none)] := hD
  exact W.vret hx hb hr (fun t ht hW => ⟨⟨(q_1, q_3, q_5), rfl, trivial, by rw [ht]; exact hP, hD⟩, hS.F ht⟩) hS.2.2 d_R_init_26
set_option maxHeartbeats 4000000 in
set_option maxRecDepth 100000 in
/-- an empty row of 32 -/
theorem C_R_init_32 (l : Launch) (D : va_G) (t : Nat → ClassId) (h : Nat) : xe_C l D vwCl (xTY t) y_R_init c_R_init 2 (Option.none : Option FieldType) ({ frames := 1, cells := 3, slots := 96, locals := 20 }) [.ref h, .int 32] [zO 4 h [.null, .null, .null]] (xe_v D vwCl (fun _ : Nat × Nat × Nat => True) (fun u => [zO 4 h [.ref u.1, .ref u.2.1, .ref u.2.2], zI t u.1 32 (fun _ => 0), zI t u.2.1 32 (fun _ => 0), zA t 2 u.2.2 32 (fun _ => none)])) 3 96 := by
  refine xe_of (by decide) (Nat.le_of_ble_eq_true rfl) ?_
  intro p e s m below meth c ls A Z hr hlocks hin hA hP hD hS hl
  obtain ⟨hx, hb, hml, hown, hK⟩ := id Z
  have hown : s.vm.findClass "QuorumStore$Row" = some m.cls := hown
  have hts := hK.1.at (args := ([.ref h, .int 32] : List Value).toArray)
  have hl : lv_has ls 2 [(0, .ref h), (1, .int 32)] := hl
  refine lv_aload_n hx hb d_R_init_0 rfl (lv_at hl 0 rfl) ?_
  refine W.objInit hx hb hown (hts _ k_72) (hts _ k_30) (hts _ k_31) rfl (by rw [hml]; exact hl.1) rfl d_R_init_1 (Nat.le_of_ble_eq_true rfl) (Nat.le_of_ble_eq_true rfl) ?_
  refine W.eq (g2 := F0 m 4 ls []) rfl ?_
  refine lv_aload_n hx hb d_R_init_4 rfl (lv_at hl 0 rfl) ?_
  refine lv_iload_n hx hb d_R_init_5 rfl (lv_at hl 1 rfl) ?_
  refine va_newa (atype := .int) (ty := .int) (a0 := (32, .inl (fun _ => 0))) hx hb (hts _ k_86) rfl hK.2 hP hD hS hA (fun _ => rfl) (by decide) rfl (by decide) (Nat.le_of_ble_eq_true rfl) (Nat.le_of_ble_eq_true rfl) d_R_init_6 (fun q_1 c_2 H hKn hP hD hS => ?_)
  obtain rfl : c_2 = t 0 := xk_arr hKn (i := 0) rfl
  have hP : va_P D vwCl [zO 4 h [.null, .null, .null], zI t q_1 32 (fun _ => 0)] H := hP
  have hD : va_D A [zO 4 h [.null, .null, .null], zI t q_1 32 (fun _ => 0)] := hD
  refine va_putF (ci := 4) (v := .ref q_1) (ty := tyX4 0) (C := "QuorumStore$Row") (T := TX4) (N := 3) hx hb hts inX4 tyX4 okX4 nmX4 hown hK.2 hP hD hS 0 rfl rfl 0 (by decide) (hts _ k_75) (fun _ h9 => h9) rfl hin rfl (by decide +kernel) rfl rfl (Nat.le_of_ble_eq_true rfl) d_R_init_8 (fun H locs hP hD hS => ?_)
  have hP : va_P D vwCl [zO 4 h [.ref q_1, .null, .null], zI t q_1 32 (fun _ => 0)] H := hP
  have hD : va_D A [zO 4 h [.ref q_1, .null, .null], zI t q_1 32 (fun _ => 0)] := hD
  refine lv_aload_n hx hb d_R_init_11 rfl (lv_at hl 0 rfl) ?_
  refine lv_iload_n hx hb d_R_init_12 rfl (lv_at hl 1 rfl) ?_
  refine va_newa (atype := .int) (ty := .int) (a0 := (32, .inl (fun _ => 0))) hx hb (hts _ k_86) rfl hK.2 hP hD hS hA (fun _ => rfl) (by decide) rfl (by decide) (Nat.le_of_ble_eq_true rfl) (Nat.le_of_ble_eq_true rfl) d_R_init_13 (fun q_3 c_4 H hKn hP hD hS => ?_)
  obtain rfl : c_4 = t 0 := xk_arr hKn (i := 0) rfl
  have hP : va_P D vwCl [zO 4 h [.ref q_1, .null, .null], zI t q_1 32 (fun _ => 0), zI t q_3 32 (fun _ => 0)] H := hP
  have hD : va_D A [zO 4 h [.ref q_1, .null, .null], zI t q_1 32 (fun _ => 0), zI t q_3 32 (fun _ => 0)] := hD
  refine va_putF (ci := 4) (v := .ref q_3) (ty := tyX4 1) (C := "QuorumStore$Row") (T := TX4) (N := 3) hx hb hts inX4 tyX4 okX4 nmX4 hown hK.2 hP hD hS 0 rfl rfl 1 (by decide) (hts _ k_76) (fun _ h9 => h9) rfl hin rfl (by decide +kernel) rfl rfl (Nat.le_of_ble_eq_true rfl) d_R_init_15 (fun H locs hP hD hS => ?_)
  have hP : va_P D vwCl [zO 4 h [.ref q_1, .ref q_3, .null], zI t q_1 32 (fun _ => 0), zI t q_3 32 (fun _ => 0)] H := hP
  have hD : va_D A [zO 4 h [.ref q_1, .ref q_3, .null], zI t q_1 32 (fun _ => 0), zI t q_3 32 (fun _ => 0)] := hD
  refine lv_aload_n hx hb d_R_init_18 rfl (lv_at hl 0 rfl) ?_
  refine lv_iload_n hx hb d_R_init_19 rfl (lv_at hl 1 rfl) ?_
  refine va_newq (N' := 32) hx hb hown (hts _ k_73) (va_AO.of (hts _ k_74)) hK.2 hP hD hS hA (by decide) rfl (by decide) (Nat.le_of_ble_eq_true rfl) (Nat.le_of_ble_eq_true rfl) d_R_init_20 (fun q_5 c_6 H hKn hP hD hS => ?_)
  obtain rfl : c_6 = t 2 := xk_arr hKn (i := 2) rfl
  have hP : va_P D vwCl [zO 4 h [.ref q_1, .ref q_3, .null], zI t q_1 32 (fun _ => 0), zI t q_3 32 (fun _ => 0), zA t 2 q_5 32 (fun _ => none)] H := hP
  have hD : va_D A [zO 4 h [.ref q_1, .ref q_3, .null], zI t q_1 32 (fun _ => 0), zI t q_3 32 (fun _ => 0), zA t 2 q_5 32 (fun _ => none)] := hD
  refine va_putF (ci := 4) (v := .ref q_5) (ty := tyX4 2) (C := "QuorumStore$Row") (T := TX4) (N := 3) hx hb hts inX4 tyX4 okX4 nmX4 hown hK.2 hP hD hS 0 rfl rfl 2 (by decide) (hts _ k_77) (fun _ h9 => h9) rfl hin rfl (by decide +kernel) rfl rfl (Nat.le_of_ble_eq_true rfl) d_R_init_23 (fun H locs hP hD hS => ?_)
  have hP : va_P D vwCl [zO 4 h [.ref q_1, .ref q_3, .ref q_5], zI t q_1 32 (fun _ => 0), zI t q_3 32 (fun _ => 0), zA t 2 q_5 32 (fun _ => none)] H := hP
  have hD : va_D A [zO 4 h [.ref q_1, .ref q_3, .ref q_5], zI t q_1 32 (fun _ => 0), zI t q_3 32 (fun _ => 0), zA t 2 q_5 32 (fun _ => none)] := hD
  exact W.vret hx hb hr (fun t ht hW => ⟨⟨(q_1, q_3, q_5), rfl, trivial, by rw [ht]; exact hP, hD⟩, hS.F ht⟩) hS.2.2 d_R_init_26
set_option maxHeartbeats 4000000 in
set_option maxRecDepth 100000 in
/-- an empty row of 64 -/
theorem C_R_init_64 (l : Launch) (D : va_G) (t : Nat → ClassId) (h : Nat) : xe_C l D vwCl (xTY t) y_R_init c_R_init 2 (Option.none : Option FieldType) ({ frames := 1, cells := 3, slots := 192, locals := 20 }) [.ref h, .int 64] [zO 4 h [.null, .null, .null]] (xe_v D vwCl (fun _ : Nat × Nat × Nat => True) (fun u => [zO 4 h [.ref u.1, .ref u.2.1, .ref u.2.2], zI t u.1 64 (fun _ => 0), zI t u.2.1 64 (fun _ => 0), zA t 2 u.2.2 64 (fun _ => none)])) 3 192 := by
  refine xe_of (by decide) (Nat.le_of_ble_eq_true rfl) ?_
  intro p e s m below meth c ls A Z hr hlocks hin hA hP hD hS hl
  obtain ⟨hx, hb, hml, hown, hK⟩ := id Z
  have hown : s.vm.findClass "QuorumStore$Row" = some m.cls := hown
  have hts := hK.1.at (args := ([.ref h, .int 64] : List Value).toArray)
  have hl : lv_has ls 2 [(0, .ref h), (1, .int 64)] := hl
  refine lv_aload_n hx hb d_R_init_0 rfl (lv_at hl 0 rfl) ?_
  refine W.objInit hx hb hown (hts _ k_72) (hts _ k_30) (hts _ k_31) rfl (by rw [hml]; exact hl.1) rfl d_R_init_1 (Nat.le_of_ble_eq_true rfl) (Nat.le_of_ble_eq_true rfl) ?_
  refine W.eq (g2 := F0 m 4 ls []) rfl ?_
  refine lv_aload_n hx hb d_R_init_4 rfl (lv_at hl 0 rfl) ?_
  refine lv_iload_n hx hb d_R_init_5 rfl (lv_at hl 1 rfl) ?_
  refine va_newa (atype := .int) (ty := .int) (a0 := (64, .inl (fun _ => 0))) hx hb (hts _ k_86) rfl hK.2 hP hD hS hA (fun _ => rfl) (by decide) rfl (by decide) (Nat.le_of_ble_eq_true rfl) (Nat.le_of_ble_eq_true rfl) d_R_init_6 (fun q_1 c_2 H hKn hP hD hS => ?_)
  obtain rfl : c_2 = t 0 := xk_arr hKn (i := 0) rfl
  have hP : va_P D vwCl [zO 4 h [.null, .null, .null], zI t q_1 64 (fun _ => 0)] H := hP
  have hD : va_D A [zO 4 h [.null, .null, .null], zI t q_1 64 (fun _ => 0)] := hD
  refine va_putF (ci := 4) (v := .ref q_1) (ty := tyX4 0) (C := "QuorumStore$Row") (T := TX4) (N := 3) hx hb hts inX4 tyX4 okX4 nmX4 hown hK.2 hP hD hS 0 rfl rfl 0 (by decide) (hts _ k_75) (fun _ h9 => h9) rfl hin rfl (by decide +kernel) rfl rfl (Nat.le_of_ble_eq_true rfl) d_R_init_8 (fun H locs hP hD hS => ?_)
  have hP : va_P D vwCl [zO 4 h [.ref q_1, .null, .null], zI t q_1 64 (fun _ => 0)] H := hP
  have hD : va_D A [zO 4 h [.ref q_1, .null, .null], zI t q_1 64 (fun _ => 0)] := hD
  refine lv_aload_n hx hb d_R_init_11 rfl (lv_at hl 0 rfl) ?_
  refine lv_iload_n hx hb d_R_init_12 rfl (lv_at hl 1 rfl) ?_
  refine va_newa (atype := .int) (ty := .int) (a0 := (64, .inl (fun _ => 0))) hx hb (hts _ k_86) rfl hK.2 hP hD hS hA (fun _ => rfl) (by decide) rfl (by decide) (Nat.le_of_ble_eq_true rfl) (Nat.le_of_ble_eq_true rfl) d_R_init_13 (fun q_3 c_4 H hKn hP hD hS => ?_)
  obtain rfl : c_4 = t 0 := xk_arr hKn (i := 0) rfl
  have hP : va_P D vwCl [zO 4 h [.ref q_1, .null, .null], zI t q_1 64 (fun _ => 0), zI t q_3 64 (fun _ => 0)] H := hP
  have hD : va_D A [zO 4 h [.ref q_1, .null, .null], zI t q_1 64 (fun _ => 0), zI t q_3 64 (fun _ => 0)] := hD
  refine va_putF (ci := 4) (v := .ref q_3) (ty := tyX4 1) (C := "QuorumStore$Row") (T := TX4) (N := 3) hx hb hts inX4 tyX4 okX4 nmX4 hown hK.2 hP hD hS 0 rfl rfl 1 (by decide) (hts _ k_76) (fun _ h9 => h9) rfl hin rfl (by decide +kernel) rfl rfl (Nat.le_of_ble_eq_true rfl) d_R_init_15 (fun H locs hP hD hS => ?_)
  have hP : va_P D vwCl [zO 4 h [.ref q_1, .ref q_3, .null], zI t q_1 64 (fun _ => 0), zI t q_3 64 (fun _ => 0)] H := hP
  have hD : va_D A [zO 4 h [.ref q_1, .ref q_3, .null], zI t q_1 64 (fun _ => 0), zI t q_3 64 (fun _ => 0)] := hD
  refine lv_aload_n hx hb d_R_init_18 rfl (lv_at hl 0 rfl) ?_
  refine lv_iload_n hx hb d_R_init_19 rfl (lv_at hl 1 rfl) ?_
  refine va_newq (N' := 64) hx hb hown (hts _ k_73) (va_AO.of (hts _ k_74)) hK.2 hP hD hS hA (by decide) rfl (by decide) (Nat.le_of_ble_eq_true rfl) (Nat.le_of_ble_eq_true rfl) d_R_init_20 (fun q_5 c_6 H hKn hP hD hS => ?_)
  obtain rfl : c_6 = t 2 := xk_arr hKn (i := 2) rfl
  have hP : va_P D vwCl [zO 4 h [.ref q_1, .ref q_3, .null], zI t q_1 64 (fun _ => 0), zI t q_3 64 (fun _ => 0), zA t 2 q_5 64 (fun _ => none)] H := hP
  have hD : va_D A [zO 4 h [.ref q_1, .ref q_3, .null], zI t q_1 64 (fun _ => 0), zI t q_3 64 (fun _ => 0), zA t 2 q_5 64 (fun _ => none)] := hD
  refine va_putF (ci := 4) (v := .ref q_5) (ty := tyX4 2) (C := "QuorumStore$Row") (T := TX4) (N := 3) hx hb hts inX4 tyX4 okX4 nmX4 hown hK.2 hP hD hS 0 rfl rfl 2 (by decide) (hts _ k_77) (fun _ h9 => h9) rfl hin rfl (by decide +kernel) rfl rfl (Nat.le_of_ble_eq_true rfl) d_R_init_23 (fun H locs hP hD hS => ?_)
  have hP : va_P D vwCl [zO 4 h [.ref q_1, .ref q_3, .ref q_5], zI t q_1 64 (fun _ => 0), zI t q_3 64 (fun _ => 0), zA t 2 q_5 64 (fun _ => none)] H := hP
  have hD : va_D A [zO 4 h [.ref q_1, .ref q_3, .ref q_5], zI t q_1 64 (fun _ => 0), zI t q_3 64 (fun _ => 0), zA t 2 q_5 64 (fun _ => none)] := hD
  exact W.vret hx hb hr (fun t ht hW => ⟨⟨(q_1, q_3, q_5), rfl, trivial, by rw [ht]; exact hP, hD⟩, hS.F ht⟩) hS.2.2 d_R_init_26
theorem d_S_init_0 : decode c_S_init 0 = .ok (.aload_n 0, 1) := by decide +kernel
theorem d_S_init_1 : decode c_S_init 1 = .ok (.invokespecial 3, 3) := by decide +kernel
theorem d_S_init_4 : decode c_S_init 4 = .ok (.aload_n 0, 1) := by decide +kernel
theorem d_S_init_5 : decode c_S_init 5 = .ok (.bipush 32, 2) := by decide +kernel
theorem d_S_init_7 : decode c_S_init 7 = .ok (.newarray .long, 2) := by decide +kernel
theorem d_S_init_9 : decode c_S_init 9 = .ok (.putfield 9, 3) := by decide +kernel
theorem d_S_init_12 : decode c_S_init 12 = .ok (.aload_n 0, 1) := by decide +kernel
theorem d_S_init_13 : decode c_S_init 13 = .ok (.bipush 8, 2) := by decide +kernel
theorem d_S_init_15 : decode c_S_init 15 = .ok (.newarray .int, 2) := by decide +kernel
theorem d_S_init_17 : decode c_S_init 17 = .ok (.putfield 15, 3) := by decide +kernel
theorem d_S_init_20 : decode c_S_init 20 = .ok (.aload_n 0, 1) := by decide +kernel
theorem d_S_init_21 : decode c_S_init 21 = .ok (.bipush 8, 2) := by decide +kernel
theorem d_S_init_23 : decode c_S_init 23 = .ok (.newarray .long, 2) := by decide +kernel
theorem d_S_init_25 : decode c_S_init 25 = .ok (.putfield 19, 3) := by decide +kernel
theorem d_S_init_28 : decode c_S_init 28 = .ok (.aload_n 0, 1) := by decide +kernel
theorem d_S_init_29 : decode c_S_init 29 = .ok (.iconst 4, 1) := by decide +kernel
theorem d_S_init_30 : decode c_S_init 30 = .ok (.newarray .int, 2) := by decide +kernel
theorem d_S_init_32 : decode c_S_init 32 = .ok (.putfield 22, 3) := by decide +kernel
theorem d_S_init_35 : decode c_S_init 35 = .ok (.aload_n 0, 1) := by decide +kernel
theorem d_S_init_36 : decode c_S_init 36 = .ok (.iconst 4, 1) := by decide +kernel
theorem d_S_init_37 : decode c_S_init 37 = .ok (.newarray .int, 2) := by decide +kernel
theorem d_S_init_39 : decode c_S_init 39 = .ok (.putfield 25, 3) := by decide +kernel
theorem d_S_init_42 : decode c_S_init 42 = .ok (.iconst 0, 1) := by decide +kernel
theorem d_S_init_43 : decode c_S_init 43 = .ok (.istore_n 2, 1) := by decide +kernel
theorem d_S_init_44 : decode c_S_init 44 = .ok (.iload_n 2, 1) := by decide +kernel
theorem d_S_init_45 : decode c_S_init 45 = .ok (.bipush 32, 2) := by decide +kernel
theorem d_S_init_47 : decode c_S_init 47 = .ok (.if_icmp .ge 18, 3) := by decide +kernel
theorem d_S_init_50 : decode c_S_init 50 = .ok (.aload_n 0, 1) := by decide +kernel
theorem d_S_init_51 : decode c_S_init 51 = .ok (.getfield 9, 3) := by decide +kernel
theorem d_S_init_54 : decode c_S_init 54 = .ok (.iload_n 2, 1) := by decide +kernel
theorem d_S_init_55 : decode c_S_init 55 = .ok (.ldc2_w 28, 3) := by decide +kernel
theorem d_S_init_58 : decode c_S_init 58 = .ok (.lastore, 1) := by decide +kernel
theorem d_S_init_59 : decode c_S_init 59 = .ok (.iinc 2 1, 3) := by decide +kernel
theorem d_S_init_62 : decode c_S_init 62 = .ok (.goto (-18), 3) := by decide +kernel
theorem d_S_init_65 : decode c_S_init 65 = .ok (.aload_n 0, 1) := by decide +kernel
theorem d_S_init_66 : decode c_S_init 66 = .ok (.getfield 22, 3) := by decide +kernel
theorem d_S_init_69 : decode c_S_init 69 = .ok (.iconst 0, 1) := by decide +kernel
theorem d_S_init_70 : decode c_S_init 70 = .ok (.iconst 1, 1) := by decide +kernel
theorem d_S_init_71 : decode c_S_init 71 = .ok (.iastore, 1) := by decide +kernel
theorem d_S_init_72 : decode c_S_init 72 = .ok (.aload_n 0, 1) := by decide +kernel
theorem d_S_init_73 : decode c_S_init 73 = .ok (.getfield 25, 3) := by decide +kernel
theorem d_S_init_76 : decode c_S_init 76 = .ok (.iconst 0, 1) := by decide +kernel
theorem d_S_init_77 : decode c_S_init 77 = .ok (.iload_n 1, 1) := by decide +kernel
theorem d_S_init_78 : decode c_S_init 78 = .ok (.iastore, 1) := by decide +kernel
theorem d_S_init_79 : decode c_S_init 79 = .ok (.aload_n 0, 1) := by decide +kernel
theorem d_S_init_80 : decode c_S_init 80 = .ok (.iconst 1, 1) := by decide +kernel
theorem d_S_init_81 : decode c_S_init 81 = .ok (.putfield 30, 3) := by decide +kernel
theorem d_S_init_84 : decode c_S_init 84 = .ok (.return_, 1) := by decide +kernel
set_option maxHeartbeats 4000000 in
set_option maxRecDepth 100000 in
/-- a new state -/
theorem C_S_init (l : Launch) (D : va_G) (t : Nat → ClassId) (h : Nat) (mk : Int32) : xe_C l D vwCl (xTY t) y_S_init c_S_init 3 (Option.none : Option FieldType) ({ frames := 1, cells := 5, slots := 56, locals := 20 }) [.ref h, .int mk] [zO 5 h [.null, .null, .null, .null, .null, .int 0]] (xe_v D vwCl (fun _ : Nat × Nat × Nat × Nat × Nat => True) (fun u => [zO 5 h [.ref u.1, .ref u.2.1, .ref u.2.2.1, .ref u.2.2.2.1, .ref u.2.2.2.2, .int 1], zJ t u.1 32 (fun _ => 1099511627776), zI t u.2.1 8 (fun _ => 0), zJ t u.2.2.1 8 (fun _ => 0), zI t u.2.2.2.1 4 (xm 1), zI t u.2.2.2.2 4 (xm mk)])) 5 56 := by
  refine xe_of (by decide) (Nat.le_of_ble_eq_true rfl) ?_
  intro p e s m below meth c ls A Z hr hlocks hin hA hP hD hS hl
  obtain ⟨hx, hb, hml, hown, hK⟩ := id Z
  have hown : s.vm.findClass "QuorumStore$State" = some m.cls := hown
  have hts := hK.1.at (args := ([.ref h, .int mk] : List Value).toArray)
  have hl : lv_has ls 3 [(0, .ref h), (1, .int mk)] := hl
  refine lv_aload_n hx hb d_S_init_0 rfl (lv_at hl 0 rfl) ?_
  refine W.objInit hx hb hown (hts _ k_170) (hts _ k_30) (hts _ k_31) rfl (by rw [hml]; exact hl.1) rfl d_S_init_1 (Nat.le_of_ble_eq_true rfl) (Nat.le_of_ble_eq_true rfl) ?_
  refine W.eq (g2 := F0 m 4 ls []) rfl ?_
  refine lv_aload_n hx hb d_S_init_4 rfl (lv_at hl 0 rfl) ?_
  refine lv_bipush (v := 32) hx hb d_S_init_5 (by decide) ?_
  refine va_newa (atype := .long) (ty := .long) (a0 := (32, .inr (.inl (fun _ => 0)))) hx hb (hts _ k_196) rfl hK.2 hP hD hS hA (fun _ => rfl) (by decide) rfl (by decide) (Nat.le_of_ble_eq_true rfl) (Nat.le_of_ble_eq_true rfl) d_S_init_7 (fun q_1 c_2 H hKn hP hD hS => ?_)
  obtain rfl : c_2 = t 1 := xk_arr hKn (i := 1) rfl
  have hP : va_P D vwCl [zO 5 h [.null, .null, .null, .null, .null, .int 0], zJ t q_1 32 (fun _ => 0)] H := hP
  have hD : va_D A [zO 5 h [.null, .null, .null, .null, .null, .int 0], zJ t q_1 32 (fun _ => 0)] := hD
  refine va_putF (ci := 5) (v := .ref q_1) (ty := tyX5 0) (C := "QuorumStore$State") (T := TX5) (N := 6) hx hb hts inX5 tyX5 okX5 nmX5 hown hK.2 hP hD hS 0 rfl rfl 0 (by decide) (hts _ k_172) (fun _ h9 => h9) rfl hin rfl (by decide +kernel) rfl rfl (Nat.le_of_ble_eq_true rfl) d_S_init_9 (fun H locs hP hD hS => ?_)
  have hP : va_P D vwCl [zO 5 h [.ref q_1, .null, .null, .null, .null, .int 0], zJ t q_1 32 (fun _ => 0)] H := hP
  have hD : va_D A [zO 5 h [.ref q_1, .null, .null, .null, .null, .int 0], zJ t q_1 32 (fun _ => 0)] := hD
  refine lv_aload_n hx hb d_S_init_12 rfl (lv_at hl 0 rfl) ?_
  refine lv_bipush (v := 8) hx hb d_S_init_13 (by decide) ?_
  refine va_newa (atype := .int) (ty := .int) (a0 := (8, .inl (fun _ => 0))) hx hb (hts _ k_86) rfl hK.2 hP hD hS hA (fun _ => rfl) (by decide) rfl (by decide) (Nat.le_of_ble_eq_true rfl) (Nat.le_of_ble_eq_true rfl) d_S_init_15 (fun q_3 c_4 H hKn hP hD hS => ?_)
  obtain rfl : c_4 = t 0 := xk_arr hKn (i := 0) rfl
  have hP : va_P D vwCl [zO 5 h [.ref q_1, .null, .null, .null, .null, .int 0], zJ t q_1 32 (fun _ => 0), zI t q_3 8 (fun _ => 0)] H := hP
  have hD : va_D A [zO 5 h [.ref q_1, .null, .null, .null, .null, .int 0], zJ t q_1 32 (fun _ => 0), zI t q_3 8 (fun _ => 0)] := hD
  refine va_putF (ci := 5) (v := .ref q_3) (ty := tyX5 1) (C := "QuorumStore$State") (T := TX5) (N := 6) hx hb hts inX5 tyX5 okX5 nmX5 hown hK.2 hP hD hS 0 rfl rfl 1 (by decide) (hts _ k_174) (fun _ h9 => h9) rfl hin rfl (by decide +kernel) rfl rfl (Nat.le_of_ble_eq_true rfl) d_S_init_17 (fun H locs hP hD hS => ?_)
  have hP : va_P D vwCl [zO 5 h [.ref q_1, .ref q_3, .null, .null, .null, .int 0], zJ t q_1 32 (fun _ => 0), zI t q_3 8 (fun _ => 0)] H := hP
  have hD : va_D A [zO 5 h [.ref q_1, .ref q_3, .null, .null, .null, .int 0], zJ t q_1 32 (fun _ => 0), zI t q_3 8 (fun _ => 0)] := hD
  refine lv_aload_n hx hb d_S_init_20 rfl (lv_at hl 0 rfl) ?_
  refine lv_bipush (v := 8) hx hb d_S_init_21 (by decide) ?_
  refine va_newa (atype := .long) (ty := .long) (a0 := (8, .inr (.inl (fun _ => 0)))) hx hb (hts _ k_196) rfl hK.2 hP hD hS hA (fun _ => rfl) (by decide) rfl (by decide) (Nat.le_of_ble_eq_true rfl) (Nat.le_of_ble_eq_true rfl) d_S_init_23 (fun q_5 c_6 H hKn hP hD hS => ?_)
  obtain rfl : c_6 = t 1 := xk_arr hKn (i := 1) rfl
  have hP : va_P D vwCl [zO 5 h [.ref q_1, .ref q_3, .null, .null, .null, .int 0], zJ t q_1 32 (fun _ => 0), zI t q_3 8 (fun _ => 0), zJ t q_5 8 (fun _ => 0)] H := hP
  have hD : va_D A [zO 5 h [.ref q_1, .ref q_3, .null, .null, .null, .int 0], zJ t q_1 32 (fun _ => 0), zI t q_3 8 (fun _ => 0), zJ t q_5 8 (fun _ => 0)] := hD
  refine va_putF (ci := 5) (v := .ref q_5) (ty := tyX5 2) (C := "QuorumStore$State") (T := TX5) (N := 6) hx hb hts inX5 tyX5 okX5 nmX5 hown hK.2 hP hD hS 0 rfl rfl 2 (by decide) (hts _ k_177) (fun _ h9 => h9) rfl hin rfl (by decide +kernel) rfl rfl (Nat.le_of_ble_eq_true rfl) d_S_init_25 (fun H locs hP hD hS => ?_)
  have hP : va_P D vwCl [zO 5 h [.ref q_1, .ref q_3, .ref q_5, .null, .null, .int 0], zJ t q_1 32 (fun _ => 0), zI t q_3 8 (fun _ => 0), zJ t q_5 8 (fun _ => 0)] H := hP
  have hD : va_D A [zO 5 h [.ref q_1, .ref q_3, .ref q_5, .null, .null, .int 0], zJ t q_1 32 (fun _ => 0), zI t q_3 8 (fun _ => 0), zJ t q_5 8 (fun _ => 0)] := hD
  refine lv_aload_n hx hb d_S_init_28 rfl (lv_at hl 0 rfl) ?_
  refine lv_iconst (v := 4) hx hb d_S_init_29 (by decide) ?_
  refine va_newa (atype := .int) (ty := .int) (a0 := (4, .inl (fun _ => 0))) hx hb (hts _ k_86) rfl hK.2 hP hD hS hA (fun _ => rfl) (by decide) rfl (by decide) (Nat.le_of_ble_eq_true rfl) (Nat.le_of_ble_eq_true rfl) d_S_init_30 (fun q_7 c_8 H hKn hP hD hS => ?_)
  obtain rfl : c_8 = t 0 := xk_arr hKn (i := 0) rfl
  have hP : va_P D vwCl [zO 5 h [.ref q_1, .ref q_3, .ref q_5, .null, .null, .int 0], zJ t q_1 32 (fun _ => 0), zI t q_3 8 (fun _ => 0), zJ t q_5 8 (fun _ => 0), zI t q_7 4 (fun _ => 0)] H := hP
  have hD : va_D A [zO 5 h [.ref q_1, .ref q_3, .ref q_5, .null, .null, .int 0], zJ t q_1 32 (fun _ => 0), zI t q_3 8 (fun _ => 0), zJ t q_5 8 (fun _ => 0), zI t q_7 4 (fun _ => 0)] := hD
  refine va_putF (ci := 5) (v := .ref q_7) (ty := tyX5 3) (C := "QuorumStore$State") (T := TX5) (N := 6) hx hb hts inX5 tyX5 okX5 nmX5 hown hK.2 hP hD hS 0 rfl rfl 3 (by decide) (hts _ k_179) (fun _ h9 => h9) rfl hin rfl (by decide +kernel) rfl rfl (Nat.le_of_ble_eq_true rfl) d_S_init_32 (fun H locs hP hD hS => ?_)
  have hP : va_P D vwCl [zO 5 h [.ref q_1, .ref q_3, .ref q_5, .ref q_7, .null, .int 0], zJ t q_1 32 (fun _ => 0), zI t q_3 8 (fun _ => 0), zJ t q_5 8 (fun _ => 0), zI t q_7 4 (fun _ => 0)] H := hP
  have hD : va_D A [zO 5 h [.ref q_1, .ref q_3, .ref q_5, .ref q_7, .null, .int 0], zJ t q_1 32 (fun _ => 0), zI t q_3 8 (fun _ => 0), zJ t q_5 8 (fun _ => 0), zI t q_7 4 (fun _ => 0)] := hD
  refine lv_aload_n hx hb d_S_init_35 rfl (lv_at hl 0 rfl) ?_
  refine lv_iconst (v := 4) hx hb d_S_init_36 (by decide) ?_
  refine va_newa (atype := .int) (ty := .int) (a0 := (4, .inl (fun _ => 0))) hx hb (hts _ k_86) rfl hK.2 hP hD hS hA (fun _ => rfl) (by decide) rfl (by decide) (Nat.le_of_ble_eq_true rfl) (Nat.le_of_ble_eq_true rfl) d_S_init_37 (fun q_9 c_10 H hKn hP hD hS => ?_)
  obtain rfl : c_10 = t 0 := xk_arr hKn (i := 0) rfl
  have hP : va_P D vwCl [zO 5 h [.ref q_1, .ref q_3, .ref q_5, .ref q_7, .null, .int 0], zJ t q_1 32 (fun _ => 0), zI t q_3 8 (fun _ => 0), zJ t q_5 8 (fun _ => 0), zI t q_7 4 (fun _ => 0), zI t q_9 4 (fun _ => 0)] H := hP
  have hD : va_D A [zO 5 h [.ref q_1, .ref q_3, .ref q_5, .ref q_7, .null, .int 0], zJ t q_1 32 (fun _ => 0), zI t q_3 8 (fun _ => 0), zJ t q_5 8 (fun _ => 0), zI t q_7 4 (fun _ => 0), zI t q_9 4 (fun _ => 0)] := hD
  refine va_putF (ci := 5) (v := .ref q_9) (ty := tyX5 4) (C := "QuorumStore$State") (T := TX5) (N := 6) hx hb hts inX5 tyX5 okX5 nmX5 hown hK.2 hP hD hS 0 rfl rfl 4 (by decide) (hts _ k_180) (fun _ h9 => h9) rfl hin rfl (by decide +kernel) rfl rfl (Nat.le_of_ble_eq_true rfl) d_S_init_39 (fun H locs hP hD hS => ?_)
  have hP : va_P D vwCl [zO 5 h [.ref q_1, .ref q_3, .ref q_5, .ref q_7, .ref q_9, .int 0], zJ t q_1 32 (fun _ => 0), zI t q_3 8 (fun _ => 0), zJ t q_5 8 (fun _ => 0), zI t q_7 4 (fun _ => 0), zI t q_9 4 (fun _ => 0)] H := hP
  have hD : va_D A [zO 5 h [.ref q_1, .ref q_3, .ref q_5, .ref q_7, .ref q_9, .int 0], zJ t q_1 32 (fun _ => 0), zI t q_3 8 (fun _ => 0), zJ t q_5 8 (fun _ => 0), zI t q_7 4 (fun _ => 0), zI t q_9 4 (fun _ => 0)] := hD
  refine lv_iconst (v := 0) hx hb d_S_init_42 (by decide) ?_
  refine lv_istore_n (lv' := [(2, .int 0), (0, .ref h), (1, .int mk)]) hx hb d_S_init_43 rfl hl (by decide) rfl (fun ls hl => ?_)
  have e0 : (fun _ => (0 : Int64)) = fun j => if j < 0 then 1099511627776 else 0 := by funext j; rfl
  rw [show (zJ t q_1 32 (fun _ => 0)) = zJ t q_1 32 (fun j => if j < 0 then 1099511627776 else 0) from by rw [← e0]] at hP hD
  have loop : ∀ (n : Nat) (i : Nat), i + n = 32 → ∀ (H : Heap) (locs : List Loc), va_P D vwCl [zO 5 h [.ref q_1, .ref q_3, .ref q_5, .ref q_7, .ref q_9, .int 0], zJ t q_1 32 (fun j => if j < i then 1099511627776 else 0), zI t q_3 8 (fun _ => 0), zJ t q_5 8 (fun _ => 0), zI t q_7 4 (fun _ => 0), zI t q_9 4 (fun _ => 0)] H → va_D A [zO 5 h [.ref q_1, .ref q_3, .ref q_5, .ref q_7, .ref q_9, .int 0], zJ t q_1 32 (fun j => if j < i then 1099511627776 else 0), zI t q_3 8 (fun _ => 0), zJ t q_5 8 (fun _ => 0), zI t q_7 4 (fun _ => 0), zI t q_9 4 (fun _ => 0)] → va_S A s.heap H locs → ∀ (ls : Array Slot), lv_has ls 3 [(2, .int (nI i)), (0, .ref h), (1, .int mk)] → W p l e ({ frames := 1, cells := 5, slots := 56, locals := 20 } : Room) s m ([.ref h, .int mk] : List Value).toArray below meth c H locs 5 56 (MQ below ((xe_v D vwCl (fun _ : Nat × Nat × Nat × Nat × Nat => True) (fun u => [zO 5 h [.ref u.1, .ref u.2.1, .ref u.2.2.1, .ref u.2.2.2.1, .ref u.2.2.2.2, .int 1], zJ t u.1 32 (fun _ => 1099511627776), zI t u.2.1 8 (fun _ => 0), zJ t u.2.2.1 8 (fun _ => 0), zI t u.2.2.2.1 4 (xm 1), zI t u.2.2.2.2 4 (xm mk)])) A) ([.ref h, .int mk] : List Value).toArray s 5 56 A) (F0 m 44 ls []) := by
    intro n
    induction n with
    | zero =>
      intro i hi H locs hP hD hS ls hl
      refine lv_iload_n hx hb d_S_init_44 rfl (lv_at hl 0 rfl) ?_
      refine lv_bipush (v := 32) hx hb d_S_init_45 (by decide) ?_
      refine lv_icmp_ge (tgt := 65) hx hb d_S_init_47 (by decide) (fun _ => ?_) (fun c_11 => absurd (nI_le (b := i) (a := 32) (by omega) (by omega)) c_11)
      obtain rfl : i = 32 := by omega
      have e1 := xa_J (D := D) (cl := vwCl) (t := t) (q := q_1) (n := 32) (g := fun _ => 1099511627776) (H := H) (fun j hj => if_pos hj) (hP 1 _ rfl)
      have hP := xd_set hP 1 rfl e1
      have hD := xd_setD (e' := (zJ t q_1 32 (fun _ => 1099511627776)).2) hD 1 rfl
      have hP : va_P D vwCl [zO 5 h [.ref q_1, .ref q_3, .ref q_5, .ref q_7, .ref q_9, .int 0], zJ t q_1 32 (fun _ => 1099511627776), zI t q_3 8 (fun _ => 0), zJ t q_5 8 (fun _ => 0), zI t q_7 4 (fun _ => 0), zI t q_9 4 (fun _ => 0)] H := hP
      have hD : va_D A [zO 5 h [.ref q_1, .ref q_3, .ref q_5, .ref q_7, .ref q_9, .int 0], zJ t q_1 32 (fun _ => 1099511627776), zI t q_3 8 (fun _ => 0), zJ t q_5 8 (fun _ => 0), zI t q_7 4 (fun _ => 0), zI t q_9 4 (fun _ => 0)] := hD
      refine lv_aload_n hx hb d_S_init_65 rfl (lv_at hl 1 rfl) ?_
      refine va_get (ci := 5) (C := "QuorumStore$State") (T := TX5) (N := 6) hx hb hts inX5 hown hK.2 hP 0 rfl rfl 3 (by decide) (hts _ k_179) (fun _ h9 => h9) rfl d_S_init_66 ?_
      refine lv_iconst (v := 0) hx hb d_S_init_69 (by decide) ?_
      refine lv_iconst (v := 1) hx hb d_S_init_70 (by decide) ?_
      refine va_iast hx hb hK.2 hP hD hS 4 0 rfl rfl (by unfold vp_in; decide) d_S_init_71 (fun H locs hP hD hS => ?_)
      rw [xu_m] at hP hD
      have hP : va_P D vwCl [zO 5 h [.ref q_1, .ref q_3, .ref q_5, .ref q_7, .ref q_9, .int 0], zJ t q_1 32 (fun _ => 1099511627776), zI t q_3 8 (fun _ => 0), zJ t q_5 8 (fun _ => 0), zI t q_7 4 (xm 1), zI t q_9 4 (fun _ => 0)] H := hP
      have hD : va_D A [zO 5 h [.ref q_1, .ref q_3, .ref q_5, .ref q_7, .ref q_9, .int 0], zJ t q_1 32 (fun _ => 1099511627776), zI t q_3 8 (fun _ => 0), zJ t q_5 8 (fun _ => 0), zI t q_7 4 (xm 1), zI t q_9 4 (fun _ => 0)] := hD
      refine lv_aload_n hx hb d_S_init_72 rfl (lv_at hl 1 rfl) ?_
      refine va_get (ci := 5) (C := "QuorumStore$State") (T := TX5) (N := 6) hx hb hts inX5 hown hK.2 hP 0 rfl rfl 4 (by decide) (hts _ k_180) (fun _ h9 => h9) rfl d_S_init_73 ?_
      refine lv_iconst (v := 0) hx hb d_S_init_76 (by decide) ?_
      refine lv_iload_n hx hb d_S_init_77 rfl (lv_at hl 2 rfl) ?_
      refine va_iast hx hb hK.2 hP hD hS 5 0 rfl rfl (by unfold vp_in; decide) d_S_init_78 (fun H locs hP hD hS => ?_)
      rw [xu_m] at hP hD
      have hP : va_P D vwCl [zO 5 h [.ref q_1, .ref q_3, .ref q_5, .ref q_7, .ref q_9, .int 0], zJ t q_1 32 (fun _ => 1099511627776), zI t q_3 8 (fun _ => 0), zJ t q_5 8 (fun _ => 0), zI t q_7 4 (xm 1), zI t q_9 4 (xm mk)] H := hP
      have hD : va_D A [zO 5 h [.ref q_1, .ref q_3, .ref q_5, .ref q_7, .ref q_9, .int 0], zJ t q_1 32 (fun _ => 1099511627776), zI t q_3 8 (fun _ => 0), zJ t q_5 8 (fun _ => 0), zI t q_7 4 (xm 1), zI t q_9 4 (xm mk)] := hD
      refine lv_aload_n hx hb d_S_init_79 rfl (lv_at hl 1 rfl) ?_
      refine lv_iconst (v := 1) hx hb d_S_init_80 (by decide) ?_
      refine va_put (ci := 5) (v := .int 1) (ty := tyX5 5) (C := "QuorumStore$State") (T := TX5) (N := 6) hx hb hts inX5 tyX5 okX5 nmX5 hown hK.2 hP hD hS 0 rfl rfl 5 (by decide) (hts _ k_181) (fun _ h9 => h9) rfl (by decide +kernel) rfl rfl (Nat.le_of_ble_eq_true rfl) d_S_init_81 (fun H locs hP hD hS => ?_)
      have hP : va_P D vwCl [zO 5 h [.ref q_1, .ref q_3, .ref q_5, .ref q_7, .ref q_9, .int 1], zJ t q_1 32 (fun _ => 1099511627776), zI t q_3 8 (fun _ => 0), zJ t q_5 8 (fun _ => 0), zI t q_7 4 (xm 1), zI t q_9 4 (xm mk)] H := hP
      have hD : va_D A [zO 5 h [.ref q_1, .ref q_3, .ref q_5, .ref q_7, .ref q_9, .int 1], zJ t q_1 32 (fun _ => 1099511627776), zI t q_3 8 (fun _ => 0), zJ t q_5 8 (fun _ => 0), zI t q_7 4 (xm 1), zI t q_9 4 (xm mk)] := hD
      exact W.vret hx hb hr (fun t ht hW => ⟨⟨(q_1, q_3, q_5, q_7, q_9), rfl, trivial, by rw [ht]; exact hP, hD⟩, hS.F ht⟩) hS.2.2 d_S_init_84
    | succ n ih =>
      intro i hi H locs hP hD hS ls hl
      refine lv_iload_n hx hb d_S_init_44 rfl (lv_at hl 0 rfl) ?_
      refine lv_bipush (v := 32) hx hb d_S_init_45 (by decide) ?_
      refine lv_icmp_ge (tgt := 65) hx hb d_S_init_47 (by decide) (fun c_12 => absurd c_12 (nI_ge (a := i) (b := 32) (by omega) (by omega))) (fun _ => ?_)
      refine lv_aload_n hx hb d_S_init_50 rfl (lv_at hl 1 rfl) ?_
      refine va_get (ci := 5) (C := "QuorumStore$State") (T := TX5) (N := 6) hx hb hts inX5 hown hK.2 hP 0 rfl rfl 0 (by decide) (hts _ k_172) (fun _ h9 => h9) rfl d_S_init_51 ?_
      refine lv_iload_n hx hb d_S_init_54 rfl (lv_at hl 0 rfl) ?_
      refine lv_ldc2 (v := 1099511627776) hx hb hown (hts _ k_171) d_S_init_55 ?_
      refine va_last hx hb hK.2 hP hD hS 1 1 rfl rfl (vp_in_nI (by omega) (by decide)) d_S_init_58 (fun H locs hP hD hS => ?_)
      rw [xu_J (by omega)] at hP hD
      have hP : va_P D vwCl [zO 5 h [.ref q_1, .ref q_3, .ref q_5, .ref q_7, .ref q_9, .int 0], zJ t q_1 32 (fun j => if j < i + 1 then 1099511627776 else 0), zI t q_3 8 (fun _ => 0), zJ t q_5 8 (fun _ => 0), zI t q_7 4 (fun _ => 0), zI t q_9 4 (fun _ => 0)] H := hP
      have hD : va_D A [zO 5 h [.ref q_1, .ref q_3, .ref q_5, .ref q_7, .ref q_9, .int 0], zJ t q_1 32 (fun j => if j < i + 1 then 1099511627776 else 0), zI t q_3 8 (fun _ => 0), zJ t q_5 8 (fun _ => 0), zI t q_7 4 (fun _ => 0), zI t q_9 4 (fun _ => 0)] := hD
      refine lv_iinc (v := nI (i + 1)) (lv' := [(2, .int (nI (i + 1))), (0, .ref h), (1, .int mk)]) hx hb d_S_init_59 hl (k := 0) rfl (nI_1 i) (by decide) rfl (fun ls hl => ?_)
      refine lv_goto (tgt := 44) hx hb d_S_init_62 (by decide) ?_
      exact ih (i + 1) (by omega) H locs hP hD hS ls (lv_sub hl [0, 1, 2] rfl)
  exact loop 32 0 (by omega) _ _ hP hD hS ls (lv_sub hl [0, 1, 2] rfl)
theorem d_L_init_0 : decode c_L_init 0 = .ok (.aload_n 0, 1) := by decide +kernel
theorem d_L_init_1 : decode c_L_init 1 = .ok (.invokespecial 3, 3) := by decide +kernel
theorem d_L_init_4 : decode c_L_init 4 = .ok (.aload_n 0, 1) := by decide +kernel
theorem d_L_init_5 : decode c_L_init 5 = .ok (.new 9, 3) := by decide +kernel
theorem d_L_init_8 : decode c_L_init 8 = .ok (.dup, 1) := by decide +kernel
theorem d_L_init_9 : decode c_L_init 9 = .ok (.iconst 0, 1) := by decide +kernel
theorem d_L_init_10 : decode c_L_init 10 = .ok (.iconst 0, 1) := by decide +kernel
theorem d_L_init_11 : decode c_L_init 11 = .ok (.iconst 0, 1) := by decide +kernel
theorem d_L_init_12 : decode c_L_init 12 = .ok (.iconst 0, 1) := by decide +kernel
theorem d_L_init_13 : decode c_L_init 13 = .ok (.iconst 0, 1) := by decide +kernel
theorem d_L_init_14 : decode c_L_init 14 = .ok (.iconst 0, 1) := by decide +kernel
theorem d_L_init_15 : decode c_L_init 15 = .ok (.invokespecial 11, 3) := by decide +kernel
theorem d_L_init_18 : decode c_L_init 18 = .ok (.putfield 14, 3) := by decide +kernel
theorem d_L_init_21 : decode c_L_init 21 = .ok (.aload_n 0, 1) := by decide +kernel
theorem d_L_init_22 : decode c_L_init 22 = .ok (.new 20, 3) := by decide +kernel
theorem d_L_init_25 : decode c_L_init 25 = .ok (.dup, 1) := by decide +kernel
theorem d_L_init_26 : decode c_L_init 26 = .ok (.bipush 32, 2) := by decide +kernel
theorem d_L_init_28 : decode c_L_init 28 = .ok (.invokespecial 22, 3) := by decide +kernel
theorem d_L_init_31 : decode c_L_init 31 = .ok (.putfield 25, 3) := by decide +kernel
theorem d_L_init_34 : decode c_L_init 34 = .ok (.aload_n 0, 1) := by decide +kernel
theorem d_L_init_35 : decode c_L_init 35 = .ok (.new 20, 3) := by decide +kernel
theorem d_L_init_38 : decode c_L_init 38 = .ok (.dup, 1) := by decide +kernel
theorem d_L_init_39 : decode c_L_init 39 = .ok (.iconst 4, 1) := by decide +kernel
theorem d_L_init_40 : decode c_L_init 40 = .ok (.invokespecial 22, 3) := by decide +kernel
theorem d_L_init_43 : decode c_L_init 43 = .ok (.putfield 29, 3) := by decide +kernel
theorem d_L_init_46 : decode c_L_init 46 = .ok (.aload_n 0, 1) := by decide +kernel
theorem d_L_init_47 : decode c_L_init 47 = .ok (.bipush 16, 2) := by decide +kernel
theorem d_L_init_49 : decode c_L_init 49 = .ok (.anewarray 9, 3) := by decide +kernel
theorem d_L_init_52 : decode c_L_init 52 = .ok (.putfield 32, 3) := by decide +kernel
theorem d_L_init_55 : decode c_L_init 55 = .ok (.return_, 1) := by decide +kernel
set_option maxHeartbeats 4000000 in
set_option maxRecDepth 100000 in
/-- a new lead -/
theorem C_L_init (l : Launch) (D : va_G) (t : Nat → ClassId) (h : Nat) : xe_C l D vwCl (xTY t) y_L_init c_L_init 1 (Option.none : Option FieldType) ({ frames := 2, cells := 10, slots := 136, locals := 46 }) [.ref h] [zO 0 h [.null, .int 0, .null, .null, .null, .int 0, .int 0, .int 0]] (xe_v D vwCl (fun _ : Nat × Nat × Nat × Nat × Nat × Nat × Nat × Nat × Nat × Nat => True) (fun u => [zO 0 h [.ref u.1, .int 0, .ref u.2.1, .ref u.2.2.2.2.2.1, .ref u.2.2.2.2.2.2.2.2.2, .int 0, .int 0, .int 0], zO 4 u.2.1 [.ref u.2.2.1, .ref u.2.2.2.1, .ref u.2.2.2.2.1], zI t u.2.2.1 32 (fun _ => 0), zI t u.2.2.2.1 32 (fun _ => 0), zA t 2 u.2.2.2.2.1 32 (fun _ => none), zO 4 u.2.2.2.2.2.1 [.ref u.2.2.2.2.2.2.1, .ref u.2.2.2.2.2.2.2.1, .ref u.2.2.2.2.2.2.2.2.1], zI t u.2.2.2.2.2.2.1 4 (fun _ => 0), zI t u.2.2.2.2.2.2.2.1 4 (fun _ => 0), zA t 2 u.2.2.2.2.2.2.2.2.1 4 (fun _ => none), zA t 2 u.2.2.2.2.2.2.2.2.2 16 (fun _ => none)])) 10 136 := by
  refine xe_of (by decide) (Nat.le_of_ble_eq_true rfl) ?_
  intro p e s m below meth c ls A Z hr hlocks hin hA hP hD hS hl
  obtain ⟨hx, hb, hml, hown, hK⟩ := id Z
  have hown : s.vm.findClass "QuorumStore$Lead" = some m.cls := hown
  have hts := hK.1.at (args := ([.ref h] : List Value).toArray)
  have hl : lv_has ls 1 [(0, .ref h)] := hl
  refine lv_aload_n hx hb d_L_init_0 rfl (lv_at hl 0 rfl) ?_
  refine W.objInit hx hb hown (hts _ k_92) (hts _ k_30) (hts _ k_31) rfl (by rw [hml]; exact hl.1) rfl d_L_init_1 (Nat.le_of_ble_eq_true rfl) (Nat.le_of_ble_eq_true rfl) ?_
  refine W.eq (g2 := F0 m 4 ls []) rfl ?_
  refine lv_aload_n hx hb d_L_init_4 rfl (lv_at hl 0 rfl) ?_
  refine va_new (ci := 6) (fs := [.int 0, .int 0, .int 0, .int 0, .int 0, .int 0]) (C := "QuorumStore$Value") (T := TX6) (N := 6) hx hb hts inX6 tyX6 okX6 hown (hts _ k_93) (hts _ k_94) (hts _ k_6) hK.2 hP hD hS hA rfl (by decide) (Nat.le_of_ble_eq_true rfl) (Nat.le_of_ble_eq_true rfl) d_L_init_5 (fun q_1 H hP hD hS => ?_)
  have hP : va_P D vwCl [zO 0 h [.null, .int 0, .null, .null, .null, .int 0, .int 0, .int 0], zO 6 q_1 [.int 0, .int 0, .int 0, .int 0, .int 0, .int 0]] H := hP
  have hD : va_D A [zO 0 h [.null, .int 0, .null, .null, .null, .int 0, .int 0, .int 0], zO 6 q_1 [.int 0, .int 0, .int 0, .int 0, .int 0, .int 0]] := hD
  refine lv_dup hx hb d_L_init_8 rfl ?_
  refine lv_iconst (v := 0) hx hb d_L_init_9 (by decide) ?_
  refine lv_iconst (v := 0) hx hb d_L_init_10 (by decide) ?_
  refine lv_iconst (v := 0) hx hb d_L_init_11 (by decide) ?_
  refine lv_iconst (v := 0) hx hb d_L_init_12 (by decide) ?_
  refine lv_iconst (v := 0) hx hb d_L_init_13 (by decide) ?_
  refine lv_iconst (v := 0) hx hb d_L_init_14 (by decide) ?_
  refine xe_callv (wr := [zO 0 h [.null, .int 0, .null, .null, .null, .int 0, .int 0, .int 0]]) (xs_I (As := [.int 0, .int 0, .int 0, .int 0, .int 0, .int 0]) (rest := [.ref q_1, .ref h]) Z (C_V_init l D t q_1 0 0 0 0 0 0 H.size) m_V_init k_95 k_96 rfl rfl rfl ⟨Nat.le_of_ble_eq_true rfl, Nat.le_of_ble_eq_true rfl⟩ (xe_pre hK (hP.sub [1] rfl) (hD.sub [1] (by decide) rfl)) rfl hl.1 rfl (Nat.le_of_ble_eq_true rfl) d_L_init_15 ⟨Nat.le_of_ble_eq_true rfl, Nat.le_of_ble_eq_true rfl⟩) hP hD hS hA [1] [0] rfl rfl (by decide) (by decide) (fun u_ H locs _ hP hD hS => ?_)
  have hP : va_P D vwCl [zO 0 h [.null, .int 0, .null, .null, .null, .int 0, .int 0, .int 0], zO 6 q_1 [.int 0, .int 0, .int 0, .int 0, .int 0, .int 0]] H := hP
  have hD : va_D A [zO 0 h [.null, .int 0, .null, .null, .null, .int 0, .int 0, .int 0], zO 6 q_1 [.int 0, .int 0, .int 0, .int 0, .int 0, .int 0]] := hD
  refine va_putF (ci := 0) (v := .ref q_1) (ty := tyX0 0) (C := "QuorumStore$Lead") (T := TX0) (N := 8) hx hb hts inX0 tyX0 okX0 nmX0 hown hK.2 hP hD hS 0 rfl rfl 0 (by decide) (hts _ k_134) (fun _ h9 => h9) rfl hin rfl (by decide +kernel) rfl rfl (Nat.le_of_ble_eq_true rfl) d_L_init_18 (fun H locs hP hD hS => ?_)
  have hP : va_P D vwCl [zO 0 h [.ref q_1, .int 0, .null, .null, .null, .int 0, .int 0, .int 0], zO 6 q_1 [.int 0, .int 0, .int 0, .int 0, .int 0, .int 0]] H := hP
  have hD : va_D A [zO 0 h [.ref q_1, .int 0, .null, .null, .null, .int 0, .int 0, .int 0], zO 6 q_1 [.int 0, .int 0, .int 0, .int 0, .int 0, .int 0]] := hD
  refine lv_aload_n hx hb d_L_init_21 rfl (lv_at hl 0 rfl) ?_
  refine va_new (ci := 4) (fs := [.null, .null, .null]) (C := "QuorumStore$Row") (T := TX4) (N := 3) hx hb hts inX4 tyX4 okX4 hown (hts _ k_132) (hts _ k_68) (hts _ k_4) hK.2 hP hD hS hA rfl (by decide) (Nat.le_of_ble_eq_true rfl) (Nat.le_of_ble_eq_true rfl) d_L_init_22 (fun q_2 H hP hD hS => ?_)
  have hP : va_P D vwCl [zO 0 h [.ref q_1, .int 0, .null, .null, .null, .int 0, .int 0, .int 0], zO 6 q_1 [.int 0, .int 0, .int 0, .int 0, .int 0, .int 0], zO 4 q_2 [.null, .null, .null]] H := hP
  have hD : va_D A [zO 0 h [.ref q_1, .int 0, .null, .null, .null, .int 0, .int 0, .int 0], zO 6 q_1 [.int 0, .int 0, .int 0, .int 0, .int 0, .int 0], zO 4 q_2 [.null, .null, .null]] := hD
  refine lv_dup hx hb d_L_init_25 rfl ?_
  refine lv_bipush (v := 32) hx hb d_L_init_26 (by decide) ?_
  refine xe_callv (wr := [zO 0 h [.ref q_1, .int 0, .null, .null, .null, .int 0, .int 0, .int 0], zO 6 q_1 [.int 0, .int 0, .int 0, .int 0, .int 0, .int 0]]) (xs_I (As := [.int 32]) (rest := [.ref q_2, .ref h]) Z (C_R_init_32 l D t q_2 H.size) m_R_init k_133 k_70 rfl rfl rfl ⟨Nat.le_of_ble_eq_true rfl, Nat.le_of_ble_eq_true rfl⟩ (xe_pre hK (hP.sub [2] rfl) (hD.sub [2] (by decide) rfl)) rfl hl.1 rfl (Nat.le_of_ble_eq_true rfl) d_L_init_28 ⟨Nat.le_of_ble_eq_true rfl, Nat.le_of_ble_eq_true rfl⟩) hP hD hS hA [2] [0, 1] rfl rfl (by decide) (by decide) (fun u_ H locs _ hP hD hS => ?_)
  obtain ⟨a1, b1, v1⟩ := u_
  have hP : va_P D vwCl [zO 0 h [.ref q_1, .int 0, .null, .null, .null, .int 0, .int 0, .int 0], zO 6 q_1 [.int 0, .int 0, .int 0, .int 0, .int 0, .int 0], zO 4 q_2 [.ref a1, .ref b1, .ref v1], zI t a1 32 (fun _ => 0), zI t b1 32 (fun _ => 0), zA t 2 v1 32 (fun _ => none)] H := hP
  have hD : va_D A [zO 0 h [.ref q_1, .int 0, .null, .null, .null, .int 0, .int 0, .int 0], zO 6 q_1 [.int 0, .int 0, .int 0, .int 0, .int 0, .int 0], zO 4 q_2 [.ref a1, .ref b1, .ref v1], zI t a1 32 (fun _ => 0), zI t b1 32 (fun _ => 0), zA t 2 v1 32 (fun _ => none)] := hD
  refine va_putF (ci := 0) (v := .ref q_2) (ty := tyX0 2) (C := "QuorumStore$Lead") (T := TX0) (N := 8) hx hb hts inX0 tyX0 okX0 nmX0 hown hK.2 hP hD hS 0 rfl rfl 2 (by decide) (hts _ k_138) (fun _ h9 => h9) rfl hin rfl (by decide +kernel) rfl rfl (Nat.le_of_ble_eq_true rfl) d_L_init_31 (fun H locs hP hD hS => ?_)
  have hP : va_P D vwCl [zO 0 h [.ref q_1, .int 0, .ref q_2, .null, .null, .int 0, .int 0, .int 0], zO 6 q_1 [.int 0, .int 0, .int 0, .int 0, .int 0, .int 0], zO 4 q_2 [.ref a1, .ref b1, .ref v1], zI t a1 32 (fun _ => 0), zI t b1 32 (fun _ => 0), zA t 2 v1 32 (fun _ => none)] H := hP
  have hD : va_D A [zO 0 h [.ref q_1, .int 0, .ref q_2, .null, .null, .int 0, .int 0, .int 0], zO 6 q_1 [.int 0, .int 0, .int 0, .int 0, .int 0, .int 0], zO 4 q_2 [.ref a1, .ref b1, .ref v1], zI t a1 32 (fun _ => 0), zI t b1 32 (fun _ => 0), zA t 2 v1 32 (fun _ => none)] := hD
  refine lv_aload_n hx hb d_L_init_34 rfl (lv_at hl 0 rfl) ?_
  refine va_new (ci := 4) (fs := [.null, .null, .null]) (C := "QuorumStore$Row") (T := TX4) (N := 3) hx hb hts inX4 tyX4 okX4 hown (hts _ k_132) (hts _ k_68) (hts _ k_4) hK.2 hP hD hS hA rfl (by decide) (Nat.le_of_ble_eq_true rfl) (Nat.le_of_ble_eq_true rfl) d_L_init_35 (fun q_3 H hP hD hS => ?_)
  have hP : va_P D vwCl [zO 0 h [.ref q_1, .int 0, .ref q_2, .null, .null, .int 0, .int 0, .int 0], zO 6 q_1 [.int 0, .int 0, .int 0, .int 0, .int 0, .int 0], zO 4 q_2 [.ref a1, .ref b1, .ref v1], zI t a1 32 (fun _ => 0), zI t b1 32 (fun _ => 0), zA t 2 v1 32 (fun _ => none), zO 4 q_3 [.null, .null, .null]] H := hP
  have hD : va_D A [zO 0 h [.ref q_1, .int 0, .ref q_2, .null, .null, .int 0, .int 0, .int 0], zO 6 q_1 [.int 0, .int 0, .int 0, .int 0, .int 0, .int 0], zO 4 q_2 [.ref a1, .ref b1, .ref v1], zI t a1 32 (fun _ => 0), zI t b1 32 (fun _ => 0), zA t 2 v1 32 (fun _ => none), zO 4 q_3 [.null, .null, .null]] := hD
  refine lv_dup hx hb d_L_init_38 rfl ?_
  refine lv_iconst (v := 4) hx hb d_L_init_39 (by decide) ?_
  refine xe_callv (wr := [zO 0 h [.ref q_1, .int 0, .ref q_2, .null, .null, .int 0, .int 0, .int 0], zO 6 q_1 [.int 0, .int 0, .int 0, .int 0, .int 0, .int 0], zO 4 q_2 [.ref a1, .ref b1, .ref v1], zI t a1 32 (fun _ => 0), zI t b1 32 (fun _ => 0), zA t 2 v1 32 (fun _ => none)]) (xs_I (As := [.int 4]) (rest := [.ref q_3, .ref h]) Z (C_R_init_4 l D t q_3 H.size) m_R_init k_133 k_70 rfl rfl rfl ⟨Nat.le_of_ble_eq_true rfl, Nat.le_of_ble_eq_true rfl⟩ (xe_pre hK (hP.sub [6] rfl) (hD.sub [6] (by decide) rfl)) rfl hl.1 rfl (Nat.le_of_ble_eq_true rfl) d_L_init_40 ⟨Nat.le_of_ble_eq_true rfl, Nat.le_of_ble_eq_true rfl⟩) hP hD hS hA [6] [0, 1, 2, 3, 4, 5] rfl rfl (by decide) (by decide) (fun u_ H locs _ hP hD hS => ?_)
  obtain ⟨a2, b2, v2⟩ := u_
  have hP : va_P D vwCl [zO 0 h [.ref q_1, .int 0, .ref q_2, .null, .null, .int 0, .int 0, .int 0], zO 6 q_1 [.int 0, .int 0, .int 0, .int 0, .int 0, .int 0], zO 4 q_2 [.ref a1, .ref b1, .ref v1], zI t a1 32 (fun _ => 0), zI t b1 32 (fun _ => 0), zA t 2 v1 32 (fun _ => none), zO 4 q_3 [.ref a2, .ref b2, .ref v2], zI t a2 4 (fun _ => 0), zI t b2 4 (fun _ => 0), zA t 2 v2 4 (fun _ => none)] H := hP
  have hD : va_D A [zO 0 h [.ref q_1, .int 0, .ref q_2, .null, .null, .int 0, .int 0, .int 0], zO 6 q_1 [.int 0, .int 0, .int 0, .int 0, .int 0, .int 0], zO 4 q_2 [.ref a1, .ref b1, .ref v1], zI t a1 32 (fun _ => 0), zI t b1 32 (fun _ => 0), zA t 2 v1 32 (fun _ => none), zO 4 q_3 [.ref a2, .ref b2, .ref v2], zI t a2 4 (fun _ => 0), zI t b2 4 (fun _ => 0), zA t 2 v2 4 (fun _ => none)] := hD
  refine va_putF (ci := 0) (v := .ref q_3) (ty := tyX0 3) (C := "QuorumStore$Lead") (T := TX0) (N := 8) hx hb hts inX0 tyX0 okX0 nmX0 hown hK.2 hP hD hS 0 rfl rfl 3 (by decide) (hts _ k_140) (fun _ h9 => h9) rfl hin rfl (by decide +kernel) rfl rfl (Nat.le_of_ble_eq_true rfl) d_L_init_43 (fun H locs hP hD hS => ?_)
  have hP : va_P D vwCl [zO 0 h [.ref q_1, .int 0, .ref q_2, .ref q_3, .null, .int 0, .int 0, .int 0], zO 6 q_1 [.int 0, .int 0, .int 0, .int 0, .int 0, .int 0], zO 4 q_2 [.ref a1, .ref b1, .ref v1], zI t a1 32 (fun _ => 0), zI t b1 32 (fun _ => 0), zA t 2 v1 32 (fun _ => none), zO 4 q_3 [.ref a2, .ref b2, .ref v2], zI t a2 4 (fun _ => 0), zI t b2 4 (fun _ => 0), zA t 2 v2 4 (fun _ => none)] H := hP
  have hD : va_D A [zO 0 h [.ref q_1, .int 0, .ref q_2, .ref q_3, .null, .int 0, .int 0, .int 0], zO 6 q_1 [.int 0, .int 0, .int 0, .int 0, .int 0, .int 0], zO 4 q_2 [.ref a1, .ref b1, .ref v1], zI t a1 32 (fun _ => 0), zI t b1 32 (fun _ => 0), zA t 2 v1 32 (fun _ => none), zO 4 q_3 [.ref a2, .ref b2, .ref v2], zI t a2 4 (fun _ => 0), zI t b2 4 (fun _ => 0), zA t 2 v2 4 (fun _ => none)] := hD
  refine lv_aload_n hx hb d_L_init_46 rfl (lv_at hl 0 rfl) ?_
  refine lv_bipush (v := 16) hx hb d_L_init_47 (by decide) ?_
  refine va_newq (N' := 16) hx hb hown (hts _ k_93) (va_AO.of (hts _ k_74)) hK.2 hP hD hS hA (by decide) rfl (by decide) (Nat.le_of_ble_eq_true rfl) (Nat.le_of_ble_eq_true rfl) d_L_init_49 (fun q_4 c_5 H hKn hP hD hS => ?_)
  obtain rfl : c_5 = t 2 := xk_arr hKn (i := 2) rfl
  have hP : va_P D vwCl [zO 0 h [.ref q_1, .int 0, .ref q_2, .ref q_3, .null, .int 0, .int 0, .int 0], zO 6 q_1 [.int 0, .int 0, .int 0, .int 0, .int 0, .int 0], zO 4 q_2 [.ref a1, .ref b1, .ref v1], zI t a1 32 (fun _ => 0), zI t b1 32 (fun _ => 0), zA t 2 v1 32 (fun _ => none), zO 4 q_3 [.ref a2, .ref b2, .ref v2], zI t a2 4 (fun _ => 0), zI t b2 4 (fun _ => 0), zA t 2 v2 4 (fun _ => none), zA t 2 q_4 16 (fun _ => none)] H := hP
  have hD : va_D A [zO 0 h [.ref q_1, .int 0, .ref q_2, .ref q_3, .null, .int 0, .int 0, .int 0], zO 6 q_1 [.int 0, .int 0, .int 0, .int 0, .int 0, .int 0], zO 4 q_2 [.ref a1, .ref b1, .ref v1], zI t a1 32 (fun _ => 0), zI t b1 32 (fun _ => 0), zA t 2 v1 32 (fun _ => none), zO 4 q_3 [.ref a2, .ref b2, .ref v2], zI t a2 4 (fun _ => 0), zI t b2 4 (fun _ => 0), zA t 2 v2 4 (fun _ => none), zA t 2 q_4 16 (fun _ => none)] := hD
  refine va_putF (ci := 0) (v := .ref q_4) (ty := tyX0 4) (C := "QuorumStore$Lead") (T := TX0) (N := 8) hx hb hts inX0 tyX0 okX0 nmX0 hown hK.2 hP hD hS 0 rfl rfl 4 (by decide) (hts _ k_143) (fun _ h9 => h9) rfl hin rfl (by decide +kernel) rfl rfl (Nat.le_of_ble_eq_true rfl) d_L_init_52 (fun H locs hP hD hS => ?_)
  have hP : va_P D vwCl [zO 0 h [.ref q_1, .int 0, .ref q_2, .ref q_3, .ref q_4, .int 0, .int 0, .int 0], zO 6 q_1 [.int 0, .int 0, .int 0, .int 0, .int 0, .int 0], zO 4 q_2 [.ref a1, .ref b1, .ref v1], zI t a1 32 (fun _ => 0), zI t b1 32 (fun _ => 0), zA t 2 v1 32 (fun _ => none), zO 4 q_3 [.ref a2, .ref b2, .ref v2], zI t a2 4 (fun _ => 0), zI t b2 4 (fun _ => 0), zA t 2 v2 4 (fun _ => none), zA t 2 q_4 16 (fun _ => none)] H := hP
  have hD : va_D A [zO 0 h [.ref q_1, .int 0, .ref q_2, .ref q_3, .ref q_4, .int 0, .int 0, .int 0], zO 6 q_1 [.int 0, .int 0, .int 0, .int 0, .int 0, .int 0], zO 4 q_2 [.ref a1, .ref b1, .ref v1], zI t a1 32 (fun _ => 0), zI t b1 32 (fun _ => 0), zA t 2 v1 32 (fun _ => none), zO 4 q_3 [.ref a2, .ref b2, .ref v2], zI t a2 4 (fun _ => 0), zI t b2 4 (fun _ => 0), zA t 2 v2 4 (fun _ => none), zA t 2 q_4 16 (fun _ => none)] := hD
  have hP := hP.sub (ws' := [zO 0 h [.ref q_1, .int 0, .ref q_2, .ref q_3, .ref q_4, .int 0, .int 0, .int 0], zO 4 q_2 [.ref a1, .ref b1, .ref v1], zI t a1 32 (fun _ => 0), zI t b1 32 (fun _ => 0), zA t 2 v1 32 (fun _ => none), zO 4 q_3 [.ref a2, .ref b2, .ref v2], zI t a2 4 (fun _ => 0), zI t b2 4 (fun _ => 0), zA t 2 v2 4 (fun _ => none), zA t 2 q_4 16 (fun _ => none)]) [0, 2, 3, 4, 5, 6, 7, 8, 9, 10] rfl
  have hD := hD.sub (ws' := [zO 0 h [.ref q_1, .int 0, .ref q_2, .ref q_3, .ref q_4, .int 0, .int 0, .int 0], zO 4 q_2 [.ref a1, .ref b1, .ref v1], zI t a1 32 (fun _ => 0), zI t b1 32 (fun _ => 0), zA t 2 v1 32 (fun _ => none), zO 4 q_3 [.ref a2, .ref b2, .ref v2], zI t a2 4 (fun _ => 0), zI t b2 4 (fun _ => 0), zA t 2 v2 4 (fun _ => none), zA t 2 q_4 16 (fun _ => none)]) [0, 2, 3, 4, 5, 6, 7, 8, 9, 10] (by decide) rfl
  exact W.vret hx hb hr (fun t ht hW => ⟨⟨(q_1, q_2, a1, b1, v1, q_3, a2, b2, v2, q_4), rfl, trivial, by rw [ht]; exact hP, hD⟩, hS.F ht⟩) hS.2.2 d_L_init_55
theorem d_N_init_0 : decode c_N_init 0 = .ok (.aload_n 0, 1) := by decide +kernel
theorem d_N_init_1 : decode c_N_init 1 = .ok (.invokespecial 3, 3) := by decide +kernel
theorem d_N_init_4 : decode c_N_init 4 = .ok (.aload_n 0, 1) := by decide +kernel
theorem d_N_init_5 : decode c_N_init 5 = .ok (.sipush 300, 3) := by decide +kernel
theorem d_N_init_8 : decode c_N_init 8 = .ok (.anewarray 9, 3) := by decide +kernel
theorem d_N_init_11 : decode c_N_init 11 = .ok (.putfield 11, 3) := by decide +kernel
theorem d_N_init_14 : decode c_N_init 14 = .ok (.return_, 1) := by decide +kernel
set_option maxHeartbeats 4000000 in
set_option maxRecDepth 100000 in
/-- a new network -/
theorem C_N_init (l : Launch) (D : va_G) (t : Nat → ClassId) (h : Nat) : xe_C l D vwCl (xTY t) y_N_init c_N_init 1 (Option.none : Option FieldType) ({ frames := 1, cells := 1, slots := 300, locals := 20 }) [.ref h] [zO 2 h [.null, .int 0, .int 0, .int 0, .int 0]] (xe_v D vwCl (fun _ : Nat => True) (fun u => [zO 2 h [.ref u, .int 0, .int 0, .int 0, .int 0], zA t 3 u 300 (fun _ => none)])) 1 300 := by
  refine xe_of (by decide) (Nat.le_of_ble_eq_true rfl) ?_
  intro p e s m below meth c ls A Z hr hlocks hin hA hP hD hS hl
  obtain ⟨hx, hb, hml, hown, hK⟩ := id Z
  have hown : s.vm.findClass "QuorumStore$Network" = some m.cls := hown
  have hts := hK.1.at (args := ([.ref h] : List Value).toArray)
  have hl : lv_has ls 1 [(0, .ref h)] := hl
  refine lv_aload_n hx hb d_N_init_0 rfl (lv_at hl 0 rfl) ?_
  refine W.objInit hx hb hown (hts _ k_37) (hts _ k_30) (hts _ k_31) rfl (by rw [hml]; exact hl.1) rfl d_N_init_1 (Nat.le_of_ble_eq_true rfl) (Nat.le_of_ble_eq_true rfl) ?_
  refine W.eq (g2 := F0 m 4 ls []) rfl ?_
  refine lv_aload_n hx hb d_N_init_4 rfl (lv_at hl 0 rfl) ?_
  refine lv_sipush (v := 300) hx hb d_N_init_5 (by decide) ?_
  refine va_newq (N' := 300) hx hb hown (hts _ k_38) (va_AO.of (hts _ k_39)) hK.2 hP hD hS hA (by decide) rfl (by decide) (Nat.le_of_ble_eq_true rfl) (Nat.le_of_ble_eq_true rfl) d_N_init_8 (fun q_1 c_2 H hKn hP hD hS => ?_)
  obtain rfl : c_2 = t 3 := xk_arr hKn (i := 3) rfl
  have hP : va_P D vwCl [zO 2 h [.null, .int 0, .int 0, .int 0, .int 0], zA t 3 q_1 300 (fun _ => none)] H := hP
  have hD : va_D A [zO 2 h [.null, .int 0, .int 0, .int 0, .int 0], zA t 3 q_1 300 (fun _ => none)] := hD
  refine va_putF (ci := 2) (v := .ref q_1) (ty := tyX2 0) (C := "QuorumStore$Network") (T := TX2) (N := 5) hx hb hts inX2 tyX2 okX2 nmX2 hown hK.2 hP hD hS 0 rfl rfl 0 (by decide) (hts _ k_40) (fun _ h9 => h9) rfl hin rfl (by decide +kernel) rfl rfl (Nat.le_of_ble_eq_true rfl) d_N_init_11 (fun H locs hP hD hS => ?_)
  have hP : va_P D vwCl [zO 2 h [.ref q_1, .int 0, .int 0, .int 0, .int 0], zA t 3 q_1 300 (fun _ => none)] H := hP
  have hD : va_D A [zO 2 h [.ref q_1, .int 0, .int 0, .int 0, .int 0], zA t 3 q_1 300 (fun _ => none)] := hD
  exact W.vret hx hb hr (fun t ht hW => ⟨⟨q_1, rfl, trivial, by rw [ht]; exact hP, hD⟩, hS.F ht⟩) hS.2.2 d_N_init_14
theorem d_D_init_0 : decode c_D_init 0 = .ok (.aload_n 0, 1) := by decide +kernel
theorem d_D_init_1 : decode c_D_init 1 = .ok (.invokespecial 3, 3) := by decide +kernel
theorem d_D_init_4 : decode c_D_init 4 = .ok (.aload_n 0, 1) := by decide +kernel
theorem d_D_init_5 : decode c_D_init 5 = .ok (.new 9, 3) := by decide +kernel
theorem d_D_init_8 : decode c_D_init 8 = .ok (.dup, 1) := by decide +kernel
theorem d_D_init_9 : decode c_D_init 9 = .ok (.bipush 32, 2) := by decide +kernel
theorem d_D_init_11 : decode c_D_init 11 = .ok (.invokespecial 11, 3) := by decide +kernel
theorem d_D_init_14 : decode c_D_init 14 = .ok (.putfield 14, 3) := by decide +kernel
theorem d_D_init_17 : decode c_D_init 17 = .ok (.aload_n 0, 1) := by decide +kernel
theorem d_D_init_18 : decode c_D_init 18 = .ok (.new 9, 3) := by decide +kernel
theorem d_D_init_21 : decode c_D_init 21 = .ok (.dup, 1) := by decide +kernel
theorem d_D_init_22 : decode c_D_init 22 = .ok (.bipush 64, 2) := by decide +kernel
theorem d_D_init_24 : decode c_D_init 24 = .ok (.invokespecial 11, 3) := by decide +kernel
theorem d_D_init_27 : decode c_D_init 27 = .ok (.putfield 20, 3) := by decide +kernel
theorem d_D_init_30 : decode c_D_init 30 = .ok (.aload_n 0, 1) := by decide +kernel
theorem d_D_init_31 : decode c_D_init 31 = .ok (.new 23, 3) := by decide +kernel
theorem d_D_init_34 : decode c_D_init 34 = .ok (.dup, 1) := by decide +kernel
theorem d_D_init_35 : decode c_D_init 35 = .ok (.invokespecial 25, 3) := by decide +kernel
theorem d_D_init_38 : decode c_D_init 38 = .ok (.putfield 26, 3) := by decide +kernel
theorem d_D_init_41 : decode c_D_init 41 = .ok (.aload_n 0, 1) := by decide +kernel
theorem d_D_init_42 : decode c_D_init 42 = .ok (.iload_n 1, 1) := by decide +kernel
theorem d_D_init_43 : decode c_D_init 43 = .ok (.putfield 30, 3) := by decide +kernel
theorem d_D_init_46 : decode c_D_init 46 = .ok (.aload_n 0, 1) := by decide +kernel
theorem d_D_init_47 : decode c_D_init 47 = .ok (.aload_n 3, 1) := by decide +kernel
theorem d_D_init_48 : decode c_D_init 48 = .ok (.putfield 34, 3) := by decide +kernel
theorem d_D_init_51 : decode c_D_init 51 = .ok (.aload_n 0, 1) := by decide +kernel
theorem d_D_init_52 : decode c_D_init 52 = .ok (.new 38, 3) := by decide +kernel
theorem d_D_init_55 : decode c_D_init 55 = .ok (.dup, 1) := by decide +kernel
theorem d_D_init_56 : decode c_D_init 56 = .ok (.iload_n 2, 1) := by decide +kernel
theorem d_D_init_57 : decode c_D_init 57 = .ok (.invokespecial 40, 3) := by decide +kernel
theorem d_D_init_60 : decode c_D_init 60 = .ok (.putfield 41, 3) := by decide +kernel
theorem d_D_init_63 : decode c_D_init 63 = .ok (.aload_n 0, 1) := by decide +kernel
theorem d_D_init_64 : decode c_D_init 64 = .ok (.iconst 1, 1) := by decide +kernel
theorem d_D_init_65 : decode c_D_init 65 = .ok (.putfield 45, 3) := by decide +kernel
theorem d_D_init_68 : decode c_D_init 68 = .ok (.aload_n 0, 1) := by decide +kernel
theorem d_D_init_69 : decode c_D_init 69 = .ok (.iconst (-1), 1) := by decide +kernel
theorem d_D_init_70 : decode c_D_init 70 = .ok (.putfield 49, 3) := by decide +kernel
theorem d_D_init_73 : decode c_D_init 73 = .ok (.aload_n 0, 1) := by decide +kernel
theorem d_D_init_74 : decode c_D_init 74 = .ok (.bipush 8, 2) := by decide +kernel
theorem d_D_init_76 : decode c_D_init 76 = .ok (.iconst 3, 1) := by decide +kernel
theorem d_D_init_77 : decode c_D_init 77 = .ok (.iload_n 1, 1) := by decide +kernel
theorem d_D_init_78 : decode c_D_init 78 = .ok (.imul, 1) := by decide +kernel
theorem d_D_init_79 : decode c_D_init 79 = .ok (.iadd, 1) := by decide +kernel
theorem d_D_init_80 : decode c_D_init 80 = .ok (.putfield 52, 3) := by decide +kernel
theorem d_D_init_83 : decode c_D_init 83 = .ok (.return_, 1) := by decide +kernel
set_option maxHeartbeats 4000000 in
set_option maxRecDepth 100000 in
/-- a new node -/
theorem C_D_init (l : Launch) (D : va_G) (t : Nat → ClassId) (h nw : Nat) (i : Nat) (mk : Int32) : xe_C l D vwCl (xTY t) y_D_init c_D_init 4 (Option.none : Option FieldType) ({ frames := 3, cells := 25, slots := 500, locals := 66 }) [.ref h, .int (nI i), .int mk, .ref nw] [zO 3 h [.int 0, .null, .int 0, .int 0, .int 0, .null, .null, .null, .int 0, .int 0, .int 0, .int 0, .int 0, .int 0, .null]] (xe_v D vwCl (fun u : (Nat → Nat) × Nat => u.1 0 = h) (fun u => [zO 3 (u.1 0) [.int (nI i), .ref nw, .int 0, .int 0, .int 0, .ref ((u.1 1)), .ref ((u.1 7)), .ref ((u.1 11)), .int 1, .int 0, .int 0, .int (nI (8 + 3 * i)), .int ((-1)), .int 0, .ref ((u.1 15))], zO 5 (u.1 1) [.ref ((u.1 2)), .ref ((u.1 3)), .ref ((u.1 4)), .ref ((u.1 5)), .ref ((u.1 6)), .int 1], zJ t (u.1 2) 32 (fun _ => 1099511627776), zI t (u.1 3) 8 (fun _ => 0), zJ t (u.1 4) 8 (fun _ => 0), zI t (u.1 5) 4 (xm 1), zI t (u.1 6) 4 (xm mk), zO 4 (u.1 7) [.ref ((u.1 8)), .ref ((u.1 9)), .ref ((u.1 10))], zI t (u.1 8) 32 (fun _ => 0), zI t (u.1 9) 32 (fun _ => 0), zA t 2 (u.1 10) 32 (fun _ => none), zO 4 (u.1 11) [.ref ((u.1 12)), .ref ((u.1 13)), .ref ((u.1 14))], zI t (u.1 12) 64 (fun _ => 0), zI t (u.1 13) 64 (fun _ => 0), zA t 2 (u.1 14) 64 (fun _ => none), zO 0 (u.1 15) [.ref u.2, .int 0, .ref ((u.1 16)), .ref ((u.1 20)), .ref ((u.1 24)), .int 0, .int 0, .int 0], zO 4 (u.1 16) [.ref ((u.1 17)), .ref ((u.1 18)), .ref ((u.1 19))], zI t (u.1 17) 32 (fun _ => 0), zI t (u.1 18) 32 (fun _ => 0), zA t 2 (u.1 19) 32 (fun _ => none), zO 4 (u.1 20) [.ref ((u.1 21)), .ref ((u.1 22)), .ref ((u.1 23))], zI t (u.1 21) 4 (fun _ => 0), zI t (u.1 22) 4 (fun _ => 0), zA t 2 (u.1 23) 4 (fun _ => none), zA t 2 (u.1 24) 16 (fun _ => none)])) 25 500 := by
  refine xe_of (by decide) (Nat.le_of_ble_eq_true rfl) ?_
  intro p e s m below meth c ls A Z hr hlocks hin hA hP hD hS hl
  obtain ⟨hx, hb, hml, hown, hK⟩ := id Z
  have hown : s.vm.findClass "QuorumStore$Node" = some m.cls := hown
  have hts := hK.1.at (args := ([.ref h, .int (nI i), .int mk, .ref nw] : List Value).toArray)
  have hl : lv_has ls 4 [(0, .ref h), (1, .int (nI i)), (2, .int mk), (3, .ref nw)] := hl
  refine lv_aload_n hx hb d_D_init_0 rfl (lv_at hl 0 rfl) ?_
  refine W.objInit hx hb hown (hts _ k_66) (hts _ k_30) (hts _ k_31) rfl (by rw [hml]; exact hl.1) rfl d_D_init_1 (Nat.le_of_ble_eq_true rfl) (Nat.le_of_ble_eq_true rfl) ?_
  refine W.eq (g2 := F0 m 4 ls []) rfl ?_
  refine lv_aload_n hx hb d_D_init_4 rfl (lv_at hl 0 rfl) ?_
  refine va_new (ci := 4) (fs := [.null, .null, .null]) (C := "QuorumStore$Row") (T := TX4) (N := 3) hx hb hts inX4 tyX4 okX4 hown (hts _ k_67) (hts _ k_68) (hts _ k_4) hK.2 hP hD hS hA rfl (by decide) (Nat.le_of_ble_eq_true rfl) (Nat.le_of_ble_eq_true rfl) d_D_init_5 (fun q_1 H hP hD hS => ?_)
  have hP : va_P D vwCl [zO 3 h [.int 0, .null, .int 0, .int 0, .int 0, .null, .null, .null, .int 0, .int 0, .int 0, .int 0, .int 0, .int 0, .null], zO 4 q_1 [.null, .null, .null]] H := hP
  have hD : va_D A [zO 3 h [.int 0, .null, .int 0, .int 0, .int 0, .null, .null, .null, .int 0, .int 0, .int 0, .int 0, .int 0, .int 0, .null], zO 4 q_1 [.null, .null, .null]] := hD
  refine lv_dup hx hb d_D_init_8 rfl ?_
  refine lv_bipush (v := 32) hx hb d_D_init_9 (by decide) ?_
  refine xe_callv (wr := [zO 3 h [.int 0, .null, .int 0, .int 0, .int 0, .null, .null, .null, .int 0, .int 0, .int 0, .int 0, .int 0, .int 0, .null]]) (xs_I (As := [.int 32]) (rest := [.ref q_1, .ref h]) Z (C_R_init_32 l D t q_1 H.size) m_R_init k_69 k_70 rfl rfl rfl ⟨Nat.le_of_ble_eq_true rfl, Nat.le_of_ble_eq_true rfl⟩ (xe_pre hK (hP.sub [1] rfl) (hD.sub [1] (by decide) rfl)) rfl hl.1 rfl (Nat.le_of_ble_eq_true rfl) d_D_init_11 ⟨Nat.le_of_ble_eq_true rfl, Nat.le_of_ble_eq_true rfl⟩) hP hD hS hA [1] [0] rfl rfl (by decide) (by decide) (fun u_ H locs _ hP hD hS => ?_)
  obtain ⟨a1, b1, v1⟩ := u_
  have hP : va_P D vwCl [zO 3 h [.int 0, .null, .int 0, .int 0, .int 0, .null, .null, .null, .int 0, .int 0, .int 0, .int 0, .int 0, .int 0, .null], zO 4 q_1 [.ref a1, .ref b1, .ref v1], zI t a1 32 (fun _ => 0), zI t b1 32 (fun _ => 0), zA t 2 v1 32 (fun _ => none)] H := hP
  have hD : va_D A [zO 3 h [.int 0, .null, .int 0, .int 0, .int 0, .null, .null, .null, .int 0, .int 0, .int 0, .int 0, .int 0, .int 0, .null], zO 4 q_1 [.ref a1, .ref b1, .ref v1], zI t a1 32 (fun _ => 0), zI t b1 32 (fun _ => 0), zA t 2 v1 32 (fun _ => none)] := hD
  refine va_putF (ci := 3) (v := .ref q_1) (ty := tyX3 6) (C := "QuorumStore$Node") (T := TX3) (N := 15) hx hb hts inX3 tyX3 okX3 nmX3 hown hK.2 hP hD hS 0 rfl rfl 6 (by decide) (hts _ k_207) (fun _ h9 => h9) rfl hin rfl (by decide +kernel) rfl rfl (Nat.le_of_ble_eq_true rfl) d_D_init_14 (fun H locs hP hD hS => ?_)
  have hP : va_P D vwCl [zO 3 h [.int 0, .null, .int 0, .int 0, .int 0, .null, .ref q_1, .null, .int 0, .int 0, .int 0, .int 0, .int 0, .int 0, .null], zO 4 q_1 [.ref a1, .ref b1, .ref v1], zI t a1 32 (fun _ => 0), zI t b1 32 (fun _ => 0), zA t 2 v1 32 (fun _ => none)] H := hP
  have hD : va_D A [zO 3 h [.int 0, .null, .int 0, .int 0, .int 0, .null, .ref q_1, .null, .int 0, .int 0, .int 0, .int 0, .int 0, .int 0, .null], zO 4 q_1 [.ref a1, .ref b1, .ref v1], zI t a1 32 (fun _ => 0), zI t b1 32 (fun _ => 0), zA t 2 v1 32 (fun _ => none)] := hD
  refine lv_aload_n hx hb d_D_init_17 rfl (lv_at hl 0 rfl) ?_
  refine va_new (ci := 4) (fs := [.null, .null, .null]) (C := "QuorumStore$Row") (T := TX4) (N := 3) hx hb hts inX4 tyX4 okX4 hown (hts _ k_67) (hts _ k_68) (hts _ k_4) hK.2 hP hD hS hA rfl (by decide) (Nat.le_of_ble_eq_true rfl) (Nat.le_of_ble_eq_true rfl) d_D_init_18 (fun q_2 H hP hD hS => ?_)
  have hP : va_P D vwCl [zO 3 h [.int 0, .null, .int 0, .int 0, .int 0, .null, .ref q_1, .null, .int 0, .int 0, .int 0, .int 0, .int 0, .int 0, .null], zO 4 q_1 [.ref a1, .ref b1, .ref v1], zI t a1 32 (fun _ => 0), zI t b1 32 (fun _ => 0), zA t 2 v1 32 (fun _ => none), zO 4 q_2 [.null, .null, .null]] H := hP
  have hD : va_D A [zO 3 h [.int 0, .null, .int 0, .int 0, .int 0, .null, .ref q_1, .null, .int 0, .int 0, .int 0, .int 0, .int 0, .int 0, .null], zO 4 q_1 [.ref a1, .ref b1, .ref v1], zI t a1 32 (fun _ => 0), zI t b1 32 (fun _ => 0), zA t 2 v1 32 (fun _ => none), zO 4 q_2 [.null, .null, .null]] := hD
  refine lv_dup hx hb d_D_init_21 rfl ?_
  refine lv_bipush (v := 64) hx hb d_D_init_22 (by decide) ?_
  refine xe_callv (wr := [zO 3 h [.int 0, .null, .int 0, .int 0, .int 0, .null, .ref q_1, .null, .int 0, .int 0, .int 0, .int 0, .int 0, .int 0, .null], zO 4 q_1 [.ref a1, .ref b1, .ref v1], zI t a1 32 (fun _ => 0), zI t b1 32 (fun _ => 0), zA t 2 v1 32 (fun _ => none)]) (xs_I (As := [.int 64]) (rest := [.ref q_2, .ref h]) Z (C_R_init_64 l D t q_2 H.size) m_R_init k_69 k_70 rfl rfl rfl ⟨Nat.le_of_ble_eq_true rfl, Nat.le_of_ble_eq_true rfl⟩ (xe_pre hK (hP.sub [5] rfl) (hD.sub [5] (by decide) rfl)) rfl hl.1 rfl (Nat.le_of_ble_eq_true rfl) d_D_init_24 ⟨Nat.le_of_ble_eq_true rfl, Nat.le_of_ble_eq_true rfl⟩) hP hD hS hA [5] [0, 1, 2, 3, 4] rfl rfl (by decide) (by decide) (fun u_ H locs _ hP hD hS => ?_)
  obtain ⟨a2, b2, v2⟩ := u_
  have hP : va_P D vwCl [zO 3 h [.int 0, .null, .int 0, .int 0, .int 0, .null, .ref q_1, .null, .int 0, .int 0, .int 0, .int 0, .int 0, .int 0, .null], zO 4 q_1 [.ref a1, .ref b1, .ref v1], zI t a1 32 (fun _ => 0), zI t b1 32 (fun _ => 0), zA t 2 v1 32 (fun _ => none), zO 4 q_2 [.ref a2, .ref b2, .ref v2], zI t a2 64 (fun _ => 0), zI t b2 64 (fun _ => 0), zA t 2 v2 64 (fun _ => none)] H := hP
  have hD : va_D A [zO 3 h [.int 0, .null, .int 0, .int 0, .int 0, .null, .ref q_1, .null, .int 0, .int 0, .int 0, .int 0, .int 0, .int 0, .null], zO 4 q_1 [.ref a1, .ref b1, .ref v1], zI t a1 32 (fun _ => 0), zI t b1 32 (fun _ => 0), zA t 2 v1 32 (fun _ => none), zO 4 q_2 [.ref a2, .ref b2, .ref v2], zI t a2 64 (fun _ => 0), zI t b2 64 (fun _ => 0), zA t 2 v2 64 (fun _ => none)] := hD
  refine va_putF (ci := 3) (v := .ref q_2) (ty := tyX3 7) (C := "QuorumStore$Node") (T := TX3) (N := 15) hx hb hts inX3 tyX3 okX3 nmX3 hown hK.2 hP hD hS 0 rfl rfl 7 (by decide) (hts _ k_209) (fun _ h9 => h9) rfl hin rfl (by decide +kernel) rfl rfl (Nat.le_of_ble_eq_true rfl) d_D_init_27 (fun H locs hP hD hS => ?_)
  have hP : va_P D vwCl [zO 3 h [.int 0, .null, .int 0, .int 0, .int 0, .null, .ref q_1, .ref q_2, .int 0, .int 0, .int 0, .int 0, .int 0, .int 0, .null], zO 4 q_1 [.ref a1, .ref b1, .ref v1], zI t a1 32 (fun _ => 0), zI t b1 32 (fun _ => 0), zA t 2 v1 32 (fun _ => none), zO 4 q_2 [.ref a2, .ref b2, .ref v2], zI t a2 64 (fun _ => 0), zI t b2 64 (fun _ => 0), zA t 2 v2 64 (fun _ => none)] H := hP
  have hD : va_D A [zO 3 h [.int 0, .null, .int 0, .int 0, .int 0, .null, .ref q_1, .ref q_2, .int 0, .int 0, .int 0, .int 0, .int 0, .int 0, .null], zO 4 q_1 [.ref a1, .ref b1, .ref v1], zI t a1 32 (fun _ => 0), zI t b1 32 (fun _ => 0), zA t 2 v1 32 (fun _ => none), zO 4 q_2 [.ref a2, .ref b2, .ref v2], zI t a2 64 (fun _ => 0), zI t b2 64 (fun _ => 0), zA t 2 v2 64 (fun _ => none)] := hD
  refine lv_aload_n hx hb d_D_init_30 rfl (lv_at hl 0 rfl) ?_
  refine va_new (ci := 0) (fs := [.null, .int 0, .null, .null, .null, .int 0, .int 0, .int 0]) (C := "QuorumStore$Lead") (T := TX0) (N := 8) hx hb hts inX0 tyX0 okX0 hown (hts _ k_87) (hts _ k_88) (hts _ k_5) hK.2 hP hD hS hA rfl (by decide) (Nat.le_of_ble_eq_true rfl) (Nat.le_of_ble_eq_true rfl) d_D_init_31 (fun q_3 H hP hD hS => ?_)
  have hP : va_P D vwCl [zO 3 h [.int 0, .null, .int 0, .int 0, .int 0, .null, .ref q_1, .ref q_2, .int 0, .int 0, .int 0, .int 0, .int 0, .int 0, .null], zO 4 q_1 [.ref a1, .ref b1, .ref v1], zI t a1 32 (fun _ => 0), zI t b1 32 (fun _ => 0), zA t 2 v1 32 (fun _ => none), zO 4 q_2 [.ref a2, .ref b2, .ref v2], zI t a2 64 (fun _ => 0), zI t b2 64 (fun _ => 0), zA t 2 v2 64 (fun _ => none), zO 0 q_3 [.null, .int 0, .null, .null, .null, .int 0, .int 0, .int 0]] H := hP
  have hD : va_D A [zO 3 h [.int 0, .null, .int 0, .int 0, .int 0, .null, .ref q_1, .ref q_2, .int 0, .int 0, .int 0, .int 0, .int 0, .int 0, .null], zO 4 q_1 [.ref a1, .ref b1, .ref v1], zI t a1 32 (fun _ => 0), zI t b1 32 (fun _ => 0), zA t 2 v1 32 (fun _ => none), zO 4 q_2 [.ref a2, .ref b2, .ref v2], zI t a2 64 (fun _ => 0), zI t b2 64 (fun _ => 0), zA t 2 v2 64 (fun _ => none), zO 0 q_3 [.null, .int 0, .null, .null, .null, .int 0, .int 0, .int 0]] := hD
  refine lv_dup hx hb d_D_init_34 rfl ?_
  refine xe_callv (wr := [zO 3 h [.int 0, .null, .int 0, .int 0, .int 0, .null, .ref q_1, .ref q_2, .int 0, .int 0, .int 0, .int 0, .int 0, .int 0, .null], zO 4 q_1 [.ref a1, .ref b1, .ref v1], zI t a1 32 (fun _ => 0), zI t b1 32 (fun _ => 0), zA t 2 v1 32 (fun _ => none), zO 4 q_2 [.ref a2, .ref b2, .ref v2], zI t a2 64 (fun _ => 0), zI t b2 64 (fun _ => 0), zA t 2 v2 64 (fun _ => none)]) (xs_IN (As := []) (rest := [.ref q_3, .ref h]) Z (C_L_init l D t q_3 H.size) m_L_init k_89 k_90 rfl rfl rfl ⟨Nat.le_of_ble_eq_true rfl, Nat.le_of_ble_eq_true rfl⟩ (xe_pre hK (hP.sub [9] rfl) (hD.sub [9] (by decide) rfl)) rfl hl.1 rfl (Nat.le_of_ble_eq_true rfl) d_D_init_35 ⟨Nat.le_of_ble_eq_true rfl, Nat.le_of_ble_eq_true rfl⟩) hP hD hS hA [9] [0, 1, 2, 3, 4, 5, 6, 7, 8] rfl rfl (by decide) (by decide) (fun u_ H locs _ hP hD hS => ?_)
  obtain ⟨no, r1, a3, b3, v3, r2, a4, b4, v4, qu⟩ := u_
  have hP : va_P D vwCl [zO 3 h [.int 0, .null, .int 0, .int 0, .int 0, .null, .ref q_1, .ref q_2, .int 0, .int 0, .int 0, .int 0, .int 0, .int 0, .null], zO 4 q_1 [.ref a1, .ref b1, .ref v1], zI t a1 32 (fun _ => 0), zI t b1 32 (fun _ => 0), zA t 2 v1 32 (fun _ => none), zO 4 q_2 [.ref a2, .ref b2, .ref v2], zI t a2 64 (fun _ => 0), zI t b2 64 (fun _ => 0), zA t 2 v2 64 (fun _ => none), zO 0 q_3 [.ref no, .int 0, .ref r1, .ref r2, .ref qu, .int 0, .int 0, .int 0], zO 4 r1 [.ref a3, .ref b3, .ref v3], zI t a3 32 (fun _ => 0), zI t b3 32 (fun _ => 0), zA t 2 v3 32 (fun _ => none), zO 4 r2 [.ref a4, .ref b4, .ref v4], zI t a4 4 (fun _ => 0), zI t b4 4 (fun _ => 0), zA t 2 v4 4 (fun _ => none), zA t 2 qu 16 (fun _ => none)] H := hP
  have hD : va_D A [zO 3 h [.int 0, .null, .int 0, .int 0, .int 0, .null, .ref q_1, .ref q_2, .int 0, .int 0, .int 0, .int 0, .int 0, .int 0, .null], zO 4 q_1 [.ref a1, .ref b1, .ref v1], zI t a1 32 (fun _ => 0), zI t b1 32 (fun _ => 0), zA t 2 v1 32 (fun _ => none), zO 4 q_2 [.ref a2, .ref b2, .ref v2], zI t a2 64 (fun _ => 0), zI t b2 64 (fun _ => 0), zA t 2 v2 64 (fun _ => none), zO 0 q_3 [.ref no, .int 0, .ref r1, .ref r2, .ref qu, .int 0, .int 0, .int 0], zO 4 r1 [.ref a3, .ref b3, .ref v3], zI t a3 32 (fun _ => 0), zI t b3 32 (fun _ => 0), zA t 2 v3 32 (fun _ => none), zO 4 r2 [.ref a4, .ref b4, .ref v4], zI t a4 4 (fun _ => 0), zI t b4 4 (fun _ => 0), zA t 2 v4 4 (fun _ => none), zA t 2 qu 16 (fun _ => none)] := hD
  refine va_putF (ci := 3) (v := .ref q_3) (ty := tyX3 14) (C := "QuorumStore$Node") (T := TX3) (N := 15) hx hb hts inX3 tyX3 okX3 nmX3 hown hK.2 hP hD hS 0 rfl rfl 14 (by decide) (hts _ k_222) (fun _ h9 => h9) rfl hin rfl (by decide +kernel) rfl rfl (Nat.le_of_ble_eq_true rfl) d_D_init_38 (fun H locs hP hD hS => ?_)
  have hP : va_P D vwCl [zO 3 h [.int 0, .null, .int 0, .int 0, .int 0, .null, .ref q_1, .ref q_2, .int 0, .int 0, .int 0, .int 0, .int 0, .int 0, .ref q_3], zO 4 q_1 [.ref a1, .ref b1, .ref v1], zI t a1 32 (fun _ => 0), zI t b1 32 (fun _ => 0), zA t 2 v1 32 (fun _ => none), zO 4 q_2 [.ref a2, .ref b2, .ref v2], zI t a2 64 (fun _ => 0), zI t b2 64 (fun _ => 0), zA t 2 v2 64 (fun _ => none), zO 0 q_3 [.ref no, .int 0, .ref r1, .ref r2, .ref qu, .int 0, .int 0, .int 0], zO 4 r1 [.ref a3, .ref b3, .ref v3], zI t a3 32 (fun _ => 0), zI t b3 32 (fun _ => 0), zA t 2 v3 32 (fun _ => none), zO 4 r2 [.ref a4, .ref b4, .ref v4], zI t a4 4 (fun _ => 0), zI t b4 4 (fun _ => 0), zA t 2 v4 4 (fun _ => none), zA t 2 qu 16 (fun _ => none)] H := hP
  have hD : va_D A [zO 3 h [.int 0, .null, .int 0, .int 0, .int 0, .null, .ref q_1, .ref q_2, .int 0, .int 0, .int 0, .int 0, .int 0, .int 0, .ref q_3], zO 4 q_1 [.ref a1, .ref b1, .ref v1], zI t a1 32 (fun _ => 0), zI t b1 32 (fun _ => 0), zA t 2 v1 32 (fun _ => none), zO 4 q_2 [.ref a2, .ref b2, .ref v2], zI t a2 64 (fun _ => 0), zI t b2 64 (fun _ => 0), zA t 2 v2 64 (fun _ => none), zO 0 q_3 [.ref no, .int 0, .ref r1, .ref r2, .ref qu, .int 0, .int 0, .int 0], zO 4 r1 [.ref a3, .ref b3, .ref v3], zI t a3 32 (fun _ => 0), zI t b3 32 (fun _ => 0), zA t 2 v3 32 (fun _ => none), zO 4 r2 [.ref a4, .ref b4, .ref v4], zI t a4 4 (fun _ => 0), zI t b4 4 (fun _ => 0), zA t 2 v4 4 (fun _ => none), zA t 2 qu 16 (fun _ => none)] := hD
  refine lv_aload_n hx hb d_D_init_41 rfl (lv_at hl 0 rfl) ?_
  refine lv_iload_n hx hb d_D_init_42 rfl (lv_at hl 1 rfl) ?_
  refine va_putF (ci := 3) (v := .int (nI i)) (ty := tyX3 0) (C := "QuorumStore$Node") (T := TX3) (N := 15) hx hb hts inX3 tyX3 okX3 nmX3 hown hK.2 hP hD hS 0 rfl rfl 0 (by decide) (hts _ k_197) (fun _ h9 => h9) rfl hin rfl (by decide +kernel) rfl rfl (Nat.le_of_ble_eq_true rfl) d_D_init_43 (fun H locs hP hD hS => ?_)
  have hP : va_P D vwCl [zO 3 h [.int (nI i), .null, .int 0, .int 0, .int 0, .null, .ref q_1, .ref q_2, .int 0, .int 0, .int 0, .int 0, .int 0, .int 0, .ref q_3], zO 4 q_1 [.ref a1, .ref b1, .ref v1], zI t a1 32 (fun _ => 0), zI t b1 32 (fun _ => 0), zA t 2 v1 32 (fun _ => none), zO 4 q_2 [.ref a2, .ref b2, .ref v2], zI t a2 64 (fun _ => 0), zI t b2 64 (fun _ => 0), zA t 2 v2 64 (fun _ => none), zO 0 q_3 [.ref no, .int 0, .ref r1, .ref r2, .ref qu, .int 0, .int 0, .int 0], zO 4 r1 [.ref a3, .ref b3, .ref v3], zI t a3 32 (fun _ => 0), zI t b3 32 (fun _ => 0), zA t 2 v3 32 (fun _ => none), zO 4 r2 [.ref a4, .ref b4, .ref v4], zI t a4 4 (fun _ => 0), zI t b4 4 (fun _ => 0), zA t 2 v4 4 (fun _ => none), zA t 2 qu 16 (fun _ => none)] H := hP
  have hD : va_D A [zO 3 h [.int (nI i), .null, .int 0, .int 0, .int 0, .null, .ref q_1, .ref q_2, .int 0, .int 0, .int 0, .int 0, .int 0, .int 0, .ref q_3], zO 4 q_1 [.ref a1, .ref b1, .ref v1], zI t a1 32 (fun _ => 0), zI t b1 32 (fun _ => 0), zA t 2 v1 32 (fun _ => none), zO 4 q_2 [.ref a2, .ref b2, .ref v2], zI t a2 64 (fun _ => 0), zI t b2 64 (fun _ => 0), zA t 2 v2 64 (fun _ => none), zO 0 q_3 [.ref no, .int 0, .ref r1, .ref r2, .ref qu, .int 0, .int 0, .int 0], zO 4 r1 [.ref a3, .ref b3, .ref v3], zI t a3 32 (fun _ => 0), zI t b3 32 (fun _ => 0), zA t 2 v3 32 (fun _ => none), zO 4 r2 [.ref a4, .ref b4, .ref v4], zI t a4 4 (fun _ => 0), zI t b4 4 (fun _ => 0), zA t 2 v4 4 (fun _ => none), zA t 2 qu 16 (fun _ => none)] := hD
  refine lv_aload_n hx hb d_D_init_46 rfl (lv_at hl 0 rfl) ?_
  refine lv_aload_n hx hb d_D_init_47 rfl (lv_at hl 3 rfl) ?_
  refine va_putF (ci := 3) (v := .ref nw) (ty := tyX3 1) (C := "QuorumStore$Node") (T := TX3) (N := 15) hx hb hts inX3 tyX3 okX3 nmX3 hown hK.2 hP hD hS 0 rfl rfl 1 (by decide) (hts _ k_198) (fun _ h9 => h9) rfl hin rfl (by decide +kernel) rfl rfl (Nat.le_of_ble_eq_true rfl) d_D_init_48 (fun H locs hP hD hS => ?_)
  have hP : va_P D vwCl [zO 3 h [.int (nI i), .ref nw, .int 0, .int 0, .int 0, .null, .ref q_1, .ref q_2, .int 0, .int 0, .int 0, .int 0, .int 0, .int 0, .ref q_3], zO 4 q_1 [.ref a1, .ref b1, .ref v1], zI t a1 32 (fun _ => 0), zI t b1 32 (fun _ => 0), zA t 2 v1 32 (fun _ => none), zO 4 q_2 [.ref a2, .ref b2, .ref v2], zI t a2 64 (fun _ => 0), zI t b2 64 (fun _ => 0), zA t 2 v2 64 (fun _ => none), zO 0 q_3 [.ref no, .int 0, .ref r1, .ref r2, .ref qu, .int 0, .int 0, .int 0], zO 4 r1 [.ref a3, .ref b3, .ref v3], zI t a3 32 (fun _ => 0), zI t b3 32 (fun _ => 0), zA t 2 v3 32 (fun _ => none), zO 4 r2 [.ref a4, .ref b4, .ref v4], zI t a4 4 (fun _ => 0), zI t b4 4 (fun _ => 0), zA t 2 v4 4 (fun _ => none), zA t 2 qu 16 (fun _ => none)] H := hP
  have hD : va_D A [zO 3 h [.int (nI i), .ref nw, .int 0, .int 0, .int 0, .null, .ref q_1, .ref q_2, .int 0, .int 0, .int 0, .int 0, .int 0, .int 0, .ref q_3], zO 4 q_1 [.ref a1, .ref b1, .ref v1], zI t a1 32 (fun _ => 0), zI t b1 32 (fun _ => 0), zA t 2 v1 32 (fun _ => none), zO 4 q_2 [.ref a2, .ref b2, .ref v2], zI t a2 64 (fun _ => 0), zI t b2 64 (fun _ => 0), zA t 2 v2 64 (fun _ => none), zO 0 q_3 [.ref no, .int 0, .ref r1, .ref r2, .ref qu, .int 0, .int 0, .int 0], zO 4 r1 [.ref a3, .ref b3, .ref v3], zI t a3 32 (fun _ => 0), zI t b3 32 (fun _ => 0), zA t 2 v3 32 (fun _ => none), zO 4 r2 [.ref a4, .ref b4, .ref v4], zI t a4 4 (fun _ => 0), zI t b4 4 (fun _ => 0), zA t 2 v4 4 (fun _ => none), zA t 2 qu 16 (fun _ => none)] := hD
  refine lv_aload_n hx hb d_D_init_51 rfl (lv_at hl 0 rfl) ?_
  refine va_new (ci := 5) (fs := [.null, .null, .null, .null, .null, .int 0]) (C := "QuorumStore$State") (T := TX5) (N := 6) hx hb hts inX5 tyX5 okX5 hown (hts _ k_165) (hts _ k_166) (hts _ k_7) hK.2 hP hD hS hA rfl (by decide) (Nat.le_of_ble_eq_true rfl) (Nat.le_of_ble_eq_true rfl) d_D_init_52 (fun q_4 H hP hD hS => ?_)
  have hP : va_P D vwCl [zO 3 h [.int (nI i), .ref nw, .int 0, .int 0, .int 0, .null, .ref q_1, .ref q_2, .int 0, .int 0, .int 0, .int 0, .int 0, .int 0, .ref q_3], zO 4 q_1 [.ref a1, .ref b1, .ref v1], zI t a1 32 (fun _ => 0), zI t b1 32 (fun _ => 0), zA t 2 v1 32 (fun _ => none), zO 4 q_2 [.ref a2, .ref b2, .ref v2], zI t a2 64 (fun _ => 0), zI t b2 64 (fun _ => 0), zA t 2 v2 64 (fun _ => none), zO 0 q_3 [.ref no, .int 0, .ref r1, .ref r2, .ref qu, .int 0, .int 0, .int 0], zO 4 r1 [.ref a3, .ref b3, .ref v3], zI t a3 32 (fun _ => 0), zI t b3 32 (fun _ => 0), zA t 2 v3 32 (fun _ => none), zO 4 r2 [.ref a4, .ref b4, .ref v4], zI t a4 4 (fun _ => 0), zI t b4 4 (fun _ => 0), zA t 2 v4 4 (fun _ => none), zA t 2 qu 16 (fun _ => none), zO 5 q_4 [.null, .null, .null, .null, .null, .int 0]] H := hP
  have hD : va_D A [zO 3 h [.int (nI i), .ref nw, .int 0, .int 0, .int 0, .null, .ref q_1, .ref q_2, .int 0, .int 0, .int 0, .int 0, .int 0, .int 0, .ref q_3], zO 4 q_1 [.ref a1, .ref b1, .ref v1], zI t a1 32 (fun _ => 0), zI t b1 32 (fun _ => 0), zA t 2 v1 32 (fun _ => none), zO 4 q_2 [.ref a2, .ref b2, .ref v2], zI t a2 64 (fun _ => 0), zI t b2 64 (fun _ => 0), zA t 2 v2 64 (fun _ => none), zO 0 q_3 [.ref no, .int 0, .ref r1, .ref r2, .ref qu, .int 0, .int 0, .int 0], zO 4 r1 [.ref a3, .ref b3, .ref v3], zI t a3 32 (fun _ => 0), zI t b3 32 (fun _ => 0), zA t 2 v3 32 (fun _ => none), zO 4 r2 [.ref a4, .ref b4, .ref v4], zI t a4 4 (fun _ => 0), zI t b4 4 (fun _ => 0), zA t 2 v4 4 (fun _ => none), zA t 2 qu 16 (fun _ => none), zO 5 q_4 [.null, .null, .null, .null, .null, .int 0]] := hD
  refine lv_dup hx hb d_D_init_55 rfl ?_
  refine lv_iload_n hx hb d_D_init_56 rfl (lv_at hl 2 rfl) ?_
  refine xe_callv (wr := [zO 3 h [.int (nI i), .ref nw, .int 0, .int 0, .int 0, .null, .ref q_1, .ref q_2, .int 0, .int 0, .int 0, .int 0, .int 0, .int 0, .ref q_3], zO 4 q_1 [.ref a1, .ref b1, .ref v1], zI t a1 32 (fun _ => 0), zI t b1 32 (fun _ => 0), zA t 2 v1 32 (fun _ => none), zO 4 q_2 [.ref a2, .ref b2, .ref v2], zI t a2 64 (fun _ => 0), zI t b2 64 (fun _ => 0), zA t 2 v2 64 (fun _ => none), zO 0 q_3 [.ref no, .int 0, .ref r1, .ref r2, .ref qu, .int 0, .int 0, .int 0], zO 4 r1 [.ref a3, .ref b3, .ref v3], zI t a3 32 (fun _ => 0), zI t b3 32 (fun _ => 0), zA t 2 v3 32 (fun _ => none), zO 4 r2 [.ref a4, .ref b4, .ref v4], zI t a4 4 (fun _ => 0), zI t b4 4 (fun _ => 0), zA t 2 v4 4 (fun _ => none), zA t 2 qu 16 (fun _ => none)]) (xs_I (As := [.int mk]) (rest := [.ref q_4, .ref h]) Z (C_S_init l D t q_4 mk H.size) m_S_init k_167 k_168 rfl rfl rfl ⟨Nat.le_of_ble_eq_true rfl, Nat.le_of_ble_eq_true rfl⟩ (xe_pre hK (hP.sub [19] rfl) (hD.sub [19] (by decide) rfl)) rfl hl.1 rfl (Nat.le_of_ble_eq_true rfl) d_D_init_57 ⟨Nat.le_of_ble_eq_true rfl, Nat.le_of_ble_eq_true rfl⟩) hP hD hS hA [19] [0, 1, 2, 3, 4, 5, 6, 7, 8, 9, 10, 11, 12, 13, 14, 15, 16, 17, 18] rfl rfl (by decide) (by decide) (fun u_ H locs _ hP hD hS => ?_)
  obtain ⟨s1, s2, s3, s4, s5⟩ := u_
  have hP : va_P D vwCl [zO 3 h [.int (nI i), .ref nw, .int 0, .int 0, .int 0, .null, .ref q_1, .ref q_2, .int 0, .int 0, .int 0, .int 0, .int 0, .int 0, .ref q_3], zO 4 q_1 [.ref a1, .ref b1, .ref v1], zI t a1 32 (fun _ => 0), zI t b1 32 (fun _ => 0), zA t 2 v1 32 (fun _ => none), zO 4 q_2 [.ref a2, .ref b2, .ref v2], zI t a2 64 (fun _ => 0), zI t b2 64 (fun _ => 0), zA t 2 v2 64 (fun _ => none), zO 0 q_3 [.ref no, .int 0, .ref r1, .ref r2, .ref qu, .int 0, .int 0, .int 0], zO 4 r1 [.ref a3, .ref b3, .ref v3], zI t a3 32 (fun _ => 0), zI t b3 32 (fun _ => 0), zA t 2 v3 32 (fun _ => none), zO 4 r2 [.ref a4, .ref b4, .ref v4], zI t a4 4 (fun _ => 0), zI t b4 4 (fun _ => 0), zA t 2 v4 4 (fun _ => none), zA t 2 qu 16 (fun _ => none), zO 5 q_4 [.ref s1, .ref s2, .ref s3, .ref s4, .ref s5, .int 1], zJ t s1 32 (fun _ => 1099511627776), zI t s2 8 (fun _ => 0), zJ t s3 8 (fun _ => 0), zI t s4 4 (xm 1), zI t s5 4 (xm mk)] H := hP
  have hD : va_D A [zO 3 h [.int (nI i), .ref nw, .int 0, .int 0, .int 0, .null, .ref q_1, .ref q_2, .int 0, .int 0, .int 0, .int 0, .int 0, .int 0, .ref q_3], zO 4 q_1 [.ref a1, .ref b1, .ref v1], zI t a1 32 (fun _ => 0), zI t b1 32 (fun _ => 0), zA t 2 v1 32 (fun _ => none), zO 4 q_2 [.ref a2, .ref b2, .ref v2], zI t a2 64 (fun _ => 0), zI t b2 64 (fun _ => 0), zA t 2 v2 64 (fun _ => none), zO 0 q_3 [.ref no, .int 0, .ref r1, .ref r2, .ref qu, .int 0, .int 0, .int 0], zO 4 r1 [.ref a3, .ref b3, .ref v3], zI t a3 32 (fun _ => 0), zI t b3 32 (fun _ => 0), zA t 2 v3 32 (fun _ => none), zO 4 r2 [.ref a4, .ref b4, .ref v4], zI t a4 4 (fun _ => 0), zI t b4 4 (fun _ => 0), zA t 2 v4 4 (fun _ => none), zA t 2 qu 16 (fun _ => none), zO 5 q_4 [.ref s1, .ref s2, .ref s3, .ref s4, .ref s5, .int 1], zJ t s1 32 (fun _ => 1099511627776), zI t s2 8 (fun _ => 0), zJ t s3 8 (fun _ => 0), zI t s4 4 (xm 1), zI t s5 4 (xm mk)] := hD
  refine va_putF (ci := 3) (v := .ref q_4) (ty := tyX3 5) (C := "QuorumStore$Node") (T := TX3) (N := 15) hx hb hts inX3 tyX3 okX3 nmX3 hown hK.2 hP hD hS 0 rfl rfl 5 (by decide) (hts _ k_205) (fun _ h9 => h9) rfl hin rfl (by decide +kernel) rfl rfl (Nat.le_of_ble_eq_true rfl) d_D_init_60 (fun H locs hP hD hS => ?_)
  have hP : va_P D vwCl [zO 3 h [.int (nI i), .ref nw, .int 0, .int 0, .int 0, .ref q_4, .ref q_1, .ref q_2, .int 0, .int 0, .int 0, .int 0, .int 0, .int 0, .ref q_3], zO 4 q_1 [.ref a1, .ref b1, .ref v1], zI t a1 32 (fun _ => 0), zI t b1 32 (fun _ => 0), zA t 2 v1 32 (fun _ => none), zO 4 q_2 [.ref a2, .ref b2, .ref v2], zI t a2 64 (fun _ => 0), zI t b2 64 (fun _ => 0), zA t 2 v2 64 (fun _ => none), zO 0 q_3 [.ref no, .int 0, .ref r1, .ref r2, .ref qu, .int 0, .int 0, .int 0], zO 4 r1 [.ref a3, .ref b3, .ref v3], zI t a3 32 (fun _ => 0), zI t b3 32 (fun _ => 0), zA t 2 v3 32 (fun _ => none), zO 4 r2 [.ref a4, .ref b4, .ref v4], zI t a4 4 (fun _ => 0), zI t b4 4 (fun _ => 0), zA t 2 v4 4 (fun _ => none), zA t 2 qu 16 (fun _ => none), zO 5 q_4 [.ref s1, .ref s2, .ref s3, .ref s4, .ref s5, .int 1], zJ t s1 32 (fun _ => 1099511627776), zI t s2 8 (fun _ => 0), zJ t s3 8 (fun _ => 0), zI t s4 4 (xm 1), zI t s5 4 (xm mk)] H := hP
  have hD : va_D A [zO 3 h [.int (nI i), .ref nw, .int 0, .int 0, .int 0, .ref q_4, .ref q_1, .ref q_2, .int 0, .int 0, .int 0, .int 0, .int 0, .int 0, .ref q_3], zO 4 q_1 [.ref a1, .ref b1, .ref v1], zI t a1 32 (fun _ => 0), zI t b1 32 (fun _ => 0), zA t 2 v1 32 (fun _ => none), zO 4 q_2 [.ref a2, .ref b2, .ref v2], zI t a2 64 (fun _ => 0), zI t b2 64 (fun _ => 0), zA t 2 v2 64 (fun _ => none), zO 0 q_3 [.ref no, .int 0, .ref r1, .ref r2, .ref qu, .int 0, .int 0, .int 0], zO 4 r1 [.ref a3, .ref b3, .ref v3], zI t a3 32 (fun _ => 0), zI t b3 32 (fun _ => 0), zA t 2 v3 32 (fun _ => none), zO 4 r2 [.ref a4, .ref b4, .ref v4], zI t a4 4 (fun _ => 0), zI t b4 4 (fun _ => 0), zA t 2 v4 4 (fun _ => none), zA t 2 qu 16 (fun _ => none), zO 5 q_4 [.ref s1, .ref s2, .ref s3, .ref s4, .ref s5, .int 1], zJ t s1 32 (fun _ => 1099511627776), zI t s2 8 (fun _ => 0), zJ t s3 8 (fun _ => 0), zI t s4 4 (xm 1), zI t s5 4 (xm mk)] := hD
  refine lv_aload_n hx hb d_D_init_63 rfl (lv_at hl 0 rfl) ?_
  refine lv_iconst (v := 1) hx hb d_D_init_64 (by decide) ?_
  refine va_put (ci := 3) (v := .int 1) (ty := tyX3 8) (C := "QuorumStore$Node") (T := TX3) (N := 15) hx hb hts inX3 tyX3 okX3 nmX3 hown hK.2 hP hD hS 0 rfl rfl 8 (by decide) (hts _ k_211) (fun _ h9 => h9) rfl (by decide +kernel) (by decide) (by decide) (Nat.le_of_ble_eq_true rfl) d_D_init_65 (fun H locs hP hD hS => ?_)
  have hP : va_P D vwCl [zO 3 h [.int (nI i), .ref nw, .int 0, .int 0, .int 0, .ref q_4, .ref q_1, .ref q_2, .int 1, .int 0, .int 0, .int 0, .int 0, .int 0, .ref q_3], zO 4 q_1 [.ref a1, .ref b1, .ref v1], zI t a1 32 (fun _ => 0), zI t b1 32 (fun _ => 0), zA t 2 v1 32 (fun _ => none), zO 4 q_2 [.ref a2, .ref b2, .ref v2], zI t a2 64 (fun _ => 0), zI t b2 64 (fun _ => 0), zA t 2 v2 64 (fun _ => none), zO 0 q_3 [.ref no, .int 0, .ref r1, .ref r2, .ref qu, .int 0, .int 0, .int 0], zO 4 r1 [.ref a3, .ref b3, .ref v3], zI t a3 32 (fun _ => 0), zI t b3 32 (fun _ => 0), zA t 2 v3 32 (fun _ => none), zO 4 r2 [.ref a4, .ref b4, .ref v4], zI t a4 4 (fun _ => 0), zI t b4 4 (fun _ => 0), zA t 2 v4 4 (fun _ => none), zA t 2 qu 16 (fun _ => none), zO 5 q_4 [.ref s1, .ref s2, .ref s3, .ref s4, .ref s5, .int 1], zJ t s1 32 (fun _ => 1099511627776), zI t s2 8 (fun _ => 0), zJ t s3 8 (fun _ => 0), zI t s4 4 (xm 1), zI t s5 4 (xm mk)] H := hP
  have hD : va_D A [zO 3 h [.int (nI i), .ref nw, .int 0, .int 0, .int 0, .ref q_4, .ref q_1, .ref q_2, .int 1, .int 0, .int 0, .int 0, .int 0, .int 0, .ref q_3], zO 4 q_1 [.ref a1, .ref b1, .ref v1], zI t a1 32 (fun _ => 0), zI t b1 32 (fun _ => 0), zA t 2 v1 32 (fun _ => none), zO 4 q_2 [.ref a2, .ref b2, .ref v2], zI t a2 64 (fun _ => 0), zI t b2 64 (fun _ => 0), zA t 2 v2 64 (fun _ => none), zO 0 q_3 [.ref no, .int 0, .ref r1, .ref r2, .ref qu, .int 0, .int 0, .int 0], zO 4 r1 [.ref a3, .ref b3, .ref v3], zI t a3 32 (fun _ => 0), zI t b3 32 (fun _ => 0), zA t 2 v3 32 (fun _ => none), zO 4 r2 [.ref a4, .ref b4, .ref v4], zI t a4 4 (fun _ => 0), zI t b4 4 (fun _ => 0), zA t 2 v4 4 (fun _ => none), zA t 2 qu 16 (fun _ => none), zO 5 q_4 [.ref s1, .ref s2, .ref s3, .ref s4, .ref s5, .int 1], zJ t s1 32 (fun _ => 1099511627776), zI t s2 8 (fun _ => 0), zJ t s3 8 (fun _ => 0), zI t s4 4 (xm 1), zI t s5 4 (xm mk)] := hD
  refine lv_aload_n hx hb d_D_init_68 rfl (lv_at hl 0 rfl) ?_
  refine lv_iconst (v := (-1)) hx hb d_D_init_69 (by decide) ?_
  refine va_put (ci := 3) (v := .int ((-1))) (ty := tyX3 12) (C := "QuorumStore$Node") (T := TX3) (N := 15) hx hb hts inX3 tyX3 okX3 nmX3 hown hK.2 hP hD hS 0 rfl rfl 12 (by decide) (hts _ k_219) (fun _ h9 => h9) rfl (by decide +kernel) rfl rfl (Nat.le_of_ble_eq_true rfl) d_D_init_70 (fun H locs hP hD hS => ?_)
  have hP : va_P D vwCl [zO 3 h [.int (nI i), .ref nw, .int 0, .int 0, .int 0, .ref q_4, .ref q_1, .ref q_2, .int 1, .int 0, .int 0, .int 0, .int ((-1)), .int 0, .ref q_3], zO 4 q_1 [.ref a1, .ref b1, .ref v1], zI t a1 32 (fun _ => 0), zI t b1 32 (fun _ => 0), zA t 2 v1 32 (fun _ => none), zO 4 q_2 [.ref a2, .ref b2, .ref v2], zI t a2 64 (fun _ => 0), zI t b2 64 (fun _ => 0), zA t 2 v2 64 (fun _ => none), zO 0 q_3 [.ref no, .int 0, .ref r1, .ref r2, .ref qu, .int 0, .int 0, .int 0], zO 4 r1 [.ref a3, .ref b3, .ref v3], zI t a3 32 (fun _ => 0), zI t b3 32 (fun _ => 0), zA t 2 v3 32 (fun _ => none), zO 4 r2 [.ref a4, .ref b4, .ref v4], zI t a4 4 (fun _ => 0), zI t b4 4 (fun _ => 0), zA t 2 v4 4 (fun _ => none), zA t 2 qu 16 (fun _ => none), zO 5 q_4 [.ref s1, .ref s2, .ref s3, .ref s4, .ref s5, .int 1], zJ t s1 32 (fun _ => 1099511627776), zI t s2 8 (fun _ => 0), zJ t s3 8 (fun _ => 0), zI t s4 4 (xm 1), zI t s5 4 (xm mk)] H := hP
  have hD : va_D A [zO 3 h [.int (nI i), .ref nw, .int 0, .int 0, .int 0, .ref q_4, .ref q_1, .ref q_2, .int 1, .int 0, .int 0, .int 0, .int ((-1)), .int 0, .ref q_3], zO 4 q_1 [.ref a1, .ref b1, .ref v1], zI t a1 32 (fun _ => 0), zI t b1 32 (fun _ => 0), zA t 2 v1 32 (fun _ => none), zO 4 q_2 [.ref a2, .ref b2, .ref v2], zI t a2 64 (fun _ => 0), zI t b2 64 (fun _ => 0), zA t 2 v2 64 (fun _ => none), zO 0 q_3 [.ref no, .int 0, .ref r1, .ref r2, .ref qu, .int 0, .int 0, .int 0], zO 4 r1 [.ref a3, .ref b3, .ref v3], zI t a3 32 (fun _ => 0), zI t b3 32 (fun _ => 0), zA t 2 v3 32 (fun _ => none), zO 4 r2 [.ref a4, .ref b4, .ref v4], zI t a4 4 (fun _ => 0), zI t b4 4 (fun _ => 0), zA t 2 v4 4 (fun _ => none), zA t 2 qu 16 (fun _ => none), zO 5 q_4 [.ref s1, .ref s2, .ref s3, .ref s4, .ref s5, .int 1], zJ t s1 32 (fun _ => 1099511627776), zI t s2 8 (fun _ => 0), zJ t s3 8 (fun _ => 0), zI t s4 4 (xm 1), zI t s5 4 (xm mk)] := hD
  refine lv_aload_n hx hb d_D_init_73 rfl (lv_at hl 0 rfl) ?_
  refine lv_bipush (v := 8) hx hb d_D_init_74 (by decide) ?_
  refine lv_iconst (v := 3) hx hb d_D_init_76 (by decide) ?_
  refine lv_iload_n hx hb d_D_init_77 rfl (lv_at hl 1 rfl) ?_
  refine lv_imul hx hb d_D_init_78 ?_
  refine lv_iadd hx hb d_D_init_79 ?_
  refine va_put (ci := 3) (v := .int ((8) + ((3) * (nI i)))) (ty := tyX3 11) (C := "QuorumStore$Node") (T := TX3) (N := 15) hx hb hts inX3 tyX3 okX3 nmX3 hown hK.2 hP hD hS 0 rfl rfl 11 (by decide) (hts _ k_217) (fun _ h9 => h9) rfl (by decide +kernel) rfl rfl (Nat.le_of_ble_eq_true rfl) d_D_init_80 (fun H locs hP hD hS => ?_)
  have hP : va_P D vwCl [zO 3 h [.int (nI i), .ref nw, .int 0, .int 0, .int 0, .ref q_4, .ref q_1, .ref q_2, .int 1, .int 0, .int 0, .int ((8) + ((3) * (nI i))), .int ((-1)), .int 0, .ref q_3], zO 4 q_1 [.ref a1, .ref b1, .ref v1], zI t a1 32 (fun _ => 0), zI t b1 32 (fun _ => 0), zA t 2 v1 32 (fun _ => none), zO 4 q_2 [.ref a2, .ref b2, .ref v2], zI t a2 64 (fun _ => 0), zI t b2 64 (fun _ => 0), zA t 2 v2 64 (fun _ => none), zO 0 q_3 [.ref no, .int 0, .ref r1, .ref r2, .ref qu, .int 0, .int 0, .int 0], zO 4 r1 [.ref a3, .ref b3, .ref v3], zI t a3 32 (fun _ => 0), zI t b3 32 (fun _ => 0), zA t 2 v3 32 (fun _ => none), zO 4 r2 [.ref a4, .ref b4, .ref v4], zI t a4 4 (fun _ => 0), zI t b4 4 (fun _ => 0), zA t 2 v4 4 (fun _ => none), zA t 2 qu 16 (fun _ => none), zO 5 q_4 [.ref s1, .ref s2, .ref s3, .ref s4, .ref s5, .int 1], zJ t s1 32 (fun _ => 1099511627776), zI t s2 8 (fun _ => 0), zJ t s3 8 (fun _ => 0), zI t s4 4 (xm 1), zI t s5 4 (xm mk)] H := hP
  have hD : va_D A [zO 3 h [.int (nI i), .ref nw, .int 0, .int 0, .int 0, .ref q_4, .ref q_1, .ref q_2, .int 1, .int 0, .int 0, .int ((8) + ((3) * (nI i))), .int ((-1)), .int 0, .ref q_3], zO 4 q_1 [.ref a1, .ref b1, .ref v1], zI t a1 32 (fun _ => 0), zI t b1 32 (fun _ => 0), zA t 2 v1 32 (fun _ => none), zO 4 q_2 [.ref a2, .ref b2, .ref v2], zI t a2 64 (fun _ => 0), zI t b2 64 (fun _ => 0), zA t 2 v2 64 (fun _ => none), zO 0 q_3 [.ref no, .int 0, .ref r1, .ref r2, .ref qu, .int 0, .int 0, .int 0], zO 4 r1 [.ref a3, .ref b3, .ref v3], zI t a3 32 (fun _ => 0), zI t b3 32 (fun _ => 0), zA t 2 v3 32 (fun _ => none), zO 4 r2 [.ref a4, .ref b4, .ref v4], zI t a4 4 (fun _ => 0), zI t b4 4 (fun _ => 0), zA t 2 v4 4 (fun _ => none), zA t 2 qu 16 (fun _ => none), zO 5 q_4 [.ref s1, .ref s2, .ref s3, .ref s4, .ref s5, .int 1], zJ t s1 32 (fun _ => 1099511627776), zI t s2 8 (fun _ => 0), zJ t s3 8 (fun _ => 0), zI t s4 4 (xm 1), zI t s5 4 (xm mk)] := hD
  have e8 : (8 : Int32) + 3 * nI i = nI (8 + 3 * i) := by rw [show (3 : Int32) = nI 3 from rfl, show (8 : Int32) = nI 8 from rfl, pk_mul, nI_add]
  have hP : va_P D vwCl [zO 3 h [.int (nI i), .ref nw, .int 0, .int 0, .int 0, .ref q_4, .ref q_1, .ref q_2, .int 1, .int 0, .int 0, .int (nI (8 + 3 * i)), .int ((-1)), .int 0, .ref q_3], zO 4 q_1 [.ref a1, .ref b1, .ref v1], zI t a1 32 (fun _ => 0), zI t b1 32 (fun _ => 0), zA t 2 v1 32 (fun _ => none), zO 4 q_2 [.ref a2, .ref b2, .ref v2], zI t a2 64 (fun _ => 0), zI t b2 64 (fun _ => 0), zA t 2 v2 64 (fun _ => none), zO 0 q_3 [.ref no, .int 0, .ref r1, .ref r2, .ref qu, .int 0, .int 0, .int 0], zO 4 r1 [.ref a3, .ref b3, .ref v3], zI t a3 32 (fun _ => 0), zI t b3 32 (fun _ => 0), zA t 2 v3 32 (fun _ => none), zO 4 r2 [.ref a4, .ref b4, .ref v4], zI t a4 4 (fun _ => 0), zI t b4 4 (fun _ => 0), zA t 2 v4 4 (fun _ => none), zA t 2 qu 16 (fun _ => none), zO 5 q_4 [.ref s1, .ref s2, .ref s3, .ref s4, .ref s5, .int 1], zJ t s1 32 (fun _ => 1099511627776), zI t s2 8 (fun _ => 0), zJ t s3 8 (fun _ => 0), zI t s4 4 (xm 1), zI t s5 4 (xm mk)] H := e8 ▸ hP
  have hD : va_D A [zO 3 h [.int (nI i), .ref nw, .int 0, .int 0, .int 0, .ref q_4, .ref q_1, .ref q_2, .int 1, .int 0, .int 0, .int (nI (8 + 3 * i)), .int ((-1)), .int 0, .ref q_3], zO 4 q_1 [.ref a1, .ref b1, .ref v1], zI t a1 32 (fun _ => 0), zI t b1 32 (fun _ => 0), zA t 2 v1 32 (fun _ => none), zO 4 q_2 [.ref a2, .ref b2, .ref v2], zI t a2 64 (fun _ => 0), zI t b2 64 (fun _ => 0), zA t 2 v2 64 (fun _ => none), zO 0 q_3 [.ref no, .int 0, .ref r1, .ref r2, .ref qu, .int 0, .int 0, .int 0], zO 4 r1 [.ref a3, .ref b3, .ref v3], zI t a3 32 (fun _ => 0), zI t b3 32 (fun _ => 0), zA t 2 v3 32 (fun _ => none), zO 4 r2 [.ref a4, .ref b4, .ref v4], zI t a4 4 (fun _ => 0), zI t b4 4 (fun _ => 0), zA t 2 v4 4 (fun _ => none), zA t 2 qu 16 (fun _ => none), zO 5 q_4 [.ref s1, .ref s2, .ref s3, .ref s4, .ref s5, .int 1], zJ t s1 32 (fun _ => 1099511627776), zI t s2 8 (fun _ => 0), zJ t s3 8 (fun _ => 0), zI t s4 4 (xm 1), zI t s5 4 (xm mk)] := e8 ▸ hD
  have hP := hP.sub (ws' := [zO 3 h [.int (nI i), .ref nw, .int 0, .int 0, .int 0, .ref q_4, .ref q_1, .ref q_2, .int 1, .int 0, .int 0, .int (nI (8 + 3 * i)), .int ((-1)), .int 0, .ref q_3], zO 5 q_4 [.ref s1, .ref s2, .ref s3, .ref s4, .ref s5, .int 1], zJ t s1 32 (fun _ => 1099511627776), zI t s2 8 (fun _ => 0), zJ t s3 8 (fun _ => 0), zI t s4 4 (xm 1), zI t s5 4 (xm mk), zO 4 q_1 [.ref a1, .ref b1, .ref v1], zI t a1 32 (fun _ => 0), zI t b1 32 (fun _ => 0), zA t 2 v1 32 (fun _ => none), zO 4 q_2 [.ref a2, .ref b2, .ref v2], zI t a2 64 (fun _ => 0), zI t b2 64 (fun _ => 0), zA t 2 v2 64 (fun _ => none), zO 0 q_3 [.ref no, .int 0, .ref r1, .ref r2, .ref qu, .int 0, .int 0, .int 0], zO 4 r1 [.ref a3, .ref b3, .ref v3], zI t a3 32 (fun _ => 0), zI t b3 32 (fun _ => 0), zA t 2 v3 32 (fun _ => none), zO 4 r2 [.ref a4, .ref b4, .ref v4], zI t a4 4 (fun _ => 0), zI t b4 4 (fun _ => 0), zA t 2 v4 4 (fun _ => none), zA t 2 qu 16 (fun _ => none)]) [0, 19, 20, 21, 22, 23, 24, 1, 2, 3, 4, 5, 6, 7, 8, 9, 10, 11, 12, 13, 14, 15, 16, 17, 18] rfl
  have hD := hD.sub (ws' := [zO 3 h [.int (nI i), .ref nw, .int 0, .int 0, .int 0, .ref q_4, .ref q_1, .ref q_2, .int 1, .int 0, .int 0, .int (nI (8 + 3 * i)), .int ((-1)), .int 0, .ref q_3], zO 5 q_4 [.ref s1, .ref s2, .ref s3, .ref s4, .ref s5, .int 1], zJ t s1 32 (fun _ => 1099511627776), zI t s2 8 (fun _ => 0), zJ t s3 8 (fun _ => 0), zI t s4 4 (xm 1), zI t s5 4 (xm mk), zO 4 q_1 [.ref a1, .ref b1, .ref v1], zI t a1 32 (fun _ => 0), zI t b1 32 (fun _ => 0), zA t 2 v1 32 (fun _ => none), zO 4 q_2 [.ref a2, .ref b2, .ref v2], zI t a2 64 (fun _ => 0), zI t b2 64 (fun _ => 0), zA t 2 v2 64 (fun _ => none), zO 0 q_3 [.ref no, .int 0, .ref r1, .ref r2, .ref qu, .int 0, .int 0, .int 0], zO 4 r1 [.ref a3, .ref b3, .ref v3], zI t a3 32 (fun _ => 0), zI t b3 32 (fun _ => 0), zA t 2 v3 32 (fun _ => none), zO 4 r2 [.ref a4, .ref b4, .ref v4], zI t a4 4 (fun _ => 0), zI t b4 4 (fun _ => 0), zA t 2 v4 4 (fun _ => none), zA t 2 qu 16 (fun _ => none)]) [0, 19, 20, 21, 22, 23, 24, 1, 2, 3, 4, 5, 6, 7, 8, 9, 10, 11, 12, 13, 14, 15, 16, 17, 18] (by decide) rfl
  exact W.vret hx hb hr (fun t ht hW => ⟨⟨((fun k => ([h, q_4, s1, s2, s3, s4, s5, q_1, a1, b1, v1, q_2, a2, b2, v2, q_3, r1, a3, b3, v3, r2, a4, b4, v4, qu] : List Nat).getD k 0), no), rfl, rfl, by rw [ht]; exact hP, hD⟩, hS.F ht⟩) hS.2.2 d_D_init_83
