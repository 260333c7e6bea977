/-! The law from its entry, and the claim. -/
theorem d_W_law_0 : decode c_W_law 0 = .ok (.new 8, 3) := by decide +kernel
theorem d_W_law_3 : decode c_W_law 3 = .ok (.dup, 1) := by decide +kernel
theorem d_W_law_4 : decode c_W_law 4 = .ok (.aload_n 0, 1) := by decide +kernel
theorem d_W_law_5 : decode c_W_law 5 = .ok (.iconst 0, 1) := by decide +kernel
theorem d_W_law_6 : decode c_W_law 6 = .ok (.invokestatic 61, 3) := by decide +kernel
theorem d_W_law_9 : decode c_W_law 9 = .ok (.invokespecial 67, 3) := by decide +kernel
theorem d_W_law_12 : decode c_W_law 12 = .ok (.astore_n 1, 1) := by decide +kernel
theorem d_W_law_13 : decode c_W_law 13 = .ok (.new 69, 3) := by decide +kernel
theorem d_W_law_16 : decode c_W_law 16 = .ok (.dup, 1) := by decide +kernel
theorem d_W_law_17 : decode c_W_law 17 = .ok (.aload_n 0, 1) := by decide +kernel
theorem d_W_law_18 : decode c_W_law 18 = .ok (.iconst 0, 1) := by decide +kernel
theorem d_W_law_19 : decode c_W_law 19 = .ok (.invokestatic 61, 3) := by decide +kernel
theorem d_W_law_22 : decode c_W_law 22 = .ok (.invokespecial 71, 3) := by decide +kernel
theorem d_W_law_25 : decode c_W_law 25 = .ok (.astore_n 2, 1) := by decide +kernel
theorem d_W_law_26 : decode c_W_law 26 = .ok (.iconst 1, 1) := by decide +kernel
theorem d_W_law_27 : decode c_W_law 27 = .ok (.newarray .long, 2) := by decide +kernel
theorem d_W_law_29 : decode c_W_law 29 = .ok (.astore_n 3, 1) := by decide +kernel
theorem d_W_law_30 : decode c_W_law 30 = .ok (.iconst 1, 1) := by decide +kernel
theorem d_W_law_31 : decode c_W_law 31 = .ok (.istore 4, 2) := by decide +kernel
theorem d_W_law_33 : decode c_W_law 33 = .ok (.iload 4, 2) := by decide +kernel
theorem d_W_law_35 : decode c_W_law 35 = .ok (.aload_n 0, 1) := by decide +kernel
theorem d_W_law_36 : decode c_W_law 36 = .ok (.arraylength, 1) := by decide +kernel
theorem d_W_law_37 : decode c_W_law 37 = .ok (.bipush 7, 2) := by decide +kernel
theorem d_W_law_39 : decode c_W_law 39 = .ok (.isub, 1) := by decide +kernel
theorem d_W_law_40 : decode c_W_law 40 = .ok (.if_icmp .gt 943, 3) := by decide +kernel
theorem d_W_law_43 : decode c_W_law 43 = .ok (.aload_n 0, 1) := by decide +kernel
theorem d_W_law_44 : decode c_W_law 44 = .ok (.iload 4, 2) := by decide +kernel
theorem d_W_law_46 : decode c_W_law 46 = .ok (.iaload, 1) := by decide +kernel
theorem d_W_law_47 : decode c_W_law 47 = .ok (.bipush 15, 2) := by decide +kernel
theorem d_W_law_49 : decode c_W_law 49 = .ok (.iand, 1) := by decide +kernel
theorem d_W_law_50 : decode c_W_law 50 = .ok (.tableswitch 927 0 13 #[70, 126, 182, 238, 294, 362, 398, 434, 490, 608, 687, 754, 834, 902], 70) := by decide +kernel
theorem d_W_law_977 : decode c_W_law 977 = .ok (.iinc 4 7, 3) := by decide +kernel
theorem d_W_law_980 : decode c_W_law 980 = .ok (.goto (-947), 3) := by decide +kernel
theorem d_W_law_983 : decode c_W_law 983 = .ok (.iconst 1, 1) := by decide +kernel
theorem d_W_law_984 : decode c_W_law 984 = .ok (.ireturn, 1) := by decide +kernel
section XLp
variable {s : State} {H : Heap} {D : va_G} {t : Nat → ClassId} {b L : Nat} {xs : Nat → Int32} {A : Nat → Prop} {locs : List Loc}
theorem xl_pre (hK : xK D vwCl (xTY t) s) (hX : va_X b L xs s s.heap) (hbl : b < s.heap.size) (hbA : ¬ A b) (hS : va_S A s.heap H locs) : PreS s H (va_Pc [.ref b, .int 0] (fun U => xK D vwCl (xTY t) U ∧ va_X b L xs U U.heap)) [.ref b, .int 0] :=
  ⟨fun a U g mk h => ⟨h.1, h.2.1.blind g mk a, va_X.moved (u := U) (U := U.calling g mk a) (Vm.Alike.refl U.vm) h.2.2⟩, fun U hU hW => ⟨rfl, hK.warm hW, by rw [hU]; exact (hX.kept (hS.2.1 b hbl hbA)).moved hW.alike⟩⟩
end XLp
set_option maxHeartbeats 4000000 in
set_option maxRecDepth 100000 in
/-- the law, from its entry -/
theorem whole_start {p : Program} {e : Env} {s : State} {m : MethodId} {below : List Frame} {meth : Method} {c : Code} (l : Launch) (hfl : l.flags = pinnedFlags ++ [noTraceFlag]) {b L : Nat} {xs : Nat → Int32} (hL : L ≤ 8) (C0 : lw_At p s m meth c b L xs) : W p l e room_1 s m #[Value.ref b] below meth c s.heap [] 0 0 (lw_Z below #[Value.ref b] s) (entryFrame m ([Value.ref b] : List Value).toArray 8) := by
  obtain ⟨hx, hb, hr, hml, hown, hts0, hX, hbl, hlocks, hgv⟩ := id C0
  obtain ⟨D, t, hK⟩ := xk_start hts0
  have hG := xg_start hts0 hgv
  have hown : s.vm.findClass "QuorumStoreLaw" = some m.cls := hown
  have Z : xF p m c code 8 s "QuorumStoreLaw" D vwCl (xTY t) := ⟨hx, hb, hml, hown, hK⟩
  have hts := hK.1.at (args := #[Value.ref b])
  have hA : ∀ q : Nat, s.heap.size ≤ q → (fun q : Nat => s.heap.size ≤ q) q := fun _ h => h
  have hbA : ¬ (fun q : Nat => s.heap.size ≤ q) b := Nat.not_le.mpr hbl
  have hS : va_S (fun q : Nat => s.heap.size ≤ q) s.heap s.heap [] := va_S.rf
  have hP : va_P D vwCl [] s.heap := xn_P
  have hD : va_D (fun q : Nat => s.heap.size ≤ q) [] := xn_D
  have hl := lv_entry ([.ref b]) (n := 8) (Nat.le_of_ble_eq_true rfl)
  rw [lg_entry_eq]
  generalize (lg_sl ([.ref b]) ++ List.replicate (8 - (lg_sl ([.ref b])).length) Slot.unset).toArray = ls at hl ⊢
  have hl : lv_has ls 8 [(0, .ref b)] := hl
  refine va_new (ci := 7) (fs := [.null, .null, .int 0]) (C := "QuorumStore") (T := TX7) (N := 3) hx hb hts inX7 tyX7 okX7 hown (hts _ k_24) (hts _ k_25) (hts _ k_1) hK.2 hP hD hS hA rfl (by decide) (Nat.le_of_ble_eq_true rfl) (Nat.le_of_ble_eq_true rfl) d_W_law_0 (fun xa H hP hD hS => ?_)
  have hP : va_P D vwCl ([] ++ [zO 7 xa [.null, .null, .int 0]]) H := hP
  have hD : va_D (fun q : Nat => s.heap.size ≤ q) ([] ++ [zO 7 xa [.null, .null, .int 0]]) := hD
  refine lv_dup hx hb d_W_law_3 rfl ?_
  refine lv_aload_n hx hb d_W_law_4 rfl (lv_at hl 0 rfl) ?_
  refine lv_iconst (v := 0) hx hb d_W_law_5 (by decide) ?_
  refine xr_call (xs_S (As := [.ref b, .int 0]) (rest := [.ref xa, .ref xa]) Z (C_W_cell l D t b L xs hL) m_W_cell k_269 k_270 rfl rfl ⟨Nat.le_of_ble_eq_true rfl, Nat.le_of_ble_eq_true rfl⟩ (xl_pre hK hX hbl hbA hS) rfl hl.1 rfl (Nat.le_of_ble_eq_true rfl) d_W_law_6 ⟨Nat.le_of_ble_eq_true rfl, Nat.le_of_ble_eq_true rfl⟩) ?_
  refine lv_topi (fun mem emem => ?_)
  obtain ⟨mk, hmk⟩ : ∃ mk : Int32, mk = if mem &&& 127 = 0 then 7 else mem &&& 127 := ⟨_, rfl⟩
  have hPc : va_P D vwCl [zO 7 xa [.null, .null, .int 0]] H := xd_P hP (fun q h => List.mem_append_right _ h)
  have hDc : va_D (fun q : Nat => s.heap.size ≤ q) [zO 7 xa [.null, .null, .int 0]] := xd_R hD
  refine xe_sfxv (wr := []) (wc := [zO 7 xa [.null, .null, .int 0]]) (xs_I (As := [.int mem]) (rest := [.ref xa]) Z (C_Q_init l D t xa mem mk hmk H.size) m_Q_init k_26 k_27 rfl rfl rfl ⟨Nat.le_of_ble_eq_true rfl, Nat.le_of_ble_eq_true rfl⟩ (xe_pre hK hPc hDc) rfl hl.1 rfl (Nat.le_of_ble_eq_true rfl) d_W_law_9 ⟨Nat.le_of_ble_eq_true rfl, Nat.le_of_ble_eq_true rfl⟩) hP hD hS hA (fun u_ H locs hw hP hD hS => ?_)
  obtain ⟨nw, na, rw, qq, no⟩ := u_
  have hP : va_P D vwCl (lQ t xa nw na rw qq no mk) H := hP
  have hD : va_D (fun q : Nat => s.heap.size ≤ q) (lQ t xa nw na rw qq no mk) := hD
  refine lv_astore_n (lv' := [(1, .ref xa), (0, .ref b)]) hx hb d_W_law_12 rfl hl (by decide) rfl (fun ls hl => ?_)
  refine va_new (ci := 13) (fs := [.int 0, .int 0, .int 0, .int 0, .int 0, .int 0, .null, .null, .null, .null]) (C := "QuorumStoreModel") (T := TX13) (N := 10) hx hb hts inX13 tyX13 okX13 hown (hts _ k_811) (hts _ k_812) (hts _ k_8) hK.2 hP hD hS hA rfl (by decide) (Nat.le_of_ble_eq_true rfl) (Nat.le_of_ble_eq_true rfl) d_W_law_13 (fun ma H hP hD hS => ?_)
  have hP : va_P D vwCl ((lQ t xa nw na rw qq no mk) ++ [zO 13 ma [.int 0, .int 0, .int 0, .int 0, .int 0, .int 0, .null, .null, .null, .null]]) H := hP
  have hD : va_D (fun q : Nat => s.heap.size ≤ q) ((lQ t xa nw na rw qq no mk) ++ [zO 13 ma [.int 0, .int 0, .int 0, .int 0, .int 0, .int 0, .null, .null, .null, .null]]) := hD
  refine lv_dup hx hb d_W_law_16 rfl ?_
  refine lv_aload_n hx hb d_W_law_17 rfl (lv_at hl 1 rfl) ?_
  refine lv_iconst (v := 0) hx hb d_W_law_18 (by decide) ?_
  refine xr_call (xs_S (As := [.ref b, .int 0]) (rest := [.ref ma, .ref ma]) Z (C_W_cell l D t b L xs hL) m_W_cell k_269 k_270 rfl rfl ⟨Nat.le_of_ble_eq_true rfl, Nat.le_of_ble_eq_true rfl⟩ (xl_pre hK hX hbl hbA hS) rfl hl.1 rfl (Nat.le_of_ble_eq_true rfl) d_W_law_19 ⟨Nat.le_of_ble_eq_true rfl, Nat.le_of_ble_eq_true rfl⟩) ?_
  refine lv_topi (fun mem2 emem2 => ?_)
  obtain rfl : mem = mem2 := emem.trans emem2.symm
  have hPc : va_P D vwCl [zO 13 ma [.int 0, .int 0, .int 0, .int 0, .int 0, .int 0, .null, .null, .null, .null]] H := xd_P hP (fun q h => List.mem_append_right _ h)
  have hDc : va_D (fun q : Nat => s.heap.size ≤ q) [zO 13 ma [.int 0, .int 0, .int 0, .int 0, .int 0, .int 0, .null, .null, .null, .null]] := xd_R hD
  refine xe_sfxv (wr := (lQ t xa nw na rw qq no mk)) (wc := [zO 13 ma [.int 0, .int 0, .int 0, .int 0, .int 0, .int 0, .null, .null, .null, .null]]) (xs_I (As := [.int mem]) (rest := [.ref ma]) Z (C_P_init l D t ma mem mk hmk H.size) m_P_init k_813 k_814 rfl rfl rfl ⟨Nat.le_of_ble_eq_true rfl, Nat.le_of_ble_eq_true rfl⟩ (xe_pre hK hPc hDc) rfl hl.1 rfl (Nat.le_of_ble_eq_true rfl) d_W_law_22 ⟨Nat.le_of_ble_eq_true rfl, Nat.le_of_ble_eq_true rfl⟩) hP hD hS hA (fun u_ H locs hw hP hD hS => ?_)
  obtain ⟨nb, wy, hd, tk, hli, hst, pq⟩ := u_
  have hP : va_P D vwCl (lQ t xa nw na rw qq no mk ++ lP t ma nb wy hd tk hli hst pq mk) H := hP
  have hD : va_D (fun q : Nat => s.heap.size ≤ q) (lQ t xa nw na rw qq no mk ++ lP t ma nb wy hd tk hli hst pq mk) := hD
  refine lv_astore_n (lv' := [(2, .ref ma), (1, .ref xa), (0, .ref b)]) hx hb d_W_law_25 rfl hl (by decide) rfl (fun ls hl => ?_)
  refine lv_iconst (v := 1) hx hb d_W_law_26 (by decide) ?_
  refine va_newa (atype := .long) (ty := .long) (a0 := (1, .inr (.inl (fun _ => 0)))) hx hb (hts _ k_196) rfl hK.2 hP hD hS hA (fun _ => rfl) (by decide) rfl (by decide) (Nat.le_of_ble_eq_true rfl) (Nat.le_of_ble_eq_true rfl) d_W_law_27 (fun ou cA H hKn hP hD hS => ?_)
  obtain rfl : cA = t 1 := xk_arr hKn (i := 1) rfl
  have hp : ((lQ t xa nw na rw qq no mk ++ lP t ma nb wy hd tk hli hst pq mk) ++ [zJ t ou 1 (fun _ => 0)]).Perm (lP t ma nb wy hd tk hli hst pq mk ++ (lQ t xa nw na rw qq no mk ++ [zJ t ou 1 (fun _ => 0)])) := by rw [← List.append_assoc]; exact List.Perm.append_right _ List.perm_append_comm
  have hP : va_P D vwCl (lP t ma nb wy hd tk hli hst pq mk ++ (lQ t xa nw na rw qq no mk ++ [zJ t ou 1 (fun _ => 0)])) H := xd_P hP (fun q h => hp.mem_iff.mpr h)
  have hD : va_D (fun q : Nat => s.heap.size ≤ q) (lP t ma nb wy hd tk hli hst pq mk ++ (lQ t xa nw na rw qq no mk ++ [zJ t ou 1 (fun _ => 0)])) := xd_perm hD hp
  refine lv_astore_n (lv' := [(3, .ref ou), (2, .ref ma), (1, .ref xa), (0, .ref b)]) hx hb d_W_law_29 rfl hl (by decide) rfl (fun ls hl => ?_)
  refine lv_iconst (v := 1) hx hb d_W_law_30 (by decide) ?_
  refine lv_istore (lv' := [(4, .int 1), (3, .ref ou), (2, .ref ma), (1, .ref xa), (0, .ref b)]) hx hb d_W_law_31 hl (by decide) rfl (fun ls hl => ?_)
  rcases Nat.lt_or_ge L 8 with h8 | h8
  · refine lv_iload hx hb d_W_law_33 (lv_at hl 0 rfl) ?_
    refine lv_aload_n hx hb d_W_law_35 rfl (lv_at hl 4 rfl) ?_
    refine va_slen hx hb hX hbl hbA hS d_W_law_36 ?_
    refine lv_bipush (v := 7) hx hb d_W_law_37 (by decide) ?_
    refine lv_isub hx hb d_W_law_39 ?_
    refine lv_icmp_gt (tgt := 983) hx hb d_W_law_40 (by decide) (fun _ => ?_) (fun c_1 => absurd (show Int32.ofNat L - 7 < 1 by rcases (show L = 0 ∨ L = 1 ∨ L = 2 ∨ L = 3 ∨ L = 4 ∨ L = 5 ∨ L = 6 ∨ L = 7 by omega) with rfl | rfl | rfl | rfl | rfl | rfl | rfl | rfl <;> decide) c_1)
    refine lv_iconst (v := 1) hx hb d_W_law_983 (by decide) ?_
    refine va_forget (fun q hq => hS.2.2 q hq) ?_
    refine W.widen (k := 600002) (n := 7302198) (Nat.le_of_ble_eq_true rfl) (Nat.le_of_ble_eq_true rfl) ?_
    exact lw_ret hx hb hr hlocks d_W_law_984
  · obtain rfl : L = 8 := by omega
    have back : ∀ (H : Heap) (locs : List Loc) (ls : Array Slot), va_S (fun q : Nat => s.heap.size ≤ q) s.heap H locs → lv_has ls 8 [(4, .int 1), (0, .ref b)] → W p l e room_1 s m #[Value.ref b] below meth c H locs 100000 1000000 (lw_Z below #[Value.ref b] s) (F0 m 977 ls []) := by
      intro H locs ls hS hl
      refine lv_iinc (v := 8) (lv' := [(4, .int 8), (0, .ref b)]) hx hb d_W_law_977 hl (k := 0) rfl rfl (by decide) rfl (fun ls hl => ?_)
      refine lv_goto (tgt := 33) hx hb d_W_law_980 (by decide) ?_
      refine lv_iload hx hb d_W_law_33 (lv_at hl 0 rfl) ?_
      refine lv_aload_n hx hb d_W_law_35 rfl (lv_at hl 1 rfl) ?_
      refine va_slen hx hb hX hbl hbA hS d_W_law_36 ?_
      refine lv_bipush (v := 7) hx hb d_W_law_37 (by decide) ?_
      refine lv_isub hx hb d_W_law_39 ?_
      refine lv_icmp_gt (tgt := 983) hx hb d_W_law_40 (by decide) (fun _ => ?_) (fun c_2 => absurd (by decide) c_2)
      refine lv_iconst (v := 1) hx hb d_W_law_983 (by decide) ?_
      refine va_forget (fun q hq => hS.2.2 q hq) ?_
      refine W.widen (k := 600002) (n := 7302198) (Nat.le_of_ble_eq_true rfl) (Nat.le_of_ble_eq_true rfl) ?_
      exact lw_ret hx hb hr hlocks d_W_law_984
    refine lv_iload hx hb d_W_law_33 (lv_at hl 0 rfl) ?_
    refine lv_aload_n hx hb d_W_law_35 rfl (lv_at hl 4 rfl) ?_
    refine va_slen hx hb hX hbl hbA hS d_W_law_36 ?_
    refine lv_bipush (v := 7) hx hb d_W_law_37 (by decide) ?_
    refine lv_isub hx hb d_W_law_39 ?_
    refine lv_icmp_gt (tgt := 983) hx hb d_W_law_40 (by decide) (fun c_3 => absurd c_3 (by decide)) (fun _ => ?_)
    refine lv_aload_n hx hb d_W_law_43 rfl (lv_at hl 4 rfl) ?_
    refine lv_iload hx hb d_W_law_44 (lv_at hl 0 rfl) ?_
    refine va_sld hx hb hX hbl hbA hS (by unfold vp_in; decide) d_W_law_46 ?_
    refine lv_bipush (v := 15) hx hb d_W_law_47 (by decide) ?_
    refine lv_iand hx hb d_W_law_49 ?_
    refine lv_topi (fun v ev => ?_)
    rcases xq_15 (xs (1 : Int32).toNatClampNeg) with h9 | h9 | h9 | h9 | h9 | h9 | h9 | h9 | h9 | h9 | h9 | h9 | h9 | h9 | h9 | h9
    · obtain rfl : v = 0 := ev.trans h9
      refine lv_tableIn (off := 70) (tgt := 120) hx hb d_W_law_50 (by decide) (by decide) (by decide) (by decide) ?_
      exact LW_tick l hfl D t Z hG hX hbl xa nw na rw ou ma nb wy hd tk hli hst qq pq no mk hP hD hS hl back
    · obtain rfl : v = 1 := ev.trans h9
      refine lv_tableIn (off := 126) (tgt := 176) hx hb d_W_law_50 (by decide) (by decide) (by decide) (by decide) ?_
      exact LW_deliver l hfl D t Z hG hX hbl xa nw na rw ou ma nb wy hd tk hli hst qq pq no mk hP hD hS hl back
    · obtain rfl : v = 2 := ev.trans h9
      refine lv_tableIn (off := 182) (tgt := 232) hx hb d_W_law_50 (by decide) (by decide) (by decide) (by decide) ?_
      exact LW_drop l hfl D t Z hG hX hbl xa nw na rw ou ma nb wy hd tk hli hst qq pq no mk hP hD hS hl back
    · obtain rfl : v = 3 := ev.trans h9
      refine lv_tableIn (off := 238) (tgt := 288) hx hb d_W_law_50 (by decide) (by decide) (by decide) (by decide) ?_
      exact LW_copy l hfl D t Z hG hX hbl xa nw na rw ou ma nb wy hd tk hli hst qq pq no mk hP hD hS hl back
    · obtain rfl : v = 4 := ev.trans h9
      refine lv_tableIn (off := 294) (tgt := 344) hx hb d_W_law_50 (by decide) (by decide) (by decide) (by decide) ?_
      exact LW_message l hfl D t Z hG hX hbl xa nw na rw ou ma nb wy hd tk hli hst qq pq no mk hP hD hS hl back
    · obtain rfl : v = 5 := ev.trans h9
      refine lv_tableIn (off := 362) (tgt := 412) hx hb d_W_law_50 (by decide) (by decide) (by decide) (by decide) ?_
      exact LW_fall l hfl D t Z hG hX hbl xa nw na rw ou ma nb wy hd tk hli hst qq pq no mk hP hD hS hl back
    · obtain rfl : v = 6 := ev.trans h9
      refine lv_tableIn (off := 398) (tgt := 448) hx hb d_W_law_50 (by decide) (by decide) (by decide) (by decide) ?_
      exact LW_rise l hfl D t Z hG hX hbl xa nw na rw ou ma nb wy hd tk hli hst qq pq no mk hP hD hS hl back
    · obtain rfl : v = 7 := ev.trans h9
      refine lv_tableIn (off := 434) (tgt := 484) hx hb d_W_law_50 (by decide) (by decide) (by decide) (by decide) ?_
      exact LW_key l hfl D t Z hG hX hbl xa nw na rw ou ma nb wy hd tk hli hst qq pq no mk hP hD hS hl back
    · obtain rfl : v = 8 := ev.trans h9
      refine lv_tableIn (off := 490) (tgt := 540) hx hb d_W_law_50 (by decide) (by decide) (by decide) (by decide) ?_
      exact LW_ask l hfl D t Z hG hX hbl xa nw na rw ou ma nb wy hd tk hli hst qq pq no mk hP hD hS hl back
    · obtain rfl : v = 9 := ev.trans h9
      refine lv_tableIn (off := 608) (tgt := 658) hx hb d_W_law_50 (by decide) (by decide) (by decide) (by decide) ?_
      exact LW_answer l hfl D t Z hG hX hbl xa nw na rw ou ma nb wy hd tk hli hst qq pq no mk hP hD hS hl back
    · obtain rfl : v = 10 := ev.trans h9
      refine lv_tableIn (off := 687) (tgt := 737) hx hb d_W_law_50 (by decide) (by decide) (by decide) (by decide) ?_
      exact LW_number l hfl D t Z hG hX hbl xa nw na rw ou ma nb wy hd tk hli hst qq pq no mk hP hD hS hl back
    · obtain rfl : v = 11 := ev.trans h9
      refine lv_tableIn (off := 754) (tgt := 804) hx hb d_W_law_50 (by decide) (by decide) (by decide) (by decide) ?_
      exact LW_known l hfl D t Z hG hX hbl xa nw na rw ou ma nb wy hd tk hli hst qq pq no mk hP hD hS hl back
    · obtain rfl : v = 12 := ev.trans h9
      refine lv_tableIn (off := 834) (tgt := 884) hx hb d_W_law_50 (by decide) (by decide) (by decide) (by decide) ?_
      exact LW_about l hfl D t Z hG hX hbl xa nw na rw ou ma nb wy hd tk hli hst qq pq no mk hP hD hS hl back
    · obtain rfl : v = 13 := ev.trans h9
      refine lv_tableIn (off := 902) (tgt := 952) hx hb d_W_law_50 (by decide) (by decide) (by decide) (by decide) ?_
      exact LW_count l hfl D t Z hG hX hbl xa nw na rw ou ma nb wy hd tk hli hst qq pq no mk hP hD hS hl back
    · obtain rfl : v = 14 := ev.trans h9
      refine lv_tableOut (tgt := 977) hx hb d_W_law_50 (by decide) (by decide) ?_
      refine W.widen (k := 100000) (n := 1000000) (Nat.le_of_ble_eq_true rfl) (Nat.le_of_ble_eq_true rfl) ?_
      exact back H locs ls hS (lv_sub hl [0, 4] rfl)
    · obtain rfl : v = 15 := ev.trans h9
      refine lv_tableOut (tgt := 977) hx hb d_W_law_50 (by decide) (by decide) ?_
      refine W.widen (k := 100000) (n := 1000000) (Nat.le_of_ble_eq_true rfl) (Nat.le_of_ble_eq_true rfl) ?_
      exact back H locs ls hS (lv_sub hl [0, 4] rfl)
set_option maxHeartbeats 4000000 in
theorem lw_walk (l : Launch) (hfl : l.flags = flags0) (b : Addr) (xs : List Int32) : MetFree l x (headSpec (Jvm.Cond.code x code maxLocals ret :: tables_1) room_1) (lw_P b xs) (fun _ _ _ _ _ => True) lw_Q := by
  refine MetFree.of_bodyS (code := code) (maxLocals := maxLocals) (ret := ret) (by decide) ?_ ?_
  · intro args s m h hn
    obtain ⟨meth, c, h1, h2, h3, h4, h5, h6, -, -⟩ := Cond.code_spec hn (atoms_spec (ws := Jvm.Cond.code x code maxLocals ret :: tables_1) h _ List.mem_cons_self)
    exact ⟨meth, c, h1, h2, h3, h4, h5, h6⟩
  · intro p e s m args below meth c s₁ B hml0 hP _
    obtain ⟨rfl, hx, hbd, hgv⟩ := hP
    obtain ⟨scr, harrAt, hlist, hof, hsmall⟩ := hx
    obtain ⟨hcb, hkn, -, -⟩ := State.arrayAt?_spec harrAt
    have hown : s.vm.findClass R_law = some m.cls := findClass_of_methodNamed B.named
    have hts0 : ∀ c ∈ (Jvm.Cond.code x code maxLocals ret :: tables_1), c.before #[Value.ref b] s = true := atoms_spec (ws := Jvm.Cond.code x code maxLocals ret :: tables_1) B.pre
    have hts : ∀ w ∈ lw_tbl, w.before #[Value.ref b] s = true := k2_hts_sels lw_privs (fun w hw => hts0 w (List.mem_cons_of_mem _ hw)) lw_privs_ok
    have hml : c.maxLocals = 8 := B.maxLocals_eq (hts0 _ List.mem_cons_self)
    have X₀ : Stand p l e room_1 s m #[Value.ref b] below meth c s₁ [] 0 0 := Stand.of_body B
    have hh0 : s₁.heap = s.heap := by rw [B.state]; rfl
    have hsz : scr.slots.size = xs.length := by rw [← Array.length_toList, hlist, List.length_map]
    have hval : ∀ j : Nat, j < xs.length → scr.slots[j]? = some (.int (xs.getD j 0)) := fun j hj => by
      rw [← Array.getElem?_toList, hlist]
      simp [hj]
    have hbl : b < s.heap.size := (Array.getElem?_eq_some_iff.mp hcb).1
    have hX : va_X b xs.length (fun j => xs.getD j 0) s s.heap := ⟨scr, hcb, hof, hkn, hsz, hval⟩
    have K : W p l e room_1 s m #[Value.ref b] below meth c s₁.heap [] 0 0 (lw_Z below #[Value.ref b] s) (entryFrame m ([Value.ref b] : List Value).toArray 8) := by
      rw [hh0]
      exact whole_start l hfl hbd ⟨B.exec, B.bytes, B.returns, hml, hown, hts, hX, hbl, B.notSynchronized, hgv⟩
    obtain ⟨t, a1, o, b1, b2, b3⟩ := K s₁ rfl X₀
    exact ⟨t, o, a1, b1, b2, b3⟩
theorem lw_pre_spec {args : Array Value} {s : State} (h : (Jvm.Cond.and given_1 narrow_1).before args s = true) (hr : rest_1_c.before args s = true) : ∃ (b : Addr) (xs : List Int32), lw_P b xs args s := by
  have hs := flat_of_before _ h
  have hq := flat_of_before _ hr
  have hc : (Cond.count 1).before args s = true := hs _ (by decide +kernel)
  have harr : (Cond.arrayOf (.arg 0) .int).before args s = true := hs _ (by decide +kernel)
  have hle : (Cond.le (.length (.arg 0)) (.int 8)).before args s = true := hs _ (by decide +kernel)
  have hlen : (Cond.isInt (.length (.arg 0))).before args s = true := hq _ (by decide +kernel)
  have hall : (Cond.all (.arg 0) (.isInt (.elem (.arg 0) (.index 0)))).before args s = true := hq _ (by decide +kernel)
  obtain ⟨b, xs, hb, hx⟩ := State.ints_of_pre rfl harr hlen hall
  have hsm : xs.length < 2 ^ 31 := hx.choose_spec.2.2.2
  have hev : (Term.length (.arg 0)).eval args s none [] s = some (.int xs.length.toInt32) := hx.length_eval hb
  have hv := Cond.le_ints hev (show (Term.int 8).eval args s none [] s = some (.int 8) from rfl)
  have hd : xs.length.toInt32 ≤ 8 := by
    simpa [Cond.before, Cond.holds, hv] using hle
  have hN : xs.length ≤ 8 := (Int32.ofNat_le_ofNat hsm (by decide)).mp (show Int32.ofNat xs.length ≤ Int32.ofNat 8 from hd)
  exact ⟨b, xs, Cond.one_arg hc (show args[0]? = some (.ref b) from hb), hx, hN, h⟩
theorem lw_comes (l : Launch) (hfl : l.flags = flags0) : Comes l x (Jvm.Cond.code x code maxLocals ret :: tables_1) room_1 (fun tb e args s => Calls_1 tb e args s ∧ rest_1 tb e args s ∧ Pre_1 tb e args s)
    (fun _ _ args s o t => lw_Q args s o t) := by
  intro p e ha hc hk s m args below hf hfit hheap happ hpre
  obtain ⟨b, xs, hP⟩ := lw_pre_spec hpre.2.2 hpre.2.1
  obtain ⟨k, o, h1, h2, h3, hQ⟩ := lw_walk l hfl b xs p e ha hc hk s m args below hf ((Spec.applies_iff_loose hf).mp happ).1 hP trivial
  exact ⟨k, o, h1, h2, h3, hQ⟩
theorem lw_frame {s t : State} {o : Outcome} {args : Array Value} (h : Framed s o t [] 600002 7302198) :
    Framed s o t (fieldLocs frame_1_writes args s ++ arrayLocs frame_1_arrays args s ++ staticLocs frame_1_statics s) 600002 7302198 := h
theorem lw_limb (L : Cond) (hL : ∀ (args : Array Value) (s t : State), L.after args s (.returned (some (.int 1))) t = true) :
    ArmFor flags0 classFile x code maxLocals ret World_1 tables_1 room_1 Calls_1 rest_1 Pre_1
      (fun tb e a s o t => postC L tb e a s o t ∧ Framed s o t (fieldLocs frame_1_writes a s ++ arrayLocs frame_1_arrays a s ++ staticLocs frame_1_statics s) 600002 7302198) := by
  intro l hfl _ _ p e ha hc hk s m args below hf hfit hheap happ hpre
  obtain ⟨k, o, h1, h2, h3, rfl, hF⟩ := lw_comes l hfl p e ha hc hk s m args below hf hfit hheap happ hpre
  exact ⟨k, _, h1, h2, h3, hL args s _, lw_frame hF⟩
theorem i_vc : Claimed_1_1 ∧ Claimed_1_2 := ⟨lw_limb limb_1_1 (fun args s t => by simp [limb_1_1, Cond.after, Cond.holds, Cond.value]), lw_limb limb_1_2 (fun args s t => Cond.after_iff.mpr (by
  first | (rw [show limb_1_2 = Cond.eq .result (.int 1) from rfl, Cond.eq_ints (x := 1) (y := 1) rfl rfl]; simp; done) | (simp [limb_1_2, Cond.value, Term.eval]; done)))⟩

