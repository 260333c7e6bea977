/-! The law's cases, each from its place in the switch to the end of the turn. -/
theorem xq_01 (n : Int32) : n = 0 ∨ n = 1 ∨ (¬ n = 0 ∧ ¬ n = 1) := by
  by_cases h0 : n = 0
  · exact Or.inl h0
  · by_cases h1 : n = 1
    · exact Or.inr (Or.inl h1)
    · exact Or.inr (Or.inr ⟨h0, h1⟩)
theorem xq_ask (kd sq : Int32) : (kd < 1 ∨ 6 < kd ∨ sq < 1) ∨ (¬ kd < 1 ∧ ¬ 6 < kd ∧ 1 ≤ sq) := by
  by_cases h0 : kd < 1
  · exact Or.inl (Or.inl h0)
  · by_cases h1 : 6 < kd
    · exact Or.inl (Or.inr (Or.inl h1))
    · by_cases h2 : sq < 1
      · exact Or.inl (Or.inr (Or.inr h2))
      · exact Or.inr ⟨h0, h1, Int32.not_lt.mp h2⟩
theorem d_W_law_120 : decode c_W_law 120 = .ok (.aload_n 1, 1) := by decide +kernel
theorem d_W_law_121 : decode c_W_law 121 = .ok (.aload_n 0, 1) := by decide +kernel
theorem d_W_law_122 : decode c_W_law 122 = .ok (.iload 4, 2) := by decide +kernel
theorem d_W_law_124 : decode c_W_law 124 = .ok (.iconst 1, 1) := by decide +kernel
theorem d_W_law_125 : decode c_W_law 125 = .ok (.iadd, 1) := by decide +kernel
theorem d_W_law_126 : decode c_W_law 126 = .ok (.iaload, 1) := by decide +kernel
theorem d_W_law_127 : decode c_W_law 127 = .ok (.aload_n 3, 1) := by decide +kernel
theorem d_W_law_128 : decode c_W_law 128 = .ok (.invokestatic 72, 3) := by decide +kernel
theorem d_W_law_131 : decode c_W_law 131 = .ok (.istore 5, 2) := by decide +kernel
theorem d_W_law_133 : decode c_W_law 133 = .ok (.aload_n 2, 1) := by decide +kernel
theorem d_W_law_134 : decode c_W_law 134 = .ok (.aload_n 0, 1) := by decide +kernel
theorem d_W_law_135 : decode c_W_law 135 = .ok (.iload 4, 2) := by decide +kernel
theorem d_W_law_137 : decode c_W_law 137 = .ok (.iconst 1, 1) := by decide +kernel
theorem d_W_law_138 : decode c_W_law 138 = .ok (.iadd, 1) := by decide +kernel
theorem d_W_law_139 : decode c_W_law 139 = .ok (.iaload, 1) := by decide +kernel
theorem d_W_law_140 : decode c_W_law 140 = .ok (.invokevirtual 75, 3) := by decide +kernel
theorem d_W_law_143 : decode c_W_law 143 = .ok (.istore 6, 2) := by decide +kernel
theorem d_W_law_145 : decode c_W_law 145 = .ok (.aload_n 2, 1) := by decide +kernel
theorem d_W_law_146 : decode c_W_law 146 = .ok (.invokevirtual 76, 3) := by decide +kernel
theorem d_W_law_149 : decode c_W_law 149 = .ok (.iload 5, 2) := by decide +kernel
theorem d_W_law_151 : decode c_W_law 151 = .ok (.if_icmp .eq 5, 3) := by decide +kernel
theorem d_W_law_156 : decode c_W_law 156 = .ok (.iload 5, 2) := by decide +kernel
theorem d_W_law_158 : decode c_W_law 158 = .ok (.ifCond .ne 15, 3) := by decide +kernel
theorem d_W_law_161 : decode c_W_law 161 = .ok (.aload_n 3, 1) := by decide +kernel
theorem d_W_law_162 : decode c_W_law 162 = .ok (.iconst 0, 1) := by decide +kernel
theorem d_W_law_163 : decode c_W_law 163 = .ok (.laload, 1) := by decide +kernel
theorem d_W_law_164 : decode c_W_law 164 = .ok (.iload 6, 2) := by decide +kernel
theorem d_W_law_166 : decode c_W_law 166 = .ok (.i2l, 1) := by decide +kernel
theorem d_W_law_167 : decode c_W_law 167 = .ok (.lcmp, 1) := by decide +kernel
theorem d_W_law_168 : decode c_W_law 168 = .ok (.ifCond .eq 5, 3) := by decide +kernel
theorem d_W_law_173 : decode c_W_law 173 = .ok (.goto 804, 3) := by decide +kernel
set_option maxHeartbeats 4000000 in
set_option maxRecDepth 100000 in
/-- tick -/
theorem LW_tick {p : Program} {e : Env} {s : State} {m : MethodId} {below : List Frame} {meth : Method} {c : Code} (l : Launch) (hfl : l.flags = pinnedFlags ++ [noTraceFlag]) {b : Nat} {xs : Nat → Int32} (D : va_G) (t : Nat → ClassId) (Z : xF p m c code 8 s "QuorumStoreLaw" D vwCl (xTY t)) (hG : xg s) (hX : va_X b 8 xs s s.heap) (hbl : b < s.heap.size) (xa nw na rw ou ma nb wy hd tk hli hst : Nat) (qq pq : Nat → Nat → Nat) (no : Nat → Nat) (mk : Int32) {H : Heap} {locs : List Loc} {ls : Array Slot} (hP : va_P D vwCl (lP t ma nb wy hd tk hli hst pq mk ++ (lQ t xa nw na rw qq no mk ++ [zJ t ou 1 (fun _ => 0)])) H) (hD : va_D (fun q : Nat => s.heap.size ≤ q) (lP t ma nb wy hd tk hli hst pq mk ++ (lQ t xa nw na rw qq no mk ++ [zJ t ou 1 (fun _ => 0)]))) (hS : va_S (fun q : Nat => s.heap.size ≤ q) s.heap H locs) (hl : lv_has ls 8 [(4, .int 1), (3, .ref ou), (2, .ref ma), (1, .ref xa), (0, .ref b)])
    (back : ∀ (H : Heap) (locs : List Loc) (ls : Array Slot), va_S (fun q : Nat => s.heap.size ≤ q) s.heap H locs → lv_has ls 8 [(4, .int 1), (0, .ref b)] → W p l e room_1 s m #[Value.ref b] below meth c H locs 100000 1000000 (lw_Z below #[Value.ref b] s) (F0 m 977 ls [])) : W p l e room_1 s m #[Value.ref b] below meth c H locs 380 5892 (lw_Z below #[Value.ref b] s) (F0 m 120 ls []) := by
  obtain ⟨hx, hb, hml, hown, hK⟩ := id Z
  have hts := hK.1.at (args := #[Value.ref b])
  have hA : ∀ q : Nat, s.heap.size ≤ q → (fun q : Nat => s.heap.size ≤ q) q := fun _ h => h
  have hbA : ¬ (fun q : Nat => s.heap.size ≤ q) b := Nat.not_le.mpr hbl
  refine lv_aload_n hx hb d_W_law_120 rfl (lv_at hl 3 rfl) ?_
  refine lv_aload_n hx hb d_W_law_121 rfl (lv_at hl 4 rfl) ?_
  refine lv_iload hx hb d_W_law_122 (lv_at hl 0 rfl) ?_
  refine lv_iconst (v := 1) hx hb d_W_law_124 (by decide) ?_
  refine lv_iadd hx hb d_W_law_125 ?_
  refine va_sld hx hb hX hbl hbA hS (by unfold vp_in; decide) d_W_law_126 ?_
  refine lv_topi (fun a2 ea2 => ?_)
  refine lv_aload_n hx hb d_W_law_127 rfl (lv_at hl 1 rfl) ?_
  rcases xq_tick a2 with hn | ⟨N, hN1, hN2, rfl⟩
  · obtain ⟨hP, hD⟩ := lQ_0 hP hD
    have hPc : va_P D vwCl [zO 7 xa [.ref nw, .ref na, .int 0], zA t 4 na 7 (fun j => some (qq j 0)), zO 2 nw [.ref rw, .int 0, .int 0, .int 0, .int 0], zA t 3 rw 300 (fun _ => none), zJ t ou 1 (fun _ => 0)] H := xd_P hP (fun q h => List.mem_append_right _ h)
    have hDc : va_D (fun q : Nat => s.heap.size ≤ q) [zO 7 xa [.ref nw, .ref na, .int 0], zA t 4 na 7 (fun j => some (qq j 0)), zO 2 nw [.ref rw, .int 0, .int 0, .int 0, .int 0], zA t 3 rw 300 (fun _ => none), zJ t ou 1 (fun _ => 0)] := xd_R hD
    refine xe_sfxi (wr := lP t ma nb wy hd tk hli hst pq mk) (wc := [zO 7 xa [.ref nw, .ref na, .int 0], zA t 4 na 7 (fun j => some (qq j 0)), zO 2 nw [.ref rw, .int 0, .int 0, .int 0, .int 0], zA t 3 rw 300 (fun _ => none), zJ t ou 1 (fun _ => 0)]) (xh_S (As := [.ref xa, .int a2, .ref ou]) (rest := []) Z (H_tick l hfl D t xa nw na rw ou qq a2 hn H.size) h_W_tick k_272 k_273 rfl rfl ⟨Nat.le_of_ble_eq_true rfl, Nat.le_of_ble_eq_true rfl⟩ (xh_pre hK hPc hDc hG (fun q hq => hS.2.1 q hq (Nat.not_le.mpr hq))) rfl hl.1 rfl (Nat.le_of_ble_eq_true rfl) d_W_law_128 ⟨Nat.le_of_ble_eq_true rfl, Nat.le_of_ble_eq_true rfl⟩) hP hD hS hA (fun r_ u_ H locs hw hP hD hS => ?_)
    obtain rfl := hw.symm
    refine lv_istore (lv' := [(5, .int 1), (4, .int 1), (3, .ref ou), (2, .ref ma), (1, .ref xa), (0, .ref b)]) hx hb d_W_law_131 hl (by decide) rfl (fun ls hl => ?_)
    refine lv_aload_n hx hb d_W_law_133 rfl (lv_at hl 3 rfl) ?_
    refine lv_aload_n hx hb d_W_law_134 rfl (lv_at hl 5 rfl) ?_
    refine lv_iload hx hb d_W_law_135 (lv_at hl 1 rfl) ?_
    refine lv_iconst (v := 1) hx hb d_W_law_137 (by decide) ?_
    refine lv_iadd hx hb d_W_law_138 ?_
    refine va_sld hx hb hX hbl hbA hS (by unfold vp_in; decide) d_W_law_139 ?_
    refine lv_topi (fun z9 ez9 => ?_)
    obtain rfl : a2 = z9 := ea2.trans ez9.symm
    obtain ⟨hP, hD⟩ := lP_0 hP hD
    have hP : va_P D vwCl [zO 13 ma [.int 0, .int 0, .int 0, .int 0, .int 0, .int 0, .ref nb, .ref wy, .ref hd, .ref tk]] H := hP
    have hD : va_D (fun q : Nat => s.heap.size ≤ q) [zO 13 ma [.int 0, .int 0, .int 0, .int 0, .int 0, .int 0, .ref nb, .ref wy, .ref hd, .ref tk]] := hD
    refine xe_calli (wr := []) (xs_V (As := [.int a2]) (rest := []) Z (C_P_tick_1 l D t ma nb wy hd tk 0 a2 hn H.size) m_P_tick k_1030 k_1031 k_1032 rfl rfl ⟨Nat.le_of_ble_eq_true rfl, Nat.le_of_ble_eq_true rfl⟩ (va_recv hK.2 hP (ci := 13) (q0 := 0) rfl rfl) (xe_pre hK (hP.sub [0] rfl) (hD.sub [0] (by decide) rfl)) rfl hl.1 rfl (Nat.le_of_ble_eq_true rfl) d_W_law_140 ⟨Nat.le_of_ble_eq_true rfl, Nat.le_of_ble_eq_true rfl⟩) hP hD hS hA [0] [] rfl rfl (by decide) (by decide) (fun r_1 u_ H locs hw hP hD hS => ?_)
    have hP : va_P D vwCl [zO 13 ma [.int 1, .int 0, .int 0, .int 0, .int 0, .int 0, .ref nb, .ref wy, .ref hd, .ref tk]] H := hP
    have hD : va_D (fun q : Nat => s.heap.size ≤ q) [zO 13 ma [.int 1, .int 0, .int 0, .int 0, .int 0, .int 0, .ref nb, .ref wy, .ref hd, .ref tk]] := hD
    obtain rfl := hw.symm
    refine lv_istore (lv' := [(6, .int 0), (5, .int 1), (4, .int 1), (3, .ref ou), (2, .ref ma), (1, .ref xa), (0, .ref b)]) hx hb d_W_law_143 hl (by decide) rfl (fun ls hl => ?_)
    refine lv_aload_n hx hb d_W_law_145 rfl (lv_at hl 4 rfl) ?_
    refine xr_call (xs_V (As := []) (rest := []) Z (C_P_thrown l D t ma 1 (.int 0) (.int 0) (.int 0) (.int 0) (.int 0) (.ref nb) (.ref wy) (.ref hd) (.ref tk)) m_P_thrown k_1026 k_1027 k_1028 rfl rfl ⟨Nat.le_of_ble_eq_true rfl, Nat.le_of_ble_eq_true rfl⟩ (va_recv hK.2 hP (ci := 13) (q0 := 0) rfl rfl) (xr_pre hK (hP.sub [0] rfl)) rfl hl.1 rfl (Nat.le_of_ble_eq_true rfl) d_W_law_146 ⟨Nat.le_of_ble_eq_true rfl, Nat.le_of_ble_eq_true rfl⟩) ?_
    refine lv_iload hx hb d_W_law_149 (lv_at hl 1 rfl) ?_
    refine lv_icmp_eq (tgt := 156) hx hb d_W_law_151 (by decide) (fun _ => ?_) (fun c_2 => absurd (rfl) c_2)
    refine lv_iload hx hb d_W_law_156 (lv_at hl 1 rfl) ?_
    refine lv_if_ne (tgt := 173) hx hb d_W_law_158 (by decide) (fun _ => ?_) (fun c_3 => absurd c_3 (by decide))
    refine lv_goto (tgt := 977) hx hb d_W_law_173 (by decide) ?_
    refine W.widen (k := 100000) (n := 1000000) (Nat.le_of_ble_eq_true rfl) (Nat.le_of_ble_eq_true rfl) ?_
    exact back H locs ls hS (lv_sub hl [2, 6] rfl)
  · obtain ⟨Rz, hRz⟩ : ∃ Rz, xit mk N [((sQ 0).1, (sQ 0).2.1), ((sQ 1).1, (sQ 1).2.1), ((sQ 2).1, (sQ 2).2.1), ((sQ 3).1, (sQ 3).2.1), ((sQ 4).1, (sQ 4).2.1), ((sQ 5).1, (sQ 5).2.1), ((sQ 6).1, (sQ 6).2.1)] 0 = Rz := ⟨_, rfl⟩
    have hP : va_P D vwCl (lP t ma nb wy hd tk hli hst pq mk ++ ((([zO 7 xa [.ref nw, .ref na, .int 0], zA t 4 na 7 (fun j => some (qq j 0))] ++ [zO 2 nw [.ref rw, .int (nI 0), .int 0, .int 0, .int 0], zA t 3 rw 300 (fun _ => none)]) ++ wNs t qq nw no mk [(0, sQ 0), (1, sQ 1), (2, sQ 2), (3, sQ 3), (4, sQ 4), (5, sQ 5), (6, sQ 6)]) ++ [zJ t ou 1 (fun _ => 0)])) H := hP
    have hD : va_D (fun q : Nat => s.heap.size ≤ q) (lP t ma nb wy hd tk hli hst pq mk ++ ((([zO 7 xa [.ref nw, .ref na, .int 0], zA t 4 na 7 (fun j => some (qq j 0))] ++ [zO 2 nw [.ref rw, .int (nI 0), .int 0, .int 0, .int 0], zA t 3 rw 300 (fun _ => none)]) ++ wNs t qq nw no mk [(0, sQ 0), (1, sQ 1), (2, sQ 2), (3, sQ 3), (4, sQ 4), (5, sQ 5), (6, sQ 6)]) ++ [zJ t ou 1 (fun _ => 0)])) := hD
    have hPc : va_P D vwCl ((([zO 7 xa [.ref nw, .ref na, .int 0], zA t 4 na 7 (fun j => some (qq j 0))] ++ [zO 2 nw [.ref rw, .int (nI 0), .int 0, .int 0, .int 0], zA t 3 rw 300 (fun _ => none)]) ++ wNs t qq nw no mk [(0, sQ 0), (1, sQ 1), (2, sQ 2), (3, sQ 3), (4, sQ 4), (5, sQ 5), (6, sQ 6)]) ++ [zJ t ou 1 (fun _ => 0)]) H := xd_P hP (fun q h => List.mem_append_right _ h)
    have hDc : va_D (fun q : Nat => s.heap.size ≤ q) ((([zO 7 xa [.ref nw, .ref na, .int 0], zA t 4 na 7 (fun j => some (qq j 0))] ++ [zO 2 nw [.ref rw, .int (nI 0), .int 0, .int 0, .int 0], zA t 3 rw 300 (fun _ => none)]) ++ wNs t qq nw no mk [(0, sQ 0), (1, sQ 1), (2, sQ 2), (3, sQ 3), (4, sQ 4), (5, sQ 5), (6, sQ 6)]) ++ [zJ t ou 1 (fun _ => 0)]) := xd_R hD
    refine xe_sfxi (wr := lP t ma nb wy hd tk hli hst pq mk) (wc := ((([zO 7 xa [.ref nw, .ref na, .int 0], zA t 4 na 7 (fun j => some (qq j 0))] ++ [zO 2 nw [.ref rw, .int (nI 0), .int 0, .int 0, .int 0], zA t 3 rw 300 (fun _ => none)]) ++ wNs t qq nw no mk [(0, sQ 0), (1, sQ 1), (2, sQ 2), (3, sQ 3), (4, sQ 4), (5, sQ 5), (6, sQ 6)]) ++ [zJ t ou 1 (fun _ => 0)])) (xh_S (As := [.ref xa, .int (nI N), .ref ou]) (rest := []) Z (R_tick l hfl D t xa nw na rw ou 0 qq no mk N hN1 hN2 sQ 0 (by decide) (fun k hk => ⟨show 1 ≤ 8 + 3 * k by omega, show 8 + 3 * k ≤ 64 by omega, fun h9 => absurd h9 Bool.false_ne_true⟩) 0 0 (fun _ => none) Rz hRz H.size) h_W_tick k_272 k_273 rfl rfl ⟨Nat.le_of_ble_eq_true rfl, Nat.le_of_ble_eq_true rfl⟩ (xh_pre hK hPc hDc hG (fun q hq => hS.2.1 q hq (Nat.not_le.mpr hq))) rfl hl.1 rfl (Nat.le_of_ble_eq_true rfl) d_W_law_128 ⟨Nat.le_of_ble_eq_true rfl, Nat.le_of_ble_eq_true rfl⟩) hP hD hS hA (fun r_ u_ H locs hw hP hD hS => ?_)
    obtain rfl := hw.symm
    refine lv_istore (lv' := [(5, .int 0), (4, .int 1), (3, .ref ou), (2, .ref ma), (1, .ref xa), (0, .ref b)]) hx hb d_W_law_131 hl (by decide) rfl (fun ls hl => ?_)
    refine lv_aload_n hx hb d_W_law_133 rfl (lv_at hl 3 rfl) ?_
    refine lv_aload_n hx hb d_W_law_134 rfl (lv_at hl 5 rfl) ?_
    refine lv_iload hx hb d_W_law_135 (lv_at hl 1 rfl) ?_
    refine lv_iconst (v := 1) hx hb d_W_law_137 (by decide) ?_
    refine lv_iadd hx hb d_W_law_138 ?_
    refine va_sld hx hb hX hbl hbA hS (by unfold vp_in; decide) d_W_law_139 ?_
    refine lv_topi (fun z9 ez9 => ?_)
    obtain rfl : nI N = z9 := ea2.trans ez9.symm
    have hP : va_P D vwCl ([zJ t ou 1 (xo ((nI Rz : Int32).toInt64))] ++ (([zA t 7 nb 7 (fun j => some (pq j 0))] ++ [zO 13 ma [.int 0, .int 0, .int 0, .int 0, .int 0, .int (nI 0), .ref nb, .ref wy, .ref hd, .ref tk], zA t 6 wy 300 (fun _ => none), zO 8 hd [.int 0, .int 0, .int 0, .int 0, .int 0, .null, .ref hli, .ref hst]]) ++ pNs t pq mk [(0, sP 0), (1, sP 1), (2, sP 2), (3, sP 3), (4, sP 4), (5, sP 5), (6, sP 6)])) H := xd_P hP (fun q h => List.perm_append_comm.mem_iff.mp h)
    have hD : va_D (fun q : Nat => s.heap.size ≤ q) ([zJ t ou 1 (xo ((nI Rz : Int32).toInt64))] ++ (([zA t 7 nb 7 (fun j => some (pq j 0))] ++ [zO 13 ma [.int 0, .int 0, .int 0, .int 0, .int 0, .int (nI 0), .ref nb, .ref wy, .ref hd, .ref tk], zA t 6 wy 300 (fun _ => none), zO 8 hd [.int 0, .int 0, .int 0, .int 0, .int 0, .null, .ref hli, .ref hst]]) ++ pNs t pq mk [(0, sP 0), (1, sP 1), (2, sP 2), (3, sP 3), (4, sP 4), (5, sP 5), (6, sP 6)])) := xd_perm hD List.perm_append_comm
    have hPc : va_P D vwCl (([zA t 7 nb 7 (fun j => some (pq j 0))] ++ [zO 13 ma [.int 0, .int 0, .int 0, .int 0, .int 0, .int (nI 0), .ref nb, .ref wy, .ref hd, .ref tk], zA t 6 wy 300 (fun _ => none), zO 8 hd [.int 0, .int 0, .int 0, .int 0, .int 0, .null, .ref hli, .ref hst]]) ++ pNs t pq mk [(0, sP 0), (1, sP 1), (2, sP 2), (3, sP 3), (4, sP 4), (5, sP 5), (6, sP 6)]) H := xd_P hP (fun q h => List.mem_append_right _ h)
    have hDc : va_D (fun q : Nat => s.heap.size ≤ q) (([zA t 7 nb 7 (fun j => some (pq j 0))] ++ [zO 13 ma [.int 0, .int 0, .int 0, .int 0, .int 0, .int (nI 0), .ref nb, .ref wy, .ref hd, .ref tk], zA t 6 wy 300 (fun _ => none), zO 8 hd [.int 0, .int 0, .int 0, .int 0, .int 0, .null, .ref hli, .ref hst]]) ++ pNs t pq mk [(0, sP 0), (1, sP 1), (2, sP 2), (3, sP 3), (4, sP 4), (5, sP 5), (6, sP 6)]) := xd_R hD
    refine xe_sfxi (wr := [zJ t ou 1 (xo ((nI Rz : Int32).toInt64))]) (wc := (([zA t 7 nb 7 (fun j => some (pq j 0))] ++ [zO 13 ma [.int 0, .int 0, .int 0, .int 0, .int 0, .int (nI 0), .ref nb, .ref wy, .ref hd, .ref tk], zA t 6 wy 300 (fun _ => none), zO 8 hd [.int 0, .int 0, .int 0, .int 0, .int 0, .null, .ref hli, .ref hst]]) ++ pNs t pq mk [(0, sP 0), (1, sP 1), (2, sP 2), (3, sP 3), (4, sP 4), (5, sP 5), (6, sP 6)])) (xs_V (As := [.int (nI N)]) (rest := []) Z (C_P_tick l D t ma nb wy hd tk hli hst 0 0 (by decide) 0 0 (fun _ => none) (fun _ _ => rfl) 0 0 0 0 0 pq mk N hN1 hN2 sP (fun k hk => ⟨show 1 ≤ 8 + 3 * k by omega, show 8 + 3 * k ≤ 64 by omega, fun h9 => absurd h9 Bool.false_ne_true⟩) Rz hRz H.size) m_P_tick k_1030 k_1031 k_1032 rfl rfl ⟨Nat.le_of_ble_eq_true rfl, Nat.le_of_ble_eq_true rfl⟩ (va_recv hK.2 hPc (ci := 13) (q0 := 1) rfl rfl) (xe_pre hK hPc hDc) rfl hl.1 rfl (Nat.le_of_ble_eq_true rfl) d_W_law_140 ⟨Nat.le_of_ble_eq_true rfl, Nat.le_of_ble_eq_true rfl⟩) hP hD hS hA (fun r_ u_ H locs hw hP hD hS => ?_)
    obtain rfl := hw.symm
    obtain ⟨ux, uy⟩ := u_
    have hP : va_P D vwCl [zJ t ou 1 (xo ((nI Rz : Int32).toInt64)), zO 13 ma [.int 0, .int 0, .int ux, .int uy, .int 0, .int (nI Rz), .ref nb, .ref wy, .ref hd, .ref tk]] H := hP
    have hD : va_D (fun q : Nat => s.heap.size ≤ q) [zJ t ou 1 (xo ((nI Rz : Int32).toInt64)), zO 13 ma [.int 0, .int 0, .int ux, .int uy, .int 0, .int (nI Rz), .ref nb, .ref wy, .ref hd, .ref tk]] := hD
    refine lv_istore (lv' := [(6, .int (nI Rz)), (5, .int 0), (4, .int 1), (3, .ref ou), (2, .ref ma), (1, .ref xa), (0, .ref b)]) hx hb d_W_law_143 hl (by decide) rfl (fun ls hl => ?_)
    refine lv_aload_n hx hb d_W_law_145 rfl (lv_at hl 4 rfl) ?_
    refine xr_call (xs_V (As := []) (rest := []) Z (C_P_thrown l D t ma 0 (.int 0) (.int ux) (.int uy) (.int 0) (.int (nI Rz)) (.ref nb) (.ref wy) (.ref hd) (.ref tk)) m_P_thrown k_1026 k_1027 k_1028 rfl rfl ⟨Nat.le_of_ble_eq_true rfl, Nat.le_of_ble_eq_true rfl⟩ (va_recv hK.2 hP (ci := 13) (q0 := 1) rfl rfl) (xr_pre hK (hP.sub [1] rfl)) rfl hl.1 rfl (Nat.le_of_ble_eq_true rfl) d_W_law_146 ⟨Nat.le_of_ble_eq_true rfl, Nat.le_of_ble_eq_true rfl⟩) ?_
    refine lv_iload hx hb d_W_law_149 (lv_at hl 1 rfl) ?_
    refine lv_icmp_eq (tgt := 156) hx hb d_W_law_151 (by decide) (fun _ => ?_) (fun c_4 => absurd (rfl) c_4)
    refine lv_iload hx hb d_W_law_156 (lv_at hl 1 rfl) ?_
    refine lv_if_ne (tgt := 173) hx hb d_W_law_158 (by decide) (fun c_5 => absurd c_5 (by decide)) (fun _ => ?_)
    refine lv_aload_n hx hb d_W_law_161 rfl (lv_at hl 3 rfl) ?_
    refine lv_iconst (v := 0) hx hb d_W_law_162 (by decide) ?_
    refine va_lald hx hb hK.2 hP 0 1 rfl rfl (by unfold vp_in; decide) d_W_law_163 ?_
    refine lv_iload hx hb d_W_law_164 (lv_at hl 0 rfl) ?_
    refine lv_i2l (v := (nI Rz : Int32).toInt64) hx hb d_W_law_166 rfl ?_
    refine xl_lcmpE (x := (nI Rz : Int32).toInt64) hx hb d_W_law_167 ?_
    refine lv_if_eq (tgt := 173) hx hb d_W_law_168 (by decide) (fun _ => ?_) (fun c_6 => absurd (rfl) c_6)
    refine lv_goto (tgt := 977) hx hb d_W_law_173 (by decide) ?_
    refine W.widen (k := 100000) (n := 1000000) (Nat.le_of_ble_eq_true rfl) (Nat.le_of_ble_eq_true rfl) ?_
    exact back H locs ls hS (lv_sub hl [2, 6] rfl)
theorem d_W_law_176 : decode c_W_law 176 = .ok (.aload_n 1, 1) := by decide +kernel
theorem d_W_law_177 : decode c_W_law 177 = .ok (.aload_n 0, 1) := by decide +kernel
theorem d_W_law_178 : decode c_W_law 178 = .ok (.iload 4, 2) := by decide +kernel
theorem d_W_law_180 : decode c_W_law 180 = .ok (.iconst 1, 1) := by decide +kernel
theorem d_W_law_181 : decode c_W_law 181 = .ok (.iadd, 1) := by decide +kernel
theorem d_W_law_182 : decode c_W_law 182 = .ok (.iaload, 1) := by decide +kernel
theorem d_W_law_183 : decode c_W_law 183 = .ok (.aload_n 3, 1) := by decide +kernel
theorem d_W_law_184 : decode c_W_law 184 = .ok (.invokestatic 80, 3) := by decide +kernel
theorem d_W_law_187 : decode c_W_law 187 = .ok (.istore 5, 2) := by decide +kernel
theorem d_W_law_189 : decode c_W_law 189 = .ok (.aload_n 2, 1) := by decide +kernel
theorem d_W_law_190 : decode c_W_law 190 = .ok (.aload_n 0, 1) := by decide +kernel
theorem d_W_law_191 : decode c_W_law 191 = .ok (.iload 4, 2) := by decide +kernel
theorem d_W_law_193 : decode c_W_law 193 = .ok (.iconst 1, 1) := by decide +kernel
theorem d_W_law_194 : decode c_W_law 194 = .ok (.iadd, 1) := by decide +kernel
theorem d_W_law_195 : decode c_W_law 195 = .ok (.iaload, 1) := by decide +kernel
theorem d_W_law_196 : decode c_W_law 196 = .ok (.invokevirtual 82, 3) := by decide +kernel
theorem d_W_law_199 : decode c_W_law 199 = .ok (.istore 6, 2) := by decide +kernel
theorem d_W_law_201 : decode c_W_law 201 = .ok (.aload_n 2, 1) := by decide +kernel
theorem d_W_law_202 : decode c_W_law 202 = .ok (.invokevirtual 76, 3) := by decide +kernel
theorem d_W_law_205 : decode c_W_law 205 = .ok (.iload 5, 2) := by decide +kernel
theorem d_W_law_207 : decode c_W_law 207 = .ok (.if_icmp .eq 5, 3) := by decide +kernel
theorem d_W_law_212 : decode c_W_law 212 = .ok (.iload 5, 2) := by decide +kernel
theorem d_W_law_214 : decode c_W_law 214 = .ok (.ifCond .ne 15, 3) := by decide +kernel
theorem d_W_law_229 : decode c_W_law 229 = .ok (.goto 748, 3) := by decide +kernel
set_option maxHeartbeats 4000000 in
set_option maxRecDepth 100000 in
/-- deliver -/
theorem LW_deliver {p : Program} {e : Env} {s : State} {m : MethodId} {below : List Frame} {meth : Method} {c : Code} (l : Launch) (hfl : l.flags = pinnedFlags ++ [noTraceFlag]) {b : Nat} {xs : Nat → Int32} (D : va_G) (t : Nat → ClassId) (Z : xF p m c code 8 s "QuorumStoreLaw" D vwCl (xTY t)) (hG : xg s) (hX : va_X b 8 xs s s.heap) (hbl : b < s.heap.size) (xa nw na rw ou ma nb wy hd tk hli hst : Nat) (qq pq : Nat → Nat → Nat) (no : Nat → Nat) (mk : Int32) {H : Heap} {locs : List Loc} {ls : Array Slot} (hP : va_P D vwCl (lP t ma nb wy hd tk hli hst pq mk ++ (lQ t xa nw na rw qq no mk ++ [zJ t ou 1 (fun _ => 0)])) H) (hD : va_D (fun q : Nat => s.heap.size ≤ q) (lP t ma nb wy hd tk hli hst pq mk ++ (lQ t xa nw na rw qq no mk ++ [zJ t ou 1 (fun _ => 0)]))) (hS : va_S (fun q : Nat => s.heap.size ≤ q) s.heap H locs) (hl : lv_has ls 8 [(4, .int 1), (3, .ref ou), (2, .ref ma), (1, .ref xa), (0, .ref b)])
    (back : ∀ (H : Heap) (locs : List Loc) (ls : Array Slot), va_S (fun q : Nat => s.heap.size ≤ q) s.heap H locs → lv_has ls 8 [(4, .int 1), (0, .ref b)] → W p l e room_1 s m #[Value.ref b] below meth c H locs 100000 1000000 (lw_Z below #[Value.ref b] s) (F0 m 977 ls [])) : W p l e room_1 s m #[Value.ref b] below meth c H locs 380 5892 (lw_Z below #[Value.ref b] s) (F0 m 176 ls []) := by
  obtain ⟨hx, hb, hml, hown, hK⟩ := id Z
  have hts := hK.1.at (args := #[Value.ref b])
  have hA : ∀ q : Nat, s.heap.size ≤ q → (fun q : Nat => s.heap.size ≤ q) q := fun _ h => h
  have hbA : ¬ (fun q : Nat => s.heap.size ≤ q) b := Nat.not_le.mpr hbl
  refine lv_aload_n hx hb d_W_law_176 rfl (lv_at hl 3 rfl) ?_
  refine lv_aload_n hx hb d_W_law_177 rfl (lv_at hl 4 rfl) ?_
  refine lv_iload hx hb d_W_law_178 (lv_at hl 0 rfl) ?_
  refine lv_iconst (v := 1) hx hb d_W_law_180 (by decide) ?_
  refine lv_iadd hx hb d_W_law_181 ?_
  refine va_sld hx hb hX hbl hbA hS (by unfold vp_in; decide) d_W_law_182 ?_
  refine lv_topi (fun a2 ea2 => ?_)
  refine lv_aload_n hx hb d_W_law_183 rfl (lv_at hl 1 rfl) ?_
  obtain ⟨hP, hD⟩ := lQ_0 hP hD
  have hPc : va_P D vwCl [zO 7 xa [.ref nw, .ref na, .int 0], zA t 4 na 7 (fun j => some (qq j 0)), zO 2 nw [.ref rw, .int 0, .int 0, .int 0, .int 0], zA t 3 rw 300 (fun _ => none), zJ t ou 1 (fun _ => 0)] H := xd_P hP (fun q h => List.mem_append_right _ h)
  have hDc : va_D (fun q : Nat => s.heap.size ≤ q) [zO 7 xa [.ref nw, .ref na, .int 0], zA t 4 na 7 (fun j => some (qq j 0)), zO 2 nw [.ref rw, .int 0, .int 0, .int 0, .int 0], zA t 3 rw 300 (fun _ => none), zJ t ou 1 (fun _ => 0)] := xd_R hD
  refine xe_sfxi (wr := lP t ma nb wy hd tk hli hst pq mk) (wc := [zO 7 xa [.ref nw, .ref na, .int 0], zA t 4 na 7 (fun j => some (qq j 0)), zO 2 nw [.ref rw, .int 0, .int 0, .int 0, .int 0], zA t 3 rw 300 (fun _ => none), zJ t ou 1 (fun _ => 0)]) (xh_S (As := [.ref xa, .int a2, .ref ou]) (rest := []) Z (H_deliver l hfl D t xa nw na rw ou qq a2 H.size) h_W_deliver k_541 k_542 rfl rfl ⟨Nat.le_of_ble_eq_true rfl, Nat.le_of_ble_eq_true rfl⟩ (xh_pre hK hPc hDc hG (fun q hq => hS.2.1 q hq (Nat.not_le.mpr hq))) rfl hl.1 rfl (Nat.le_of_ble_eq_true rfl) d_W_law_184 ⟨Nat.le_of_ble_eq_true rfl, Nat.le_of_ble_eq_true rfl⟩) hP hD hS hA (fun r_ u_ H locs hw hP hD hS => ?_)
  obtain rfl := hw.symm
  refine lv_istore (lv' := [(5, .int 1), (4, .int 1), (3, .ref ou), (2, .ref ma), (1, .ref xa), (0, .ref b)]) hx hb d_W_law_187 hl (by decide) rfl (fun ls hl => ?_)
  refine lv_aload_n hx hb d_W_law_189 rfl (lv_at hl 3 rfl) ?_
  refine lv_aload_n hx hb d_W_law_190 rfl (lv_at hl 5 rfl) ?_
  refine lv_iload hx hb d_W_law_191 (lv_at hl 1 rfl) ?_
  refine lv_iconst (v := 1) hx hb d_W_law_193 (by decide) ?_
  refine lv_iadd hx hb d_W_law_194 ?_
  refine va_sld hx hb hX hbl hbA hS (by unfold vp_in; decide) d_W_law_195 ?_
  refine lv_topi (fun z9 ez9 => ?_)
  obtain rfl : a2 = z9 := ea2.trans ez9.symm
  obtain ⟨hP, hD⟩ := lP_0 hP hD
  have hP : va_P D vwCl [zO 13 ma [.int 0, .int 0, .int 0, .int 0, .int 0, .int 0, .ref nb, .ref wy, .ref hd, .ref tk]] H := hP
  have hD : va_D (fun q : Nat => s.heap.size ≤ q) [zO 13 ma [.int 0, .int 0, .int 0, .int 0, .int 0, .int 0, .ref nb, .ref wy, .ref hd, .ref tk]] := hD
  refine xe_calli (wr := []) (xs_V (As := [.int a2]) (rest := []) Z (C_P_deliver l D t ma nb wy hd tk 0 a2 H.size) m_P_deliver k_1156 k_1157 k_1158 rfl rfl ⟨Nat.le_of_ble_eq_true rfl, Nat.le_of_ble_eq_true rfl⟩ (va_recv hK.2 hP (ci := 13) (q0 := 0) rfl rfl) (xe_pre hK (hP.sub [0] rfl) (hD.sub [0] (by decide) rfl)) rfl hl.1 rfl (Nat.le_of_ble_eq_true rfl) d_W_law_196 ⟨Nat.le_of_ble_eq_true rfl, Nat.le_of_ble_eq_true rfl⟩) hP hD hS hA [0] [] rfl rfl (by decide) (by decide) (fun r_1 u_ H locs hw hP hD hS => ?_)
  have hP : va_P D vwCl [zO 13 ma [.int 1, .int 0, .int 0, .int 0, .int 0, .int 0, .ref nb, .ref wy, .ref hd, .ref tk]] H := hP
  have hD : va_D (fun q : Nat => s.heap.size ≤ q) [zO 13 ma [.int 1, .int 0, .int 0, .int 0, .int 0, .int 0, .ref nb, .ref wy, .ref hd, .ref tk]] := hD
  obtain rfl := hw.symm
  refine lv_istore (lv' := [(6, .int 0), (5, .int 1), (4, .int 1), (3, .ref ou), (2, .ref ma), (1, .ref xa), (0, .ref b)]) hx hb d_W_law_199 hl (by decide) rfl (fun ls hl => ?_)
  refine lv_aload_n hx hb d_W_law_201 rfl (lv_at hl 4 rfl) ?_
  refine xr_call (xs_V (As := []) (rest := []) Z (C_P_thrown l D t ma 1 (.int 0) (.int 0) (.int 0) (.int 0) (.int 0) (.ref nb) (.ref wy) (.ref hd) (.ref tk)) m_P_thrown k_1026 k_1027 k_1028 rfl rfl ⟨Nat.le_of_ble_eq_true rfl, Nat.le_of_ble_eq_true rfl⟩ (va_recv hK.2 hP (ci := 13) (q0 := 0) rfl rfl) (xr_pre hK (hP.sub [0] rfl)) rfl hl.1 rfl (Nat.le_of_ble_eq_true rfl) d_W_law_202 ⟨Nat.le_of_ble_eq_true rfl, Nat.le_of_ble_eq_true rfl⟩) ?_
  refine lv_iload hx hb d_W_law_205 (lv_at hl 1 rfl) ?_
  refine lv_icmp_eq (tgt := 212) hx hb d_W_law_207 (by decide) (fun _ => ?_) (fun c_2 => absurd (rfl) c_2)
  refine lv_iload hx hb d_W_law_212 (lv_at hl 1 rfl) ?_
  refine lv_if_ne (tgt := 229) hx hb d_W_law_214 (by decide) (fun _ => ?_) (fun c_3 => absurd c_3 (by decide))
  refine lv_goto (tgt := 977) hx hb d_W_law_229 (by decide) ?_
  refine W.widen (k := 100000) (n := 1000000) (Nat.le_of_ble_eq_true rfl) (Nat.le_of_ble_eq_true rfl) ?_
  exact back H locs ls hS (lv_sub hl [2, 6] rfl)
theorem d_W_law_232 : decode c_W_law 232 = .ok (.aload_n 1, 1) := by decide +kernel
theorem d_W_law_233 : decode c_W_law 233 = .ok (.aload_n 0, 1) := by decide +kernel
theorem d_W_law_234 : decode c_W_law 234 = .ok (.iload 4, 2) := by decide +kernel
theorem d_W_law_236 : decode c_W_law 236 = .ok (.iconst 1, 1) := by decide +kernel
theorem d_W_law_237 : decode c_W_law 237 = .ok (.iadd, 1) := by decide +kernel
theorem d_W_law_238 : decode c_W_law 238 = .ok (.iaload, 1) := by decide +kernel
theorem d_W_law_239 : decode c_W_law 239 = .ok (.aload_n 3, 1) := by decide +kernel
theorem d_W_law_240 : decode c_W_law 240 = .ok (.invokestatic 83, 3) := by decide +kernel
theorem d_W_law_243 : decode c_W_law 243 = .ok (.istore 5, 2) := by decide +kernel
theorem d_W_law_245 : decode c_W_law 245 = .ok (.aload_n 2, 1) := by decide +kernel
theorem d_W_law_246 : decode c_W_law 246 = .ok (.aload_n 0, 1) := by decide +kernel
theorem d_W_law_247 : decode c_W_law 247 = .ok (.iload 4, 2) := by decide +kernel
theorem d_W_law_249 : decode c_W_law 249 = .ok (.iconst 1, 1) := by decide +kernel
theorem d_W_law_250 : decode c_W_law 250 = .ok (.iadd, 1) := by decide +kernel
theorem d_W_law_251 : decode c_W_law 251 = .ok (.iaload, 1) := by decide +kernel
theorem d_W_law_252 : decode c_W_law 252 = .ok (.invokevirtual 85, 3) := by decide +kernel
theorem d_W_law_255 : decode c_W_law 255 = .ok (.istore 6, 2) := by decide +kernel
theorem d_W_law_257 : decode c_W_law 257 = .ok (.aload_n 2, 1) := by decide +kernel
theorem d_W_law_258 : decode c_W_law 258 = .ok (.invokevirtual 76, 3) := by decide +kernel
theorem d_W_law_261 : decode c_W_law 261 = .ok (.iload 5, 2) := by decide +kernel
theorem d_W_law_263 : decode c_W_law 263 = .ok (.if_icmp .eq 5, 3) := by decide +kernel
theorem d_W_law_268 : decode c_W_law 268 = .ok (.iload 5, 2) := by decide +kernel
theorem d_W_law_270 : decode c_W_law 270 = .ok (.ifCond .ne 15, 3) := by decide +kernel
theorem d_W_law_285 : decode c_W_law 285 = .ok (.goto 692, 3) := by decide +kernel
set_option maxHeartbeats 4000000 in
set_option maxRecDepth 100000 in
/-- drop -/
theorem LW_drop {p : Program} {e : Env} {s : State} {m : MethodId} {below : List Frame} {meth : Method} {c : Code} (l : Launch) (hfl : l.flags = pinnedFlags ++ [noTraceFlag]) {b : Nat} {xs : Nat → Int32} (D : va_G) (t : Nat → ClassId) (Z : xF p m c code 8 s "QuorumStoreLaw" D vwCl (xTY t)) (hG : xg s) (hX : va_X b 8 xs s s.heap) (hbl : b < s.heap.size) (xa nw na rw ou ma nb wy hd tk hli hst : Nat) (qq pq : Nat → Nat → Nat) (no : Nat → Nat) (mk : Int32) {H : Heap} {locs : List Loc} {ls : Array Slot} (hP : va_P D vwCl (lP t ma nb wy hd tk hli hst pq mk ++ (lQ t xa nw na rw qq no mk ++ [zJ t ou 1 (fun _ => 0)])) H) (hD : va_D (fun q : Nat => s.heap.size ≤ q) (lP t ma nb wy hd tk hli hst pq mk ++ (lQ t xa nw na rw qq no mk ++ [zJ t ou 1 (fun _ => 0)]))) (hS : va_S (fun q : Nat => s.heap.size ≤ q) s.heap H locs) (hl : lv_has ls 8 [(4, .int 1), (3, .ref ou), (2, .ref ma), (1, .ref xa), (0, .ref b)])
    (back : ∀ (H : Heap) (locs : List Loc) (ls : Array Slot), va_S (fun q : Nat => s.heap.size ≤ q) s.heap H locs → lv_has ls 8 [(4, .int 1), (0, .ref b)] → W p l e room_1 s m #[Value.ref b] below meth c H locs 100000 1000000 (lw_Z below #[Value.ref b] s) (F0 m 977 ls [])) : W p l e room_1 s m #[Value.ref b] below meth c H locs 380 5892 (lw_Z below #[Value.ref b] s) (F0 m 232 ls []) := by
  obtain ⟨hx, hb, hml, hown, hK⟩ := id Z
  have hts := hK.1.at (args := #[Value.ref b])
  have hA : ∀ q : Nat, s.heap.size ≤ q → (fun q : Nat => s.heap.size ≤ q) q := fun _ h => h
  have hbA : ¬ (fun q : Nat => s.heap.size ≤ q) b := Nat.not_le.mpr hbl
  refine lv_aload_n hx hb d_W_law_232 rfl (lv_at hl 3 rfl) ?_
  refine lv_aload_n hx hb d_W_law_233 rfl (lv_at hl 4 rfl) ?_
  refine lv_iload hx hb d_W_law_234 (lv_at hl 0 rfl) ?_
  refine lv_iconst (v := 1) hx hb d_W_law_236 (by decide) ?_
  refine lv_iadd hx hb d_W_law_237 ?_
  refine va_sld hx hb hX hbl hbA hS (by unfold vp_in; decide) d_W_law_238 ?_
  refine lv_topi (fun a2 ea2 => ?_)
  refine lv_aload_n hx hb d_W_law_239 rfl (lv_at hl 1 rfl) ?_
  obtain ⟨hP, hD⟩ := lQ_0 hP hD
  have hPc : va_P D vwCl [zO 7 xa [.ref nw, .ref na, .int 0], zA t 4 na 7 (fun j => some (qq j 0)), zO 2 nw [.ref rw, .int 0, .int 0, .int 0, .int 0], zA t 3 rw 300 (fun _ => none), zJ t ou 1 (fun _ => 0)] H := xd_P hP (fun q h => List.mem_append_right _ h)
  have hDc : va_D (fun q : Nat => s.heap.size ≤ q) [zO 7 xa [.ref nw, .ref na, .int 0], zA t 4 na 7 (fun j => some (qq j 0)), zO 2 nw [.ref rw, .int 0, .int 0, .int 0, .int 0], zA t 3 rw 300 (fun _ => none), zJ t ou 1 (fun _ => 0)] := xd_R hD
  refine xe_sfxi (wr := lP t ma nb wy hd tk hli hst pq mk) (wc := [zO 7 xa [.ref nw, .ref na, .int 0], zA t 4 na 7 (fun j => some (qq j 0)), zO 2 nw [.ref rw, .int 0, .int 0, .int 0, .int 0], zA t 3 rw 300 (fun _ => none), zJ t ou 1 (fun _ => 0)]) (xh_S (As := [.ref xa, .int a2, .ref ou]) (rest := []) Z (H_drop l hfl D t xa nw na rw ou qq a2 H.size) h_W_drop k_652 k_653 rfl rfl ⟨Nat.le_of_ble_eq_true rfl, Nat.le_of_ble_eq_true rfl⟩ (xh_pre hK hPc hDc hG (fun q hq => hS.2.1 q hq (Nat.not_le.mpr hq))) rfl hl.1 rfl (Nat.le_of_ble_eq_true rfl) d_W_law_240 ⟨Nat.le_of_ble_eq_true rfl, Nat.le_of_ble_eq_true rfl⟩) hP hD hS hA (fun r_ u_ H locs hw hP hD hS => ?_)
  obtain rfl := hw.symm
  refine lv_istore (lv' := [(5, .int 1), (4, .int 1), (3, .ref ou), (2, .ref ma), (1, .ref xa), (0, .ref b)]) hx hb d_W_law_243 hl (by decide) rfl (fun ls hl => ?_)
  refine lv_aload_n hx hb d_W_law_245 rfl (lv_at hl 3 rfl) ?_
  refine lv_aload_n hx hb d_W_law_246 rfl (lv_at hl 5 rfl) ?_
  refine lv_iload hx hb d_W_law_247 (lv_at hl 1 rfl) ?_
  refine lv_iconst (v := 1) hx hb d_W_law_249 (by decide) ?_
  refine lv_iadd hx hb d_W_law_250 ?_
  refine va_sld hx hb hX hbl hbA hS (by unfold vp_in; decide) d_W_law_251 ?_
  refine lv_topi (fun z9 ez9 => ?_)
  obtain rfl : a2 = z9 := ea2.trans ez9.symm
  obtain ⟨hP, hD⟩ := lP_0 hP hD
  have hP : va_P D vwCl [zO 13 ma [.int 0, .int 0, .int 0, .int 0, .int 0, .int 0, .ref nb, .ref wy, .ref hd, .ref tk]] H := hP
  have hD : va_D (fun q : Nat => s.heap.size ≤ q) [zO 13 ma [.int 0, .int 0, .int 0, .int 0, .int 0, .int 0, .ref nb, .ref wy, .ref hd, .ref tk]] := hD
  refine xe_calli (wr := []) (xs_V (As := [.int a2]) (rest := []) Z (C_P_drop l D t ma nb wy hd tk 0 a2 H.size) m_P_drop k_1201 k_1202 k_1203 rfl rfl ⟨Nat.le_of_ble_eq_true rfl, Nat.le_of_ble_eq_true rfl⟩ (va_recv hK.2 hP (ci := 13) (q0 := 0) rfl rfl) (xe_pre hK (hP.sub [0] rfl) (hD.sub [0] (by decide) rfl)) rfl hl.1 rfl (Nat.le_of_ble_eq_true rfl) d_W_law_252 ⟨Nat.le_of_ble_eq_true rfl, Nat.le_of_ble_eq_true rfl⟩) hP hD hS hA [0] [] rfl rfl (by decide) (by decide) (fun r_1 u_ H locs hw hP hD hS => ?_)
  have hP : va_P D vwCl [zO 13 ma [.int 1, .int 0, .int 0, .int 0, .int 0, .int 0, .ref nb, .ref wy, .ref hd, .ref tk]] H := hP
  have hD : va_D (fun q : Nat => s.heap.size ≤ q) [zO 13 ma [.int 1, .int 0, .int 0, .int 0, .int 0, .int 0, .ref nb, .ref wy, .ref hd, .ref tk]] := hD
  obtain rfl := hw.symm
  refine lv_istore (lv' := [(6, .int 0), (5, .int 1), (4, .int 1), (3, .ref ou), (2, .ref ma), (1, .ref xa), (0, .ref b)]) hx hb d_W_law_255 hl (by decide) rfl (fun ls hl => ?_)
  refine lv_aload_n hx hb d_W_law_257 rfl (lv_at hl 4 rfl) ?_
  refine xr_call (xs_V (As := []) (rest := []) Z (C_P_thrown l D t ma 1 (.int 0) (.int 0) (.int 0) (.int 0) (.int 0) (.ref nb) (.ref wy) (.ref hd) (.ref tk)) m_P_thrown k_1026 k_1027 k_1028 rfl rfl ⟨Nat.le_of_ble_eq_true rfl, Nat.le_of_ble_eq_true rfl⟩ (va_recv hK.2 hP (ci := 13) (q0 := 0) rfl rfl) (xr_pre hK (hP.sub [0] rfl)) rfl hl.1 rfl (Nat.le_of_ble_eq_true rfl) d_W_law_258 ⟨Nat.le_of_ble_eq_true rfl, Nat.le_of_ble_eq_true rfl⟩) ?_
  refine lv_iload hx hb d_W_law_261 (lv_at hl 1 rfl) ?_
  refine lv_icmp_eq (tgt := 268) hx hb d_W_law_263 (by decide) (fun _ => ?_) (fun c_2 => absurd (rfl) c_2)
  refine lv_iload hx hb d_W_law_268 (lv_at hl 1 rfl) ?_
  refine lv_if_ne (tgt := 285) hx hb d_W_law_270 (by decide) (fun _ => ?_) (fun c_3 => absurd c_3 (by decide))
  refine lv_goto (tgt := 977) hx hb d_W_law_285 (by decide) ?_
  refine W.widen (k := 100000) (n := 1000000) (Nat.le_of_ble_eq_true rfl) (Nat.le_of_ble_eq_true rfl) ?_
  exact back H locs ls hS (lv_sub hl [2, 6] rfl)
theorem d_W_law_288 : decode c_W_law 288 = .ok (.aload_n 1, 1) := by decide +kernel
theorem d_W_law_289 : decode c_W_law 289 = .ok (.aload_n 0, 1) := by decide +kernel
theorem d_W_law_290 : decode c_W_law 290 = .ok (.iload 4, 2) := by decide +kernel
theorem d_W_law_292 : decode c_W_law 292 = .ok (.iconst 1, 1) := by decide +kernel
theorem d_W_law_293 : decode c_W_law 293 = .ok (.iadd, 1) := by decide +kernel
theorem d_W_law_294 : decode c_W_law 294 = .ok (.iaload, 1) := by decide +kernel
theorem d_W_law_295 : decode c_W_law 295 = .ok (.aload_n 3, 1) := by decide +kernel
theorem d_W_law_296 : decode c_W_law 296 = .ok (.invokestatic 86, 3) := by decide +kernel
theorem d_W_law_299 : decode c_W_law 299 = .ok (.istore 5, 2) := by decide +kernel
theorem d_W_law_301 : decode c_W_law 301 = .ok (.aload_n 2, 1) := by decide +kernel
theorem d_W_law_302 : decode c_W_law 302 = .ok (.aload_n 0, 1) := by decide +kernel
theorem d_W_law_303 : decode c_W_law 303 = .ok (.iload 4, 2) := by decide +kernel
theorem d_W_law_305 : decode c_W_law 305 = .ok (.iconst 1, 1) := by decide +kernel
theorem d_W_law_306 : decode c_W_law 306 = .ok (.iadd, 1) := by decide +kernel
theorem d_W_law_307 : decode c_W_law 307 = .ok (.iaload, 1) := by decide +kernel
theorem d_W_law_308 : decode c_W_law 308 = .ok (.invokevirtual 88, 3) := by decide +kernel
theorem d_W_law_311 : decode c_W_law 311 = .ok (.istore 6, 2) := by decide +kernel
theorem d_W_law_313 : decode c_W_law 313 = .ok (.aload_n 2, 1) := by decide +kernel
theorem d_W_law_314 : decode c_W_law 314 = .ok (.invokevirtual 76, 3) := by decide +kernel
theorem d_W_law_317 : decode c_W_law 317 = .ok (.iload 5, 2) := by decide +kernel
theorem d_W_law_319 : decode c_W_law 319 = .ok (.if_icmp .eq 5, 3) := by decide +kernel
theorem d_W_law_324 : decode c_W_law 324 = .ok (.iload 5, 2) := by decide +kernel
theorem d_W_law_326 : decode c_W_law 326 = .ok (.ifCond .ne 15, 3) := by decide +kernel
theorem d_W_law_341 : decode c_W_law 341 = .ok (.goto 636, 3) := by decide +kernel
set_option maxHeartbeats 4000000 in
set_option maxRecDepth 100000 in
/-- copy -/
theorem LW_copy {p : Program} {e : Env} {s : State} {m : MethodId} {below : List Frame} {meth : Method} {c : Code} (l : Launch) (hfl : l.flags = pinnedFlags ++ [noTraceFlag]) {b : Nat} {xs : Nat → Int32} (D : va_G) (t : Nat → ClassId) (Z : xF p m c code 8 s "QuorumStoreLaw" D vwCl (xTY t)) (hG : xg s) (hX : va_X b 8 xs s s.heap) (hbl : b < s.heap.size) (xa nw na rw ou ma nb wy hd tk hli hst : Nat) (qq pq : Nat → Nat → Nat) (no : Nat → Nat) (mk : Int32) {H : Heap} {locs : List Loc} {ls : Array Slot} (hP : va_P D vwCl (lP t ma nb wy hd tk hli hst pq mk ++ (lQ t xa nw na rw qq no mk ++ [zJ t ou 1 (fun _ => 0)])) H) (hD : va_D (fun q : Nat => s.heap.size ≤ q) (lP t ma nb wy hd tk hli hst pq mk ++ (lQ t xa nw na rw qq no mk ++ [zJ t ou 1 (fun _ => 0)]))) (hS : va_S (fun q : Nat => s.heap.size ≤ q) s.heap H locs) (hl : lv_has ls 8 [(4, .int 1), (3, .ref ou), (2, .ref ma), (1, .ref xa), (0, .ref b)])
    (back : ∀ (H : Heap) (locs : List Loc) (ls : Array Slot), va_S (fun q : Nat => s.heap.size ≤ q) s.heap H locs → lv_has ls 8 [(4, .int 1), (0, .ref b)] → W p l e room_1 s m #[Value.ref b] below meth c H locs 100000 1000000 (lw_Z below #[Value.ref b] s) (F0 m 977 ls [])) : W p l e room_1 s m #[Value.ref b] below meth c H locs 380 5892 (lw_Z below #[Value.ref b] s) (F0 m 288 ls []) := by
  obtain ⟨hx, hb, hml, hown, hK⟩ := id Z
  have hts := hK.1.at (args := #[Value.ref b])
  have hA : ∀ q : Nat, s.heap.size ≤ q → (fun q : Nat => s.heap.size ≤ q) q := fun _ h => h
  have hbA : ¬ (fun q : Nat => s.heap.size ≤ q) b := Nat.not_le.mpr hbl
  refine lv_aload_n hx hb d_W_law_288 rfl (lv_at hl 3 rfl) ?_
  refine lv_aload_n hx hb d_W_law_289 rfl (lv_at hl 4 rfl) ?_
  refine lv_iload hx hb d_W_law_290 (lv_at hl 0 rfl) ?_
  refine lv_iconst (v := 1) hx hb d_W_law_292 (by decide) ?_
  refine lv_iadd hx hb d_W_law_293 ?_
  refine va_sld hx hb hX hbl hbA hS (by unfold vp_in; decide) d_W_law_294 ?_
  refine lv_topi (fun a2 ea2 => ?_)
  refine lv_aload_n hx hb d_W_law_295 rfl (lv_at hl 1 rfl) ?_
  obtain ⟨hP, hD⟩ := lQ_0 hP hD
  have hPc : va_P D vwCl [zO 7 xa [.ref nw, .ref na, .int 0], zA t 4 na 7 (fun j => some (qq j 0)), zO 2 nw [.ref rw, .int 0, .int 0, .int 0, .int 0], zA t 3 rw 300 (fun _ => none), zJ t ou 1 (fun _ => 0)] H := xd_P hP (fun q h => List.mem_append_right _ h)
  have hDc : va_D (fun q : Nat => s.heap.size ≤ q) [zO 7 xa [.ref nw, .ref na, .int 0], zA t 4 na 7 (fun j => some (qq j 0)), zO 2 nw [.ref rw, .int 0, .int 0, .int 0, .int 0], zA t 3 rw 300 (fun _ => none), zJ t ou 1 (fun _ => 0)] := xd_R hD
  refine xe_sfxi (wr := lP t ma nb wy hd tk hli hst pq mk) (wc := [zO 7 xa [.ref nw, .ref na, .int 0], zA t 4 na 7 (fun j => some (qq j 0)), zO 2 nw [.ref rw, .int 0, .int 0, .int 0, .int 0], zA t 3 rw 300 (fun _ => none), zJ t ou 1 (fun _ => 0)]) (xh_S (As := [.ref xa, .int a2, .ref ou]) (rest := []) Z (H_copy l hfl D t xa nw na rw ou qq a2 H.size) h_W_copy k_659 k_660 rfl rfl ⟨Nat.le_of_ble_eq_true rfl, Nat.le_of_ble_eq_true rfl⟩ (xh_pre hK hPc hDc hG (fun q hq => hS.2.1 q hq (Nat.not_le.mpr hq))) rfl hl.1 rfl (Nat.le_of_ble_eq_true rfl) d_W_law_296 ⟨Nat.le_of_ble_eq_true rfl, Nat.le_of_ble_eq_true rfl⟩) hP hD hS hA (fun r_ u_ H locs hw hP hD hS => ?_)
  obtain rfl := hw.symm
  refine lv_istore (lv' := [(5, .int 1), (4, .int 1), (3, .ref ou), (2, .ref ma), (1, .ref xa), (0, .ref b)]) hx hb d_W_law_299 hl (by decide) rfl (fun ls hl => ?_)
  refine lv_aload_n hx hb d_W_law_301 rfl (lv_at hl 3 rfl) ?_
  refine lv_aload_n hx hb d_W_law_302 rfl (lv_at hl 5 rfl) ?_
  refine lv_iload hx hb d_W_law_303 (lv_at hl 1 rfl) ?_
  refine lv_iconst (v := 1) hx hb d_W_law_305 (by decide) ?_
  refine lv_iadd hx hb d_W_law_306 ?_
  refine va_sld hx hb hX hbl hbA hS (by unfold vp_in; decide) d_W_law_307 ?_
  refine lv_topi (fun z9 ez9 => ?_)
  obtain rfl : a2 = z9 := ea2.trans ez9.symm
  obtain ⟨hP, hD⟩ := lP_0 hP hD
  have hP : va_P D vwCl [zO 13 ma [.int 0, .int 0, .int 0, .int 0, .int 0, .int 0, .ref nb, .ref wy, .ref hd, .ref tk]] H := hP
  have hD : va_D (fun q : Nat => s.heap.size ≤ q) [zO 13 ma [.int 0, .int 0, .int 0, .int 0, .int 0, .int 0, .ref nb, .ref wy, .ref hd, .ref tk]] := hD
  refine xe_calli (wr := []) (xs_V (As := [.int a2]) (rest := []) Z (C_P_copy l D t ma nb wy hd tk 0 a2 H.size) m_P_copy k_1205 k_1206 k_1207 rfl rfl ⟨Nat.le_of_ble_eq_true rfl, Nat.le_of_ble_eq_true rfl⟩ (va_recv hK.2 hP (ci := 13) (q0 := 0) rfl rfl) (xe_pre hK (hP.sub [0] rfl) (hD.sub [0] (by decide) rfl)) rfl hl.1 rfl (Nat.le_of_ble_eq_true rfl) d_W_law_308 ⟨Nat.le_of_ble_eq_true rfl, Nat.le_of_ble_eq_true rfl⟩) hP hD hS hA [0] [] rfl rfl (by decide) (by decide) (fun r_1 u_ H locs hw hP hD hS => ?_)
  have hP : va_P D vwCl [zO 13 ma [.int 1, .int 0, .int 0, .int 0, .int 0, .int 0, .ref nb, .ref wy, .ref hd, .ref tk]] H := hP
  have hD : va_D (fun q : Nat => s.heap.size ≤ q) [zO 13 ma [.int 1, .int 0, .int 0, .int 0, .int 0, .int 0, .ref nb, .ref wy, .ref hd, .ref tk]] := hD
  obtain rfl := hw.symm
  refine lv_istore (lv' := [(6, .int 0), (5, .int 1), (4, .int 1), (3, .ref ou), (2, .ref ma), (1, .ref xa), (0, .ref b)]) hx hb d_W_law_311 hl (by decide) rfl (fun ls hl => ?_)
  refine lv_aload_n hx hb d_W_law_313 rfl (lv_at hl 4 rfl) ?_
  refine xr_call (xs_V (As := []) (rest := []) Z (C_P_thrown l D t ma 1 (.int 0) (.int 0) (.int 0) (.int 0) (.int 0) (.ref nb) (.ref wy) (.ref hd) (.ref tk)) m_P_thrown k_1026 k_1027 k_1028 rfl rfl ⟨Nat.le_of_ble_eq_true rfl, Nat.le_of_ble_eq_true rfl⟩ (va_recv hK.2 hP (ci := 13) (q0 := 0) rfl rfl) (xr_pre hK (hP.sub [0] rfl)) rfl hl.1 rfl (Nat.le_of_ble_eq_true rfl) d_W_law_314 ⟨Nat.le_of_ble_eq_true rfl, Nat.le_of_ble_eq_true rfl⟩) ?_
  refine lv_iload hx hb d_W_law_317 (lv_at hl 1 rfl) ?_
  refine lv_icmp_eq (tgt := 324) hx hb d_W_law_319 (by decide) (fun _ => ?_) (fun c_2 => absurd (rfl) c_2)
  refine lv_iload hx hb d_W_law_324 (lv_at hl 1 rfl) ?_
  refine lv_if_ne (tgt := 341) hx hb d_W_law_326 (by decide) (fun _ => ?_) (fun c_3 => absurd c_3 (by decide))
  refine lv_goto (tgt := 977) hx hb d_W_law_341 (by decide) ?_
  refine W.widen (k := 100000) (n := 1000000) (Nat.le_of_ble_eq_true rfl) (Nat.le_of_ble_eq_true rfl) ?_
  exact back H locs ls hS (lv_sub hl [2, 6] rfl)
theorem d_W_law_344 : decode c_W_law 344 = .ok (.aload_n 1, 1) := by decide +kernel
theorem d_W_law_345 : decode c_W_law 345 = .ok (.aload_n 0, 1) := by decide +kernel
theorem d_W_law_346 : decode c_W_law 346 = .ok (.iload 4, 2) := by decide +kernel
theorem d_W_law_348 : decode c_W_law 348 = .ok (.iconst 1, 1) := by decide +kernel
theorem d_W_law_349 : decode c_W_law 349 = .ok (.iadd, 1) := by decide +kernel
theorem d_W_law_350 : decode c_W_law 350 = .ok (.iaload, 1) := by decide +kernel
theorem d_W_law_351 : decode c_W_law 351 = .ok (.aload_n 0, 1) := by decide +kernel
theorem d_W_law_352 : decode c_W_law 352 = .ok (.iload 4, 2) := by decide +kernel
theorem d_W_law_354 : decode c_W_law 354 = .ok (.iconst 2, 1) := by decide +kernel
theorem d_W_law_355 : decode c_W_law 355 = .ok (.iadd, 1) := by decide +kernel
theorem d_W_law_356 : decode c_W_law 356 = .ok (.iaload, 1) := by decide +kernel
theorem d_W_law_357 : decode c_W_law 357 = .ok (.aload_n 3, 1) := by decide +kernel
theorem d_W_law_358 : decode c_W_law 358 = .ok (.invokestatic 89, 3) := by decide +kernel
theorem d_W_law_361 : decode c_W_law 361 = .ok (.istore 5, 2) := by decide +kernel
theorem d_W_law_363 : decode c_W_law 363 = .ok (.aload_n 2, 1) := by decide +kernel
theorem d_W_law_364 : decode c_W_law 364 = .ok (.aload_n 0, 1) := by decide +kernel
theorem d_W_law_365 : decode c_W_law 365 = .ok (.iload 4, 2) := by decide +kernel
theorem d_W_law_367 : decode c_W_law 367 = .ok (.iconst 1, 1) := by decide +kernel
theorem d_W_law_368 : decode c_W_law 368 = .ok (.iadd, 1) := by decide +kernel
theorem d_W_law_369 : decode c_W_law 369 = .ok (.iaload, 1) := by decide +kernel
theorem d_W_law_370 : decode c_W_law 370 = .ok (.aload_n 0, 1) := by decide +kernel
theorem d_W_law_371 : decode c_W_law 371 = .ok (.iload 4, 2) := by decide +kernel
theorem d_W_law_373 : decode c_W_law 373 = .ok (.iconst 2, 1) := by decide +kernel
theorem d_W_law_374 : decode c_W_law 374 = .ok (.iadd, 1) := by decide +kernel
theorem d_W_law_375 : decode c_W_law 375 = .ok (.iaload, 1) := by decide +kernel
theorem d_W_law_376 : decode c_W_law 376 = .ok (.invokevirtual 92, 3) := by decide +kernel
theorem d_W_law_379 : decode c_W_law 379 = .ok (.istore 6, 2) := by decide +kernel
theorem d_W_law_381 : decode c_W_law 381 = .ok (.aload_n 2, 1) := by decide +kernel
theorem d_W_law_382 : decode c_W_law 382 = .ok (.invokevirtual 76, 3) := by decide +kernel
theorem d_W_law_385 : decode c_W_law 385 = .ok (.iload 5, 2) := by decide +kernel
theorem d_W_law_387 : decode c_W_law 387 = .ok (.if_icmp .eq 5, 3) := by decide +kernel
theorem d_W_law_392 : decode c_W_law 392 = .ok (.iload 5, 2) := by decide +kernel
theorem d_W_law_394 : decode c_W_law 394 = .ok (.ifCond .ne 15, 3) := by decide +kernel
theorem d_W_law_409 : decode c_W_law 409 = .ok (.goto 568, 3) := by decide +kernel
set_option maxHeartbeats 4000000 in
set_option maxRecDepth 100000 in
/-- message -/
theorem LW_message {p : Program} {e : Env} {s : State} {m : MethodId} {below : List Frame} {meth : Method} {c : Code} (l : Launch) (hfl : l.flags = pinnedFlags ++ [noTraceFlag]) {b : Nat} {xs : Nat → Int32} (D : va_G) (t : Nat → ClassId) (Z : xF p m c code 8 s "QuorumStoreLaw" D vwCl (xTY t)) (hG : xg s) (hX : va_X b 8 xs s s.heap) (hbl : b < s.heap.size) (xa nw na rw ou ma nb wy hd tk hli hst : Nat) (qq pq : Nat → Nat → Nat) (no : Nat → Nat) (mk : Int32) {H : Heap} {locs : List Loc} {ls : Array Slot} (hP : va_P D vwCl (lP t ma nb wy hd tk hli hst pq mk ++ (lQ t xa nw na rw qq no mk ++ [zJ t ou 1 (fun _ => 0)])) H) (hD : va_D (fun q : Nat => s.heap.size ≤ q) (lP t ma nb wy hd tk hli hst pq mk ++ (lQ t xa nw na rw qq no mk ++ [zJ t ou 1 (fun _ => 0)]))) (hS : va_S (fun q : Nat => s.heap.size ≤ q) s.heap H locs) (hl : lv_has ls 8 [(4, .int 1), (3, .ref ou), (2, .ref ma), (1, .ref xa), (0, .ref b)])
    (back : ∀ (H : Heap) (locs : List Loc) (ls : Array Slot), va_S (fun q : Nat => s.heap.size ≤ q) s.heap H locs → lv_has ls 8 [(4, .int 1), (0, .ref b)] → W p l e room_1 s m #[Value.ref b] below meth c H locs 100000 1000000 (lw_Z below #[Value.ref b] s) (F0 m 977 ls [])) : W p l e room_1 s m #[Value.ref b] below meth c H locs 380 5892 (lw_Z below #[Value.ref b] s) (F0 m 344 ls []) := by
  obtain ⟨hx, hb, hml, hown, hK⟩ := id Z
  have hts := hK.1.at (args := #[Value.ref b])
  have hA : ∀ q : Nat, s.heap.size ≤ q → (fun q : Nat => s.heap.size ≤ q) q := fun _ h => h
  have hbA : ¬ (fun q : Nat => s.heap.size ≤ q) b := Nat.not_le.mpr hbl
  refine lv_aload_n hx hb d_W_law_344 rfl (lv_at hl 3 rfl) ?_
  refine lv_aload_n hx hb d_W_law_345 rfl (lv_at hl 4 rfl) ?_
  refine lv_iload hx hb d_W_law_346 (lv_at hl 0 rfl) ?_
  refine lv_iconst (v := 1) hx hb d_W_law_348 (by decide) ?_
  refine lv_iadd hx hb d_W_law_349 ?_
  refine va_sld hx hb hX hbl hbA hS (by unfold vp_in; decide) d_W_law_350 ?_
  refine lv_topi (fun a2 ea2 => ?_)
  refine lv_aload_n hx hb d_W_law_351 rfl (lv_at hl 4 rfl) ?_
  refine lv_iload hx hb d_W_law_352 (lv_at hl 0 rfl) ?_
  refine lv_iconst (v := 2) hx hb d_W_law_354 (by decide) ?_
  refine lv_iadd hx hb d_W_law_355 ?_
  refine va_sld hx hb hX hbl hbA hS (by unfold vp_in; decide) d_W_law_356 ?_
  refine lv_topi (fun a3 ea3 => ?_)
  refine lv_aload_n hx hb d_W_law_357 rfl (lv_at hl 1 rfl) ?_
  obtain ⟨hP, hD⟩ := lQ_0 hP hD
  have hPc : va_P D vwCl [zO 7 xa [.ref nw, .ref na, .int 0], zA t 4 na 7 (fun j => some (qq j 0)), zO 2 nw [.ref rw, .int 0, .int 0, .int 0, .int 0], zA t 3 rw 300 (fun _ => none), zJ t ou 1 (fun _ => 0)] H := xd_P hP (fun q h => List.mem_append_right _ h)
  have hDc : va_D (fun q : Nat => s.heap.size ≤ q) [zO 7 xa [.ref nw, .ref na, .int 0], zA t 4 na 7 (fun j => some (qq j 0)), zO 2 nw [.ref rw, .int 0, .int 0, .int 0, .int 0], zA t 3 rw 300 (fun _ => none), zJ t ou 1 (fun _ => 0)] := xd_R hD
  refine xe_sfxi (wr := lP t ma nb wy hd tk hli hst pq mk) (wc := [zO 7 xa [.ref nw, .ref na, .int 0], zA t 4 na 7 (fun j => some (qq j 0)), zO 2 nw [.ref rw, .int 0, .int 0, .int 0, .int 0], zA t 3 rw 300 (fun _ => none), zJ t ou 1 (fun _ => 0)]) (xh_S (As := [.ref xa, .int a2, .int a3, .ref ou]) (rest := []) Z (H_message l hfl D t xa nw na rw ou qq a2 a3 H.size) h_W_message k_691 k_692 rfl rfl ⟨Nat.le_of_ble_eq_true rfl, Nat.le_of_ble_eq_true rfl⟩ (xh_pre hK hPc hDc hG (fun q hq => hS.2.1 q hq (Nat.not_le.mpr hq))) rfl hl.1 rfl (Nat.le_of_ble_eq_true rfl) d_W_law_358 ⟨Nat.le_of_ble_eq_true rfl, Nat.le_of_ble_eq_true rfl⟩) hP hD hS hA (fun r_ u_ H locs hw hP hD hS => ?_)
  obtain rfl := hw.symm
  refine lv_istore (lv' := [(5, .int 1), (4, .int 1), (3, .ref ou), (2, .ref ma), (1, .ref xa), (0, .ref b)]) hx hb d_W_law_361 hl (by decide) rfl (fun ls hl => ?_)
  refine lv_aload_n hx hb d_W_law_363 rfl (lv_at hl 3 rfl) ?_
  refine lv_aload_n hx hb d_W_law_364 rfl (lv_at hl 5 rfl) ?_
  refine lv_iload hx hb d_W_law_365 (lv_at hl 1 rfl) ?_
  refine lv_iconst (v := 1) hx hb d_W_law_367 (by decide) ?_
  refine lv_iadd hx hb d_W_law_368 ?_
  refine va_sld hx hb hX hbl hbA hS (by unfold vp_in; decide) d_W_law_369 ?_
  refine lv_topi (fun z9 ez9 => ?_)
  obtain rfl : a2 = z9 := ea2.trans ez9.symm
  refine lv_aload_n hx hb d_W_law_370 rfl (lv_at hl 5 rfl) ?_
  refine lv_iload hx hb d_W_law_371 (lv_at hl 1 rfl) ?_
  refine lv_iconst (v := 2) hx hb d_W_law_373 (by decide) ?_
  refine lv_iadd hx hb d_W_law_374 ?_
  refine va_sld hx hb hX hbl hbA hS (by unfold vp_in; decide) d_W_law_375 ?_
  refine lv_topi (fun z9 ez9 => ?_)
  obtain rfl : a3 = z9 := ea3.trans ez9.symm
  obtain ⟨hP, hD⟩ := lP_0 hP hD
  have hP : va_P D vwCl [zO 13 ma [.int 0, .int 0, .int 0, .int 0, .int 0, .int 0, .ref nb, .ref wy, .ref hd, .ref tk]] H := hP
  have hD : va_D (fun q : Nat => s.heap.size ≤ q) [zO 13 ma [.int 0, .int 0, .int 0, .int 0, .int 0, .int 0, .ref nb, .ref wy, .ref hd, .ref tk]] := hD
  refine xe_calli (wr := []) (xs_V (As := [.int a2, .int a3]) (rest := []) Z (C_P_message l D t ma nb wy hd tk 0 a2 a3 H.size) m_P_message k_1209 k_1210 k_1211 rfl rfl ⟨Nat.le_of_ble_eq_true rfl, Nat.le_of_ble_eq_true rfl⟩ (va_recv hK.2 hP (ci := 13) (q0 := 0) rfl rfl) (xe_pre hK (hP.sub [0] rfl) (hD.sub [0] (by decide) rfl)) rfl hl.1 rfl (Nat.le_of_ble_eq_true rfl) d_W_law_376 ⟨Nat.le_of_ble_eq_true rfl, Nat.le_of_ble_eq_true rfl⟩) hP hD hS hA [0] [] rfl rfl (by decide) (by decide) (fun r_1 u_ H locs hw hP hD hS => ?_)
  have hP : va_P D vwCl [zO 13 ma [.int 1, .int 0, .int 0, .int 0, .int 0, .int 0, .ref nb, .ref wy, .ref hd, .ref tk]] H := hP
  have hD : va_D (fun q : Nat => s.heap.size ≤ q) [zO 13 ma [.int 1, .int 0, .int 0, .int 0, .int 0, .int 0, .ref nb, .ref wy, .ref hd, .ref tk]] := hD
  obtain rfl := hw.symm
  refine lv_istore (lv' := [(6, .int 0), (5, .int 1), (4, .int 1), (3, .ref ou), (2, .ref ma), (1, .ref xa), (0, .ref b)]) hx hb d_W_law_379 hl (by decide) rfl (fun ls hl => ?_)
  refine lv_aload_n hx hb d_W_law_381 rfl (lv_at hl 4 rfl) ?_
  refine xr_call (xs_V (As := []) (rest := []) Z (C_P_thrown l D t ma 1 (.int 0) (.int 0) (.int 0) (.int 0) (.int 0) (.ref nb) (.ref wy) (.ref hd) (.ref tk)) m_P_thrown k_1026 k_1027 k_1028 rfl rfl ⟨Nat.le_of_ble_eq_true rfl, Nat.le_of_ble_eq_true rfl⟩ (va_recv hK.2 hP (ci := 13) (q0 := 0) rfl rfl) (xr_pre hK (hP.sub [0] rfl)) rfl hl.1 rfl (Nat.le_of_ble_eq_true rfl) d_W_law_382 ⟨Nat.le_of_ble_eq_true rfl, Nat.le_of_ble_eq_true rfl⟩) ?_
  refine lv_iload hx hb d_W_law_385 (lv_at hl 1 rfl) ?_
  refine lv_icmp_eq (tgt := 392) hx hb d_W_law_387 (by decide) (fun _ => ?_) (fun c_2 => absurd (rfl) c_2)
  refine lv_iload hx hb d_W_law_392 (lv_at hl 1 rfl) ?_
  refine lv_if_ne (tgt := 409) hx hb d_W_law_394 (by decide) (fun _ => ?_) (fun c_3 => absurd c_3 (by decide))
  refine lv_goto (tgt := 977) hx hb d_W_law_409 (by decide) ?_
  refine W.widen (k := 100000) (n := 1000000) (Nat.le_of_ble_eq_true rfl) (Nat.le_of_ble_eq_true rfl) ?_
  exact back H locs ls hS (lv_sub hl [2, 6] rfl)
theorem d_W_law_412 : decode c_W_law 412 = .ok (.aload_n 1, 1) := by decide +kernel
theorem d_W_law_413 : decode c_W_law 413 = .ok (.aload_n 0, 1) := by decide +kernel
theorem d_W_law_414 : decode c_W_law 414 = .ok (.iload 4, 2) := by decide +kernel
theorem d_W_law_416 : decode c_W_law 416 = .ok (.iconst 1, 1) := by decide +kernel
theorem d_W_law_417 : decode c_W_law 417 = .ok (.iadd, 1) := by decide +kernel
theorem d_W_law_418 : decode c_W_law 418 = .ok (.iaload, 1) := by decide +kernel
theorem d_W_law_419 : decode c_W_law 419 = .ok (.invokestatic 93, 3) := by decide +kernel
theorem d_W_law_422 : decode c_W_law 422 = .ok (.istore 5, 2) := by decide +kernel
theorem d_W_law_424 : decode c_W_law 424 = .ok (.aload_n 2, 1) := by decide +kernel
theorem d_W_law_425 : decode c_W_law 425 = .ok (.aload_n 0, 1) := by decide +kernel
theorem d_W_law_426 : decode c_W_law 426 = .ok (.iload 4, 2) := by decide +kernel
theorem d_W_law_428 : decode c_W_law 428 = .ok (.iconst 1, 1) := by decide +kernel
theorem d_W_law_429 : decode c_W_law 429 = .ok (.iadd, 1) := by decide +kernel
theorem d_W_law_430 : decode c_W_law 430 = .ok (.iaload, 1) := by decide +kernel
theorem d_W_law_431 : decode c_W_law 431 = .ok (.invokevirtual 96, 3) := by decide +kernel
theorem d_W_law_434 : decode c_W_law 434 = .ok (.aload_n 2, 1) := by decide +kernel
theorem d_W_law_435 : decode c_W_law 435 = .ok (.invokevirtual 76, 3) := by decide +kernel
theorem d_W_law_438 : decode c_W_law 438 = .ok (.iload 5, 2) := by decide +kernel
theorem d_W_law_440 : decode c_W_law 440 = .ok (.if_icmp .eq 5, 3) := by decide +kernel
theorem d_W_law_445 : decode c_W_law 445 = .ok (.goto 532, 3) := by decide +kernel
set_option maxHeartbeats 4000000 in
set_option maxRecDepth 100000 in
/-- fall -/
theorem LW_fall {p : Program} {e : Env} {s : State} {m : MethodId} {below : List Frame} {meth : Method} {c : Code} (l : Launch) (hfl : l.flags = pinnedFlags ++ [noTraceFlag]) {b : Nat} {xs : Nat → Int32} (D : va_G) (t : Nat → ClassId) (Z : xF p m c code 8 s "QuorumStoreLaw" D vwCl (xTY t)) (hG : xg s) (hX : va_X b 8 xs s s.heap) (hbl : b < s.heap.size) (xa nw na rw ou ma nb wy hd tk hli hst : Nat) (qq pq : Nat → Nat → Nat) (no : Nat → Nat) (mk : Int32) {H : Heap} {locs : List Loc} {ls : Array Slot} (hP : va_P D vwCl (lP t ma nb wy hd tk hli hst pq mk ++ (lQ t xa nw na rw qq no mk ++ [zJ t ou 1 (fun _ => 0)])) H) (hD : va_D (fun q : Nat => s.heap.size ≤ q) (lP t ma nb wy hd tk hli hst pq mk ++ (lQ t xa nw na rw qq no mk ++ [zJ t ou 1 (fun _ => 0)]))) (hS : va_S (fun q : Nat => s.heap.size ≤ q) s.heap H locs) (hl : lv_has ls 8 [(4, .int 1), (3, .ref ou), (2, .ref ma), (1, .ref xa), (0, .ref b)])
    (back : ∀ (H : Heap) (locs : List Loc) (ls : Array Slot), va_S (fun q : Nat => s.heap.size ≤ q) s.heap H locs → lv_has ls 8 [(4, .int 1), (0, .ref b)] → W p l e room_1 s m #[Value.ref b] below meth c H locs 100000 1000000 (lw_Z below #[Value.ref b] s) (F0 m 977 ls [])) : W p l e room_1 s m #[Value.ref b] below meth c H locs 380 5892 (lw_Z below #[Value.ref b] s) (F0 m 412 ls []) := by
  obtain ⟨hx, hb, hml, hown, hK⟩ := id Z
  have hts := hK.1.at (args := #[Value.ref b])
  have hA : ∀ q : Nat, s.heap.size ≤ q → (fun q : Nat => s.heap.size ≤ q) q := fun _ h => h
  have hbA : ¬ (fun q : Nat => s.heap.size ≤ q) b := Nat.not_le.mpr hbl
  refine lv_aload_n hx hb d_W_law_412 rfl (lv_at hl 3 rfl) ?_
  refine lv_aload_n hx hb d_W_law_413 rfl (lv_at hl 4 rfl) ?_
  refine lv_iload hx hb d_W_law_414 (lv_at hl 0 rfl) ?_
  refine lv_iconst (v := 1) hx hb d_W_law_416 (by decide) ?_
  refine lv_iadd hx hb d_W_law_417 ?_
  refine va_sld hx hb hX hbl hbA hS (by unfold vp_in; decide) d_W_law_418 ?_
  refine lv_topi (fun a2 ea2 => ?_)
  rcases xq_node a2 7 (by decide) with hn | ⟨k, hk, rfl⟩
  · obtain ⟨hP, hD⟩ := lQ_0 hP hD
    have hPc : va_P D vwCl [zO 7 xa [.ref nw, .ref na, .int 0], zA t 4 na 7 (fun j => some (qq j 0)), zO 2 nw [.ref rw, .int 0, .int 0, .int 0, .int 0], zA t 3 rw 300 (fun _ => none), zJ t ou 1 (fun _ => 0)] H := xd_P hP (fun q h => List.mem_append_right _ h)
    have hDc : va_D (fun q : Nat => s.heap.size ≤ q) [zO 7 xa [.ref nw, .ref na, .int 0], zA t 4 na 7 (fun j => some (qq j 0)), zO 2 nw [.ref rw, .int 0, .int 0, .int 0, .int 0], zA t 3 rw 300 (fun _ => none), zJ t ou 1 (fun _ => 0)] := xd_R hD
    refine xe_sfxi (wr := lP t ma nb wy hd tk hli hst pq mk) (wc := [zO 7 xa [.ref nw, .ref na, .int 0], zA t 4 na 7 (fun j => some (qq j 0)), zO 2 nw [.ref rw, .int 0, .int 0, .int 0, .int 0], zA t 3 rw 300 (fun _ => none), zJ t ou 1 (fun _ => 0)]) (xh_S (As := [.ref xa, .int a2]) (rest := []) Z (H_fall l hfl D t xa nw na rw ou qq a2 hn H.size) h_W_fall k_703 k_704 rfl rfl ⟨Nat.le_of_ble_eq_true rfl, Nat.le_of_ble_eq_true rfl⟩ (xh_pre hK hPc hDc hG (fun q hq => hS.2.1 q hq (Nat.not_le.mpr hq))) rfl hl.1 rfl (Nat.le_of_ble_eq_true rfl) d_W_law_419 ⟨Nat.le_of_ble_eq_true rfl, Nat.le_of_ble_eq_true rfl⟩) hP hD hS hA (fun r_ u_ H locs hw hP hD hS => ?_)
    obtain rfl := hw.symm
    refine lv_istore (lv' := [(5, .int 1), (4, .int 1), (3, .ref ou), (2, .ref ma), (1, .ref xa), (0, .ref b)]) hx hb d_W_law_422 hl (by decide) rfl (fun ls hl => ?_)
    refine lv_aload_n hx hb d_W_law_424 rfl (lv_at hl 3 rfl) ?_
    refine lv_aload_n hx hb d_W_law_425 rfl (lv_at hl 5 rfl) ?_
    refine lv_iload hx hb d_W_law_426 (lv_at hl 1 rfl) ?_
    refine lv_iconst (v := 1) hx hb d_W_law_428 (by decide) ?_
    refine lv_iadd hx hb d_W_law_429 ?_
    refine va_sld hx hb hX hbl hbA hS (by unfold vp_in; decide) d_W_law_430 ?_
    refine lv_topi (fun z9 ez9 => ?_)
    obtain rfl : a2 = z9 := ea2.trans ez9.symm
    obtain ⟨hP, hD⟩ := lP_0 hP hD
    have hP : va_P D vwCl [zO 13 ma [.int 0, .int 0, .int 0, .int 0, .int 0, .int 0, .ref nb, .ref wy, .ref hd, .ref tk]] H := hP
    have hD : va_D (fun q : Nat => s.heap.size ≤ q) [zO 13 ma [.int 0, .int 0, .int 0, .int 0, .int 0, .int 0, .ref nb, .ref wy, .ref hd, .ref tk]] := hD
    refine xe_callv (wr := []) (xs_V (As := [.int a2]) (rest := []) Z (C_P_fall_1 l D t ma nb wy hd tk 0 a2 hn H.size) m_P_fall k_1213 k_1214 k_1215 rfl rfl ⟨Nat.le_of_ble_eq_true rfl, Nat.le_of_ble_eq_true rfl⟩ (va_recv hK.2 hP (ci := 13) (q0 := 0) rfl rfl) (xe_pre hK (hP.sub [0] rfl) (hD.sub [0] (by decide) rfl)) rfl hl.1 rfl (Nat.le_of_ble_eq_true rfl) d_W_law_431 ⟨Nat.le_of_ble_eq_true rfl, Nat.le_of_ble_eq_true rfl⟩) hP hD hS hA [0] [] rfl rfl (by decide) (by decide) (fun u_ H locs _ hP hD hS => ?_)
    have hP : va_P D vwCl [zO 13 ma [.int 1, .int 0, .int 0, .int 0, .int 0, .int 0, .ref nb, .ref wy, .ref hd, .ref tk]] H := hP
    have hD : va_D (fun q : Nat => s.heap.size ≤ q) [zO 13 ma [.int 1, .int 0, .int 0, .int 0, .int 0, .int 0, .ref nb, .ref wy, .ref hd, .ref tk]] := hD
    refine lv_aload_n hx hb d_W_law_434 rfl (lv_at hl 3 rfl) ?_
    refine xr_call (xs_V (As := []) (rest := []) Z (C_P_thrown l D t ma 1 (.int 0) (.int 0) (.int 0) (.int 0) (.int 0) (.ref nb) (.ref wy) (.ref hd) (.ref tk)) m_P_thrown k_1026 k_1027 k_1028 rfl rfl ⟨Nat.le_of_ble_eq_true rfl, Nat.le_of_ble_eq_true rfl⟩ (va_recv hK.2 hP (ci := 13) (q0 := 0) rfl rfl) (xr_pre hK (hP.sub [0] rfl)) rfl hl.1 rfl (Nat.le_of_ble_eq_true rfl) d_W_law_435 ⟨Nat.le_of_ble_eq_true rfl, Nat.le_of_ble_eq_true rfl⟩) ?_
    refine lv_iload hx hb d_W_law_438 (lv_at hl 0 rfl) ?_
    refine lv_icmp_eq (tgt := 445) hx hb d_W_law_440 (by decide) (fun _ => ?_) (fun c_1 => absurd (rfl) c_1)
    refine lv_goto (tgt := 977) hx hb d_W_law_445 (by decide) ?_
    refine W.widen (k := 100000) (n := 1000000) (Nat.le_of_ble_eq_true rfl) (Nat.le_of_ble_eq_true rfl) ?_
    exact back H locs ls hS (lv_sub hl [1, 5] rfl)
  · obtain ⟨hP, hD⟩ := lQ_k hk hP hD
    have hPc : va_P D vwCl [zO 7 xa [.ref nw, .ref na, .int 0], zA t 4 na 7 (fun j => some (qq j 0)), zO 2 nw [.ref rw, .int 0, .int 0, .int 0, .int 0], zA t 3 rw 300 (fun _ => none), zO 3 (qq k 0) [.int (nI k), .ref nw, .int 0, .int 0, .int 0, .ref ((qq k 1)), .ref ((qq k 7)), .ref ((qq k 11)), .int 1, .int 0, .int 0, .int (nI (8 + 3 * k)), .int ((-1)), .int 0, .ref ((qq k 15))], zO 5 (qq k 1) [.ref ((qq k 2)), .ref ((qq k 3)), .ref ((qq k 4)), .ref ((qq k 5)), .ref ((qq k 6)), .int 1], zJ t (qq k 2) 32 (fun _ => 1099511627776), zI t (qq k 3) 8 (fun _ => 0), zJ t (qq k 4) 8 (fun _ => 0), zI t (qq k 5) 4 (xm 1), zI t (qq k 6) 4 (xm mk), zO 4 (qq k 7) [.ref ((qq k 8)), .ref ((qq k 9)), .ref ((qq k 10))], zI t (qq k 8) 32 (fun _ => 0), zI t (qq k 9) 32 (fun _ => 0), zA t 2 (qq k 10) 32 (fun _ => none), zO 4 (qq k 11) [.ref ((qq k 12)), .ref ((qq k 13)), .ref ((qq k 14))], zI t (qq k 12) 64 (fun _ => 0), zI t (qq k 13) 64 (fun _ => 0), zA t 2 (qq k 14) 64 (fun _ => none), zO 0 (qq k 15) [.ref ((no k)), .int 0, .ref ((qq k 16)), .ref ((qq k 20)), .ref ((qq k 24)), .int 0, .int 0, .int 0], zO 4 (qq k 16) [.ref ((qq k 17)), .ref ((qq k 18)), .ref ((qq k 19))], zI t (qq k 17) 32 (fun _ => 0), zI t (qq k 18) 32 (fun _ => 0), zA t 2 (qq k 19) 32 (fun _ => none), zO 4 (qq k 20) [.ref ((qq k 21)), .ref ((qq k 22)), .ref ((qq k 23))], zI t (qq k 21) 4 (fun _ => 0), zI t (qq k 22) 4 (fun _ => 0), zA t 2 (qq k 23) 4 (fun _ => none), zA t 2 (qq k 24) 16 (fun _ => none), zJ t ou 1 (fun _ => 0)] H := xd_P hP (fun q h => List.mem_append_right _ h)
    have hDc : va_D (fun q : Nat => s.heap.size ≤ q) [zO 7 xa [.ref nw, .ref na, .int 0], zA t 4 na 7 (fun j => some (qq j 0)), zO 2 nw [.ref rw, .int 0, .int 0, .int 0, .int 0], zA t 3 rw 300 (fun _ => none), zO 3 (qq k 0) [.int (nI k), .ref nw, .int 0, .int 0, .int 0, .ref ((qq k 1)), .ref ((qq k 7)), .ref ((qq k 11)), .int 1, .int 0, .int 0, .int (nI (8 + 3 * k)), .int ((-1)), .int 0, .ref ((qq k 15))], zO 5 (qq k 1) [.ref ((qq k 2)), .ref ((qq k 3)), .ref ((qq k 4)), .ref ((qq k 5)), .ref ((qq k 6)), .int 1], zJ t (qq k 2) 32 (fun _ => 1099511627776), zI t (qq k 3) 8 (fun _ => 0), zJ t (qq k 4) 8 (fun _ => 0), zI t (qq k 5) 4 (xm 1), zI t (qq k 6) 4 (xm mk), zO 4 (qq k 7) [.ref ((qq k 8)), .ref ((qq k 9)), .ref ((qq k 10))], zI t (qq k 8) 32 (fun _ => 0), zI t (qq k 9) 32 (fun _ => 0), zA t 2 (qq k 10) 32 (fun _ => none), zO 4 (qq k 11) [.ref ((qq k 12)), .ref ((qq k 13)), .ref ((qq k 14))], zI t (qq k 12) 64 (fun _ => 0), zI t (qq k 13) 64 (fun _ => 0), zA t 2 (qq k 14) 64 (fun _ => none), zO 0 (qq k 15) [.ref ((no k)), .int 0, .ref ((qq k 16)), .ref ((qq k 20)), .ref ((qq k 24)), .int 0, .int 0, .int 0], zO 4 (qq k 16) [.ref ((qq k 17)), .ref ((qq k 18)), .ref ((qq k 19))], zI t (qq k 17) 32 (fun _ => 0), zI t (qq k 18) 32 (fun _ => 0), zA t 2 (qq k 19) 32 (fun _ => none), zO 4 (qq k 20) [.ref ((qq k 21)), .ref ((qq k 22)), .ref ((qq k 23))], zI t (qq k 21) 4 (fun _ => 0), zI t (qq k 22) 4 (fun _ => 0), zA t 2 (qq k 23) 4 (fun _ => none), zA t 2 (qq k 24) 16 (fun _ => none), zJ t ou 1 (fun _ => 0)] := xd_R hD
    refine xe_sfxi (wr := lP t ma nb wy hd tk hli hst pq mk) (wc := [zO 7 xa [.ref nw, .ref na, .int 0], zA t 4 na 7 (fun j => some (qq j 0)), zO 2 nw [.ref rw, .int 0, .int 0, .int 0, .int 0], zA t 3 rw 300 (fun _ => none), zO 3 (qq k 0) [.int (nI k), .ref nw, .int 0, .int 0, .int 0, .ref ((qq k 1)), .ref ((qq k 7)), .ref ((qq k 11)), .int 1, .int 0, .int 0, .int (nI (8 + 3 * k)), .int ((-1)), .int 0, .ref ((qq k 15))], zO 5 (qq k 1) [.ref ((qq k 2)), .ref ((qq k 3)), .ref ((qq k 4)), .ref ((qq k 5)), .ref ((qq k 6)), .int 1], zJ t (qq k 2) 32 (fun _ => 1099511627776), zI t (qq k 3) 8 (fun _ => 0), zJ t (qq k 4) 8 (fun _ => 0), zI t (qq k 5) 4 (xm 1), zI t (qq k 6) 4 (xm mk), zO 4 (qq k 7) [.ref ((qq k 8)), .ref ((qq k 9)), .ref ((qq k 10))], zI t (qq k 8) 32 (fun _ => 0), zI t (qq k 9) 32 (fun _ => 0), zA t 2 (qq k 10) 32 (fun _ => none), zO 4 (qq k 11) [.ref ((qq k 12)), .ref ((qq k 13)), .ref ((qq k 14))], zI t (qq k 12) 64 (fun _ => 0), zI t (qq k 13) 64 (fun _ => 0), zA t 2 (qq k 14) 64 (fun _ => none), zO 0 (qq k 15) [.ref ((no k)), .int 0, .ref ((qq k 16)), .ref ((qq k 20)), .ref ((qq k 24)), .int 0, .int 0, .int 0], zO 4 (qq k 16) [.ref ((qq k 17)), .ref ((qq k 18)), .ref ((qq k 19))], zI t (qq k 17) 32 (fun _ => 0), zI t (qq k 18) 32 (fun _ => 0), zA t 2 (qq k 19) 32 (fun _ => none), zO 4 (qq k 20) [.ref ((qq k 21)), .ref ((qq k 22)), .ref ((qq k 23))], zI t (qq k 21) 4 (fun _ => 0), zI t (qq k 22) 4 (fun _ => 0), zA t 2 (qq k 23) 4 (fun _ => none), zA t 2 (qq k 24) 16 (fun _ => none), zJ t ou 1 (fun _ => 0)]) (xh_S (As := [.ref xa, .int (nI k)]) (rest := []) Z (R_fall l hfl D t xa nw na rw ou qq no mk k hk H.size) h_W_fall k_703 k_704 rfl rfl ⟨Nat.le_of_ble_eq_true rfl, Nat.le_of_ble_eq_true rfl⟩ (xh_pre hK hPc hDc hG (fun q hq => hS.2.1 q hq (Nat.not_le.mpr hq))) rfl hl.1 rfl (Nat.le_of_ble_eq_true rfl) d_W_law_419 ⟨Nat.le_of_ble_eq_true rfl, Nat.le_of_ble_eq_true rfl⟩) hP hD hS hA (fun r_ u_ H locs hw hP hD hS => ?_)
    obtain rfl := hw.symm
    refine lv_istore (lv' := [(5, .int 0), (4, .int 1), (3, .ref ou), (2, .ref ma), (1, .ref xa), (0, .ref b)]) hx hb d_W_law_422 hl (by decide) rfl (fun ls hl => ?_)
    refine lv_aload_n hx hb d_W_law_424 rfl (lv_at hl 3 rfl) ?_
    refine lv_aload_n hx hb d_W_law_425 rfl (lv_at hl 5 rfl) ?_
    refine lv_iload hx hb d_W_law_426 (lv_at hl 1 rfl) ?_
    refine lv_iconst (v := 1) hx hb d_W_law_428 (by decide) ?_
    refine lv_iadd hx hb d_W_law_429 ?_
    refine va_sld hx hb hX hbl hbA hS (by unfold vp_in; decide) d_W_law_430 ?_
    refine lv_topi (fun z9 ez9 => ?_)
    obtain rfl : nI k = z9 := ea2.trans ez9.symm
    obtain ⟨hP, hD⟩ := lP_k hk hP hD
    have hP : va_P D vwCl [zO 13 ma [.int 0, .int 0, .int 0, .int 0, .int 0, .int 0, .ref nb, .ref wy, .ref hd, .ref tk], zA t 7 nb 7 (fun j => some (pq j 0)), zO 9 (pq k 0) [.int (nI k), .int 1, .int 0, .int 0, .int 0, .int 0, .int (nI (8 + 3 * k)), .int ((-1)), .int 0, .int 0, .ref ((pq k 1)), .ref ((pq k 7)), .ref ((pq k 11)), .ref ((pq k 15)), .ref ((pq k 19)), .ref ((pq k 23)), .int 0], zO 11 (pq k 1) [.int 0, .ref ((pq k 2)), .ref ((pq k 3)), .ref ((pq k 4)), .ref ((pq k 5)), .ref ((pq k 6)), .int 1], zJ t (pq k 2) 32 (fun _ => 1099511627776), zJ t (pq k 3) 8 (fun _ => 0), zI t (pq k 4) 8 (fun _ => 0), zI t (pq k 5) 4 (xm 1), zI t (pq k 6) 4 (xm mk), zO 10 (pq k 7) [.ref ((pq k 8)), .ref ((pq k 9)), .ref ((pq k 10)), .int 0], zI t (pq k 8) 8 (fun _ => 0), zI t (pq k 9) 8 (fun _ => 0), zA t 5 (pq k 10) 8 (fun _ => none), zO 10 (pq k 11) [.ref ((pq k 12)), .ref ((pq k 13)), .ref ((pq k 14)), .int 0], zI t (pq k 12) 8 (fun _ => 0), zI t (pq k 13) 8 (fun _ => 0), zA t 5 (pq k 14) 8 (fun _ => none), zO 10 (pq k 15) [.ref ((pq k 16)), .ref ((pq k 17)), .ref ((pq k 18)), .int 0], zI t (pq k 16) 8 (fun _ => 0), zI t (pq k 17) 8 (fun _ => 0), zA t 5 (pq k 18) 8 (fun _ => none), zO 10 (pq k 19) [.ref ((pq k 20)), .ref ((pq k 21)), .ref ((pq k 22)), .int 0], zI t (pq k 20) 8 (fun _ => 0), zI t (pq k 21) 8 (fun _ => 0), zA t 5 (pq k 22) 8 (fun _ => none), zA t 5 (pq k 23) 16 (fun _ => none)] H := hP
    have hD : va_D (fun q : Nat => s.heap.size ≤ q) [zO 13 ma [.int 0, .int 0, .int 0, .int 0, .int 0, .int 0, .ref nb, .ref wy, .ref hd, .ref tk], zA t 7 nb 7 (fun j => some (pq j 0)), zO 9 (pq k 0) [.int (nI k), .int 1, .int 0, .int 0, .int 0, .int 0, .int (nI (8 + 3 * k)), .int ((-1)), .int 0, .int 0, .ref ((pq k 1)), .ref ((pq k 7)), .ref ((pq k 11)), .ref ((pq k 15)), .ref ((pq k 19)), .ref ((pq k 23)), .int 0], zO 11 (pq k 1) [.int 0, .ref ((pq k 2)), .ref ((pq k 3)), .ref ((pq k 4)), .ref ((pq k 5)), .ref ((pq k 6)), .int 1], zJ t (pq k 2) 32 (fun _ => 1099511627776), zJ t (pq k 3) 8 (fun _ => 0), zI t (pq k 4) 8 (fun _ => 0), zI t (pq k 5) 4 (xm 1), zI t (pq k 6) 4 (xm mk), zO 10 (pq k 7) [.ref ((pq k 8)), .ref ((pq k 9)), .ref ((pq k 10)), .int 0], zI t (pq k 8) 8 (fun _ => 0), zI t (pq k 9) 8 (fun _ => 0), zA t 5 (pq k 10) 8 (fun _ => none), zO 10 (pq k 11) [.ref ((pq k 12)), .ref ((pq k 13)), .ref ((pq k 14)), .int 0], zI t (pq k 12) 8 (fun _ => 0), zI t (pq k 13) 8 (fun _ => 0), zA t 5 (pq k 14) 8 (fun _ => none), zO 10 (pq k 15) [.ref ((pq k 16)), .ref ((pq k 17)), .ref ((pq k 18)), .int 0], zI t (pq k 16) 8 (fun _ => 0), zI t (pq k 17) 8 (fun _ => 0), zA t 5 (pq k 18) 8 (fun _ => none), zO 10 (pq k 19) [.ref ((pq k 20)), .ref ((pq k 21)), .ref ((pq k 22)), .int 0], zI t (pq k 20) 8 (fun _ => 0), zI t (pq k 21) 8 (fun _ => 0), zA t 5 (pq k 22) 8 (fun _ => none), zA t 5 (pq k 23) 16 (fun _ => none)] := hD
    refine xe_callv (wr := []) (xs_V (As := [.int (nI k)]) (rest := []) Z (C_P_fall l D t ma nb wy hd tk 0 pq mk k hk H.size) m_P_fall k_1213 k_1214 k_1215 rfl rfl ⟨Nat.le_of_ble_eq_true rfl, Nat.le_of_ble_eq_true rfl⟩ (va_recv hK.2 hP (ci := 13) (q0 := 0) rfl rfl) (xe_pre hK (hP.sub [0, 1, 2, 3, 4, 5, 6, 7, 8, 9, 10, 11, 12, 13, 14, 15, 16, 17, 18, 19, 20, 21, 22, 23, 24, 25] rfl) (hD.sub [0, 1, 2, 3, 4, 5, 6, 7, 8, 9, 10, 11, 12, 13, 14, 15, 16, 17, 18, 19, 20, 21, 22, 23, 24, 25] (by decide) rfl)) rfl hl.1 rfl (Nat.le_of_ble_eq_true rfl) d_W_law_431 ⟨Nat.le_of_ble_eq_true rfl, Nat.le_of_ble_eq_true rfl⟩) hP hD hS hA [0, 1, 2, 3, 4, 5, 6, 7, 8, 9, 10, 11, 12, 13, 14, 15, 16, 17, 18, 19, 20, 21, 22, 23, 24, 25] [] rfl rfl (by decide) (by decide) (fun u_ H locs _ hP hD hS => ?_)
    have hP : va_P D vwCl [zO 13 ma [.int 0, .int 0, .int 0, .int 0, .int 0, .int 0, .ref nb, .ref wy, .ref hd, .ref tk]] H := hP
    have hD : va_D (fun q : Nat => s.heap.size ≤ q) [zO 13 ma [.int 0, .int 0, .int 0, .int 0, .int 0, .int 0, .ref nb, .ref wy, .ref hd, .ref tk]] := hD
    refine lv_aload_n hx hb d_W_law_434 rfl (lv_at hl 3 rfl) ?_
    refine xr_call (xs_V (As := []) (rest := []) Z (C_P_thrown l D t ma 0 (.int 0) (.int 0) (.int 0) (.int 0) (.int 0) (.ref nb) (.ref wy) (.ref hd) (.ref tk)) m_P_thrown k_1026 k_1027 k_1028 rfl rfl ⟨Nat.le_of_ble_eq_true rfl, Nat.le_of_ble_eq_true rfl⟩ (va_recv hK.2 hP (ci := 13) (q0 := 0) rfl rfl) (xr_pre hK (hP.sub [0] rfl)) rfl hl.1 rfl (Nat.le_of_ble_eq_true rfl) d_W_law_435 ⟨Nat.le_of_ble_eq_true rfl, Nat.le_of_ble_eq_true rfl⟩) ?_
    refine lv_iload hx hb d_W_law_438 (lv_at hl 0 rfl) ?_
    refine lv_icmp_eq (tgt := 445) hx hb d_W_law_440 (by decide) (fun _ => ?_) (fun c_2 => absurd (rfl) c_2)
    refine lv_goto (tgt := 977) hx hb d_W_law_445 (by decide) ?_
    refine W.widen (k := 100000) (n := 1000000) (Nat.le_of_ble_eq_true rfl) (Nat.le_of_ble_eq_true rfl) ?_
    exact back H locs ls hS (lv_sub hl [1, 5] rfl)
theorem d_W_law_448 : decode c_W_law 448 = .ok (.aload_n 1, 1) := by decide +kernel
theorem d_W_law_449 : decode c_W_law 449 = .ok (.aload_n 0, 1) := by decide +kernel
theorem d_W_law_450 : decode c_W_law 450 = .ok (.iload 4, 2) := by decide +kernel
theorem d_W_law_452 : decode c_W_law 452 = .ok (.iconst 1, 1) := by decide +kernel
theorem d_W_law_453 : decode c_W_law 453 = .ok (.iadd, 1) := by decide +kernel
theorem d_W_law_454 : decode c_W_law 454 = .ok (.iaload, 1) := by decide +kernel
theorem d_W_law_455 : decode c_W_law 455 = .ok (.invokestatic 97, 3) := by decide +kernel
theorem d_W_law_458 : decode c_W_law 458 = .ok (.istore 5, 2) := by decide +kernel
theorem d_W_law_460 : decode c_W_law 460 = .ok (.aload_n 2, 1) := by decide +kernel
theorem d_W_law_461 : decode c_W_law 461 = .ok (.aload_n 0, 1) := by decide +kernel
theorem d_W_law_462 : decode c_W_law 462 = .ok (.iload 4, 2) := by decide +kernel
theorem d_W_law_464 : decode c_W_law 464 = .ok (.iconst 1, 1) := by decide +kernel
theorem d_W_law_465 : decode c_W_law 465 = .ok (.iadd, 1) := by decide +kernel
theorem d_W_law_466 : decode c_W_law 466 = .ok (.iaload, 1) := by decide +kernel
theorem d_W_law_467 : decode c_W_law 467 = .ok (.invokevirtual 99, 3) := by decide +kernel
theorem d_W_law_470 : decode c_W_law 470 = .ok (.aload_n 2, 1) := by decide +kernel
theorem d_W_law_471 : decode c_W_law 471 = .ok (.invokevirtual 76, 3) := by decide +kernel
theorem d_W_law_474 : decode c_W_law 474 = .ok (.iload 5, 2) := by decide +kernel
theorem d_W_law_476 : decode c_W_law 476 = .ok (.if_icmp .eq 5, 3) := by decide +kernel
theorem d_W_law_481 : decode c_W_law 481 = .ok (.goto 496, 3) := by decide +kernel
set_option maxHeartbeats 4000000 in
set_option maxRecDepth 100000 in
/-- rise -/
theorem LW_rise {p : Program} {e : Env} {s : State} {m : MethodId} {below : List Frame} {meth : Method} {c : Code} (l : Launch) (hfl : l.flags = pinnedFlags ++ [noTraceFlag]) {b : Nat} {xs : Nat → Int32} (D : va_G) (t : Nat → ClassId) (Z : xF p m c code 8 s "QuorumStoreLaw" D vwCl (xTY t)) (hG : xg s) (hX : va_X b 8 xs s s.heap) (hbl : b < s.heap.size) (xa nw na rw ou ma nb wy hd tk hli hst : Nat) (qq pq : Nat → Nat → Nat) (no : Nat → Nat) (mk : Int32) {H : Heap} {locs : List Loc} {ls : Array Slot} (hP : va_P D vwCl (lP t ma nb wy hd tk hli hst pq mk ++ (lQ t xa nw na rw qq no mk ++ [zJ t ou 1 (fun _ => 0)])) H) (hD : va_D (fun q : Nat => s.heap.size ≤ q) (lP t ma nb wy hd tk hli hst pq mk ++ (lQ t xa nw na rw qq no mk ++ [zJ t ou 1 (fun _ => 0)]))) (hS : va_S (fun q : Nat => s.heap.size ≤ q) s.heap H locs) (hl : lv_has ls 8 [(4, .int 1), (3, .ref ou), (2, .ref ma), (1, .ref xa), (0, .ref b)])
    (back : ∀ (H : Heap) (locs : List Loc) (ls : Array Slot), va_S (fun q : Nat => s.heap.size ≤ q) s.heap H locs → lv_has ls 8 [(4, .int 1), (0, .ref b)] → W p l e room_1 s m #[Value.ref b] below meth c H locs 100000 1000000 (lw_Z below #[Value.ref b] s) (F0 m 977 ls [])) : W p l e room_1 s m #[Value.ref b] below meth c H locs 380 5892 (lw_Z below #[Value.ref b] s) (F0 m 448 ls []) := by
  obtain ⟨hx, hb, hml, hown, hK⟩ := id Z
  have hts := hK.1.at (args := #[Value.ref b])
  have hA : ∀ q : Nat, s.heap.size ≤ q → (fun q : Nat => s.heap.size ≤ q) q := fun _ h => h
  have hbA : ¬ (fun q : Nat => s.heap.size ≤ q) b := Nat.not_le.mpr hbl
  refine lv_aload_n hx hb d_W_law_448 rfl (lv_at hl 3 rfl) ?_
  refine lv_aload_n hx hb d_W_law_449 rfl (lv_at hl 4 rfl) ?_
  refine lv_iload hx hb d_W_law_450 (lv_at hl 0 rfl) ?_
  refine lv_iconst (v := 1) hx hb d_W_law_452 (by decide) ?_
  refine lv_iadd hx hb d_W_law_453 ?_
  refine va_sld hx hb hX hbl hbA hS (by unfold vp_in; decide) d_W_law_454 ?_
  refine lv_topi (fun a2 ea2 => ?_)
  rcases xq_node a2 7 (by decide) with hn | ⟨k, hk, rfl⟩
  · obtain ⟨hP, hD⟩ := lQ_0 hP hD
    have hPc : va_P D vwCl [zO 7 xa [.ref nw, .ref na, .int 0], zA t 4 na 7 (fun j => some (qq j 0)), zO 2 nw [.ref rw, .int 0, .int 0, .int 0, .int 0], zA t 3 rw 300 (fun _ => none), zJ t ou 1 (fun _ => 0)] H := xd_P hP (fun q h => List.mem_append_right _ h)
    have hDc : va_D (fun q : Nat => s.heap.size ≤ q) [zO 7 xa [.ref nw, .ref na, .int 0], zA t 4 na 7 (fun j => some (qq j 0)), zO 2 nw [.ref rw, .int 0, .int 0, .int 0, .int 0], zA t 3 rw 300 (fun _ => none), zJ t ou 1 (fun _ => 0)] := xd_R hD
    refine xe_sfxi (wr := lP t ma nb wy hd tk hli hst pq mk) (wc := [zO 7 xa [.ref nw, .ref na, .int 0], zA t 4 na 7 (fun j => some (qq j 0)), zO 2 nw [.ref rw, .int 0, .int 0, .int 0, .int 0], zA t 3 rw 300 (fun _ => none), zJ t ou 1 (fun _ => 0)]) (xh_S (As := [.ref xa, .int a2]) (rest := []) Z (H_rise l hfl D t xa nw na rw ou qq a2 hn H.size) h_W_rise k_720 k_721 rfl rfl ⟨Nat.le_of_ble_eq_true rfl, Nat.le_of_ble_eq_true rfl⟩ (xh_pre hK hPc hDc hG (fun q hq => hS.2.1 q hq (Nat.not_le.mpr hq))) rfl hl.1 rfl (Nat.le_of_ble_eq_true rfl) d_W_law_455 ⟨Nat.le_of_ble_eq_true rfl, Nat.le_of_ble_eq_true rfl⟩) hP hD hS hA (fun r_ u_ H locs hw hP hD hS => ?_)
    obtain rfl := hw.symm
    refine lv_istore (lv' := [(5, .int 1), (4, .int 1), (3, .ref ou), (2, .ref ma), (1, .ref xa), (0, .ref b)]) hx hb d_W_law_458 hl (by decide) rfl (fun ls hl => ?_)
    refine lv_aload_n hx hb d_W_law_460 rfl (lv_at hl 3 rfl) ?_
    refine lv_aload_n hx hb d_W_law_461 rfl (lv_at hl 5 rfl) ?_
    refine lv_iload hx hb d_W_law_462 (lv_at hl 1 rfl) ?_
    refine lv_iconst (v := 1) hx hb d_W_law_464 (by decide) ?_
    refine lv_iadd hx hb d_W_law_465 ?_
    refine va_sld hx hb hX hbl hbA hS (by unfold vp_in; decide) d_W_law_466 ?_
    refine lv_topi (fun z9 ez9 => ?_)
    obtain rfl : a2 = z9 := ea2.trans ez9.symm
    obtain ⟨hP, hD⟩ := lP_0 hP hD
    have hP : va_P D vwCl [zO 13 ma [.int 0, .int 0, .int 0, .int 0, .int 0, .int 0, .ref nb, .ref wy, .ref hd, .ref tk]] H := hP
    have hD : va_D (fun q : Nat => s.heap.size ≤ q) [zO 13 ma [.int 0, .int 0, .int 0, .int 0, .int 0, .int 0, .ref nb, .ref wy, .ref hd, .ref tk]] := hD
    refine xe_callv (wr := []) (xs_V (As := [.int a2]) (rest := []) Z (C_P_rise_1 l D t ma nb wy hd tk 0 a2 hn H.size) m_P_rise k_1220 k_1221 k_1222 rfl rfl ⟨Nat.le_of_ble_eq_true rfl, Nat.le_of_ble_eq_true rfl⟩ (va_recv hK.2 hP (ci := 13) (q0 := 0) rfl rfl) (xe_pre hK (hP.sub [0] rfl) (hD.sub [0] (by decide) rfl)) rfl hl.1 rfl (Nat.le_of_ble_eq_true rfl) d_W_law_467 ⟨Nat.le_of_ble_eq_true rfl, Nat.le_of_ble_eq_true rfl⟩) hP hD hS hA [0] [] rfl rfl (by decide) (by decide) (fun u_ H locs _ hP hD hS => ?_)
    have hP : va_P D vwCl [zO 13 ma [.int 1, .int 0, .int 0, .int 0, .int 0, .int 0, .ref nb, .ref wy, .ref hd, .ref tk]] H := hP
    have hD : va_D (fun q : Nat => s.heap.size ≤ q) [zO 13 ma [.int 1, .int 0, .int 0, .int 0, .int 0, .int 0, .ref nb, .ref wy, .ref hd, .ref tk]] := hD
    refine lv_aload_n hx hb d_W_law_470 rfl (lv_at hl 3 rfl) ?_
    refine xr_call (xs_V (As := []) (rest := []) Z (C_P_thrown l D t ma 1 (.int 0) (.int 0) (.int 0) (.int 0) (.int 0) (.ref nb) (.ref wy) (.ref hd) (.ref tk)) m_P_thrown k_1026 k_1027 k_1028 rfl rfl ⟨Nat.le_of_ble_eq_true rfl, Nat.le_of_ble_eq_true rfl⟩ (va_recv hK.2 hP (ci := 13) (q0 := 0) rfl rfl) (xr_pre hK (hP.sub [0] rfl)) rfl hl.1 rfl (Nat.le_of_ble_eq_true rfl) d_W_law_471 ⟨Nat.le_of_ble_eq_true rfl, Nat.le_of_ble_eq_true rfl⟩) ?_
    refine lv_iload hx hb d_W_law_474 (lv_at hl 0 rfl) ?_
    refine lv_icmp_eq (tgt := 481) hx hb d_W_law_476 (by decide) (fun _ => ?_) (fun c_1 => absurd (rfl) c_1)
    refine lv_goto (tgt := 977) hx hb d_W_law_481 (by decide) ?_
    refine W.widen (k := 100000) (n := 1000000) (Nat.le_of_ble_eq_true rfl) (Nat.le_of_ble_eq_true rfl) ?_
    exact back H locs ls hS (lv_sub hl [1, 5] rfl)
  · obtain ⟨hP, hD⟩ := lQ_k hk hP hD
    have hPc : va_P D vwCl [zO 7 xa [.ref nw, .ref na, .int 0], zA t 4 na 7 (fun j => some (qq j 0)), zO 2 nw [.ref rw, .int 0, .int 0, .int 0, .int 0], zA t 3 rw 300 (fun _ => none), zO 3 (qq k 0) [.int (nI k), .ref nw, .int 0, .int 0, .int 0, .ref ((qq k 1)), .ref ((qq k 7)), .ref ((qq k 11)), .int 1, .int 0, .int 0, .int (nI (8 + 3 * k)), .int ((-1)), .int 0, .ref ((qq k 15))], zO 5 (qq k 1) [.ref ((qq k 2)), .ref ((qq k 3)), .ref ((qq k 4)), .ref ((qq k 5)), .ref ((qq k 6)), .int 1], zJ t (qq k 2) 32 (fun _ => 1099511627776), zI t (qq k 3) 8 (fun _ => 0), zJ t (qq k 4) 8 (fun _ => 0), zI t (qq k 5) 4 (xm 1), zI t (qq k 6) 4 (xm mk), zO 4 (qq k 7) [.ref ((qq k 8)), .ref ((qq k 9)), .ref ((qq k 10))], zI t (qq k 8) 32 (fun _ => 0), zI t (qq k 9) 32 (fun _ => 0), zA t 2 (qq k 10) 32 (fun _ => none), zO 4 (qq k 11) [.ref ((qq k 12)), .ref ((qq k 13)), .ref ((qq k 14))], zI t (qq k 12) 64 (fun _ => 0), zI t (qq k 13) 64 (fun _ => 0), zA t 2 (qq k 14) 64 (fun _ => none), zO 0 (qq k 15) [.ref ((no k)), .int 0, .ref ((qq k 16)), .ref ((qq k 20)), .ref ((qq k 24)), .int 0, .int 0, .int 0], zO 4 (qq k 16) [.ref ((qq k 17)), .ref ((qq k 18)), .ref ((qq k 19))], zI t (qq k 17) 32 (fun _ => 0), zI t (qq k 18) 32 (fun _ => 0), zA t 2 (qq k 19) 32 (fun _ => none), zO 4 (qq k 20) [.ref ((qq k 21)), .ref ((qq k 22)), .ref ((qq k 23))], zI t (qq k 21) 4 (fun _ => 0), zI t (qq k 22) 4 (fun _ => 0), zA t 2 (qq k 23) 4 (fun _ => none), zA t 2 (qq k 24) 16 (fun _ => none), zJ t ou 1 (fun _ => 0)] H := xd_P hP (fun q h => List.mem_append_right _ h)
    have hDc : va_D (fun q : Nat => s.heap.size ≤ q) [zO 7 xa [.ref nw, .ref na, .int 0], zA t 4 na 7 (fun j => some (qq j 0)), zO 2 nw [.ref rw, .int 0, .int 0, .int 0, .int 0], zA t 3 rw 300 (fun _ => none), zO 3 (qq k 0) [.int (nI k), .ref nw, .int 0, .int 0, .int 0, .ref ((qq k 1)), .ref ((qq k 7)), .ref ((qq k 11)), .int 1, .int 0, .int 0, .int (nI (8 + 3 * k)), .int ((-1)), .int 0, .ref ((qq k 15))], zO 5 (qq k 1) [.ref ((qq k 2)), .ref ((qq k 3)), .ref ((qq k 4)), .ref ((qq k 5)), .ref ((qq k 6)), .int 1], zJ t (qq k 2) 32 (fun _ => 1099511627776), zI t (qq k 3) 8 (fun _ => 0), zJ t (qq k 4) 8 (fun _ => 0), zI t (qq k 5) 4 (xm 1), zI t (qq k 6) 4 (xm mk), zO 4 (qq k 7) [.ref ((qq k 8)), .ref ((qq k 9)), .ref ((qq k 10))], zI t (qq k 8) 32 (fun _ => 0), zI t (qq k 9) 32 (fun _ => 0), zA t 2 (qq k 10) 32 (fun _ => none), zO 4 (qq k 11) [.ref ((qq k 12)), .ref ((qq k 13)), .ref ((qq k 14))], zI t (qq k 12) 64 (fun _ => 0), zI t (qq k 13) 64 (fun _ => 0), zA t 2 (qq k 14) 64 (fun _ => none), zO 0 (qq k 15) [.ref ((no k)), .int 0, .ref ((qq k 16)), .ref ((qq k 20)), .ref ((qq k 24)), .int 0, .int 0, .int 0], zO 4 (qq k 16) [.ref ((qq k 17)), .ref ((qq k 18)), .ref ((qq k 19))], zI t (qq k 17) 32 (fun _ => 0), zI t (qq k 18) 32 (fun _ => 0), zA t 2 (qq k 19) 32 (fun _ => none), zO 4 (qq k 20) [.ref ((qq k 21)), .ref ((qq k 22)), .ref ((qq k 23))], zI t (qq k 21) 4 (fun _ => 0), zI t (qq k 22) 4 (fun _ => 0), zA t 2 (qq k 23) 4 (fun _ => none), zA t 2 (qq k 24) 16 (fun _ => none), zJ t ou 1 (fun _ => 0)] := xd_R hD
    refine xe_sfxi (wr := lP t ma nb wy hd tk hli hst pq mk) (wc := [zO 7 xa [.ref nw, .ref na, .int 0], zA t 4 na 7 (fun j => some (qq j 0)), zO 2 nw [.ref rw, .int 0, .int 0, .int 0, .int 0], zA t 3 rw 300 (fun _ => none), zO 3 (qq k 0) [.int (nI k), .ref nw, .int 0, .int 0, .int 0, .ref ((qq k 1)), .ref ((qq k 7)), .ref ((qq k 11)), .int 1, .int 0, .int 0, .int (nI (8 + 3 * k)), .int ((-1)), .int 0, .ref ((qq k 15))], zO 5 (qq k 1) [.ref ((qq k 2)), .ref ((qq k 3)), .ref ((qq k 4)), .ref ((qq k 5)), .ref ((qq k 6)), .int 1], zJ t (qq k 2) 32 (fun _ => 1099511627776), zI t (qq k 3) 8 (fun _ => 0), zJ t (qq k 4) 8 (fun _ => 0), zI t (qq k 5) 4 (xm 1), zI t (qq k 6) 4 (xm mk), zO 4 (qq k 7) [.ref ((qq k 8)), .ref ((qq k 9)), .ref ((qq k 10))], zI t (qq k 8) 32 (fun _ => 0), zI t (qq k 9) 32 (fun _ => 0), zA t 2 (qq k 10) 32 (fun _ => none), zO 4 (qq k 11) [.ref ((qq k 12)), .ref ((qq k 13)), .ref ((qq k 14))], zI t (qq k 12) 64 (fun _ => 0), zI t (qq k 13) 64 (fun _ => 0), zA t 2 (qq k 14) 64 (fun _ => none), zO 0 (qq k 15) [.ref ((no k)), .int 0, .ref ((qq k 16)), .ref ((qq k 20)), .ref ((qq k 24)), .int 0, .int 0, .int 0], zO 4 (qq k 16) [.ref ((qq k 17)), .ref ((qq k 18)), .ref ((qq k 19))], zI t (qq k 17) 32 (fun _ => 0), zI t (qq k 18) 32 (fun _ => 0), zA t 2 (qq k 19) 32 (fun _ => none), zO 4 (qq k 20) [.ref ((qq k 21)), .ref ((qq k 22)), .ref ((qq k 23))], zI t (qq k 21) 4 (fun _ => 0), zI t (qq k 22) 4 (fun _ => 0), zA t 2 (qq k 23) 4 (fun _ => none), zA t 2 (qq k 24) 16 (fun _ => none), zJ t ou 1 (fun _ => 0)]) (xh_S (As := [.ref xa, .int (nI k)]) (rest := []) Z (H2_rise l hfl D t xa nw na rw ou qq no mk k hk H.size) h_W_rise k_720 k_721 rfl rfl ⟨Nat.le_of_ble_eq_true rfl, Nat.le_of_ble_eq_true rfl⟩ (xh_pre hK hPc hDc hG (fun q hq => hS.2.1 q hq (Nat.not_le.mpr hq))) rfl hl.1 rfl (Nat.le_of_ble_eq_true rfl) d_W_law_455 ⟨Nat.le_of_ble_eq_true rfl, Nat.le_of_ble_eq_true rfl⟩) hP hD hS hA (fun r_ u_ H locs hw hP hD hS => ?_)
    obtain rfl := hw.symm
    refine lv_istore (lv' := [(5, .int 2), (4, .int 1), (3, .ref ou), (2, .ref ma), (1, .ref xa), (0, .ref b)]) hx hb d_W_law_458 hl (by decide) rfl (fun ls hl => ?_)
    refine lv_aload_n hx hb d_W_law_460 rfl (lv_at hl 3 rfl) ?_
    refine lv_aload_n hx hb d_W_law_461 rfl (lv_at hl 5 rfl) ?_
    refine lv_iload hx hb d_W_law_462 (lv_at hl 1 rfl) ?_
    refine lv_iconst (v := 1) hx hb d_W_law_464 (by decide) ?_
    refine lv_iadd hx hb d_W_law_465 ?_
    refine va_sld hx hb hX hbl hbA hS (by unfold vp_in; decide) d_W_law_466 ?_
    refine lv_topi (fun z9 ez9 => ?_)
    obtain rfl : nI k = z9 := ea2.trans ez9.symm
    obtain ⟨hP, hD⟩ := lP_k hk hP hD
    have hP : va_P D vwCl [zO 13 ma [.int 0, .int 0, .int 0, .int 0, .int 0, .int 0, .ref nb, .ref wy, .ref hd, .ref tk], zA t 7 nb 7 (fun j => some (pq j 0)), zO 9 (pq k 0) [.int (nI k), .int 1, .int 0, .int 0, .int 0, .int 0, .int (nI (8 + 3 * k)), .int ((-1)), .int 0, .int 0, .ref ((pq k 1)), .ref ((pq k 7)), .ref ((pq k 11)), .ref ((pq k 15)), .ref ((pq k 19)), .ref ((pq k 23)), .int 0], zO 11 (pq k 1) [.int 0, .ref ((pq k 2)), .ref ((pq k 3)), .ref ((pq k 4)), .ref ((pq k 5)), .ref ((pq k 6)), .int 1], zJ t (pq k 2) 32 (fun _ => 1099511627776), zJ t (pq k 3) 8 (fun _ => 0), zI t (pq k 4) 8 (fun _ => 0), zI t (pq k 5) 4 (xm 1), zI t (pq k 6) 4 (xm mk), zO 10 (pq k 7) [.ref ((pq k 8)), .ref ((pq k 9)), .ref ((pq k 10)), .int 0], zI t (pq k 8) 8 (fun _ => 0), zI t (pq k 9) 8 (fun _ => 0), zA t 5 (pq k 10) 8 (fun _ => none), zO 10 (pq k 11) [.ref ((pq k 12)), .ref ((pq k 13)), .ref ((pq k 14)), .int 0], zI t (pq k 12) 8 (fun _ => 0), zI t (pq k 13) 8 (fun _ => 0), zA t 5 (pq k 14) 8 (fun _ => none), zO 10 (pq k 15) [.ref ((pq k 16)), .ref ((pq k 17)), .ref ((pq k 18)), .int 0], zI t (pq k 16) 8 (fun _ => 0), zI t (pq k 17) 8 (fun _ => 0), zA t 5 (pq k 18) 8 (fun _ => none), zO 10 (pq k 19) [.ref ((pq k 20)), .ref ((pq k 21)), .ref ((pq k 22)), .int 0], zI t (pq k 20) 8 (fun _ => 0), zI t (pq k 21) 8 (fun _ => 0), zA t 5 (pq k 22) 8 (fun _ => none), zA t 5 (pq k 23) 16 (fun _ => none)] H := hP
    have hD : va_D (fun q : Nat => s.heap.size ≤ q) [zO 13 ma [.int 0, .int 0, .int 0, .int 0, .int 0, .int 0, .ref nb, .ref wy, .ref hd, .ref tk], zA t 7 nb 7 (fun j => some (pq j 0)), zO 9 (pq k 0) [.int (nI k), .int 1, .int 0, .int 0, .int 0, .int 0, .int (nI (8 + 3 * k)), .int ((-1)), .int 0, .int 0, .ref ((pq k 1)), .ref ((pq k 7)), .ref ((pq k 11)), .ref ((pq k 15)), .ref ((pq k 19)), .ref ((pq k 23)), .int 0], zO 11 (pq k 1) [.int 0, .ref ((pq k 2)), .ref ((pq k 3)), .ref ((pq k 4)), .ref ((pq k 5)), .ref ((pq k 6)), .int 1], zJ t (pq k 2) 32 (fun _ => 1099511627776), zJ t (pq k 3) 8 (fun _ => 0), zI t (pq k 4) 8 (fun _ => 0), zI t (pq k 5) 4 (xm 1), zI t (pq k 6) 4 (xm mk), zO 10 (pq k 7) [.ref ((pq k 8)), .ref ((pq k 9)), .ref ((pq k 10)), .int 0], zI t (pq k 8) 8 (fun _ => 0), zI t (pq k 9) 8 (fun _ => 0), zA t 5 (pq k 10) 8 (fun _ => none), zO 10 (pq k 11) [.ref ((pq k 12)), .ref ((pq k 13)), .ref ((pq k 14)), .int 0], zI t (pq k 12) 8 (fun _ => 0), zI t (pq k 13) 8 (fun _ => 0), zA t 5 (pq k 14) 8 (fun _ => none), zO 10 (pq k 15) [.ref ((pq k 16)), .ref ((pq k 17)), .ref ((pq k 18)), .int 0], zI t (pq k 16) 8 (fun _ => 0), zI t (pq k 17) 8 (fun _ => 0), zA t 5 (pq k 18) 8 (fun _ => none), zO 10 (pq k 19) [.ref ((pq k 20)), .ref ((pq k 21)), .ref ((pq k 22)), .int 0], zI t (pq k 20) 8 (fun _ => 0), zI t (pq k 21) 8 (fun _ => 0), zA t 5 (pq k 22) 8 (fun _ => none), zA t 5 (pq k 23) 16 (fun _ => none)] := hD
    refine xe_callv (wr := []) (xs_V (As := [.int (nI k)]) (rest := []) Z (C_P_rise l D t ma nb wy hd tk 0 pq mk k hk H.size) m_P_rise k_1220 k_1221 k_1222 rfl rfl ⟨Nat.le_of_ble_eq_true rfl, Nat.le_of_ble_eq_true rfl⟩ (va_recv hK.2 hP (ci := 13) (q0 := 0) rfl rfl) (xe_pre hK (hP.sub [0, 1, 2, 3, 4, 5, 6, 7, 8, 9, 10, 11, 12, 13, 14, 15, 16, 17, 18, 19, 20, 21, 22, 23, 24, 25] rfl) (hD.sub [0, 1, 2, 3, 4, 5, 6, 7, 8, 9, 10, 11, 12, 13, 14, 15, 16, 17, 18, 19, 20, 21, 22, 23, 24, 25] (by decide) rfl)) rfl hl.1 rfl (Nat.le_of_ble_eq_true rfl) d_W_law_467 ⟨Nat.le_of_ble_eq_true rfl, Nat.le_of_ble_eq_true rfl⟩) hP hD hS hA [0, 1, 2, 3, 4, 5, 6, 7, 8, 9, 10, 11, 12, 13, 14, 15, 16, 17, 18, 19, 20, 21, 22, 23, 24, 25] [] rfl rfl (by decide) (by decide) (fun u_ H locs _ hP hD hS => ?_)
    have hP : va_P D vwCl [zO 13 ma [.int 2, .int 0, .int 0, .int 0, .int 0, .int 0, .ref nb, .ref wy, .ref hd, .ref tk]] H := hP
    have hD : va_D (fun q : Nat => s.heap.size ≤ q) [zO 13 ma [.int 2, .int 0, .int 0, .int 0, .int 0, .int 0, .ref nb, .ref wy, .ref hd, .ref tk]] := hD
    refine lv_aload_n hx hb d_W_law_470 rfl (lv_at hl 3 rfl) ?_
    refine xr_call (xs_V (As := []) (rest := []) Z (C_P_thrown l D t ma 2 (.int 0) (.int 0) (.int 0) (.int 0) (.int 0) (.ref nb) (.ref wy) (.ref hd) (.ref tk)) m_P_thrown k_1026 k_1027 k_1028 rfl rfl ⟨Nat.le_of_ble_eq_true rfl, Nat.le_of_ble_eq_true rfl⟩ (va_recv hK.2 hP (ci := 13) (q0 := 0) rfl rfl) (xr_pre hK (hP.sub [0] rfl)) rfl hl.1 rfl (Nat.le_of_ble_eq_true rfl) d_W_law_471 ⟨Nat.le_of_ble_eq_true rfl, Nat.le_of_ble_eq_true rfl⟩) ?_
    refine lv_iload hx hb d_W_law_474 (lv_at hl 0 rfl) ?_
    refine lv_icmp_eq (tgt := 481) hx hb d_W_law_476 (by decide) (fun _ => ?_) (fun c_2 => absurd (rfl) c_2)
    refine lv_goto (tgt := 977) hx hb d_W_law_481 (by decide) ?_
    refine W.widen (k := 100000) (n := 1000000) (Nat.le_of_ble_eq_true rfl) (Nat.le_of_ble_eq_true rfl) ?_
    exact back H locs ls hS (lv_sub hl [1, 5] rfl)
theorem d_W_law_484 : decode c_W_law 484 = .ok (.aload_n 1, 1) := by decide +kernel
theorem d_W_law_485 : decode c_W_law 485 = .ok (.aload_n 0, 1) := by decide +kernel
theorem d_W_law_486 : decode c_W_law 486 = .ok (.iload 4, 2) := by decide +kernel
theorem d_W_law_488 : decode c_W_law 488 = .ok (.iconst 1, 1) := by decide +kernel
theorem d_W_law_489 : decode c_W_law 489 = .ok (.iadd, 1) := by decide +kernel
theorem d_W_law_490 : decode c_W_law 490 = .ok (.iaload, 1) := by decide +kernel
theorem d_W_law_491 : decode c_W_law 491 = .ok (.aload_n 3, 1) := by decide +kernel
theorem d_W_law_492 : decode c_W_law 492 = .ok (.invokestatic 100, 3) := by decide +kernel
theorem d_W_law_495 : decode c_W_law 495 = .ok (.istore 5, 2) := by decide +kernel
theorem d_W_law_497 : decode c_W_law 497 = .ok (.aload_n 2, 1) := by decide +kernel
theorem d_W_law_498 : decode c_W_law 498 = .ok (.aload_n 0, 1) := by decide +kernel
theorem d_W_law_499 : decode c_W_law 499 = .ok (.iload 4, 2) := by decide +kernel
theorem d_W_law_501 : decode c_W_law 501 = .ok (.iconst 1, 1) := by decide +kernel
theorem d_W_law_502 : decode c_W_law 502 = .ok (.iadd, 1) := by decide +kernel
theorem d_W_law_503 : decode c_W_law 503 = .ok (.iaload, 1) := by decide +kernel
theorem d_W_law_504 : decode c_W_law 504 = .ok (.invokevirtual 102, 3) := by decide +kernel
theorem d_W_law_507 : decode c_W_law 507 = .ok (.istore 6, 2) := by decide +kernel
theorem d_W_law_509 : decode c_W_law 509 = .ok (.aload_n 2, 1) := by decide +kernel
theorem d_W_law_510 : decode c_W_law 510 = .ok (.invokevirtual 76, 3) := by decide +kernel
theorem d_W_law_513 : decode c_W_law 513 = .ok (.iload 5, 2) := by decide +kernel
theorem d_W_law_515 : decode c_W_law 515 = .ok (.if_icmp .eq 5, 3) := by decide +kernel
theorem d_W_law_520 : decode c_W_law 520 = .ok (.iload 5, 2) := by decide +kernel
theorem d_W_law_522 : decode c_W_law 522 = .ok (.ifCond .ne 15, 3) := by decide +kernel
theorem d_W_law_525 : decode c_W_law 525 = .ok (.aload_n 3, 1) := by decide +kernel
theorem d_W_law_526 : decode c_W_law 526 = .ok (.iconst 0, 1) := by decide +kernel
theorem d_W_law_527 : decode c_W_law 527 = .ok (.laload, 1) := by decide +kernel
theorem d_W_law_528 : decode c_W_law 528 = .ok (.iload 6, 2) := by decide +kernel
theorem d_W_law_530 : decode c_W_law 530 = .ok (.i2l, 1) := by decide +kernel
theorem d_W_law_531 : decode c_W_law 531 = .ok (.lcmp, 1) := by decide +kernel
theorem d_W_law_532 : decode c_W_law 532 = .ok (.ifCond .eq 5, 3) := by decide +kernel
theorem d_W_law_537 : decode c_W_law 537 = .ok (.goto 440, 3) := by decide +kernel
set_option maxHeartbeats 4000000 in
set_option maxRecDepth 100000 in
/-- key -/
theorem LW_key {p : Program} {e : Env} {s : State} {m : MethodId} {below : List Frame} {meth : Method} {c : Code} (l : Launch) (hfl : l.flags = pinnedFlags ++ [noTraceFlag]) {b : Nat} {xs : Nat → Int32} (D : va_G) (t : Nat → ClassId) (Z : xF p m c code 8 s "QuorumStoreLaw" D vwCl (xTY t)) (hG : xg s) (hX : va_X b 8 xs s s.heap) (hbl : b < s.heap.size) (xa nw na rw ou ma nb wy hd tk hli hst : Nat) (qq pq : Nat → Nat → Nat) (no : Nat → Nat) (mk : Int32) {H : Heap} {locs : List Loc} {ls : Array Slot} (hP : va_P D vwCl (lP t ma nb wy hd tk hli hst pq mk ++ (lQ t xa nw na rw qq no mk ++ [zJ t ou 1 (fun _ => 0)])) H) (hD : va_D (fun q : Nat => s.heap.size ≤ q) (lP t ma nb wy hd tk hli hst pq mk ++ (lQ t xa nw na rw qq no mk ++ [zJ t ou 1 (fun _ => 0)]))) (hS : va_S (fun q : Nat => s.heap.size ≤ q) s.heap H locs) (hl : lv_has ls 8 [(4, .int 1), (3, .ref ou), (2, .ref ma), (1, .ref xa), (0, .ref b)])
    (back : ∀ (H : Heap) (locs : List Loc) (ls : Array Slot), va_S (fun q : Nat => s.heap.size ≤ q) s.heap H locs → lv_has ls 8 [(4, .int 1), (0, .ref b)] → W p l e room_1 s m #[Value.ref b] below meth c H locs 100000 1000000 (lw_Z below #[Value.ref b] s) (F0 m 977 ls [])) : W p l e room_1 s m #[Value.ref b] below meth c H locs 380 5892 (lw_Z below #[Value.ref b] s) (F0 m 484 ls []) := by
  obtain ⟨hx, hb, hml, hown, hK⟩ := id Z
  have hts := hK.1.at (args := #[Value.ref b])
  have hA : ∀ q : Nat, s.heap.size ≤ q → (fun q : Nat => s.heap.size ≤ q) q := fun _ h => h
  have hbA : ¬ (fun q : Nat => s.heap.size ≤ q) b := Nat.not_le.mpr hbl
  refine lv_aload_n hx hb d_W_law_484 rfl (lv_at hl 3 rfl) ?_
  refine lv_aload_n hx hb d_W_law_485 rfl (lv_at hl 4 rfl) ?_
  refine lv_iload hx hb d_W_law_486 (lv_at hl 0 rfl) ?_
  refine lv_iconst (v := 1) hx hb d_W_law_488 (by decide) ?_
  refine lv_iadd hx hb d_W_law_489 ?_
  refine va_sld hx hb hX hbl hbA hS (by unfold vp_in; decide) d_W_law_490 ?_
  refine lv_topi (fun a2 ea2 => ?_)
  refine lv_aload_n hx hb d_W_law_491 rfl (lv_at hl 1 rfl) ?_
  rcases xq_node a2 32 (by decide) with hn | ⟨j, hj, rfl⟩
  · obtain ⟨hP, hD⟩ := lQ_0 hP hD
    have hPc : va_P D vwCl [zO 7 xa [.ref nw, .ref na, .int 0], zA t 4 na 7 (fun j => some (qq j 0)), zO 2 nw [.ref rw, .int 0, .int 0, .int 0, .int 0], zA t 3 rw 300 (fun _ => none), zJ t ou 1 (fun _ => 0)] H := xd_P hP (fun q h => List.mem_append_right _ h)
    have hDc : va_D (fun q : Nat => s.heap.size ≤ q) [zO 7 xa [.ref nw, .ref na, .int 0], zA t 4 na 7 (fun j => some (qq j 0)), zO 2 nw [.ref rw, .int 0, .int 0, .int 0, .int 0], zA t 3 rw 300 (fun _ => none), zJ t ou 1 (fun _ => 0)] := xd_R hD
    refine xe_sfxi (wr := lP t ma nb wy hd tk hli hst pq mk) (wc := [zO 7 xa [.ref nw, .ref na, .int 0], zA t 4 na 7 (fun j => some (qq j 0)), zO 2 nw [.ref rw, .int 0, .int 0, .int 0, .int 0], zA t 3 rw 300 (fun _ => none), zJ t ou 1 (fun _ => 0)]) (xh_S (As := [.ref xa, .int a2, .ref ou]) (rest := []) Z (H_key l hfl D t xa nw na rw ou qq a2 hn H.size) h_W_key k_732 k_733 rfl rfl ⟨Nat.le_of_ble_eq_true rfl, Nat.le_of_ble_eq_true rfl⟩ (xh_pre hK hPc hDc hG (fun q hq => hS.2.1 q hq (Nat.not_le.mpr hq))) rfl hl.1 rfl (Nat.le_of_ble_eq_true rfl) d_W_law_492 ⟨Nat.le_of_ble_eq_true rfl, Nat.le_of_ble_eq_true rfl⟩) hP hD hS hA (fun r_ u_ H locs hw hP hD hS => ?_)
    obtain rfl := hw.symm
    refine lv_istore (lv' := [(5, .int 1), (4, .int 1), (3, .ref ou), (2, .ref ma), (1, .ref xa), (0, .ref b)]) hx hb d_W_law_495 hl (by decide) rfl (fun ls hl => ?_)
    refine lv_aload_n hx hb d_W_law_497 rfl (lv_at hl 3 rfl) ?_
    refine lv_aload_n hx hb d_W_law_498 rfl (lv_at hl 5 rfl) ?_
    refine lv_iload hx hb d_W_law_499 (lv_at hl 1 rfl) ?_
    refine lv_iconst (v := 1) hx hb d_W_law_501 (by decide) ?_
    refine lv_iadd hx hb d_W_law_502 ?_
    refine va_sld hx hb hX hbl hbA hS (by unfold vp_in; decide) d_W_law_503 ?_
    refine lv_topi (fun z9 ez9 => ?_)
    obtain rfl : a2 = z9 := ea2.trans ez9.symm
    obtain ⟨hP, hD⟩ := lP_0 hP hD
    have hP : va_P D vwCl [zO 13 ma [.int 0, .int 0, .int 0, .int 0, .int 0, .int 0, .ref nb, .ref wy, .ref hd, .ref tk]] H := hP
    have hD : va_D (fun q : Nat => s.heap.size ≤ q) [zO 13 ma [.int 0, .int 0, .int 0, .int 0, .int 0, .int 0, .ref nb, .ref wy, .ref hd, .ref tk]] := hD
    refine xe_calli (wr := []) (xs_V (As := [.int a2]) (rest := []) Z (C_P_key_1 l D t ma nb wy hd tk 0 a2 hn H.size) m_P_key k_1224 k_1225 k_1226 rfl rfl ⟨Nat.le_of_ble_eq_true rfl, Nat.le_of_ble_eq_true rfl⟩ (va_recv hK.2 hP (ci := 13) (q0 := 0) rfl rfl) (xe_pre hK (hP.sub [0] rfl) (hD.sub [0] (by decide) rfl)) rfl hl.1 rfl (Nat.le_of_ble_eq_true rfl) d_W_law_504 ⟨Nat.le_of_ble_eq_true rfl, Nat.le_of_ble_eq_true rfl⟩) hP hD hS hA [0] [] rfl rfl (by decide) (by decide) (fun r_1 u_ H locs hw hP hD hS => ?_)
    have hP : va_P D vwCl [zO 13 ma [.int 1, .int 0, .int 0, .int 0, .int 0, .int 0, .ref nb, .ref wy, .ref hd, .ref tk]] H := hP
    have hD : va_D (fun q : Nat => s.heap.size ≤ q) [zO 13 ma [.int 1, .int 0, .int 0, .int 0, .int 0, .int 0, .ref nb, .ref wy, .ref hd, .ref tk]] := hD
    obtain rfl := hw.symm
    refine lv_istore (lv' := [(6, .int 0), (5, .int 1), (4, .int 1), (3, .ref ou), (2, .ref ma), (1, .ref xa), (0, .ref b)]) hx hb d_W_law_507 hl (by decide) rfl (fun ls hl => ?_)
    refine lv_aload_n hx hb d_W_law_509 rfl (lv_at hl 4 rfl) ?_
    refine xr_call (xs_V (As := []) (rest := []) Z (C_P_thrown l D t ma 1 (.int 0) (.int 0) (.int 0) (.int 0) (.int 0) (.ref nb) (.ref wy) (.ref hd) (.ref tk)) m_P_thrown k_1026 k_1027 k_1028 rfl rfl ⟨Nat.le_of_ble_eq_true rfl, Nat.le_of_ble_eq_true rfl⟩ (va_recv hK.2 hP (ci := 13) (q0 := 0) rfl rfl) (xr_pre hK (hP.sub [0] rfl)) rfl hl.1 rfl (Nat.le_of_ble_eq_true rfl) d_W_law_510 ⟨Nat.le_of_ble_eq_true rfl, Nat.le_of_ble_eq_true rfl⟩) ?_
    refine lv_iload hx hb d_W_law_513 (lv_at hl 1 rfl) ?_
    refine lv_icmp_eq (tgt := 520) hx hb d_W_law_515 (by decide) (fun _ => ?_) (fun c_2 => absurd (rfl) c_2)
    refine lv_iload hx hb d_W_law_520 (lv_at hl 1 rfl) ?_
    refine lv_if_ne (tgt := 537) hx hb d_W_law_522 (by decide) (fun _ => ?_) (fun c_3 => absurd c_3 (by decide))
    refine lv_goto (tgt := 977) hx hb d_W_law_537 (by decide) ?_
    refine W.widen (k := 100000) (n := 1000000) (Nat.le_of_ble_eq_true rfl) (Nat.le_of_ble_eq_true rfl) ?_
    exact back H locs ls hS (lv_sub hl [2, 6] rfl)
  · obtain ⟨hP, hD⟩ := lQ_0 hP hD
    have hPc : va_P D vwCl [zO 7 xa [.ref nw, .ref na, .int 0], zA t 4 na 7 (fun j => some (qq j 0)), zO 2 nw [.ref rw, .int 0, .int 0, .int 0, .int 0], zA t 3 rw 300 (fun _ => none), zJ t ou 1 (fun _ => 0)] H := xd_P hP (fun q h => List.mem_append_right _ h)
    have hDc : va_D (fun q : Nat => s.heap.size ≤ q) [zO 7 xa [.ref nw, .ref na, .int 0], zA t 4 na 7 (fun j => some (qq j 0)), zO 2 nw [.ref rw, .int 0, .int 0, .int 0, .int 0], zA t 3 rw 300 (fun _ => none), zJ t ou 1 (fun _ => 0)] := xd_R hD
    refine xe_sfxi (wr := lP t ma nb wy hd tk hli hst pq mk) (wc := [zO 7 xa [.ref nw, .ref na, .int 0], zA t 4 na 7 (fun j => some (qq j 0)), zO 2 nw [.ref rw, .int 0, .int 0, .int 0, .int 0], zA t 3 rw 300 (fun _ => none), zJ t ou 1 (fun _ => 0)]) (xh_S (As := [.ref xa, .int (nI j), .ref ou]) (rest := []) Z (R_key l hfl D t xa nw na rw ou qq j hj H.size) h_W_key k_732 k_733 rfl rfl ⟨Nat.le_of_ble_eq_true rfl, Nat.le_of_ble_eq_true rfl⟩ (xh_pre hK hPc hDc hG (fun q hq => hS.2.1 q hq (Nat.not_le.mpr hq))) rfl hl.1 rfl (Nat.le_of_ble_eq_true rfl) d_W_law_492 ⟨Nat.le_of_ble_eq_true rfl, Nat.le_of_ble_eq_true rfl⟩) hP hD hS hA (fun r_ u_ H locs hw hP hD hS => ?_)
    obtain rfl := hw.symm
    refine lv_istore (lv' := [(5, .int 0), (4, .int 1), (3, .ref ou), (2, .ref ma), (1, .ref xa), (0, .ref b)]) hx hb d_W_law_495 hl (by decide) rfl (fun ls hl => ?_)
    refine lv_aload_n hx hb d_W_law_497 rfl (lv_at hl 3 rfl) ?_
    refine lv_aload_n hx hb d_W_law_498 rfl (lv_at hl 5 rfl) ?_
    refine lv_iload hx hb d_W_law_499 (lv_at hl 1 rfl) ?_
    refine lv_iconst (v := 1) hx hb d_W_law_501 (by decide) ?_
    refine lv_iadd hx hb d_W_law_502 ?_
    refine va_sld hx hb hX hbl hbA hS (by unfold vp_in; decide) d_W_law_503 ?_
    refine lv_topi (fun z9 ez9 => ?_)
    obtain rfl : nI j = z9 := ea2.trans ez9.symm
    obtain ⟨hP, hD⟩ := lP_0 hP hD
    have hP : va_P D vwCl [zJ t ou 1 (xo ((0 : Int32).toInt64)), zO 13 ma [.int 0, .int 0, .int 0, .int 0, .int 0, .int 0, .ref nb, .ref wy, .ref hd, .ref tk]] H := hP
    have hD : va_D (fun q : Nat => s.heap.size ≤ q) [zJ t ou 1 (xo ((0 : Int32).toInt64)), zO 13 ma [.int 0, .int 0, .int 0, .int 0, .int 0, .int 0, .ref nb, .ref wy, .ref hd, .ref tk]] := hD
    refine xe_calli (wr := [zJ t ou 1 (xo ((0 : Int32).toInt64))]) (xs_V (As := [.int (nI j)]) (rest := []) Z (C_P_key l D t ma nb wy hd tk 0 j hj H.size) m_P_key k_1224 k_1225 k_1226 rfl rfl ⟨Nat.le_of_ble_eq_true rfl, Nat.le_of_ble_eq_true rfl⟩ (va_recv hK.2 hP (ci := 13) (q0 := 1) rfl rfl) (xe_pre hK (hP.sub [1] rfl) (hD.sub [1] (by decide) rfl)) rfl hl.1 rfl (Nat.le_of_ble_eq_true rfl) d_W_law_504 ⟨Nat.le_of_ble_eq_true rfl, Nat.le_of_ble_eq_true rfl⟩) hP hD hS hA [1] [0] rfl rfl (by decide) (by decide) (fun r_4 u_ H locs hw hP hD hS => ?_)
    have hP : va_P D vwCl [zJ t ou 1 (xo ((0 : Int32).toInt64)), zO 13 ma [.int 0, .int (nI j), .int 0, .int 0, .int 0, .int 0, .ref nb, .ref wy, .ref hd, .ref tk]] H := hP
    have hD : va_D (fun q : Nat => s.heap.size ≤ q) [zJ t ou 1 (xo ((0 : Int32).toInt64)), zO 13 ma [.int 0, .int (nI j), .int 0, .int 0, .int 0, .int 0, .ref nb, .ref wy, .ref hd, .ref tk]] := hD
    obtain rfl := hw.symm
    refine lv_istore (lv' := [(6, .int 0), (5, .int 0), (4, .int 1), (3, .ref ou), (2, .ref ma), (1, .ref xa), (0, .ref b)]) hx hb d_W_law_507 hl (by decide) rfl (fun ls hl => ?_)
    refine lv_aload_n hx hb d_W_law_509 rfl (lv_at hl 4 rfl) ?_
    refine xr_call (xs_V (As := []) (rest := []) Z (C_P_thrown l D t ma 0 (.int (nI j)) (.int 0) (.int 0) (.int 0) (.int 0) (.ref nb) (.ref wy) (.ref hd) (.ref tk)) m_P_thrown k_1026 k_1027 k_1028 rfl rfl ⟨Nat.le_of_ble_eq_true rfl, Nat.le_of_ble_eq_true rfl⟩ (va_recv hK.2 hP (ci := 13) (q0 := 1) rfl rfl) (xr_pre hK (hP.sub [1] rfl)) rfl hl.1 rfl (Nat.le_of_ble_eq_true rfl) d_W_law_510 ⟨Nat.le_of_ble_eq_true rfl, Nat.le_of_ble_eq_true rfl⟩) ?_
    refine lv_iload hx hb d_W_law_513 (lv_at hl 1 rfl) ?_
    refine lv_icmp_eq (tgt := 520) hx hb d_W_law_515 (by decide) (fun _ => ?_) (fun c_5 => absurd (rfl) c_5)
    refine lv_iload hx hb d_W_law_520 (lv_at hl 1 rfl) ?_
    refine lv_if_ne (tgt := 537) hx hb d_W_law_522 (by decide) (fun c_6 => absurd c_6 (by decide)) (fun _ => ?_)
    refine lv_aload_n hx hb d_W_law_525 rfl (lv_at hl 3 rfl) ?_
    refine lv_iconst (v := 0) hx hb d_W_law_526 (by decide) ?_
    refine va_lald hx hb hK.2 hP 0 1 rfl rfl (by unfold vp_in; decide) d_W_law_527 ?_
    refine lv_iload hx hb d_W_law_528 (lv_at hl 0 rfl) ?_
    refine lv_i2l (v := (0 : Int32).toInt64) hx hb d_W_law_530 rfl ?_
    refine xl_lcmpE (x := (0 : Int32).toInt64) hx hb d_W_law_531 ?_
    refine lv_if_eq (tgt := 537) hx hb d_W_law_532 (by decide) (fun _ => ?_) (fun c_7 => absurd (rfl) c_7)
    refine lv_goto (tgt := 977) hx hb d_W_law_537 (by decide) ?_
    refine W.widen (k := 100000) (n := 1000000) (Nat.le_of_ble_eq_true rfl) (Nat.le_of_ble_eq_true rfl) ?_
    exact back H locs ls hS (lv_sub hl [2, 6] rfl)
theorem d_W_law_540 : decode c_W_law 540 = .ok (.aload_n 1, 1) := by decide +kernel
theorem d_W_law_541 : decode c_W_law 541 = .ok (.aload_n 0, 1) := by decide +kernel
theorem d_W_law_542 : decode c_W_law 542 = .ok (.iload 4, 2) := by decide +kernel
theorem d_W_law_544 : decode c_W_law 544 = .ok (.iconst 1, 1) := by decide +kernel
theorem d_W_law_545 : decode c_W_law 545 = .ok (.iadd, 1) := by decide +kernel
theorem d_W_law_546 : decode c_W_law 546 = .ok (.iaload, 1) := by decide +kernel
theorem d_W_law_547 : decode c_W_law 547 = .ok (.aload_n 0, 1) := by decide +kernel
theorem d_W_law_548 : decode c_W_law 548 = .ok (.iload 4, 2) := by decide +kernel
theorem d_W_law_550 : decode c_W_law 550 = .ok (.iconst 2, 1) := by decide +kernel
theorem d_W_law_551 : decode c_W_law 551 = .ok (.iadd, 1) := by decide +kernel
theorem d_W_law_552 : decode c_W_law 552 = .ok (.iaload, 1) := by decide +kernel
theorem d_W_law_553 : decode c_W_law 553 = .ok (.aload_n 0, 1) := by decide +kernel
theorem d_W_law_554 : decode c_W_law 554 = .ok (.iload 4, 2) := by decide +kernel
theorem d_W_law_556 : decode c_W_law 556 = .ok (.iconst 3, 1) := by decide +kernel
theorem d_W_law_557 : decode c_W_law 557 = .ok (.iadd, 1) := by decide +kernel
theorem d_W_law_558 : decode c_W_law 558 = .ok (.iaload, 1) := by decide +kernel
theorem d_W_law_559 : decode c_W_law 559 = .ok (.aload_n 0, 1) := by decide +kernel
theorem d_W_law_560 : decode c_W_law 560 = .ok (.iload 4, 2) := by decide +kernel
theorem d_W_law_562 : decode c_W_law 562 = .ok (.iconst 4, 1) := by decide +kernel
theorem d_W_law_563 : decode c_W_law 563 = .ok (.iadd, 1) := by decide +kernel
theorem d_W_law_564 : decode c_W_law 564 = .ok (.iaload, 1) := by decide +kernel
theorem d_W_law_565 : decode c_W_law 565 = .ok (.aload_n 0, 1) := by decide +kernel
theorem d_W_law_566 : decode c_W_law 566 = .ok (.iload 4, 2) := by decide +kernel
theorem d_W_law_568 : decode c_W_law 568 = .ok (.iconst 5, 1) := by decide +kernel
theorem d_W_law_569 : decode c_W_law 569 = .ok (.iadd, 1) := by decide +kernel
theorem d_W_law_570 : decode c_W_law 570 = .ok (.iaload, 1) := by decide +kernel
theorem d_W_law_571 : decode c_W_law 571 = .ok (.aload_n 0, 1) := by decide +kernel
theorem d_W_law_572 : decode c_W_law 572 = .ok (.iload 4, 2) := by decide +kernel
theorem d_W_law_574 : decode c_W_law 574 = .ok (.bipush 6, 2) := by decide +kernel
theorem d_W_law_576 : decode c_W_law 576 = .ok (.iadd, 1) := by decide +kernel
theorem d_W_law_577 : decode c_W_law 577 = .ok (.iaload, 1) := by decide +kernel
theorem d_W_law_578 : decode c_W_law 578 = .ok (.aload_n 3, 1) := by decide +kernel
theorem d_W_law_579 : decode c_W_law 579 = .ok (.invokestatic 103, 3) := by decide +kernel
theorem d_W_law_582 : decode c_W_law 582 = .ok (.istore 5, 2) := by decide +kernel
theorem d_W_law_584 : decode c_W_law 584 = .ok (.aload_n 2, 1) := by decide +kernel
theorem d_W_law_585 : decode c_W_law 585 = .ok (.aload_n 0, 1) := by decide +kernel
theorem d_W_law_586 : decode c_W_law 586 = .ok (.iload 4, 2) := by decide +kernel
theorem d_W_law_588 : decode c_W_law 588 = .ok (.iconst 1, 1) := by decide +kernel
theorem d_W_law_589 : decode c_W_law 589 = .ok (.iadd, 1) := by decide +kernel
theorem d_W_law_590 : decode c_W_law 590 = .ok (.iaload, 1) := by decide +kernel
theorem d_W_law_591 : decode c_W_law 591 = .ok (.aload_n 0, 1) := by decide +kernel
theorem d_W_law_592 : decode c_W_law 592 = .ok (.iload 4, 2) := by decide +kernel
theorem d_W_law_594 : decode c_W_law 594 = .ok (.iconst 2, 1) := by decide +kernel
theorem d_W_law_595 : decode c_W_law 595 = .ok (.iadd, 1) := by decide +kernel
theorem d_W_law_596 : decode c_W_law 596 = .ok (.iaload, 1) := by decide +kernel
theorem d_W_law_597 : decode c_W_law 597 = .ok (.aload_n 0, 1) := by decide +kernel
theorem d_W_law_598 : decode c_W_law 598 = .ok (.iload 4, 2) := by decide +kernel
theorem d_W_law_600 : decode c_W_law 600 = .ok (.iconst 3, 1) := by decide +kernel
theorem d_W_law_601 : decode c_W_law 601 = .ok (.iadd, 1) := by decide +kernel
theorem d_W_law_602 : decode c_W_law 602 = .ok (.iaload, 1) := by decide +kernel
theorem d_W_law_603 : decode c_W_law 603 = .ok (.aload_n 0, 1) := by decide +kernel
theorem d_W_law_604 : decode c_W_law 604 = .ok (.iload 4, 2) := by decide +kernel
theorem d_W_law_606 : decode c_W_law 606 = .ok (.iconst 4, 1) := by decide +kernel
theorem d_W_law_607 : decode c_W_law 607 = .ok (.iadd, 1) := by decide +kernel
theorem d_W_law_608 : decode c_W_law 608 = .ok (.iaload, 1) := by decide +kernel
theorem d_W_law_609 : decode c_W_law 609 = .ok (.aload_n 0, 1) := by decide +kernel
theorem d_W_law_610 : decode c_W_law 610 = .ok (.iload 4, 2) := by decide +kernel
theorem d_W_law_612 : decode c_W_law 612 = .ok (.iconst 5, 1) := by decide +kernel
theorem d_W_law_613 : decode c_W_law 613 = .ok (.iadd, 1) := by decide +kernel
theorem d_W_law_614 : decode c_W_law 614 = .ok (.iaload, 1) := by decide +kernel
theorem d_W_law_615 : decode c_W_law 615 = .ok (.aload_n 0, 1) := by decide +kernel
theorem d_W_law_616 : decode c_W_law 616 = .ok (.iload 4, 2) := by decide +kernel
theorem d_W_law_618 : decode c_W_law 618 = .ok (.bipush 6, 2) := by decide +kernel
theorem d_W_law_620 : decode c_W_law 620 = .ok (.iadd, 1) := by decide +kernel
theorem d_W_law_621 : decode c_W_law 621 = .ok (.iaload, 1) := by decide +kernel
theorem d_W_law_622 : decode c_W_law 622 = .ok (.invokevirtual 106, 3) := by decide +kernel
theorem d_W_law_625 : decode c_W_law 625 = .ok (.istore 6, 2) := by decide +kernel
theorem d_W_law_627 : decode c_W_law 627 = .ok (.aload_n 2, 1) := by decide +kernel
theorem d_W_law_628 : decode c_W_law 628 = .ok (.invokevirtual 76, 3) := by decide +kernel
theorem d_W_law_631 : decode c_W_law 631 = .ok (.iload 5, 2) := by decide +kernel
theorem d_W_law_633 : decode c_W_law 633 = .ok (.if_icmp .eq 5, 3) := by decide +kernel
theorem d_W_law_638 : decode c_W_law 638 = .ok (.iload 5, 2) := by decide +kernel
theorem d_W_law_640 : decode c_W_law 640 = .ok (.ifCond .ne 15, 3) := by decide +kernel
theorem d_W_law_643 : decode c_W_law 643 = .ok (.aload_n 3, 1) := by decide +kernel
theorem d_W_law_644 : decode c_W_law 644 = .ok (.iconst 0, 1) := by decide +kernel
theorem d_W_law_645 : decode c_W_law 645 = .ok (.laload, 1) := by decide +kernel
theorem d_W_law_646 : decode c_W_law 646 = .ok (.iload 6, 2) := by decide +kernel
theorem d_W_law_648 : decode c_W_law 648 = .ok (.i2l, 1) := by decide +kernel
theorem d_W_law_649 : decode c_W_law 649 = .ok (.lcmp, 1) := by decide +kernel
theorem d_W_law_650 : decode c_W_law 650 = .ok (.ifCond .eq 5, 3) := by decide +kernel
theorem d_W_law_655 : decode c_W_law 655 = .ok (.goto 322, 3) := by decide +kernel
set_option maxHeartbeats 4000000 in
set_option maxRecDepth 100000 in
/-- ask -/
theorem LW_ask {p : Program} {e : Env} {s : State} {m : MethodId} {below : List Frame} {meth : Method} {c : Code} (l : Launch) (hfl : l.flags = pinnedFlags ++ [noTraceFlag]) {b : Nat} {xs : Nat → Int32} (D : va_G) (t : Nat → ClassId) (Z : xF p m c code 8 s "QuorumStoreLaw" D vwCl (xTY t)) (hG : xg s) (hX : va_X b 8 xs s s.heap) (hbl : b < s.heap.size) (xa nw na rw ou ma nb wy hd tk hli hst : Nat) (qq pq : Nat → Nat → Nat) (no : Nat → Nat) (mk : Int32) {H : Heap} {locs : List Loc} {ls : Array Slot} (hP : va_P D vwCl (lP t ma nb wy hd tk hli hst pq mk ++ (lQ t xa nw na rw qq no mk ++ [zJ t ou 1 (fun _ => 0)])) H) (hD : va_D (fun q : Nat => s.heap.size ≤ q) (lP t ma nb wy hd tk hli hst pq mk ++ (lQ t xa nw na rw qq no mk ++ [zJ t ou 1 (fun _ => 0)]))) (hS : va_S (fun q : Nat => s.heap.size ≤ q) s.heap H locs) (hl : lv_has ls 8 [(4, .int 1), (3, .ref ou), (2, .ref ma), (1, .ref xa), (0, .ref b)])
    (back : ∀ (H : Heap) (locs : List Loc) (ls : Array Slot), va_S (fun q : Nat => s.heap.size ≤ q) s.heap H locs → lv_has ls 8 [(4, .int 1), (0, .ref b)] → W p l e room_1 s m #[Value.ref b] below meth c H locs 100000 1000000 (lw_Z below #[Value.ref b] s) (F0 m 977 ls [])) : W p l e room_1 s m #[Value.ref b] below meth c H locs 380 5892 (lw_Z below #[Value.ref b] s) (F0 m 540 ls []) := by
  obtain ⟨hx, hb, hml, hown, hK⟩ := id Z
  have hts := hK.1.at (args := #[Value.ref b])
  have hA : ∀ q : Nat, s.heap.size ≤ q → (fun q : Nat => s.heap.size ≤ q) q := fun _ h => h
  have hbA : ¬ (fun q : Nat => s.heap.size ≤ q) b := Nat.not_le.mpr hbl
  refine lv_aload_n hx hb d_W_law_540 rfl (lv_at hl 3 rfl) ?_
  refine lv_aload_n hx hb d_W_law_541 rfl (lv_at hl 4 rfl) ?_
  refine lv_iload hx hb d_W_law_542 (lv_at hl 0 rfl) ?_
  refine lv_iconst (v := 1) hx hb d_W_law_544 (by decide) ?_
  refine lv_iadd hx hb d_W_law_545 ?_
  refine va_sld hx hb hX hbl hbA hS (by unfold vp_in; decide) d_W_law_546 ?_
  refine lv_topi (fun a2 ea2 => ?_)
  refine lv_aload_n hx hb d_W_law_547 rfl (lv_at hl 4 rfl) ?_
  refine lv_iload hx hb d_W_law_548 (lv_at hl 0 rfl) ?_
  refine lv_iconst (v := 2) hx hb d_W_law_550 (by decide) ?_
  refine lv_iadd hx hb d_W_law_551 ?_
  refine va_sld hx hb hX hbl hbA hS (by unfold vp_in; decide) d_W_law_552 ?_
  refine lv_topi (fun a3 ea3 => ?_)
  refine lv_aload_n hx hb d_W_law_553 rfl (lv_at hl 4 rfl) ?_
  refine lv_iload hx hb d_W_law_554 (lv_at hl 0 rfl) ?_
  refine lv_iconst (v := 3) hx hb d_W_law_556 (by decide) ?_
  refine lv_iadd hx hb d_W_law_557 ?_
  refine va_sld hx hb hX hbl hbA hS (by unfold vp_in; decide) d_W_law_558 ?_
  refine lv_topi (fun a4 ea4 => ?_)
  refine lv_aload_n hx hb d_W_law_559 rfl (lv_at hl 4 rfl) ?_
  refine lv_iload hx hb d_W_law_560 (lv_at hl 0 rfl) ?_
  refine lv_iconst (v := 4) hx hb d_W_law_562 (by decide) ?_
  refine lv_iadd hx hb d_W_law_563 ?_
  refine va_sld hx hb hX hbl hbA hS (by unfold vp_in; decide) d_W_law_564 ?_
  refine lv_topi (fun a5 ea5 => ?_)
  refine lv_aload_n hx hb d_W_law_565 rfl (lv_at hl 4 rfl) ?_
  refine lv_iload hx hb d_W_law_566 (lv_at hl 0 rfl) ?_
  refine lv_iconst (v := 5) hx hb d_W_law_568 (by decide) ?_
  refine lv_iadd hx hb d_W_law_569 ?_
  refine va_sld hx hb hX hbl hbA hS (by unfold vp_in; decide) d_W_law_570 ?_
  refine lv_topi (fun a6 ea6 => ?_)
  refine lv_aload_n hx hb d_W_law_571 rfl (lv_at hl 4 rfl) ?_
  refine lv_iload hx hb d_W_law_572 (lv_at hl 0 rfl) ?_
  refine lv_bipush (v := 6) hx hb d_W_law_574 (by decide) ?_
  refine lv_iadd hx hb d_W_law_576 ?_
  refine va_sld hx hb hX hbl hbA hS (by unfold vp_in; decide) d_W_law_577 ?_
  refine lv_topi (fun a7 ea7 => ?_)
  refine lv_aload_n hx hb d_W_law_578 rfl (lv_at hl 1 rfl) ?_
  rcases xq_node a2 7 (by decide) with hn | ⟨k, hk, rfl⟩
  · obtain ⟨hP, hD⟩ := lQ_0 hP hD
    have hPc : va_P D vwCl [zO 7 xa [.ref nw, .ref na, .int 0], zA t 4 na 7 (fun j => some (qq j 0)), zO 2 nw [.ref rw, .int 0, .int 0, .int 0, .int 0], zA t 3 rw 300 (fun _ => none), zJ t ou 1 (fun _ => 0)] H := xd_P hP (fun q h => List.mem_append_right _ h)
    have hDc : va_D (fun q : Nat => s.heap.size ≤ q) [zO 7 xa [.ref nw, .ref na, .int 0], zA t 4 na 7 (fun j => some (qq j 0)), zO 2 nw [.ref rw, .int 0, .int 0, .int 0, .int 0], zA t 3 rw 300 (fun _ => none), zJ t ou 1 (fun _ => 0)] := xd_R hD
    refine xe_sfxi (wr := lP t ma nb wy hd tk hli hst pq mk) (wc := [zO 7 xa [.ref nw, .ref na, .int 0], zA t 4 na 7 (fun j => some (qq j 0)), zO 2 nw [.ref rw, .int 0, .int 0, .int 0, .int 0], zA t 3 rw 300 (fun _ => none), zJ t ou 1 (fun _ => 0)]) (xh_S (As := [.ref xa, .int a2, .int a3, .int a4, .int a5, .int a6, .int a7, .ref ou]) (rest := []) Z (H_ask l hfl D t xa nw na rw ou qq a2 a3 a4 a5 a6 a7 hn H.size) h_W_ask k_740 k_741 rfl rfl ⟨Nat.le_of_ble_eq_true rfl, Nat.le_of_ble_eq_true rfl⟩ (xh_pre hK hPc hDc hG (fun q hq => hS.2.1 q hq (Nat.not_le.mpr hq))) rfl hl.1 rfl (Nat.le_of_ble_eq_true rfl) d_W_law_579 ⟨Nat.le_of_ble_eq_true rfl, Nat.le_of_ble_eq_true rfl⟩) hP hD hS hA (fun r_ u_ H locs hw hP hD hS => ?_)
    obtain rfl := hw.symm
    refine lv_istore (lv' := [(5, .int 1), (4, .int 1), (3, .ref ou), (2, .ref ma), (1, .ref xa), (0, .ref b)]) hx hb d_W_law_582 hl (by decide) rfl (fun ls hl => ?_)
    refine lv_aload_n hx hb d_W_law_584 rfl (lv_at hl 3 rfl) ?_
    refine lv_aload_n hx hb d_W_law_585 rfl (lv_at hl 5 rfl) ?_
    refine lv_iload hx hb d_W_law_586 (lv_at hl 1 rfl) ?_
    refine lv_iconst (v := 1) hx hb d_W_law_588 (by decide) ?_
    refine lv_iadd hx hb d_W_law_589 ?_
    refine va_sld hx hb hX hbl hbA hS (by unfold vp_in; decide) d_W_law_590 ?_
    refine lv_topi (fun z9 ez9 => ?_)
    obtain rfl : a2 = z9 := ea2.trans ez9.symm
    refine lv_aload_n hx hb d_W_law_591 rfl (lv_at hl 5 rfl) ?_
    refine lv_iload hx hb d_W_law_592 (lv_at hl 1 rfl) ?_
    refine lv_iconst (v := 2) hx hb d_W_law_594 (by decide) ?_
    refine lv_iadd hx hb d_W_law_595 ?_
    refine va_sld hx hb hX hbl hbA hS (by unfold vp_in; decide) d_W_law_596 ?_
    refine lv_topi (fun z9 ez9 => ?_)
    obtain rfl : a3 = z9 := ea3.trans ez9.symm
    refine lv_aload_n hx hb d_W_law_597 rfl (lv_at hl 5 rfl) ?_
    refine lv_iload hx hb d_W_law_598 (lv_at hl 1 rfl) ?_
    refine lv_iconst (v := 3) hx hb d_W_law_600 (by decide) ?_
    refine lv_iadd hx hb d_W_law_601 ?_
    refine va_sld hx hb hX hbl hbA hS (by unfold vp_in; decide) d_W_law_602 ?_
    refine lv_topi (fun z9 ez9 => ?_)
    obtain rfl : a4 = z9 := ea4.trans ez9.symm
    refine lv_aload_n hx hb d_W_law_603 rfl (lv_at hl 5 rfl) ?_
    refine lv_iload hx hb d_W_law_604 (lv_at hl 1 rfl) ?_
    refine lv_iconst (v := 4) hx hb d_W_law_606 (by decide) ?_
    refine lv_iadd hx hb d_W_law_607 ?_
    refine va_sld hx hb hX hbl hbA hS (by unfold vp_in; decide) d_W_law_608 ?_
    refine lv_topi (fun z9 ez9 => ?_)
    obtain rfl : a5 = z9 := ea5.trans ez9.symm
    refine lv_aload_n hx hb d_W_law_609 rfl (lv_at hl 5 rfl) ?_
    refine lv_iload hx hb d_W_law_610 (lv_at hl 1 rfl) ?_
    refine lv_iconst (v := 5) hx hb d_W_law_612 (by decide) ?_
    refine lv_iadd hx hb d_W_law_613 ?_
    refine va_sld hx hb hX hbl hbA hS (by unfold vp_in; decide) d_W_law_614 ?_
    refine lv_topi (fun z9 ez9 => ?_)
    obtain rfl : a6 = z9 := ea6.trans ez9.symm
    refine lv_aload_n hx hb d_W_law_615 rfl (lv_at hl 5 rfl) ?_
    refine lv_iload hx hb d_W_law_616 (lv_at hl 1 rfl) ?_
    refine lv_bipush (v := 6) hx hb d_W_law_618 (by decide) ?_
    refine lv_iadd hx hb d_W_law_620 ?_
    refine va_sld hx hb hX hbl hbA hS (by unfold vp_in; decide) d_W_law_621 ?_
    refine lv_topi (fun z9 ez9 => ?_)
    obtain rfl : a7 = z9 := ea7.trans ez9.symm
    obtain ⟨hP, hD⟩ := lP_0 hP hD
    have hP : va_P D vwCl [zO 13 ma [.int 0, .int 0, .int 0, .int 0, .int 0, .int 0, .ref nb, .ref wy, .ref hd, .ref tk]] H := hP
    have hD : va_D (fun q : Nat => s.heap.size ≤ q) [zO 13 ma [.int 0, .int 0, .int 0, .int 0, .int 0, .int 0, .ref nb, .ref wy, .ref hd, .ref tk]] := hD
    refine xe_calli (wr := []) (xs_V (As := [.int a2, .int a3, .int a4, .int a5, .int a6, .int a7]) (rest := []) Z (C_P_ask_1 l D t ma nb wy hd tk 0 a2 a3 a4 a5 a6 a7 hn H.size) m_P_ask k_1228 k_1229 k_1230 rfl rfl ⟨Nat.le_of_ble_eq_true rfl, Nat.le_of_ble_eq_true rfl⟩ (va_recv hK.2 hP (ci := 13) (q0 := 0) rfl rfl) (xe_pre hK (hP.sub [0] rfl) (hD.sub [0] (by decide) rfl)) rfl hl.1 rfl (Nat.le_of_ble_eq_true rfl) d_W_law_622 ⟨Nat.le_of_ble_eq_true rfl, Nat.le_of_ble_eq_true rfl⟩) hP hD hS hA [0] [] rfl rfl (by decide) (by decide) (fun r_1 u_ H locs hw hP hD hS => ?_)
    have hP : va_P D vwCl [zO 13 ma [.int 1, .int 0, .int 0, .int 0, .int 0, .int 0, .ref nb, .ref wy, .ref hd, .ref tk]] H := hP
    have hD : va_D (fun q : Nat => s.heap.size ≤ q) [zO 13 ma [.int 1, .int 0, .int 0, .int 0, .int 0, .int 0, .ref nb, .ref wy, .ref hd, .ref tk]] := hD
    obtain rfl := hw.symm
    refine lv_istore (lv' := [(6, .int 0), (5, .int 1), (4, .int 1), (3, .ref ou), (2, .ref ma), (1, .ref xa), (0, .ref b)]) hx hb d_W_law_625 hl (by decide) rfl (fun ls hl => ?_)
    refine lv_aload_n hx hb d_W_law_627 rfl (lv_at hl 4 rfl) ?_
    refine xr_call (xs_V (As := []) (rest := []) Z (C_P_thrown l D t ma 1 (.int 0) (.int 0) (.int 0) (.int 0) (.int 0) (.ref nb) (.ref wy) (.ref hd) (.ref tk)) m_P_thrown k_1026 k_1027 k_1028 rfl rfl ⟨Nat.le_of_ble_eq_true rfl, Nat.le_of_ble_eq_true rfl⟩ (va_recv hK.2 hP (ci := 13) (q0 := 0) rfl rfl) (xr_pre hK (hP.sub [0] rfl)) rfl hl.1 rfl (Nat.le_of_ble_eq_true rfl) d_W_law_628 ⟨Nat.le_of_ble_eq_true rfl, Nat.le_of_ble_eq_true rfl⟩) ?_
    refine lv_iload hx hb d_W_law_631 (lv_at hl 1 rfl) ?_
    refine lv_icmp_eq (tgt := 638) hx hb d_W_law_633 (by decide) (fun _ => ?_) (fun c_2 => absurd (rfl) c_2)
    refine lv_iload hx hb d_W_law_638 (lv_at hl 1 rfl) ?_
    refine lv_if_ne (tgt := 655) hx hb d_W_law_640 (by decide) (fun _ => ?_) (fun c_3 => absurd c_3 (by decide))
    refine lv_goto (tgt := 977) hx hb d_W_law_655 (by decide) ?_
    refine W.widen (k := 100000) (n := 1000000) (Nat.le_of_ble_eq_true rfl) (Nat.le_of_ble_eq_true rfl) ?_
    exact back H locs ls hS (lv_sub hl [2, 6] rfl)
  · rcases xq_node a3 8 (by decide) with hc | ⟨j, hj, rfl⟩
    · obtain ⟨hP, hD⟩ := lQ_k hk hP hD
      have hPc : va_P D vwCl [zO 7 xa [.ref nw, .ref na, .int 0], zA t 4 na 7 (fun j => some (qq j 0)), zO 2 nw [.ref rw, .int 0, .int 0, .int 0, .int 0], zA t 3 rw 300 (fun _ => none), zO 3 (qq k 0) [.int (nI k), .ref nw, .int 0, .int 0, .int 0, .ref ((qq k 1)), .ref ((qq k 7)), .ref ((qq k 11)), .int 1, .int 0, .int 0, .int (nI (8 + 3 * k)), .int ((-1)), .int 0, .ref ((qq k 15))], zO 5 (qq k 1) [.ref ((qq k 2)), .ref ((qq k 3)), .ref ((qq k 4)), .ref ((qq k 5)), .ref ((qq k 6)), .int 1], zJ t (qq k 2) 32 (fun _ => 1099511627776), zI t (qq k 3) 8 (fun _ => 0), zJ t (qq k 4) 8 (fun _ => 0), zI t (qq k 5) 4 (xm 1), zI t (qq k 6) 4 (xm mk), zO 4 (qq k 7) [.ref ((qq k 8)), .ref ((qq k 9)), .ref ((qq k 10))], zI t (qq k 8) 32 (fun _ => 0), zI t (qq k 9) 32 (fun _ => 0), zA t 2 (qq k 10) 32 (fun _ => none), zO 4 (qq k 11) [.ref ((qq k 12)), .ref ((qq k 13)), .ref ((qq k 14))], zI t (qq k 12) 64 (fun _ => 0), zI t (qq k 13) 64 (fun _ => 0), zA t 2 (qq k 14) 64 (fun _ => none), zO 0 (qq k 15) [.ref ((no k)), .int 0, .ref ((qq k 16)), .ref ((qq k 20)), .ref ((qq k 24)), .int 0, .int 0, .int 0], zO 4 (qq k 16) [.ref ((qq k 17)), .ref ((qq k 18)), .ref ((qq k 19))], zI t (qq k 17) 32 (fun _ => 0), zI t (qq k 18) 32 (fun _ => 0), zA t 2 (qq k 19) 32 (fun _ => none), zO 4 (qq k 20) [.ref ((qq k 21)), .ref ((qq k 22)), .ref ((qq k 23))], zI t (qq k 21) 4 (fun _ => 0), zI t (qq k 22) 4 (fun _ => 0), zA t 2 (qq k 23) 4 (fun _ => none), zA t 2 (qq k 24) 16 (fun _ => none), zJ t ou 1 (fun _ => 0)] H := xd_P hP (fun q h => List.mem_append_right _ h)
      have hDc : va_D (fun q : Nat => s.heap.size ≤ q) [zO 7 xa [.ref nw, .ref na, .int 0], zA t 4 na 7 (fun j => some (qq j 0)), zO 2 nw [.ref rw, .int 0, .int 0, .int 0, .int 0], zA t 3 rw 300 (fun _ => none), zO 3 (qq k 0) [.int (nI k), .ref nw, .int 0, .int 0, .int 0, .ref ((qq k 1)), .ref ((qq k 7)), .ref ((qq k 11)), .int 1, .int 0, .int 0, .int (nI (8 + 3 * k)), .int ((-1)), .int 0, .ref ((qq k 15))], zO 5 (qq k 1) [.ref ((qq k 2)), .ref ((qq k 3)), .ref ((qq k 4)), .ref ((qq k 5)), .ref ((qq k 6)), .int 1], zJ t (qq k 2) 32 (fun _ => 1099511627776), zI t (qq k 3) 8 (fun _ => 0), zJ t (qq k 4) 8 (fun _ => 0), zI t (qq k 5) 4 (xm 1), zI t (qq k 6) 4 (xm mk), zO 4 (qq k 7) [.ref ((qq k 8)), .ref ((qq k 9)), .ref ((qq k 10))], zI t (qq k 8) 32 (fun _ => 0), zI t (qq k 9) 32 (fun _ => 0), zA t 2 (qq k 10) 32 (fun _ => none), zO 4 (qq k 11) [.ref ((qq k 12)), .ref ((qq k 13)), .ref ((qq k 14))], zI t (qq k 12) 64 (fun _ => 0), zI t (qq k 13) 64 (fun _ => 0), zA t 2 (qq k 14) 64 (fun _ => none), zO 0 (qq k 15) [.ref ((no k)), .int 0, .ref ((qq k 16)), .ref ((qq k 20)), .ref ((qq k 24)), .int 0, .int 0, .int 0], zO 4 (qq k 16) [.ref ((qq k 17)), .ref ((qq k 18)), .ref ((qq k 19))], zI t (qq k 17) 32 (fun _ => 0), zI t (qq k 18) 32 (fun _ => 0), zA t 2 (qq k 19) 32 (fun _ => none), zO 4 (qq k 20) [.ref ((qq k 21)), .ref ((qq k 22)), .ref ((qq k 23))], zI t (qq k 21) 4 (fun _ => 0), zI t (qq k 22) 4 (fun _ => 0), zA t 2 (qq k 23) 4 (fun _ => none), zA t 2 (qq k 24) 16 (fun _ => none), zJ t ou 1 (fun _ => 0)] := xd_R hD
      refine xe_sfxi (wr := lP t ma nb wy hd tk hli hst pq mk) (wc := [zO 7 xa [.ref nw, .ref na, .int 0], zA t 4 na 7 (fun j => some (qq j 0)), zO 2 nw [.ref rw, .int 0, .int 0, .int 0, .int 0], zA t 3 rw 300 (fun _ => none), zO 3 (qq k 0) [.int (nI k), .ref nw, .int 0, .int 0, .int 0, .ref ((qq k 1)), .ref ((qq k 7)), .ref ((qq k 11)), .int 1, .int 0, .int 0, .int (nI (8 + 3 * k)), .int ((-1)), .int 0, .ref ((qq k 15))], zO 5 (qq k 1) [.ref ((qq k 2)), .ref ((qq k 3)), .ref ((qq k 4)), .ref ((qq k 5)), .ref ((qq k 6)), .int 1], zJ t (qq k 2) 32 (fun _ => 1099511627776), zI t (qq k 3) 8 (fun _ => 0), zJ t (qq k 4) 8 (fun _ => 0), zI t (qq k 5) 4 (xm 1), zI t (qq k 6) 4 (xm mk), zO 4 (qq k 7) [.ref ((qq k 8)), .ref ((qq k 9)), .ref ((qq k 10))], zI t (qq k 8) 32 (fun _ => 0), zI t (qq k 9) 32 (fun _ => 0), zA t 2 (qq k 10) 32 (fun _ => none), zO 4 (qq k 11) [.ref ((qq k 12)), .ref ((qq k 13)), .ref ((qq k 14))], zI t (qq k 12) 64 (fun _ => 0), zI t (qq k 13) 64 (fun _ => 0), zA t 2 (qq k 14) 64 (fun _ => none), zO 0 (qq k 15) [.ref ((no k)), .int 0, .ref ((qq k 16)), .ref ((qq k 20)), .ref ((qq k 24)), .int 0, .int 0, .int 0], zO 4 (qq k 16) [.ref ((qq k 17)), .ref ((qq k 18)), .ref ((qq k 19))], zI t (qq k 17) 32 (fun _ => 0), zI t (qq k 18) 32 (fun _ => 0), zA t 2 (qq k 19) 32 (fun _ => none), zO 4 (qq k 20) [.ref ((qq k 21)), .ref ((qq k 22)), .ref ((qq k 23))], zI t (qq k 21) 4 (fun _ => 0), zI t (qq k 22) 4 (fun _ => 0), zA t 2 (qq k 23) 4 (fun _ => none), zA t 2 (qq k 24) 16 (fun _ => none), zJ t ou 1 (fun _ => 0)]) (xh_S (As := [.ref xa, .int (nI k), .int a3, .int a4, .int a5, .int a6, .int a7, .ref ou]) (rest := []) Z (H2_ask l hfl D t xa nw na rw ou qq no mk k hk a3 a4 a5 a6 a7 hc H.size) h_W_ask k_740 k_741 rfl rfl ⟨Nat.le_of_ble_eq_true rfl, Nat.le_of_ble_eq_true rfl⟩ (xh_pre hK hPc hDc hG (fun q hq => hS.2.1 q hq (Nat.not_le.mpr hq))) rfl hl.1 rfl (Nat.le_of_ble_eq_true rfl) d_W_law_579 ⟨Nat.le_of_ble_eq_true rfl, Nat.le_of_ble_eq_true rfl⟩) hP hD hS hA (fun r_ u_ H locs hw hP hD hS => ?_)
      obtain rfl := hw.symm
      refine lv_istore (lv' := [(5, .int 1), (4, .int 1), (3, .ref ou), (2, .ref ma), (1, .ref xa), (0, .ref b)]) hx hb d_W_law_582 hl (by decide) rfl (fun ls hl => ?_)
      refine lv_aload_n hx hb d_W_law_584 rfl (lv_at hl 3 rfl) ?_
      refine lv_aload_n hx hb d_W_law_585 rfl (lv_at hl 5 rfl) ?_
      refine lv_iload hx hb d_W_law_586 (lv_at hl 1 rfl) ?_
      refine lv_iconst (v := 1) hx hb d_W_law_588 (by decide) ?_
      refine lv_iadd hx hb d_W_law_589 ?_
      refine va_sld hx hb hX hbl hbA hS (by unfold vp_in; decide) d_W_law_590 ?_
      refine lv_topi (fun z9 ez9 => ?_)
      obtain rfl : nI k = z9 := ea2.trans ez9.symm
      refine lv_aload_n hx hb d_W_law_591 rfl (lv_at hl 5 rfl) ?_
      refine lv_iload hx hb d_W_law_592 (lv_at hl 1 rfl) ?_
      refine lv_iconst (v := 2) hx hb d_W_law_594 (by decide) ?_
      refine lv_iadd hx hb d_W_law_595 ?_
      refine va_sld hx hb hX hbl hbA hS (by unfold vp_in; decide) d_W_law_596 ?_
      refine lv_topi (fun z9 ez9 => ?_)
      obtain rfl : a3 = z9 := ea3.trans ez9.symm
      refine lv_aload_n hx hb d_W_law_597 rfl (lv_at hl 5 rfl) ?_
      refine lv_iload hx hb d_W_law_598 (lv_at hl 1 rfl) ?_
      refine lv_iconst (v := 3) hx hb d_W_law_600 (by decide) ?_
      refine lv_iadd hx hb d_W_law_601 ?_
      refine va_sld hx hb hX hbl hbA hS (by unfold vp_in; decide) d_W_law_602 ?_
      refine lv_topi (fun z9 ez9 => ?_)
      obtain rfl : a4 = z9 := ea4.trans ez9.symm
      refine lv_aload_n hx hb d_W_law_603 rfl (lv_at hl 5 rfl) ?_
      refine lv_iload hx hb d_W_law_604 (lv_at hl 1 rfl) ?_
      refine lv_iconst (v := 4) hx hb d_W_law_606 (by decide) ?_
      refine lv_iadd hx hb d_W_law_607 ?_
      refine va_sld hx hb hX hbl hbA hS (by unfold vp_in; decide) d_W_law_608 ?_
      refine lv_topi (fun z9 ez9 => ?_)
      obtain rfl : a5 = z9 := ea5.trans ez9.symm
      refine lv_aload_n hx hb d_W_law_609 rfl (lv_at hl 5 rfl) ?_
      refine lv_iload hx hb d_W_law_610 (lv_at hl 1 rfl) ?_
      refine lv_iconst (v := 5) hx hb d_W_law_612 (by decide) ?_
      refine lv_iadd hx hb d_W_law_613 ?_
      refine va_sld hx hb hX hbl hbA hS (by unfold vp_in; decide) d_W_law_614 ?_
      refine lv_topi (fun z9 ez9 => ?_)
      obtain rfl : a6 = z9 := ea6.trans ez9.symm
      refine lv_aload_n hx hb d_W_law_615 rfl (lv_at hl 5 rfl) ?_
      refine lv_iload hx hb d_W_law_616 (lv_at hl 1 rfl) ?_
      refine lv_bipush (v := 6) hx hb d_W_law_618 (by decide) ?_
      refine lv_iadd hx hb d_W_law_620 ?_
      refine va_sld hx hb hX hbl hbA hS (by unfold vp_in; decide) d_W_law_621 ?_
      refine lv_topi (fun z9 ez9 => ?_)
      obtain rfl : a7 = z9 := ea7.trans ez9.symm
      obtain ⟨hP, hD⟩ := lP_0 hP hD
      have hP : va_P D vwCl [zO 13 ma [.int 0, .int 0, .int 0, .int 0, .int 0, .int 0, .ref nb, .ref wy, .ref hd, .ref tk]] H := hP
      have hD : va_D (fun q : Nat => s.heap.size ≤ q) [zO 13 ma [.int 0, .int 0, .int 0, .int 0, .int 0, .int 0, .ref nb, .ref wy, .ref hd, .ref tk]] := hD
      refine xe_calli (wr := []) (xs_V (As := [.int (nI k), .int a3, .int a4, .int a5, .int a6, .int a7]) (rest := []) Z (C_P_ask_2 l D t ma nb wy hd tk 0 k hk a3 a4 a5 a6 a7 hc H.size) m_P_ask k_1228 k_1229 k_1230 rfl rfl ⟨Nat.le_of_ble_eq_true rfl, Nat.le_of_ble_eq_true rfl⟩ (va_recv hK.2 hP (ci := 13) (q0 := 0) rfl rfl) (xe_pre hK (hP.sub [0] rfl) (hD.sub [0] (by decide) rfl)) rfl hl.1 rfl (Nat.le_of_ble_eq_true rfl) d_W_law_622 ⟨Nat.le_of_ble_eq_true rfl, Nat.le_of_ble_eq_true rfl⟩) hP hD hS hA [0] [] rfl rfl (by decide) (by decide) (fun r_4 u_ H locs hw hP hD hS => ?_)
      have hP : va_P D vwCl [zO 13 ma [.int 1, .int 0, .int 0, .int 0, .int 0, .int 0, .ref nb, .ref wy, .ref hd, .ref tk]] H := hP
      have hD : va_D (fun q : Nat => s.heap.size ≤ q) [zO 13 ma [.int 1, .int 0, .int 0, .int 0, .int 0, .int 0, .ref nb, .ref wy, .ref hd, .ref tk]] := hD
      obtain rfl := hw.symm
      refine lv_istore (lv' := [(6, .int 0), (5, .int 1), (4, .int 1), (3, .ref ou), (2, .ref ma), (1, .ref xa), (0, .ref b)]) hx hb d_W_law_625 hl (by decide) rfl (fun ls hl => ?_)
      refine lv_aload_n hx hb d_W_law_627 rfl (lv_at hl 4 rfl) ?_
      refine xr_call (xs_V (As := []) (rest := []) Z (C_P_thrown l D t ma 1 (.int 0) (.int 0) (.int 0) (.int 0) (.int 0) (.ref nb) (.ref wy) (.ref hd) (.ref tk)) m_P_thrown k_1026 k_1027 k_1028 rfl rfl ⟨Nat.le_of_ble_eq_true rfl, Nat.le_of_ble_eq_true rfl⟩ (va_recv hK.2 hP (ci := 13) (q0 := 0) rfl rfl) (xr_pre hK (hP.sub [0] rfl)) rfl hl.1 rfl (Nat.le_of_ble_eq_true rfl) d_W_law_628 ⟨Nat.le_of_ble_eq_true rfl, Nat.le_of_ble_eq_true rfl⟩) ?_
      refine lv_iload hx hb d_W_law_631 (lv_at hl 1 rfl) ?_
      refine lv_icmp_eq (tgt := 638) hx hb d_W_law_633 (by decide) (fun _ => ?_) (fun c_5 => absurd (rfl) c_5)
      refine lv_iload hx hb d_W_law_638 (lv_at hl 1 rfl) ?_
      refine lv_if_ne (tgt := 655) hx hb d_W_law_640 (by decide) (fun _ => ?_) (fun c_6 => absurd c_6 (by decide))
      refine lv_goto (tgt := 977) hx hb d_W_law_655 (by decide) ?_
      refine W.widen (k := 100000) (n := 1000000) (Nat.le_of_ble_eq_true rfl) (Nat.le_of_ble_eq_true rfl) ?_
      exact back H locs ls hS (lv_sub hl [2, 6] rfl)
    · rcases xq_ask a5 a4 with hc | ⟨h1, h2, h3⟩
      · obtain ⟨hP, hD⟩ := lQ_k hk hP hD
        have hPc : va_P D vwCl [zO 7 xa [.ref nw, .ref na, .int 0], zA t 4 na 7 (fun j => some (qq j 0)), zO 2 nw [.ref rw, .int 0, .int 0, .int 0, .int 0], zA t 3 rw 300 (fun _ => none), zO 3 (qq k 0) [.int (nI k), .ref nw, .int 0, .int 0, .int 0, .ref ((qq k 1)), .ref ((qq k 7)), .ref ((qq k 11)), .int 1, .int 0, .int 0, .int (nI (8 + 3 * k)), .int ((-1)), .int 0, .ref ((qq k 15))], zO 5 (qq k 1) [.ref ((qq k 2)), .ref ((qq k 3)), .ref ((qq k 4)), .ref ((qq k 5)), .ref ((qq k 6)), .int 1], zJ t (qq k 2) 32 (fun _ => 1099511627776), zI t (qq k 3) 8 (fun _ => 0), zJ t (qq k 4) 8 (fun _ => 0), zI t (qq k 5) 4 (xm 1), zI t (qq k 6) 4 (xm mk), zO 4 (qq k 7) [.ref ((qq k 8)), .ref ((qq k 9)), .ref ((qq k 10))], zI t (qq k 8) 32 (fun _ => 0), zI t (qq k 9) 32 (fun _ => 0), zA t 2 (qq k 10) 32 (fun _ => none), zO 4 (qq k 11) [.ref ((qq k 12)), .ref ((qq k 13)), .ref ((qq k 14))], zI t (qq k 12) 64 (fun _ => 0), zI t (qq k 13) 64 (fun _ => 0), zA t 2 (qq k 14) 64 (fun _ => none), zO 0 (qq k 15) [.ref ((no k)), .int 0, .ref ((qq k 16)), .ref ((qq k 20)), .ref ((qq k 24)), .int 0, .int 0, .int 0], zO 4 (qq k 16) [.ref ((qq k 17)), .ref ((qq k 18)), .ref ((qq k 19))], zI t (qq k 17) 32 (fun _ => 0), zI t (qq k 18) 32 (fun _ => 0), zA t 2 (qq k 19) 32 (fun _ => none), zO 4 (qq k 20) [.ref ((qq k 21)), .ref ((qq k 22)), .ref ((qq k 23))], zI t (qq k 21) 4 (fun _ => 0), zI t (qq k 22) 4 (fun _ => 0), zA t 2 (qq k 23) 4 (fun _ => none), zA t 2 (qq k 24) 16 (fun _ => none), zJ t ou 1 (fun _ => 0)] H := xd_P hP (fun q h => List.mem_append_right _ h)
        have hDc : va_D (fun q : Nat => s.heap.size ≤ q) [zO 7 xa [.ref nw, .ref na, .int 0], zA t 4 na 7 (fun j => some (qq j 0)), zO 2 nw [.ref rw, .int 0, .int 0, .int 0, .int 0], zA t 3 rw 300 (fun _ => none), zO 3 (qq k 0) [.int (nI k), .ref nw, .int 0, .int 0, .int 0, .ref ((qq k 1)), .ref ((qq k 7)), .ref ((qq k 11)), .int 1, .int 0, .int 0, .int (nI (8 + 3 * k)), .int ((-1)), .int 0, .ref ((qq k 15))], zO 5 (qq k 1) [.ref ((qq k 2)), .ref ((qq k 3)), .ref ((qq k 4)), .ref ((qq k 5)), .ref ((qq k 6)), .int 1], zJ t (qq k 2) 32 (fun _ => 1099511627776), zI t (qq k 3) 8 (fun _ => 0), zJ t (qq k 4) 8 (fun _ => 0), zI t (qq k 5) 4 (xm 1), zI t (qq k 6) 4 (xm mk), zO 4 (qq k 7) [.ref ((qq k 8)), .ref ((qq k 9)), .ref ((qq k 10))], zI t (qq k 8) 32 (fun _ => 0), zI t (qq k 9) 32 (fun _ => 0), zA t 2 (qq k 10) 32 (fun _ => none), zO 4 (qq k 11) [.ref ((qq k 12)), .ref ((qq k 13)), .ref ((qq k 14))], zI t (qq k 12) 64 (fun _ => 0), zI t (qq k 13) 64 (fun _ => 0), zA t 2 (qq k 14) 64 (fun _ => none), zO 0 (qq k 15) [.ref ((no k)), .int 0, .ref ((qq k 16)), .ref ((qq k 20)), .ref ((qq k 24)), .int 0, .int 0, .int 0], zO 4 (qq k 16) [.ref ((qq k 17)), .ref ((qq k 18)), .ref ((qq k 19))], zI t (qq k 17) 32 (fun _ => 0), zI t (qq k 18) 32 (fun _ => 0), zA t 2 (qq k 19) 32 (fun _ => none), zO 4 (qq k 20) [.ref ((qq k 21)), .ref ((qq k 22)), .ref ((qq k 23))], zI t (qq k 21) 4 (fun _ => 0), zI t (qq k 22) 4 (fun _ => 0), zA t 2 (qq k 23) 4 (fun _ => none), zA t 2 (qq k 24) 16 (fun _ => none), zJ t ou 1 (fun _ => 0)] := xd_R hD
        refine xe_sfxi (wr := lP t ma nb wy hd tk hli hst pq mk) (wc := [zO 7 xa [.ref nw, .ref na, .int 0], zA t 4 na 7 (fun j => some (qq j 0)), zO 2 nw [.ref rw, .int 0, .int 0, .int 0, .int 0], zA t 3 rw 300 (fun _ => none), zO 3 (qq k 0) [.int (nI k), .ref nw, .int 0, .int 0, .int 0, .ref ((qq k 1)), .ref ((qq k 7)), .ref ((qq k 11)), .int 1, .int 0, .int 0, .int (nI (8 + 3 * k)), .int ((-1)), .int 0, .ref ((qq k 15))], zO 5 (qq k 1) [.ref ((qq k 2)), .ref ((qq k 3)), .ref ((qq k 4)), .ref ((qq k 5)), .ref ((qq k 6)), .int 1], zJ t (qq k 2) 32 (fun _ => 1099511627776), zI t (qq k 3) 8 (fun _ => 0), zJ t (qq k 4) 8 (fun _ => 0), zI t (qq k 5) 4 (xm 1), zI t (qq k 6) 4 (xm mk), zO 4 (qq k 7) [.ref ((qq k 8)), .ref ((qq k 9)), .ref ((qq k 10))], zI t (qq k 8) 32 (fun _ => 0), zI t (qq k 9) 32 (fun _ => 0), zA t 2 (qq k 10) 32 (fun _ => none), zO 4 (qq k 11) [.ref ((qq k 12)), .ref ((qq k 13)), .ref ((qq k 14))], zI t (qq k 12) 64 (fun _ => 0), zI t (qq k 13) 64 (fun _ => 0), zA t 2 (qq k 14) 64 (fun _ => none), zO 0 (qq k 15) [.ref ((no k)), .int 0, .ref ((qq k 16)), .ref ((qq k 20)), .ref ((qq k 24)), .int 0, .int 0, .int 0], zO 4 (qq k 16) [.ref ((qq k 17)), .ref ((qq k 18)), .ref ((qq k 19))], zI t (qq k 17) 32 (fun _ => 0), zI t (qq k 18) 32 (fun _ => 0), zA t 2 (qq k 19) 32 (fun _ => none), zO 4 (qq k 20) [.ref ((qq k 21)), .ref ((qq k 22)), .ref ((qq k 23))], zI t (qq k 21) 4 (fun _ => 0), zI t (qq k 22) 4 (fun _ => 0), zA t 2 (qq k 23) 4 (fun _ => none), zA t 2 (qq k 24) 16 (fun _ => none), zJ t ou 1 (fun _ => 0)]) (xh_S (As := [.ref xa, .int (nI k), .int (nI j), .int a4, .int a5, .int a6, .int a7, .ref ou]) (rest := []) Z (H3_ask l hfl D t xa nw na rw ou qq no mk k hk j hj a4 a5 a6 a7 hc H.size) h_W_ask k_740 k_741 rfl rfl ⟨Nat.le_of_ble_eq_true rfl, Nat.le_of_ble_eq_true rfl⟩ (xh_pre hK hPc hDc hG (fun q hq => hS.2.1 q hq (Nat.not_le.mpr hq))) rfl hl.1 rfl (Nat.le_of_ble_eq_true rfl) d_W_law_579 ⟨Nat.le_of_ble_eq_true rfl, Nat.le_of_ble_eq_true rfl⟩) hP hD hS hA (fun r_ u_ H locs hw hP hD hS => ?_)
        obtain rfl := hw.symm
        refine lv_istore (lv' := [(5, .int 2), (4, .int 1), (3, .ref ou), (2, .ref ma), (1, .ref xa), (0, .ref b)]) hx hb d_W_law_582 hl (by decide) rfl (fun ls hl => ?_)
        refine lv_aload_n hx hb d_W_law_584 rfl (lv_at hl 3 rfl) ?_
        refine lv_aload_n hx hb d_W_law_585 rfl (lv_at hl 5 rfl) ?_
        refine lv_iload hx hb d_W_law_586 (lv_at hl 1 rfl) ?_
        refine lv_iconst (v := 1) hx hb d_W_law_588 (by decide) ?_
        refine lv_iadd hx hb d_W_law_589 ?_
        refine va_sld hx hb hX hbl hbA hS (by unfold vp_in; decide) d_W_law_590 ?_
        refine lv_topi (fun z9 ez9 => ?_)
        obtain rfl : nI k = z9 := ea2.trans ez9.symm
        refine lv_aload_n hx hb d_W_law_591 rfl (lv_at hl 5 rfl) ?_
        refine lv_iload hx hb d_W_law_592 (lv_at hl 1 rfl) ?_
        refine lv_iconst (v := 2) hx hb d_W_law_594 (by decide) ?_
        refine lv_iadd hx hb d_W_law_595 ?_
        refine va_sld hx hb hX hbl hbA hS (by unfold vp_in; decide) d_W_law_596 ?_
        refine lv_topi (fun z9 ez9 => ?_)
        obtain rfl : nI j = z9 := ea3.trans ez9.symm
        refine lv_aload_n hx hb d_W_law_597 rfl (lv_at hl 5 rfl) ?_
        refine lv_iload hx hb d_W_law_598 (lv_at hl 1 rfl) ?_
        refine lv_iconst (v := 3) hx hb d_W_law_600 (by decide) ?_
        refine lv_iadd hx hb d_W_law_601 ?_
        refine va_sld hx hb hX hbl hbA hS (by unfold vp_in; decide) d_W_law_602 ?_
        refine lv_topi (fun z9 ez9 => ?_)
        obtain rfl : a4 = z9 := ea4.trans ez9.symm
        refine lv_aload_n hx hb d_W_law_603 rfl (lv_at hl 5 rfl) ?_
        refine lv_iload hx hb d_W_law_604 (lv_at hl 1 rfl) ?_
        refine lv_iconst (v := 4) hx hb d_W_law_606 (by decide) ?_
        refine lv_iadd hx hb d_W_law_607 ?_
        refine va_sld hx hb hX hbl hbA hS (by unfold vp_in; decide) d_W_law_608 ?_
        refine lv_topi (fun z9 ez9 => ?_)
        obtain rfl : a5 = z9 := ea5.trans ez9.symm
        refine lv_aload_n hx hb d_W_law_609 rfl (lv_at hl 5 rfl) ?_
        refine lv_iload hx hb d_W_law_610 (lv_at hl 1 rfl) ?_
        refine lv_iconst (v := 5) hx hb d_W_law_612 (by decide) ?_
        refine lv_iadd hx hb d_W_law_613 ?_
        refine va_sld hx hb hX hbl hbA hS (by unfold vp_in; decide) d_W_law_614 ?_
        refine lv_topi (fun z9 ez9 => ?_)
        obtain rfl : a6 = z9 := ea6.trans ez9.symm
        refine lv_aload_n hx hb d_W_law_615 rfl (lv_at hl 5 rfl) ?_
        refine lv_iload hx hb d_W_law_616 (lv_at hl 1 rfl) ?_
        refine lv_bipush (v := 6) hx hb d_W_law_618 (by decide) ?_
        refine lv_iadd hx hb d_W_law_620 ?_
        refine va_sld hx hb hX hbl hbA hS (by unfold vp_in; decide) d_W_law_621 ?_
        refine lv_topi (fun z9 ez9 => ?_)
        obtain rfl : a7 = z9 := ea7.trans ez9.symm
        obtain ⟨hP, hD⟩ := lP_0 hP hD
        have hP : va_P D vwCl [zO 13 ma [.int 0, .int 0, .int 0, .int 0, .int 0, .int 0, .ref nb, .ref wy, .ref hd, .ref tk]] H := hP
        have hD : va_D (fun q : Nat => s.heap.size ≤ q) [zO 13 ma [.int 0, .int 0, .int 0, .int 0, .int 0, .int 0, .ref nb, .ref wy, .ref hd, .ref tk]] := hD
        refine xe_calli (wr := []) (xs_V (As := [.int (nI k), .int (nI j), .int a4, .int a5, .int a6, .int a7]) (rest := []) Z (C_P_ask_3 l D t ma nb wy hd tk 0 k hk j hj a4 a5 a6 a7 hc H.size) m_P_ask k_1228 k_1229 k_1230 rfl rfl ⟨Nat.le_of_ble_eq_true rfl, Nat.le_of_ble_eq_true rfl⟩ (va_recv hK.2 hP (ci := 13) (q0 := 0) rfl rfl) (xe_pre hK (hP.sub [0] rfl) (hD.sub [0] (by decide) rfl)) rfl hl.1 rfl (Nat.le_of_ble_eq_true rfl) d_W_law_622 ⟨Nat.le_of_ble_eq_true rfl, Nat.le_of_ble_eq_true rfl⟩) hP hD hS hA [0] [] rfl rfl (by decide) (by decide) (fun r_7 u_ H locs hw hP hD hS => ?_)
        have hP : va_P D vwCl [zO 13 ma [.int 2, .int 0, .int 0, .int 0, .int 0, .int 0, .ref nb, .ref wy, .ref hd, .ref tk]] H := hP
        have hD : va_D (fun q : Nat => s.heap.size ≤ q) [zO 13 ma [.int 2, .int 0, .int 0, .int 0, .int 0, .int 0, .ref nb, .ref wy, .ref hd, .ref tk]] := hD
        obtain rfl := hw.symm
        refine lv_istore (lv' := [(6, .int 0), (5, .int 2), (4, .int 1), (3, .ref ou), (2, .ref ma), (1, .ref xa), (0, .ref b)]) hx hb d_W_law_625 hl (by decide) rfl (fun ls hl => ?_)
        refine lv_aload_n hx hb d_W_law_627 rfl (lv_at hl 4 rfl) ?_
        refine xr_call (xs_V (As := []) (rest := []) Z (C_P_thrown l D t ma 2 (.int 0) (.int 0) (.int 0) (.int 0) (.int 0) (.ref nb) (.ref wy) (.ref hd) (.ref tk)) m_P_thrown k_1026 k_1027 k_1028 rfl rfl ⟨Nat.le_of_ble_eq_true rfl, Nat.le_of_ble_eq_true rfl⟩ (va_recv hK.2 hP (ci := 13) (q0 := 0) rfl rfl) (xr_pre hK (hP.sub [0] rfl)) rfl hl.1 rfl (Nat.le_of_ble_eq_true rfl) d_W_law_628 ⟨Nat.le_of_ble_eq_true rfl, Nat.le_of_ble_eq_true rfl⟩) ?_
        refine lv_iload hx hb d_W_law_631 (lv_at hl 1 rfl) ?_
        refine lv_icmp_eq (tgt := 638) hx hb d_W_law_633 (by decide) (fun _ => ?_) (fun c_8 => absurd (rfl) c_8)
        refine lv_iload hx hb d_W_law_638 (lv_at hl 1 rfl) ?_
        refine lv_if_ne (tgt := 655) hx hb d_W_law_640 (by decide) (fun _ => ?_) (fun c_9 => absurd c_9 (by decide))
        refine lv_goto (tgt := 977) hx hb d_W_law_655 (by decide) ?_
        refine W.widen (k := 100000) (n := 1000000) (Nat.le_of_ble_eq_true rfl) (Nat.le_of_ble_eq_true rfl) ?_
        exact back H locs ls hS (lv_sub hl [2, 6] rfl)
      · obtain ⟨hP, hD⟩ := lQ_k hk hP hD
        have hPc : va_P D vwCl [zO 7 xa [.ref nw, .ref na, .int 0], zA t 4 na 7 (fun j => some (qq j 0)), zO 2 nw [.ref rw, .int 0, .int 0, .int 0, .int 0], zA t 3 rw 300 (fun _ => none), zO 3 (qq k 0) [.int (nI k), .ref nw, .int 0, .int 0, .int 0, .ref ((qq k 1)), .ref ((qq k 7)), .ref ((qq k 11)), .int 1, .int 0, .int 0, .int (nI (8 + 3 * k)), .int ((-1)), .int 0, .ref ((qq k 15))], zO 5 (qq k 1) [.ref ((qq k 2)), .ref ((qq k 3)), .ref ((qq k 4)), .ref ((qq k 5)), .ref ((qq k 6)), .int 1], zJ t (qq k 2) 32 (fun _ => 1099511627776), zI t (qq k 3) 8 (fun _ => 0), zJ t (qq k 4) 8 (fun _ => 0), zI t (qq k 5) 4 (xm 1), zI t (qq k 6) 4 (xm mk), zO 4 (qq k 7) [.ref ((qq k 8)), .ref ((qq k 9)), .ref ((qq k 10))], zI t (qq k 8) 32 (fun _ => 0), zI t (qq k 9) 32 (fun _ => 0), zA t 2 (qq k 10) 32 (fun _ => none), zO 4 (qq k 11) [.ref ((qq k 12)), .ref ((qq k 13)), .ref ((qq k 14))], zI t (qq k 12) 64 (fun _ => 0), zI t (qq k 13) 64 (fun _ => 0), zA t 2 (qq k 14) 64 (fun _ => none), zO 0 (qq k 15) [.ref ((no k)), .int 0, .ref ((qq k 16)), .ref ((qq k 20)), .ref ((qq k 24)), .int 0, .int 0, .int 0], zO 4 (qq k 16) [.ref ((qq k 17)), .ref ((qq k 18)), .ref ((qq k 19))], zI t (qq k 17) 32 (fun _ => 0), zI t (qq k 18) 32 (fun _ => 0), zA t 2 (qq k 19) 32 (fun _ => none), zO 4 (qq k 20) [.ref ((qq k 21)), .ref ((qq k 22)), .ref ((qq k 23))], zI t (qq k 21) 4 (fun _ => 0), zI t (qq k 22) 4 (fun _ => 0), zA t 2 (qq k 23) 4 (fun _ => none), zA t 2 (qq k 24) 16 (fun _ => none), zJ t ou 1 (fun _ => 0)] H := xd_P hP (fun q h => List.mem_append_right _ h)
        have hDc : va_D (fun q : Nat => s.heap.size ≤ q) [zO 7 xa [.ref nw, .ref na, .int 0], zA t 4 na 7 (fun j => some (qq j 0)), zO 2 nw [.ref rw, .int 0, .int 0, .int 0, .int 0], zA t 3 rw 300 (fun _ => none), zO 3 (qq k 0) [.int (nI k), .ref nw, .int 0, .int 0, .int 0, .ref ((qq k 1)), .ref ((qq k 7)), .ref ((qq k 11)), .int 1, .int 0, .int 0, .int (nI (8 + 3 * k)), .int ((-1)), .int 0, .ref ((qq k 15))], zO 5 (qq k 1) [.ref ((qq k 2)), .ref ((qq k 3)), .ref ((qq k 4)), .ref ((qq k 5)), .ref ((qq k 6)), .int 1], zJ t (qq k 2) 32 (fun _ => 1099511627776), zI t (qq k 3) 8 (fun _ => 0), zJ t (qq k 4) 8 (fun _ => 0), zI t (qq k 5) 4 (xm 1), zI t (qq k 6) 4 (xm mk), zO 4 (qq k 7) [.ref ((qq k 8)), .ref ((qq k 9)), .ref ((qq k 10))], zI t (qq k 8) 32 (fun _ => 0), zI t (qq k 9) 32 (fun _ => 0), zA t 2 (qq k 10) 32 (fun _ => none), zO 4 (qq k 11) [.ref ((qq k 12)), .ref ((qq k 13)), .ref ((qq k 14))], zI t (qq k 12) 64 (fun _ => 0), zI t (qq k 13) 64 (fun _ => 0), zA t 2 (qq k 14) 64 (fun _ => none), zO 0 (qq k 15) [.ref ((no k)), .int 0, .ref ((qq k 16)), .ref ((qq k 20)), .ref ((qq k 24)), .int 0, .int 0, .int 0], zO 4 (qq k 16) [.ref ((qq k 17)), .ref ((qq k 18)), .ref ((qq k 19))], zI t (qq k 17) 32 (fun _ => 0), zI t (qq k 18) 32 (fun _ => 0), zA t 2 (qq k 19) 32 (fun _ => none), zO 4 (qq k 20) [.ref ((qq k 21)), .ref ((qq k 22)), .ref ((qq k 23))], zI t (qq k 21) 4 (fun _ => 0), zI t (qq k 22) 4 (fun _ => 0), zA t 2 (qq k 23) 4 (fun _ => none), zA t 2 (qq k 24) 16 (fun _ => none), zJ t ou 1 (fun _ => 0)] := xd_R hD
        refine xe_sfxi (wr := lP t ma nb wy hd tk hli hst pq mk) (wc := [zO 7 xa [.ref nw, .ref na, .int 0], zA t 4 na 7 (fun j => some (qq j 0)), zO 2 nw [.ref rw, .int 0, .int 0, .int 0, .int 0], zA t 3 rw 300 (fun _ => none), zO 3 (qq k 0) [.int (nI k), .ref nw, .int 0, .int 0, .int 0, .ref ((qq k 1)), .ref ((qq k 7)), .ref ((qq k 11)), .int 1, .int 0, .int 0, .int (nI (8 + 3 * k)), .int ((-1)), .int 0, .ref ((qq k 15))], zO 5 (qq k 1) [.ref ((qq k 2)), .ref ((qq k 3)), .ref ((qq k 4)), .ref ((qq k 5)), .ref ((qq k 6)), .int 1], zJ t (qq k 2) 32 (fun _ => 1099511627776), zI t (qq k 3) 8 (fun _ => 0), zJ t (qq k 4) 8 (fun _ => 0), zI t (qq k 5) 4 (xm 1), zI t (qq k 6) 4 (xm mk), zO 4 (qq k 7) [.ref ((qq k 8)), .ref ((qq k 9)), .ref ((qq k 10))], zI t (qq k 8) 32 (fun _ => 0), zI t (qq k 9) 32 (fun _ => 0), zA t 2 (qq k 10) 32 (fun _ => none), zO 4 (qq k 11) [.ref ((qq k 12)), .ref ((qq k 13)), .ref ((qq k 14))], zI t (qq k 12) 64 (fun _ => 0), zI t (qq k 13) 64 (fun _ => 0), zA t 2 (qq k 14) 64 (fun _ => none), zO 0 (qq k 15) [.ref ((no k)), .int 0, .ref ((qq k 16)), .ref ((qq k 20)), .ref ((qq k 24)), .int 0, .int 0, .int 0], zO 4 (qq k 16) [.ref ((qq k 17)), .ref ((qq k 18)), .ref ((qq k 19))], zI t (qq k 17) 32 (fun _ => 0), zI t (qq k 18) 32 (fun _ => 0), zA t 2 (qq k 19) 32 (fun _ => none), zO 4 (qq k 20) [.ref ((qq k 21)), .ref ((qq k 22)), .ref ((qq k 23))], zI t (qq k 21) 4 (fun _ => 0), zI t (qq k 22) 4 (fun _ => 0), zA t 2 (qq k 23) 4 (fun _ => none), zA t 2 (qq k 24) 16 (fun _ => none), zJ t ou 1 (fun _ => 0)]) (xh_S (As := [.ref xa, .int (nI k), .int (nI j), .int a4, .int a5, .int a6, .int a7, .ref ou]) (rest := []) Z (R_ask l hfl D t xa nw na rw ou qq no mk k hk j hj a4 a5 a6 a7 h1 h2 h3 H.size) h_W_ask k_740 k_741 rfl rfl ⟨Nat.le_of_ble_eq_true rfl, Nat.le_of_ble_eq_true rfl⟩ (xh_pre hK hPc hDc hG (fun q hq => hS.2.1 q hq (Nat.not_le.mpr hq))) rfl hl.1 rfl (Nat.le_of_ble_eq_true rfl) d_W_law_579 ⟨Nat.le_of_ble_eq_true rfl, Nat.le_of_ble_eq_true rfl⟩) hP hD hS hA (fun r_ u_ H locs hw hP hD hS => ?_)
        obtain rfl := hw.symm
        refine lv_istore (lv' := [(5, .int 0), (4, .int 1), (3, .ref ou), (2, .ref ma), (1, .ref xa), (0, .ref b)]) hx hb d_W_law_582 hl (by decide) rfl (fun ls hl => ?_)
        refine lv_aload_n hx hb d_W_law_584 rfl (lv_at hl 3 rfl) ?_
        refine lv_aload_n hx hb d_W_law_585 rfl (lv_at hl 5 rfl) ?_
        refine lv_iload hx hb d_W_law_586 (lv_at hl 1 rfl) ?_
        refine lv_iconst (v := 1) hx hb d_W_law_588 (by decide) ?_
        refine lv_iadd hx hb d_W_law_589 ?_
        refine va_sld hx hb hX hbl hbA hS (by unfold vp_in; decide) d_W_law_590 ?_
        refine lv_topi (fun z9 ez9 => ?_)
        obtain rfl : nI k = z9 := ea2.trans ez9.symm
        refine lv_aload_n hx hb d_W_law_591 rfl (lv_at hl 5 rfl) ?_
        refine lv_iload hx hb d_W_law_592 (lv_at hl 1 rfl) ?_
        refine lv_iconst (v := 2) hx hb d_W_law_594 (by decide) ?_
        refine lv_iadd hx hb d_W_law_595 ?_
        refine va_sld hx hb hX hbl hbA hS (by unfold vp_in; decide) d_W_law_596 ?_
        refine lv_topi (fun z9 ez9 => ?_)
        obtain rfl : nI j = z9 := ea3.trans ez9.symm
        refine lv_aload_n hx hb d_W_law_597 rfl (lv_at hl 5 rfl) ?_
        refine lv_iload hx hb d_W_law_598 (lv_at hl 1 rfl) ?_
        refine lv_iconst (v := 3) hx hb d_W_law_600 (by decide) ?_
        refine lv_iadd hx hb d_W_law_601 ?_
        refine va_sld hx hb hX hbl hbA hS (by unfold vp_in; decide) d_W_law_602 ?_
        refine lv_topi (fun z9 ez9 => ?_)
        obtain rfl : a4 = z9 := ea4.trans ez9.symm
        refine lv_aload_n hx hb d_W_law_603 rfl (lv_at hl 5 rfl) ?_
        refine lv_iload hx hb d_W_law_604 (lv_at hl 1 rfl) ?_
        refine lv_iconst (v := 4) hx hb d_W_law_606 (by decide) ?_
        refine lv_iadd hx hb d_W_law_607 ?_
        refine va_sld hx hb hX hbl hbA hS (by unfold vp_in; decide) d_W_law_608 ?_
        refine lv_topi (fun z9 ez9 => ?_)
        obtain rfl : a5 = z9 := ea5.trans ez9.symm
        refine lv_aload_n hx hb d_W_law_609 rfl (lv_at hl 5 rfl) ?_
        refine lv_iload hx hb d_W_law_610 (lv_at hl 1 rfl) ?_
        refine lv_iconst (v := 5) hx hb d_W_law_612 (by decide) ?_
        refine lv_iadd hx hb d_W_law_613 ?_
        refine va_sld hx hb hX hbl hbA hS (by unfold vp_in; decide) d_W_law_614 ?_
        refine lv_topi (fun z9 ez9 => ?_)
        obtain rfl : a6 = z9 := ea6.trans ez9.symm
        refine lv_aload_n hx hb d_W_law_615 rfl (lv_at hl 5 rfl) ?_
        refine lv_iload hx hb d_W_law_616 (lv_at hl 1 rfl) ?_
        refine lv_bipush (v := 6) hx hb d_W_law_618 (by decide) ?_
        refine lv_iadd hx hb d_W_law_620 ?_
        refine va_sld hx hb hX hbl hbA hS (by unfold vp_in; decide) d_W_law_621 ?_
        refine lv_topi (fun z9 ez9 => ?_)
        obtain rfl : a7 = z9 := ea7.trans ez9.symm
        obtain ⟨hP, hD⟩ := lP_k hk hP hD
        have hP : va_P D vwCl [zJ t ou 1 (xo ((-1 : Int32).toInt64)), zO 13 ma [.int 0, .int 0, .int 0, .int 0, .int 0, .int 0, .ref nb, .ref wy, .ref hd, .ref tk], zA t 7 nb 7 (fun j => some (pq j 0)), zO 9 (pq k 0) [.int (nI k), .int 1, .int 0, .int 0, .int 0, .int 0, .int (nI (8 + 3 * k)), .int ((-1)), .int 0, .int 0, .ref ((pq k 1)), .ref ((pq k 7)), .ref ((pq k 11)), .ref ((pq k 15)), .ref ((pq k 19)), .ref ((pq k 23)), .int 0], zO 11 (pq k 1) [.int 0, .ref ((pq k 2)), .ref ((pq k 3)), .ref ((pq k 4)), .ref ((pq k 5)), .ref ((pq k 6)), .int 1], zJ t (pq k 2) 32 (fun _ => 1099511627776), zJ t (pq k 3) 8 (fun _ => 0), zI t (pq k 4) 8 (fun _ => 0), zI t (pq k 5) 4 (xm 1), zI t (pq k 6) 4 (xm mk), zO 10 (pq k 7) [.ref ((pq k 8)), .ref ((pq k 9)), .ref ((pq k 10)), .int 0], zI t (pq k 8) 8 (fun _ => 0), zI t (pq k 9) 8 (fun _ => 0), zA t 5 (pq k 10) 8 (fun _ => none), zO 10 (pq k 11) [.ref ((pq k 12)), .ref ((pq k 13)), .ref ((pq k 14)), .int 0], zI t (pq k 12) 8 (fun _ => 0), zI t (pq k 13) 8 (fun _ => 0), zA t 5 (pq k 14) 8 (fun _ => none), zO 10 (pq k 15) [.ref ((pq k 16)), .ref ((pq k 17)), .ref ((pq k 18)), .int 0], zI t (pq k 16) 8 (fun _ => 0), zI t (pq k 17) 8 (fun _ => 0), zA t 5 (pq k 18) 8 (fun _ => none), zO 10 (pq k 19) [.ref ((pq k 20)), .ref ((pq k 21)), .ref ((pq k 22)), .int 0], zI t (pq k 20) 8 (fun _ => 0), zI t (pq k 21) 8 (fun _ => 0), zA t 5 (pq k 22) 8 (fun _ => none), zA t 5 (pq k 23) 16 (fun _ => none)] H := hP
        have hD : va_D (fun q : Nat => s.heap.size ≤ q) [zJ t ou 1 (xo ((-1 : Int32).toInt64)), zO 13 ma [.int 0, .int 0, .int 0, .int 0, .int 0, .int 0, .ref nb, .ref wy, .ref hd, .ref tk], zA t 7 nb 7 (fun j => some (pq j 0)), zO 9 (pq k 0) [.int (nI k), .int 1, .int 0, .int 0, .int 0, .int 0, .int (nI (8 + 3 * k)), .int ((-1)), .int 0, .int 0, .ref ((pq k 1)), .ref ((pq k 7)), .ref ((pq k 11)), .ref ((pq k 15)), .ref ((pq k 19)), .ref ((pq k 23)), .int 0], zO 11 (pq k 1) [.int 0, .ref ((pq k 2)), .ref ((pq k 3)), .ref ((pq k 4)), .ref ((pq k 5)), .ref ((pq k 6)), .int 1], zJ t (pq k 2) 32 (fun _ => 1099511627776), zJ t (pq k 3) 8 (fun _ => 0), zI t (pq k 4) 8 (fun _ => 0), zI t (pq k 5) 4 (xm 1), zI t (pq k 6) 4 (xm mk), zO 10 (pq k 7) [.ref ((pq k 8)), .ref ((pq k 9)), .ref ((pq k 10)), .int 0], zI t (pq k 8) 8 (fun _ => 0), zI t (pq k 9) 8 (fun _ => 0), zA t 5 (pq k 10) 8 (fun _ => none), zO 10 (pq k 11) [.ref ((pq k 12)), .ref ((pq k 13)), .ref ((pq k 14)), .int 0], zI t (pq k 12) 8 (fun _ => 0), zI t (pq k 13) 8 (fun _ => 0), zA t 5 (pq k 14) 8 (fun _ => none), zO 10 (pq k 15) [.ref ((pq k 16)), .ref ((pq k 17)), .ref ((pq k 18)), .int 0], zI t (pq k 16) 8 (fun _ => 0), zI t (pq k 17) 8 (fun _ => 0), zA t 5 (pq k 18) 8 (fun _ => none), zO 10 (pq k 19) [.ref ((pq k 20)), .ref ((pq k 21)), .ref ((pq k 22)), .int 0], zI t (pq k 20) 8 (fun _ => 0), zI t (pq k 21) 8 (fun _ => 0), zA t 5 (pq k 22) 8 (fun _ => none), zA t 5 (pq k 23) 16 (fun _ => none)] := hD
        refine xe_calli (wr := [zJ t ou 1 (xo ((-1 : Int32).toInt64))]) (xs_V (As := [.int (nI k), .int (nI j), .int a4, .int a5, .int a6, .int a7]) (rest := []) Z (C_P_ask l D t ma nb wy hd tk 0 pq mk k hk j hj a4 a5 a6 a7 h1 h2 h3 H.size) m_P_ask k_1228 k_1229 k_1230 rfl rfl ⟨Nat.le_of_ble_eq_true rfl, Nat.le_of_ble_eq_true rfl⟩ (va_recv hK.2 hP (ci := 13) (q0 := 1) rfl rfl) (xe_pre hK (hP.sub [1, 2, 3, 4, 5, 6, 7, 8, 9, 10, 11, 12, 13, 14, 15, 16, 17, 18, 19, 20, 21, 22, 23, 24, 25, 26] rfl) (hD.sub [1, 2, 3, 4, 5, 6, 7, 8, 9, 10, 11, 12, 13, 14, 15, 16, 17, 18, 19, 20, 21, 22, 23, 24, 25, 26] (by decide) rfl)) rfl hl.1 rfl (Nat.le_of_ble_eq_true rfl) d_W_law_622 ⟨Nat.le_of_ble_eq_true rfl, Nat.le_of_ble_eq_true rfl⟩) hP hD hS hA [1, 2, 3, 4, 5, 6, 7, 8, 9, 10, 11, 12, 13, 14, 15, 16, 17, 18, 19, 20, 21, 22, 23, 24, 25, 26] [0] rfl rfl (by decide) (by decide) (fun r_10 u_ H locs hw hP hD hS => ?_)
        have hP : va_P D vwCl [zJ t ou 1 (xo ((-1 : Int32).toInt64)), zO 13 ma [.int 0, .int 0, .int 0, .int 0, .int 0, .int 0, .ref nb, .ref wy, .ref hd, .ref tk]] H := hP
        have hD : va_D (fun q : Nat => s.heap.size ≤ q) [zJ t ou 1 (xo ((-1 : Int32).toInt64)), zO 13 ma [.int 0, .int 0, .int 0, .int 0, .int 0, .int 0, .ref nb, .ref wy, .ref hd, .ref tk]] := hD
        obtain rfl := hw.symm
        refine lv_istore (lv' := [(6, .int ((-1))), (5, .int 0), (4, .int 1), (3, .ref ou), (2, .ref ma), (1, .ref xa), (0, .ref b)]) hx hb d_W_law_625 hl (by decide) rfl (fun ls hl => ?_)
        refine lv_aload_n hx hb d_W_law_627 rfl (lv_at hl 4 rfl) ?_
        refine xr_call (xs_V (As := []) (rest := []) Z (C_P_thrown l D t ma 0 (.int 0) (.int 0) (.int 0) (.int 0) (.int 0) (.ref nb) (.ref wy) (.ref hd) (.ref tk)) m_P_thrown k_1026 k_1027 k_1028 rfl rfl ⟨Nat.le_of_ble_eq_true rfl, Nat.le_of_ble_eq_true rfl⟩ (va_recv hK.2 hP (ci := 13) (q0 := 1) rfl rfl) (xr_pre hK (hP.sub [1] rfl)) rfl hl.1 rfl (Nat.le_of_ble_eq_true rfl) d_W_law_628 ⟨Nat.le_of_ble_eq_true rfl, Nat.le_of_ble_eq_true rfl⟩) ?_
        refine lv_iload hx hb d_W_law_631 (lv_at hl 1 rfl) ?_
        refine lv_icmp_eq (tgt := 638) hx hb d_W_law_633 (by decide) (fun _ => ?_) (fun c_11 => absurd (rfl) c_11)
        refine lv_iload hx hb d_W_law_638 (lv_at hl 1 rfl) ?_
        refine lv_if_ne (tgt := 655) hx hb d_W_law_640 (by decide) (fun c_12 => absurd c_12 (by decide)) (fun _ => ?_)
        refine lv_aload_n hx hb d_W_law_643 rfl (lv_at hl 3 rfl) ?_
        refine lv_iconst (v := 0) hx hb d_W_law_644 (by decide) ?_
        refine va_lald hx hb hK.2 hP 0 1 rfl rfl (by unfold vp_in; decide) d_W_law_645 ?_
        refine lv_iload hx hb d_W_law_646 (lv_at hl 0 rfl) ?_
        refine lv_i2l (v := ((-1) : Int32).toInt64) hx hb d_W_law_648 rfl ?_
        refine xl_lcmpE (x := (-1 : Int32).toInt64) hx hb d_W_law_649 ?_
        refine lv_if_eq (tgt := 655) hx hb d_W_law_650 (by decide) (fun _ => ?_) (fun c_13 => absurd (rfl) c_13)
        refine lv_goto (tgt := 977) hx hb d_W_law_655 (by decide) ?_
        refine W.widen (k := 100000) (n := 1000000) (Nat.le_of_ble_eq_true rfl) (Nat.le_of_ble_eq_true rfl) ?_
        exact back H locs ls hS (lv_sub hl [2, 6] rfl)
theorem d_W_law_658 : decode c_W_law 658 = .ok (.aload_n 1, 1) := by decide +kernel
theorem d_W_law_659 : decode c_W_law 659 = .ok (.aload_n 0, 1) := by decide +kernel
theorem d_W_law_660 : decode c_W_law 660 = .ok (.iload 4, 2) := by decide +kernel
theorem d_W_law_662 : decode c_W_law 662 = .ok (.iconst 1, 1) := by decide +kernel
theorem d_W_law_663 : decode c_W_law 663 = .ok (.iadd, 1) := by decide +kernel
theorem d_W_law_664 : decode c_W_law 664 = .ok (.iaload, 1) := by decide +kernel
theorem d_W_law_665 : decode c_W_law 665 = .ok (.aload_n 0, 1) := by decide +kernel
theorem d_W_law_666 : decode c_W_law 666 = .ok (.iload 4, 2) := by decide +kernel
theorem d_W_law_668 : decode c_W_law 668 = .ok (.iconst 2, 1) := by decide +kernel
theorem d_W_law_669 : decode c_W_law 669 = .ok (.iadd, 1) := by decide +kernel
theorem d_W_law_670 : decode c_W_law 670 = .ok (.iaload, 1) := by decide +kernel
theorem d_W_law_671 : decode c_W_law 671 = .ok (.aload_n 0, 1) := by decide +kernel
theorem d_W_law_672 : decode c_W_law 672 = .ok (.iload 4, 2) := by decide +kernel
theorem d_W_law_674 : decode c_W_law 674 = .ok (.iconst 3, 1) := by decide +kernel
theorem d_W_law_675 : decode c_W_law 675 = .ok (.iadd, 1) := by decide +kernel
theorem d_W_law_676 : decode c_W_law 676 = .ok (.iaload, 1) := by decide +kernel
theorem d_W_law_677 : decode c_W_law 677 = .ok (.aload_n 3, 1) := by decide +kernel
theorem d_W_law_678 : decode c_W_law 678 = .ok (.invokestatic 107, 3) := by decide +kernel
theorem d_W_law_681 : decode c_W_law 681 = .ok (.istore 5, 2) := by decide +kernel
theorem d_W_law_683 : decode c_W_law 683 = .ok (.aload_n 2, 1) := by decide +kernel
theorem d_W_law_684 : decode c_W_law 684 = .ok (.aload_n 0, 1) := by decide +kernel
theorem d_W_law_685 : decode c_W_law 685 = .ok (.iload 4, 2) := by decide +kernel
theorem d_W_law_687 : decode c_W_law 687 = .ok (.iconst 1, 1) := by decide +kernel
theorem d_W_law_688 : decode c_W_law 688 = .ok (.iadd, 1) := by decide +kernel
theorem d_W_law_689 : decode c_W_law 689 = .ok (.iaload, 1) := by decide +kernel
theorem d_W_law_690 : decode c_W_law 690 = .ok (.aload_n 0, 1) := by decide +kernel
theorem d_W_law_691 : decode c_W_law 691 = .ok (.iload 4, 2) := by decide +kernel
theorem d_W_law_693 : decode c_W_law 693 = .ok (.iconst 2, 1) := by decide +kernel
theorem d_W_law_694 : decode c_W_law 694 = .ok (.iadd, 1) := by decide +kernel
theorem d_W_law_695 : decode c_W_law 695 = .ok (.iaload, 1) := by decide +kernel
theorem d_W_law_696 : decode c_W_law 696 = .ok (.aload_n 0, 1) := by decide +kernel
theorem d_W_law_697 : decode c_W_law 697 = .ok (.iload 4, 2) := by decide +kernel
theorem d_W_law_699 : decode c_W_law 699 = .ok (.iconst 3, 1) := by decide +kernel
theorem d_W_law_700 : decode c_W_law 700 = .ok (.iadd, 1) := by decide +kernel
theorem d_W_law_701 : decode c_W_law 701 = .ok (.iaload, 1) := by decide +kernel
theorem d_W_law_702 : decode c_W_law 702 = .ok (.invokevirtual 110, 3) := by decide +kernel
theorem d_W_law_705 : decode c_W_law 705 = .ok (.lstore 6, 2) := by decide +kernel
theorem d_W_law_707 : decode c_W_law 707 = .ok (.aload_n 2, 1) := by decide +kernel
theorem d_W_law_708 : decode c_W_law 708 = .ok (.invokevirtual 76, 3) := by decide +kernel
theorem d_W_law_711 : decode c_W_law 711 = .ok (.iload 5, 2) := by decide +kernel
theorem d_W_law_713 : decode c_W_law 713 = .ok (.if_icmp .eq 5, 3) := by decide +kernel
theorem d_W_law_718 : decode c_W_law 718 = .ok (.iload 5, 2) := by decide +kernel
theorem d_W_law_720 : decode c_W_law 720 = .ok (.ifCond .ne 14, 3) := by decide +kernel
theorem d_W_law_723 : decode c_W_law 723 = .ok (.aload_n 3, 1) := by decide +kernel
theorem d_W_law_724 : decode c_W_law 724 = .ok (.iconst 0, 1) := by decide +kernel
theorem d_W_law_725 : decode c_W_law 725 = .ok (.laload, 1) := by decide +kernel
theorem d_W_law_726 : decode c_W_law 726 = .ok (.lload 6, 2) := by decide +kernel
theorem d_W_law_728 : decode c_W_law 728 = .ok (.lcmp, 1) := by decide +kernel
theorem d_W_law_729 : decode c_W_law 729 = .ok (.ifCond .eq 5, 3) := by decide +kernel
theorem d_W_law_734 : decode c_W_law 734 = .ok (.goto 243, 3) := by decide +kernel
set_option maxHeartbeats 4000000 in
set_option maxRecDepth 100000 in
/-- answer -/
theorem LW_answer {p : Program} {e : Env} {s : State} {m : MethodId} {below : List Frame} {meth : Method} {c : Code} (l : Launch) (hfl : l.flags = pinnedFlags ++ [noTraceFlag]) {b : Nat} {xs : Nat → Int32} (D : va_G) (t : Nat → ClassId) (Z : xF p m c code 8 s "QuorumStoreLaw" D vwCl (xTY t)) (hG : xg s) (hX : va_X b 8 xs s s.heap) (hbl : b < s.heap.size) (xa nw na rw ou ma nb wy hd tk hli hst : Nat) (qq pq : Nat → Nat → Nat) (no : Nat → Nat) (mk : Int32) {H : Heap} {locs : List Loc} {ls : Array Slot} (hP : va_P D vwCl (lP t ma nb wy hd tk hli hst pq mk ++ (lQ t xa nw na rw qq no mk ++ [zJ t ou 1 (fun _ => 0)])) H) (hD : va_D (fun q : Nat => s.heap.size ≤ q) (lP t ma nb wy hd tk hli hst pq mk ++ (lQ t xa nw na rw qq no mk ++ [zJ t ou 1 (fun _ => 0)]))) (hS : va_S (fun q : Nat => s.heap.size ≤ q) s.heap H locs) (hl : lv_has ls 8 [(4, .int 1), (3, .ref ou), (2, .ref ma), (1, .ref xa), (0, .ref b)])
    (back : ∀ (H : Heap) (locs : List Loc) (ls : Array Slot), va_S (fun q : Nat => s.heap.size ≤ q) s.heap H locs → lv_has ls 8 [(4, .int 1), (0, .ref b)] → W p l e room_1 s m #[Value.ref b] below meth c H locs 100000 1000000 (lw_Z below #[Value.ref b] s) (F0 m 977 ls [])) : W p l e room_1 s m #[Value.ref b] below meth c H locs 380 5892 (lw_Z below #[Value.ref b] s) (F0 m 658 ls []) := by
  obtain ⟨hx, hb, hml, hown, hK⟩ := id Z
  have hts := hK.1.at (args := #[Value.ref b])
  have hA : ∀ q : Nat, s.heap.size ≤ q → (fun q : Nat => s.heap.size ≤ q) q := fun _ h => h
  have hbA : ¬ (fun q : Nat => s.heap.size ≤ q) b := Nat.not_le.mpr hbl
  refine lv_aload_n hx hb d_W_law_658 rfl (lv_at hl 3 rfl) ?_
  refine lv_aload_n hx hb d_W_law_659 rfl (lv_at hl 4 rfl) ?_
  refine lv_iload hx hb d_W_law_660 (lv_at hl 0 rfl) ?_
  refine lv_iconst (v := 1) hx hb d_W_law_662 (by decide) ?_
  refine lv_iadd hx hb d_W_law_663 ?_
  refine va_sld hx hb hX hbl hbA hS (by unfold vp_in; decide) d_W_law_664 ?_
  refine lv_topi (fun a2 ea2 => ?_)
  refine lv_aload_n hx hb d_W_law_665 rfl (lv_at hl 4 rfl) ?_
  refine lv_iload hx hb d_W_law_666 (lv_at hl 0 rfl) ?_
  refine lv_iconst (v := 2) hx hb d_W_law_668 (by decide) ?_
  refine lv_iadd hx hb d_W_law_669 ?_
  refine va_sld hx hb hX hbl hbA hS (by unfold vp_in; decide) d_W_law_670 ?_
  refine lv_topi (fun a3 ea3 => ?_)
  refine lv_aload_n hx hb d_W_law_671 rfl (lv_at hl 4 rfl) ?_
  refine lv_iload hx hb d_W_law_672 (lv_at hl 0 rfl) ?_
  refine lv_iconst (v := 3) hx hb d_W_law_674 (by decide) ?_
  refine lv_iadd hx hb d_W_law_675 ?_
  refine va_sld hx hb hX hbl hbA hS (by unfold vp_in; decide) d_W_law_676 ?_
  refine lv_topi (fun a4 ea4 => ?_)
  refine lv_aload_n hx hb d_W_law_677 rfl (lv_at hl 1 rfl) ?_
  rcases xq_node a2 7 (by decide) with hn | ⟨k, hk, rfl⟩
  · obtain ⟨hP, hD⟩ := lQ_0 hP hD
    have hPc : va_P D vwCl [zO 7 xa [.ref nw, .ref na, .int 0], zA t 4 na 7 (fun j => some (qq j 0)), zO 2 nw [.ref rw, .int 0, .int 0, .int 0, .int 0], zA t 3 rw 300 (fun _ => none), zJ t ou 1 (fun _ => 0)] H := xd_P hP (fun q h => List.mem_append_right _ h)
    have hDc : va_D (fun q : Nat => s.heap.size ≤ q) [zO 7 xa [.ref nw, .ref na, .int 0], zA t 4 na 7 (fun j => some (qq j 0)), zO 2 nw [.ref rw, .int 0, .int 0, .int 0, .int 0], zA t 3 rw 300 (fun _ => none), zJ t ou 1 (fun _ => 0)] := xd_R hD
    refine xe_sfxi (wr := lP t ma nb wy hd tk hli hst pq mk) (wc := [zO 7 xa [.ref nw, .ref na, .int 0], zA t 4 na 7 (fun j => some (qq j 0)), zO 2 nw [.ref rw, .int 0, .int 0, .int 0, .int 0], zA t 3 rw 300 (fun _ => none), zJ t ou 1 (fun _ => 0)]) (xh_S (As := [.ref xa, .int a2, .int a3, .int a4, .ref ou]) (rest := []) Z (H_answer l hfl D t xa nw na rw ou qq a2 a3 a4 hn H.size) h_W_answer k_777 k_778 rfl rfl ⟨Nat.le_of_ble_eq_true rfl, Nat.le_of_ble_eq_true rfl⟩ (xh_pre hK hPc hDc hG (fun q hq => hS.2.1 q hq (Nat.not_le.mpr hq))) rfl hl.1 rfl (Nat.le_of_ble_eq_true rfl) d_W_law_678 ⟨Nat.le_of_ble_eq_true rfl, Nat.le_of_ble_eq_true rfl⟩) hP hD hS hA (fun r_ u_ H locs hw hP hD hS => ?_)
    obtain rfl := hw.symm
    refine lv_istore (lv' := [(5, .int 1), (4, .int 1), (3, .ref ou), (2, .ref ma), (1, .ref xa), (0, .ref b)]) hx hb d_W_law_681 hl (by decide) rfl (fun ls hl => ?_)
    refine lv_aload_n hx hb d_W_law_683 rfl (lv_at hl 3 rfl) ?_
    refine lv_aload_n hx hb d_W_law_684 rfl (lv_at hl 5 rfl) ?_
    refine lv_iload hx hb d_W_law_685 (lv_at hl 1 rfl) ?_
    refine lv_iconst (v := 1) hx hb d_W_law_687 (by decide) ?_
    refine lv_iadd hx hb d_W_law_688 ?_
    refine va_sld hx hb hX hbl hbA hS (by unfold vp_in; decide) d_W_law_689 ?_
    refine lv_topi (fun z9 ez9 => ?_)
    obtain rfl : a2 = z9 := ea2.trans ez9.symm
    refine lv_aload_n hx hb d_W_law_690 rfl (lv_at hl 5 rfl) ?_
    refine lv_iload hx hb d_W_law_691 (lv_at hl 1 rfl) ?_
    refine lv_iconst (v := 2) hx hb d_W_law_693 (by decide) ?_
    refine lv_iadd hx hb d_W_law_694 ?_
    refine va_sld hx hb hX hbl hbA hS (by unfold vp_in; decide) d_W_law_695 ?_
    refine lv_topi (fun z9 ez9 => ?_)
    obtain rfl : a3 = z9 := ea3.trans ez9.symm
    refine lv_aload_n hx hb d_W_law_696 rfl (lv_at hl 5 rfl) ?_
    refine lv_iload hx hb d_W_law_697 (lv_at hl 1 rfl) ?_
    refine lv_iconst (v := 3) hx hb d_W_law_699 (by decide) ?_
    refine lv_iadd hx hb d_W_law_700 ?_
    refine va_sld hx hb hX hbl hbA hS (by unfold vp_in; decide) d_W_law_701 ?_
    refine lv_topi (fun z9 ez9 => ?_)
    obtain rfl : a4 = z9 := ea4.trans ez9.symm
    obtain ⟨hP, hD⟩ := lP_0 hP hD
    have hP : va_P D vwCl [zO 13 ma [.int 0, .int 0, .int 0, .int 0, .int 0, .int 0, .ref nb, .ref wy, .ref hd, .ref tk]] H := hP
    have hD : va_D (fun q : Nat => s.heap.size ≤ q) [zO 13 ma [.int 0, .int 0, .int 0, .int 0, .int 0, .int 0, .ref nb, .ref wy, .ref hd, .ref tk]] := hD
    refine xe_calll (wr := []) (xs_V (As := [.int a2, .int a3, .int a4]) (rest := []) Z (C_P_answer_1 l D t ma nb wy hd tk 0 a2 a3 a4 hn H.size) m_P_answer k_1263 k_1264 k_1265 rfl rfl ⟨Nat.le_of_ble_eq_true rfl, Nat.le_of_ble_eq_true rfl⟩ (va_recv hK.2 hP (ci := 13) (q0 := 0) rfl rfl) (xe_pre hK (hP.sub [0] rfl) (hD.sub [0] (by decide) rfl)) rfl hl.1 rfl (Nat.le_of_ble_eq_true rfl) d_W_law_702 ⟨Nat.le_of_ble_eq_true rfl, Nat.le_of_ble_eq_true rfl⟩) hP hD hS hA [0] [] rfl rfl (by decide) (by decide) (fun r_ u_ H locs hw hP hD hS => ?_)
    have hP : va_P D vwCl [zO 13 ma [.int 1, .int 0, .int 0, .int 0, .int 0, .int 0, .ref nb, .ref wy, .ref hd, .ref tk]] H := hP
    have hD : va_D (fun q : Nat => s.heap.size ≤ q) [zO 13 ma [.int 1, .int 0, .int 0, .int 0, .int 0, .int 0, .ref nb, .ref wy, .ref hd, .ref tk]] := hD
    obtain rfl := hw.symm
    refine lv_lstore (lv' := [(6, .long 0), (5, .int 1), (4, .int 1), (3, .ref ou), (2, .ref ma), (1, .ref xa), (0, .ref b)]) hx hb d_W_law_705 hl (by decide) rfl (fun ls hl => ?_)
    refine lv_aload_n hx hb d_W_law_707 rfl (lv_at hl 4 rfl) ?_
    refine xr_call (xs_V (As := []) (rest := []) Z (C_P_thrown l D t ma 1 (.int 0) (.int 0) (.int 0) (.int 0) (.int 0) (.ref nb) (.ref wy) (.ref hd) (.ref tk)) m_P_thrown k_1026 k_1027 k_1028 rfl rfl ⟨Nat.le_of_ble_eq_true rfl, Nat.le_of_ble_eq_true rfl⟩ (va_recv hK.2 hP (ci := 13) (q0 := 0) rfl rfl) (xr_pre hK (hP.sub [0] rfl)) rfl hl.1 rfl (Nat.le_of_ble_eq_true rfl) d_W_law_708 ⟨Nat.le_of_ble_eq_true rfl, Nat.le_of_ble_eq_true rfl⟩) ?_
    refine lv_iload hx hb d_W_law_711 (lv_at hl 1 rfl) ?_
    refine lv_icmp_eq (tgt := 718) hx hb d_W_law_713 (by decide) (fun _ => ?_) (fun c_1 => absurd (rfl) c_1)
    refine lv_iload hx hb d_W_law_718 (lv_at hl 1 rfl) ?_
    refine lv_if_ne (tgt := 734) hx hb d_W_law_720 (by decide) (fun _ => ?_) (fun c_2 => absurd c_2 (by decide))
    refine lv_goto (tgt := 977) hx hb d_W_law_734 (by decide) ?_
    refine W.widen (k := 100000) (n := 1000000) (Nat.le_of_ble_eq_true rfl) (Nat.le_of_ble_eq_true rfl) ?_
    exact back H locs ls hS (lv_sub hl [2, 6] rfl)
  · rcases xq_node a3 8 (by decide) with hc | ⟨j, hj, rfl⟩
    · obtain ⟨hP, hD⟩ := lQ_k hk hP hD
      have hPc : va_P D vwCl [zO 7 xa [.ref nw, .ref na, .int 0], zA t 4 na 7 (fun j => some (qq j 0)), zO 2 nw [.ref rw, .int 0, .int 0, .int 0, .int 0], zA t 3 rw 300 (fun _ => none), zO 3 (qq k 0) [.int (nI k), .ref nw, .int 0, .int 0, .int 0, .ref ((qq k 1)), .ref ((qq k 7)), .ref ((qq k 11)), .int 1, .int 0, .int 0, .int (nI (8 + 3 * k)), .int ((-1)), .int 0, .ref ((qq k 15))], zO 5 (qq k 1) [.ref ((qq k 2)), .ref ((qq k 3)), .ref ((qq k 4)), .ref ((qq k 5)), .ref ((qq k 6)), .int 1], zJ t (qq k 2) 32 (fun _ => 1099511627776), zI t (qq k 3) 8 (fun _ => 0), zJ t (qq k 4) 8 (fun _ => 0), zI t (qq k 5) 4 (xm 1), zI t (qq k 6) 4 (xm mk), zO 4 (qq k 7) [.ref ((qq k 8)), .ref ((qq k 9)), .ref ((qq k 10))], zI t (qq k 8) 32 (fun _ => 0), zI t (qq k 9) 32 (fun _ => 0), zA t 2 (qq k 10) 32 (fun _ => none), zO 4 (qq k 11) [.ref ((qq k 12)), .ref ((qq k 13)), .ref ((qq k 14))], zI t (qq k 12) 64 (fun _ => 0), zI t (qq k 13) 64 (fun _ => 0), zA t 2 (qq k 14) 64 (fun _ => none), zO 0 (qq k 15) [.ref ((no k)), .int 0, .ref ((qq k 16)), .ref ((qq k 20)), .ref ((qq k 24)), .int 0, .int 0, .int 0], zO 4 (qq k 16) [.ref ((qq k 17)), .ref ((qq k 18)), .ref ((qq k 19))], zI t (qq k 17) 32 (fun _ => 0), zI t (qq k 18) 32 (fun _ => 0), zA t 2 (qq k 19) 32 (fun _ => none), zO 4 (qq k 20) [.ref ((qq k 21)), .ref ((qq k 22)), .ref ((qq k 23))], zI t (qq k 21) 4 (fun _ => 0), zI t (qq k 22) 4 (fun _ => 0), zA t 2 (qq k 23) 4 (fun _ => none), zA t 2 (qq k 24) 16 (fun _ => none), zJ t ou 1 (fun _ => 0)] H := xd_P hP (fun q h => List.mem_append_right _ h)
      have hDc : va_D (fun q : Nat => s.heap.size ≤ q) [zO 7 xa [.ref nw, .ref na, .int 0], zA t 4 na 7 (fun j => some (qq j 0)), zO 2 nw [.ref rw, .int 0, .int 0, .int 0, .int 0], zA t 3 rw 300 (fun _ => none), zO 3 (qq k 0) [.int (nI k), .ref nw, .int 0, .int 0, .int 0, .ref ((qq k 1)), .ref ((qq k 7)), .ref ((qq k 11)), .int 1, .int 0, .int 0, .int (nI (8 + 3 * k)), .int ((-1)), .int 0, .ref ((qq k 15))], zO 5 (qq k 1) [.ref ((qq k 2)), .ref ((qq k 3)), .ref ((qq k 4)), .ref ((qq k 5)), .ref ((qq k 6)), .int 1], zJ t (qq k 2) 32 (fun _ => 1099511627776), zI t (qq k 3) 8 (fun _ => 0), zJ t (qq k 4) 8 (fun _ => 0), zI t (qq k 5) 4 (xm 1), zI t (qq k 6) 4 (xm mk), zO 4 (qq k 7) [.ref ((qq k 8)), .ref ((qq k 9)), .ref ((qq k 10))], zI t (qq k 8) 32 (fun _ => 0), zI t (qq k 9) 32 (fun _ => 0), zA t 2 (qq k 10) 32 (fun _ => none), zO 4 (qq k 11) [.ref ((qq k 12)), .ref ((qq k 13)), .ref ((qq k 14))], zI t (qq k 12) 64 (fun _ => 0), zI t (qq k 13) 64 (fun _ => 0), zA t 2 (qq k 14) 64 (fun _ => none), zO 0 (qq k 15) [.ref ((no k)), .int 0, .ref ((qq k 16)), .ref ((qq k 20)), .ref ((qq k 24)), .int 0, .int 0, .int 0], zO 4 (qq k 16) [.ref ((qq k 17)), .ref ((qq k 18)), .ref ((qq k 19))], zI t (qq k 17) 32 (fun _ => 0), zI t (qq k 18) 32 (fun _ => 0), zA t 2 (qq k 19) 32 (fun _ => none), zO 4 (qq k 20) [.ref ((qq k 21)), .ref ((qq k 22)), .ref ((qq k 23))], zI t (qq k 21) 4 (fun _ => 0), zI t (qq k 22) 4 (fun _ => 0), zA t 2 (qq k 23) 4 (fun _ => none), zA t 2 (qq k 24) 16 (fun _ => none), zJ t ou 1 (fun _ => 0)] := xd_R hD
      refine xe_sfxi (wr := lP t ma nb wy hd tk hli hst pq mk) (wc := [zO 7 xa [.ref nw, .ref na, .int 0], zA t 4 na 7 (fun j => some (qq j 0)), zO 2 nw [.ref rw, .int 0, .int 0, .int 0, .int 0], zA t 3 rw 300 (fun _ => none), zO 3 (qq k 0) [.int (nI k), .ref nw, .int 0, .int 0, .int 0, .ref ((qq k 1)), .ref ((qq k 7)), .ref ((qq k 11)), .int 1, .int 0, .int 0, .int (nI (8 + 3 * k)), .int ((-1)), .int 0, .ref ((qq k 15))], zO 5 (qq k 1) [.ref ((qq k 2)), .ref ((qq k 3)), .ref ((qq k 4)), .ref ((qq k 5)), .ref ((qq k 6)), .int 1], zJ t (qq k 2) 32 (fun _ => 1099511627776), zI t (qq k 3) 8 (fun _ => 0), zJ t (qq k 4) 8 (fun _ => 0), zI t (qq k 5) 4 (xm 1), zI t (qq k 6) 4 (xm mk), zO 4 (qq k 7) [.ref ((qq k 8)), .ref ((qq k 9)), .ref ((qq k 10))], zI t (qq k 8) 32 (fun _ => 0), zI t (qq k 9) 32 (fun _ => 0), zA t 2 (qq k 10) 32 (fun _ => none), zO 4 (qq k 11) [.ref ((qq k 12)), .ref ((qq k 13)), .ref ((qq k 14))], zI t (qq k 12) 64 (fun _ => 0), zI t (qq k 13) 64 (fun _ => 0), zA t 2 (qq k 14) 64 (fun _ => none), zO 0 (qq k 15) [.ref ((no k)), .int 0, .ref ((qq k 16)), .ref ((qq k 20)), .ref ((qq k 24)), .int 0, .int 0, .int 0], zO 4 (qq k 16) [.ref ((qq k 17)), .ref ((qq k 18)), .ref ((qq k 19))], zI t (qq k 17) 32 (fun _ => 0), zI t (qq k 18) 32 (fun _ => 0), zA t 2 (qq k 19) 32 (fun _ => none), zO 4 (qq k 20) [.ref ((qq k 21)), .ref ((qq k 22)), .ref ((qq k 23))], zI t (qq k 21) 4 (fun _ => 0), zI t (qq k 22) 4 (fun _ => 0), zA t 2 (qq k 23) 4 (fun _ => none), zA t 2 (qq k 24) 16 (fun _ => none), zJ t ou 1 (fun _ => 0)]) (xh_S (As := [.ref xa, .int (nI k), .int a3, .int a4, .ref ou]) (rest := []) Z (H2_answer l hfl D t xa nw na rw ou qq no mk k hk a3 a4 hc H.size) h_W_answer k_777 k_778 rfl rfl ⟨Nat.le_of_ble_eq_true rfl, Nat.le_of_ble_eq_true rfl⟩ (xh_pre hK hPc hDc hG (fun q hq => hS.2.1 q hq (Nat.not_le.mpr hq))) rfl hl.1 rfl (Nat.le_of_ble_eq_true rfl) d_W_law_678 ⟨Nat.le_of_ble_eq_true rfl, Nat.le_of_ble_eq_true rfl⟩) hP hD hS hA (fun r_ u_ H locs hw hP hD hS => ?_)
      obtain rfl := hw.symm
      refine lv_istore (lv' := [(5, .int 1), (4, .int 1), (3, .ref ou), (2, .ref ma), (1, .ref xa), (0, .ref b)]) hx hb d_W_law_681 hl (by decide) rfl (fun ls hl => ?_)
      refine lv_aload_n hx hb d_W_law_683 rfl (lv_at hl 3 rfl) ?_
      refine lv_aload_n hx hb d_W_law_684 rfl (lv_at hl 5 rfl) ?_
      refine lv_iload hx hb d_W_law_685 (lv_at hl 1 rfl) ?_
      refine lv_iconst (v := 1) hx hb d_W_law_687 (by decide) ?_
      refine lv_iadd hx hb d_W_law_688 ?_
      refine va_sld hx hb hX hbl hbA hS (by unfold vp_in; decide) d_W_law_689 ?_
      refine lv_topi (fun z9 ez9 => ?_)
      obtain rfl : nI k = z9 := ea2.trans ez9.symm
      refine lv_aload_n hx hb d_W_law_690 rfl (lv_at hl 5 rfl) ?_
      refine lv_iload hx hb d_W_law_691 (lv_at hl 1 rfl) ?_
      refine lv_iconst (v := 2) hx hb d_W_law_693 (by decide) ?_
      refine lv_iadd hx hb d_W_law_694 ?_
      refine va_sld hx hb hX hbl hbA hS (by unfold vp_in; decide) d_W_law_695 ?_
      refine lv_topi (fun z9 ez9 => ?_)
      obtain rfl : a3 = z9 := ea3.trans ez9.symm
      refine lv_aload_n hx hb d_W_law_696 rfl (lv_at hl 5 rfl) ?_
      refine lv_iload hx hb d_W_law_697 (lv_at hl 1 rfl) ?_
      refine lv_iconst (v := 3) hx hb d_W_law_699 (by decide) ?_
      refine lv_iadd hx hb d_W_law_700 ?_
      refine va_sld hx hb hX hbl hbA hS (by unfold vp_in; decide) d_W_law_701 ?_
      refine lv_topi (fun z9 ez9 => ?_)
      obtain rfl : a4 = z9 := ea4.trans ez9.symm
      obtain ⟨hP, hD⟩ := lP_0 hP hD
      have hP : va_P D vwCl [zO 13 ma [.int 0, .int 0, .int 0, .int 0, .int 0, .int 0, .ref nb, .ref wy, .ref hd, .ref tk]] H := hP
      have hD : va_D (fun q : Nat => s.heap.size ≤ q) [zO 13 ma [.int 0, .int 0, .int 0, .int 0, .int 0, .int 0, .ref nb, .ref wy, .ref hd, .ref tk]] := hD
      refine xe_calll (wr := []) (xs_V (As := [.int (nI k), .int a3, .int a4]) (rest := []) Z (C_P_answer_2 l D t ma nb wy hd tk 0 k hk a3 a4 hc H.size) m_P_answer k_1263 k_1264 k_1265 rfl rfl ⟨Nat.le_of_ble_eq_true rfl, Nat.le_of_ble_eq_true rfl⟩ (va_recv hK.2 hP (ci := 13) (q0 := 0) rfl rfl) (xe_pre hK (hP.sub [0] rfl) (hD.sub [0] (by decide) rfl)) rfl hl.1 rfl (Nat.le_of_ble_eq_true rfl) d_W_law_702 ⟨Nat.le_of_ble_eq_true rfl, Nat.le_of_ble_eq_true rfl⟩) hP hD hS hA [0] [] rfl rfl (by decide) (by decide) (fun r_ u_ H locs hw hP hD hS => ?_)
      have hP : va_P D vwCl [zO 13 ma [.int 1, .int 0, .int 0, .int 0, .int 0, .int 0, .ref nb, .ref wy, .ref hd, .ref tk]] H := hP
      have hD : va_D (fun q : Nat => s.heap.size ≤ q) [zO 13 ma [.int 1, .int 0, .int 0, .int 0, .int 0, .int 0, .ref nb, .ref wy, .ref hd, .ref tk]] := hD
      obtain rfl := hw.symm
      refine lv_lstore (lv' := [(6, .long 0), (5, .int 1), (4, .int 1), (3, .ref ou), (2, .ref ma), (1, .ref xa), (0, .ref b)]) hx hb d_W_law_705 hl (by decide) rfl (fun ls hl => ?_)
      refine lv_aload_n hx hb d_W_law_707 rfl (lv_at hl 4 rfl) ?_
      refine xr_call (xs_V (As := []) (rest := []) Z (C_P_thrown l D t ma 1 (.int 0) (.int 0) (.int 0) (.int 0) (.int 0) (.ref nb) (.ref wy) (.ref hd) (.ref tk)) m_P_thrown k_1026 k_1027 k_1028 rfl rfl ⟨Nat.le_of_ble_eq_true rfl, Nat.le_of_ble_eq_true rfl⟩ (va_recv hK.2 hP (ci := 13) (q0 := 0) rfl rfl) (xr_pre hK (hP.sub [0] rfl)) rfl hl.1 rfl (Nat.le_of_ble_eq_true rfl) d_W_law_708 ⟨Nat.le_of_ble_eq_true rfl, Nat.le_of_ble_eq_true rfl⟩) ?_
      refine lv_iload hx hb d_W_law_711 (lv_at hl 1 rfl) ?_
      refine lv_icmp_eq (tgt := 718) hx hb d_W_law_713 (by decide) (fun _ => ?_) (fun c_3 => absurd (rfl) c_3)
      refine lv_iload hx hb d_W_law_718 (lv_at hl 1 rfl) ?_
      refine lv_if_ne (tgt := 734) hx hb d_W_law_720 (by decide) (fun _ => ?_) (fun c_4 => absurd c_4 (by decide))
      refine lv_goto (tgt := 977) hx hb d_W_law_734 (by decide) ?_
      refine W.widen (k := 100000) (n := 1000000) (Nat.le_of_ble_eq_true rfl) (Nat.le_of_ble_eq_true rfl) ?_
      exact back H locs ls hS (lv_sub hl [2, 6] rfl)
    · rcases xq_01 a4 with rfl | rfl | ⟨h0, h1⟩
      · obtain ⟨hP, hD⟩ := lQ_k hk hP hD
        have hPc : va_P D vwCl [zO 7 xa [.ref nw, .ref na, .int 0], zA t 4 na 7 (fun j => some (qq j 0)), zO 2 nw [.ref rw, .int 0, .int 0, .int 0, .int 0], zA t 3 rw 300 (fun _ => none), zO 3 (qq k 0) [.int (nI k), .ref nw, .int 0, .int 0, .int 0, .ref ((qq k 1)), .ref ((qq k 7)), .ref ((qq k 11)), .int 1, .int 0, .int 0, .int (nI (8 + 3 * k)), .int ((-1)), .int 0, .ref ((qq k 15))], zO 5 (qq k 1) [.ref ((qq k 2)), .ref ((qq k 3)), .ref ((qq k 4)), .ref ((qq k 5)), .ref ((qq k 6)), .int 1], zJ t (qq k 2) 32 (fun _ => 1099511627776), zI t (qq k 3) 8 (fun _ => 0), zJ t (qq k 4) 8 (fun _ => 0), zI t (qq k 5) 4 (xm 1), zI t (qq k 6) 4 (xm mk), zO 4 (qq k 7) [.ref ((qq k 8)), .ref ((qq k 9)), .ref ((qq k 10))], zI t (qq k 8) 32 (fun _ => 0), zI t (qq k 9) 32 (fun _ => 0), zA t 2 (qq k 10) 32 (fun _ => none), zO 4 (qq k 11) [.ref ((qq k 12)), .ref ((qq k 13)), .ref ((qq k 14))], zI t (qq k 12) 64 (fun _ => 0), zI t (qq k 13) 64 (fun _ => 0), zA t 2 (qq k 14) 64 (fun _ => none), zO 0 (qq k 15) [.ref ((no k)), .int 0, .ref ((qq k 16)), .ref ((qq k 20)), .ref ((qq k 24)), .int 0, .int 0, .int 0], zO 4 (qq k 16) [.ref ((qq k 17)), .ref ((qq k 18)), .ref ((qq k 19))], zI t (qq k 17) 32 (fun _ => 0), zI t (qq k 18) 32 (fun _ => 0), zA t 2 (qq k 19) 32 (fun _ => none), zO 4 (qq k 20) [.ref ((qq k 21)), .ref ((qq k 22)), .ref ((qq k 23))], zI t (qq k 21) 4 (fun _ => 0), zI t (qq k 22) 4 (fun _ => 0), zA t 2 (qq k 23) 4 (fun _ => none), zA t 2 (qq k 24) 16 (fun _ => none), zJ t ou 1 (fun _ => 0)] H := xd_P hP (fun q h => List.mem_append_right _ h)
        have hDc : va_D (fun q : Nat => s.heap.size ≤ q) [zO 7 xa [.ref nw, .ref na, .int 0], zA t 4 na 7 (fun j => some (qq j 0)), zO 2 nw [.ref rw, .int 0, .int 0, .int 0, .int 0], zA t 3 rw 300 (fun _ => none), zO 3 (qq k 0) [.int (nI k), .ref nw, .int 0, .int 0, .int 0, .ref ((qq k 1)), .ref ((qq k 7)), .ref ((qq k 11)), .int 1, .int 0, .int 0, .int (nI (8 + 3 * k)), .int ((-1)), .int 0, .ref ((qq k 15))], zO 5 (qq k 1) [.ref ((qq k 2)), .ref ((qq k 3)), .ref ((qq k 4)), .ref ((qq k 5)), .ref ((qq k 6)), .int 1], zJ t (qq k 2) 32 (fun _ => 1099511627776), zI t (qq k 3) 8 (fun _ => 0), zJ t (qq k 4) 8 (fun _ => 0), zI t (qq k 5) 4 (xm 1), zI t (qq k 6) 4 (xm mk), zO 4 (qq k 7) [.ref ((qq k 8)), .ref ((qq k 9)), .ref ((qq k 10))], zI t (qq k 8) 32 (fun _ => 0), zI t (qq k 9) 32 (fun _ => 0), zA t 2 (qq k 10) 32 (fun _ => none), zO 4 (qq k 11) [.ref ((qq k 12)), .ref ((qq k 13)), .ref ((qq k 14))], zI t (qq k 12) 64 (fun _ => 0), zI t (qq k 13) 64 (fun _ => 0), zA t 2 (qq k 14) 64 (fun _ => none), zO 0 (qq k 15) [.ref ((no k)), .int 0, .ref ((qq k 16)), .ref ((qq k 20)), .ref ((qq k 24)), .int 0, .int 0, .int 0], zO 4 (qq k 16) [.ref ((qq k 17)), .ref ((qq k 18)), .ref ((qq k 19))], zI t (qq k 17) 32 (fun _ => 0), zI t (qq k 18) 32 (fun _ => 0), zA t 2 (qq k 19) 32 (fun _ => none), zO 4 (qq k 20) [.ref ((qq k 21)), .ref ((qq k 22)), .ref ((qq k 23))], zI t (qq k 21) 4 (fun _ => 0), zI t (qq k 22) 4 (fun _ => 0), zA t 2 (qq k 23) 4 (fun _ => none), zA t 2 (qq k 24) 16 (fun _ => none), zJ t ou 1 (fun _ => 0)] := xd_R hD
        refine xe_sfxi (wr := lP t ma nb wy hd tk hli hst pq mk) (wc := [zO 7 xa [.ref nw, .ref na, .int 0], zA t 4 na 7 (fun j => some (qq j 0)), zO 2 nw [.ref rw, .int 0, .int 0, .int 0, .int 0], zA t 3 rw 300 (fun _ => none), zO 3 (qq k 0) [.int (nI k), .ref nw, .int 0, .int 0, .int 0, .ref ((qq k 1)), .ref ((qq k 7)), .ref ((qq k 11)), .int 1, .int 0, .int 0, .int (nI (8 + 3 * k)), .int ((-1)), .int 0, .ref ((qq k 15))], zO 5 (qq k 1) [.ref ((qq k 2)), .ref ((qq k 3)), .ref ((qq k 4)), .ref ((qq k 5)), .ref ((qq k 6)), .int 1], zJ t (qq k 2) 32 (fun _ => 1099511627776), zI t (qq k 3) 8 (fun _ => 0), zJ t (qq k 4) 8 (fun _ => 0), zI t (qq k 5) 4 (xm 1), zI t (qq k 6) 4 (xm mk), zO 4 (qq k 7) [.ref ((qq k 8)), .ref ((qq k 9)), .ref ((qq k 10))], zI t (qq k 8) 32 (fun _ => 0), zI t (qq k 9) 32 (fun _ => 0), zA t 2 (qq k 10) 32 (fun _ => none), zO 4 (qq k 11) [.ref ((qq k 12)), .ref ((qq k 13)), .ref ((qq k 14))], zI t (qq k 12) 64 (fun _ => 0), zI t (qq k 13) 64 (fun _ => 0), zA t 2 (qq k 14) 64 (fun _ => none), zO 0 (qq k 15) [.ref ((no k)), .int 0, .ref ((qq k 16)), .ref ((qq k 20)), .ref ((qq k 24)), .int 0, .int 0, .int 0], zO 4 (qq k 16) [.ref ((qq k 17)), .ref ((qq k 18)), .ref ((qq k 19))], zI t (qq k 17) 32 (fun _ => 0), zI t (qq k 18) 32 (fun _ => 0), zA t 2 (qq k 19) 32 (fun _ => none), zO 4 (qq k 20) [.ref ((qq k 21)), .ref ((qq k 22)), .ref ((qq k 23))], zI t (qq k 21) 4 (fun _ => 0), zI t (qq k 22) 4 (fun _ => 0), zA t 2 (qq k 23) 4 (fun _ => none), zA t 2 (qq k 24) 16 (fun _ => none), zJ t ou 1 (fun _ => 0)]) (xh_S (As := [.ref xa, .int (nI k), .int (nI j), .int 0, .ref ou]) (rest := []) Z (R0_answer l hfl D t xa nw na rw ou qq no mk k hk j hj H.size) h_W_answer k_777 k_778 rfl rfl ⟨Nat.le_of_ble_eq_true rfl, Nat.le_of_ble_eq_true rfl⟩ (xh_pre hK hPc hDc hG (fun q hq => hS.2.1 q hq (Nat.not_le.mpr hq))) rfl hl.1 rfl (Nat.le_of_ble_eq_true rfl) d_W_law_678 ⟨Nat.le_of_ble_eq_true rfl, Nat.le_of_ble_eq_true rfl⟩) hP hD hS hA (fun r_ u_ H locs hw hP hD hS => ?_)
        obtain rfl := hw.symm
        refine lv_istore (lv' := [(5, .int 0), (4, .int 1), (3, .ref ou), (2, .ref ma), (1, .ref xa), (0, .ref b)]) hx hb d_W_law_681 hl (by decide) rfl (fun ls hl => ?_)
        refine lv_aload_n hx hb d_W_law_683 rfl (lv_at hl 3 rfl) ?_
        refine lv_aload_n hx hb d_W_law_684 rfl (lv_at hl 5 rfl) ?_
        refine lv_iload hx hb d_W_law_685 (lv_at hl 1 rfl) ?_
        refine lv_iconst (v := 1) hx hb d_W_law_687 (by decide) ?_
        refine lv_iadd hx hb d_W_law_688 ?_
        refine va_sld hx hb hX hbl hbA hS (by unfold vp_in; decide) d_W_law_689 ?_
        refine lv_topi (fun z9 ez9 => ?_)
        obtain rfl : nI k = z9 := ea2.trans ez9.symm
        refine lv_aload_n hx hb d_W_law_690 rfl (lv_at hl 5 rfl) ?_
        refine lv_iload hx hb d_W_law_691 (lv_at hl 1 rfl) ?_
        refine lv_iconst (v := 2) hx hb d_W_law_693 (by decide) ?_
        refine lv_iadd hx hb d_W_law_694 ?_
        refine va_sld hx hb hX hbl hbA hS (by unfold vp_in; decide) d_W_law_695 ?_
        refine lv_topi (fun z9 ez9 => ?_)
        obtain rfl : nI j = z9 := ea3.trans ez9.symm
        refine lv_aload_n hx hb d_W_law_696 rfl (lv_at hl 5 rfl) ?_
        refine lv_iload hx hb d_W_law_697 (lv_at hl 1 rfl) ?_
        refine lv_iconst (v := 3) hx hb d_W_law_699 (by decide) ?_
        refine lv_iadd hx hb d_W_law_700 ?_
        refine va_sld hx hb hX hbl hbA hS (by unfold vp_in; decide) d_W_law_701 ?_
        refine lv_topi (fun z9 ez9 => ?_)
        obtain rfl : 0 = z9 := ea4.trans ez9.symm
        obtain ⟨hP, hD⟩ := lP_k hk hP hD
        have hP : va_P D vwCl [zJ t ou 1 (xo (0)), zO 13 ma [.int 0, .int 0, .int 0, .int 0, .int 0, .int 0, .ref nb, .ref wy, .ref hd, .ref tk], zA t 7 nb 7 (fun j => some (pq j 0)), zO 9 (pq k 0) [.int (nI k), .int 1, .int 0, .int 0, .int 0, .int 0, .int (nI (8 + 3 * k)), .int ((-1)), .int 0, .int 0, .ref ((pq k 1)), .ref ((pq k 7)), .ref ((pq k 11)), .ref ((pq k 15)), .ref ((pq k 19)), .ref ((pq k 23)), .int 0], zO 11 (pq k 1) [.int 0, .ref ((pq k 2)), .ref ((pq k 3)), .ref ((pq k 4)), .ref ((pq k 5)), .ref ((pq k 6)), .int 1], zJ t (pq k 2) 32 (fun _ => 1099511627776), zJ t (pq k 3) 8 (fun _ => 0), zI t (pq k 4) 8 (fun _ => 0), zI t (pq k 5) 4 (xm 1), zI t (pq k 6) 4 (xm mk), zO 10 (pq k 7) [.ref ((pq k 8)), .ref ((pq k 9)), .ref ((pq k 10)), .int 0], zI t (pq k 8) 8 (fun _ => 0), zI t (pq k 9) 8 (fun _ => 0), zA t 5 (pq k 10) 8 (fun _ => none), zO 10 (pq k 11) [.ref ((pq k 12)), .ref ((pq k 13)), .ref ((pq k 14)), .int 0], zI t (pq k 12) 8 (fun _ => 0), zI t (pq k 13) 8 (fun _ => 0), zA t 5 (pq k 14) 8 (fun _ => none), zO 10 (pq k 15) [.ref ((pq k 16)), .ref ((pq k 17)), .ref ((pq k 18)), .int 0], zI t (pq k 16) 8 (fun _ => 0), zI t (pq k 17) 8 (fun _ => 0), zA t 5 (pq k 18) 8 (fun _ => none), zO 10 (pq k 19) [.ref ((pq k 20)), .ref ((pq k 21)), .ref ((pq k 22)), .int 0], zI t (pq k 20) 8 (fun _ => 0), zI t (pq k 21) 8 (fun _ => 0), zA t 5 (pq k 22) 8 (fun _ => none), zA t 5 (pq k 23) 16 (fun _ => none)] H := hP
        have hD : va_D (fun q : Nat => s.heap.size ≤ q) [zJ t ou 1 (xo (0)), zO 13 ma [.int 0, .int 0, .int 0, .int 0, .int 0, .int 0, .ref nb, .ref wy, .ref hd, .ref tk], zA t 7 nb 7 (fun j => some (pq j 0)), zO 9 (pq k 0) [.int (nI k), .int 1, .int 0, .int 0, .int 0, .int 0, .int (nI (8 + 3 * k)), .int ((-1)), .int 0, .int 0, .ref ((pq k 1)), .ref ((pq k 7)), .ref ((pq k 11)), .ref ((pq k 15)), .ref ((pq k 19)), .ref ((pq k 23)), .int 0], zO 11 (pq k 1) [.int 0, .ref ((pq k 2)), .ref ((pq k 3)), .ref ((pq k 4)), .ref ((pq k 5)), .ref ((pq k 6)), .int 1], zJ t (pq k 2) 32 (fun _ => 1099511627776), zJ t (pq k 3) 8 (fun _ => 0), zI t (pq k 4) 8 (fun _ => 0), zI t (pq k 5) 4 (xm 1), zI t (pq k 6) 4 (xm mk), zO 10 (pq k 7) [.ref ((pq k 8)), .ref ((pq k 9)), .ref ((pq k 10)), .int 0], zI t (pq k 8) 8 (fun _ => 0), zI t (pq k 9) 8 (fun _ => 0), zA t 5 (pq k 10) 8 (fun _ => none), zO 10 (pq k 11) [.ref ((pq k 12)), .ref ((pq k 13)), .ref ((pq k 14)), .int 0], zI t (pq k 12) 8 (fun _ => 0), zI t (pq k 13) 8 (fun _ => 0), zA t 5 (pq k 14) 8 (fun _ => none), zO 10 (pq k 15) [.ref ((pq k 16)), .ref ((pq k 17)), .ref ((pq k 18)), .int 0], zI t (pq k 16) 8 (fun _ => 0), zI t (pq k 17) 8 (fun _ => 0), zA t 5 (pq k 18) 8 (fun _ => none), zO 10 (pq k 19) [.ref ((pq k 20)), .ref ((pq k 21)), .ref ((pq k 22)), .int 0], zI t (pq k 20) 8 (fun _ => 0), zI t (pq k 21) 8 (fun _ => 0), zA t 5 (pq k 22) 8 (fun _ => none), zA t 5 (pq k 23) 16 (fun _ => none)] := hD
        refine xe_calll (wr := [zJ t ou 1 (xo (0))]) (xs_V (As := [.int (nI k), .int (nI j), .int 0]) (rest := []) Z (C_P_answer_00 l D t ma nb wy hd tk 0 pq mk k hk j hj H.size) m_P_answer k_1263 k_1264 k_1265 rfl rfl ⟨Nat.le_of_ble_eq_true rfl, Nat.le_of_ble_eq_true rfl⟩ (va_recv hK.2 hP (ci := 13) (q0 := 1) rfl rfl) (xe_pre hK (hP.sub [1, 2, 3, 4, 5, 6, 7, 8, 9, 10, 11, 12, 13, 14, 15, 16, 17, 18, 19, 20, 21, 22, 23, 24, 25, 26] rfl) (hD.sub [1, 2, 3, 4, 5, 6, 7, 8, 9, 10, 11, 12, 13, 14, 15, 16, 17, 18, 19, 20, 21, 22, 23, 24, 25, 26] (by decide) rfl)) rfl hl.1 rfl (Nat.le_of_ble_eq_true rfl) d_W_law_702 ⟨Nat.le_of_ble_eq_true rfl, Nat.le_of_ble_eq_true rfl⟩) hP hD hS hA [1, 2, 3, 4, 5, 6, 7, 8, 9, 10, 11, 12, 13, 14, 15, 16, 17, 18, 19, 20, 21, 22, 23, 24, 25, 26] [0] rfl rfl (by decide) (by decide) (fun r_ u_ H locs hw hP hD hS => ?_)
        have hP : va_P D vwCl [zJ t ou 1 (xo (0)), zO 13 ma [.int 0, .int 0, .int 0, .int 0, .int 0, .int 0, .ref nb, .ref wy, .ref hd, .ref tk]] H := hP
        have hD : va_D (fun q : Nat => s.heap.size ≤ q) [zJ t ou 1 (xo (0)), zO 13 ma [.int 0, .int 0, .int 0, .int 0, .int 0, .int 0, .ref nb, .ref wy, .ref hd, .ref tk]] := hD
        obtain rfl := hw.symm
        refine lv_lstore (lv' := [(6, .long 0), (5, .int 0), (4, .int 1), (3, .ref ou), (2, .ref ma), (1, .ref xa), (0, .ref b)]) hx hb d_W_law_705 hl (by decide) rfl (fun ls hl => ?_)
        refine lv_aload_n hx hb d_W_law_707 rfl (lv_at hl 4 rfl) ?_
        refine xr_call (xs_V (As := []) (rest := []) Z (C_P_thrown l D t ma 0 (.int 0) (.int 0) (.int 0) (.int 0) (.int 0) (.ref nb) (.ref wy) (.ref hd) (.ref tk)) m_P_thrown k_1026 k_1027 k_1028 rfl rfl ⟨Nat.le_of_ble_eq_true rfl, Nat.le_of_ble_eq_true rfl⟩ (va_recv hK.2 hP (ci := 13) (q0 := 1) rfl rfl) (xr_pre hK (hP.sub [1] rfl)) rfl hl.1 rfl (Nat.le_of_ble_eq_true rfl) d_W_law_708 ⟨Nat.le_of_ble_eq_true rfl, Nat.le_of_ble_eq_true rfl⟩) ?_
        refine lv_iload hx hb d_W_law_711 (lv_at hl 1 rfl) ?_
        refine lv_icmp_eq (tgt := 718) hx hb d_W_law_713 (by decide) (fun _ => ?_) (fun c_5 => absurd (rfl) c_5)
        refine lv_iload hx hb d_W_law_718 (lv_at hl 1 rfl) ?_
        refine lv_if_ne (tgt := 734) hx hb d_W_law_720 (by decide) (fun c_6 => absurd c_6 (by decide)) (fun _ => ?_)
        refine lv_aload_n hx hb d_W_law_723 rfl (lv_at hl 3 rfl) ?_
        refine lv_iconst (v := 0) hx hb d_W_law_724 (by decide) ?_
        refine va_lald hx hb hK.2 hP 0 1 rfl rfl (by unfold vp_in; decide) d_W_law_725 ?_
        refine lv_lload hx hb d_W_law_726 (lv_at hl 0 rfl) ?_
        refine xl_lcmpE (x := 0) hx hb d_W_law_728 ?_
        refine lv_if_eq (tgt := 734) hx hb d_W_law_729 (by decide) (fun _ => ?_) (fun c_7 => absurd (rfl) c_7)
        refine lv_goto (tgt := 977) hx hb d_W_law_734 (by decide) ?_
        refine W.widen (k := 100000) (n := 1000000) (Nat.le_of_ble_eq_true rfl) (Nat.le_of_ble_eq_true rfl) ?_
        exact back H locs ls hS (lv_sub hl [2, 6] rfl)
      · obtain ⟨hP, hD⟩ := lQ_k hk hP hD
        have hPc : va_P D vwCl [zO 7 xa [.ref nw, .ref na, .int 0], zA t 4 na 7 (fun j => some (qq j 0)), zO 2 nw [.ref rw, .int 0, .int 0, .int 0, .int 0], zA t 3 rw 300 (fun _ => none), zO 3 (qq k 0) [.int (nI k), .ref nw, .int 0, .int 0, .int 0, .ref ((qq k 1)), .ref ((qq k 7)), .ref ((qq k 11)), .int 1, .int 0, .int 0, .int (nI (8 + 3 * k)), .int ((-1)), .int 0, .ref ((qq k 15))], zO 5 (qq k 1) [.ref ((qq k 2)), .ref ((qq k 3)), .ref ((qq k 4)), .ref ((qq k 5)), .ref ((qq k 6)), .int 1], zJ t (qq k 2) 32 (fun _ => 1099511627776), zI t (qq k 3) 8 (fun _ => 0), zJ t (qq k 4) 8 (fun _ => 0), zI t (qq k 5) 4 (xm 1), zI t (qq k 6) 4 (xm mk), zO 4 (qq k 7) [.ref ((qq k 8)), .ref ((qq k 9)), .ref ((qq k 10))], zI t (qq k 8) 32 (fun _ => 0), zI t (qq k 9) 32 (fun _ => 0), zA t 2 (qq k 10) 32 (fun _ => none), zO 4 (qq k 11) [.ref ((qq k 12)), .ref ((qq k 13)), .ref ((qq k 14))], zI t (qq k 12) 64 (fun _ => 0), zI t (qq k 13) 64 (fun _ => 0), zA t 2 (qq k 14) 64 (fun _ => none), zO 0 (qq k 15) [.ref ((no k)), .int 0, .ref ((qq k 16)), .ref ((qq k 20)), .ref ((qq k 24)), .int 0, .int 0, .int 0], zO 4 (qq k 16) [.ref ((qq k 17)), .ref ((qq k 18)), .ref ((qq k 19))], zI t (qq k 17) 32 (fun _ => 0), zI t (qq k 18) 32 (fun _ => 0), zA t 2 (qq k 19) 32 (fun _ => none), zO 4 (qq k 20) [.ref ((qq k 21)), .ref ((qq k 22)), .ref ((qq k 23))], zI t (qq k 21) 4 (fun _ => 0), zI t (qq k 22) 4 (fun _ => 0), zA t 2 (qq k 23) 4 (fun _ => none), zA t 2 (qq k 24) 16 (fun _ => none), zJ t ou 1 (fun _ => 0)] H := xd_P hP (fun q h => List.mem_append_right _ h)
        have hDc : va_D (fun q : Nat => s.heap.size ≤ q) [zO 7 xa [.ref nw, .ref na, .int 0], zA t 4 na 7 (fun j => some (qq j 0)), zO 2 nw [.ref rw, .int 0, .int 0, .int 0, .int 0], zA t 3 rw 300 (fun _ => none), zO 3 (qq k 0) [.int (nI k), .ref nw, .int 0, .int 0, .int 0, .ref ((qq k 1)), .ref ((qq k 7)), .ref ((qq k 11)), .int 1, .int 0, .int 0, .int (nI (8 + 3 * k)), .int ((-1)), .int 0, .ref ((qq k 15))], zO 5 (qq k 1) [.ref ((qq k 2)), .ref ((qq k 3)), .ref ((qq k 4)), .ref ((qq k 5)), .ref ((qq k 6)), .int 1], zJ t (qq k 2) 32 (fun _ => 1099511627776), zI t (qq k 3) 8 (fun _ => 0), zJ t (qq k 4) 8 (fun _ => 0), zI t (qq k 5) 4 (xm 1), zI t (qq k 6) 4 (xm mk), zO 4 (qq k 7) [.ref ((qq k 8)), .ref ((qq k 9)), .ref ((qq k 10))], zI t (qq k 8) 32 (fun _ => 0), zI t (qq k 9) 32 (fun _ => 0), zA t 2 (qq k 10) 32 (fun _ => none), zO 4 (qq k 11) [.ref ((qq k 12)), .ref ((qq k 13)), .ref ((qq k 14))], zI t (qq k 12) 64 (fun _ => 0), zI t (qq k 13) 64 (fun _ => 0), zA t 2 (qq k 14) 64 (fun _ => none), zO 0 (qq k 15) [.ref ((no k)), .int 0, .ref ((qq k 16)), .ref ((qq k 20)), .ref ((qq k 24)), .int 0, .int 0, .int 0], zO 4 (qq k 16) [.ref ((qq k 17)), .ref ((qq k 18)), .ref ((qq k 19))], zI t (qq k 17) 32 (fun _ => 0), zI t (qq k 18) 32 (fun _ => 0), zA t 2 (qq k 19) 32 (fun _ => none), zO 4 (qq k 20) [.ref ((qq k 21)), .ref ((qq k 22)), .ref ((qq k 23))], zI t (qq k 21) 4 (fun _ => 0), zI t (qq k 22) 4 (fun _ => 0), zA t 2 (qq k 23) 4 (fun _ => none), zA t 2 (qq k 24) 16 (fun _ => none), zJ t ou 1 (fun _ => 0)] := xd_R hD
        refine xe_sfxi (wr := lP t ma nb wy hd tk hli hst pq mk) (wc := [zO 7 xa [.ref nw, .ref na, .int 0], zA t 4 na 7 (fun j => some (qq j 0)), zO 2 nw [.ref rw, .int 0, .int 0, .int 0, .int 0], zA t 3 rw 300 (fun _ => none), zO 3 (qq k 0) [.int (nI k), .ref nw, .int 0, .int 0, .int 0, .ref ((qq k 1)), .ref ((qq k 7)), .ref ((qq k 11)), .int 1, .int 0, .int 0, .int (nI (8 + 3 * k)), .int ((-1)), .int 0, .ref ((qq k 15))], zO 5 (qq k 1) [.ref ((qq k 2)), .ref ((qq k 3)), .ref ((qq k 4)), .ref ((qq k 5)), .ref ((qq k 6)), .int 1], zJ t (qq k 2) 32 (fun _ => 1099511627776), zI t (qq k 3) 8 (fun _ => 0), zJ t (qq k 4) 8 (fun _ => 0), zI t (qq k 5) 4 (xm 1), zI t (qq k 6) 4 (xm mk), zO 4 (qq k 7) [.ref ((qq k 8)), .ref ((qq k 9)), .ref ((qq k 10))], zI t (qq k 8) 32 (fun _ => 0), zI t (qq k 9) 32 (fun _ => 0), zA t 2 (qq k 10) 32 (fun _ => none), zO 4 (qq k 11) [.ref ((qq k 12)), .ref ((qq k 13)), .ref ((qq k 14))], zI t (qq k 12) 64 (fun _ => 0), zI t (qq k 13) 64 (fun _ => 0), zA t 2 (qq k 14) 64 (fun _ => none), zO 0 (qq k 15) [.ref ((no k)), .int 0, .ref ((qq k 16)), .ref ((qq k 20)), .ref ((qq k 24)), .int 0, .int 0, .int 0], zO 4 (qq k 16) [.ref ((qq k 17)), .ref ((qq k 18)), .ref ((qq k 19))], zI t (qq k 17) 32 (fun _ => 0), zI t (qq k 18) 32 (fun _ => 0), zA t 2 (qq k 19) 32 (fun _ => none), zO 4 (qq k 20) [.ref ((qq k 21)), .ref ((qq k 22)), .ref ((qq k 23))], zI t (qq k 21) 4 (fun _ => 0), zI t (qq k 22) 4 (fun _ => 0), zA t 2 (qq k 23) 4 (fun _ => none), zA t 2 (qq k 24) 16 (fun _ => none), zJ t ou 1 (fun _ => 0)]) (xh_S (As := [.ref xa, .int (nI k), .int (nI j), .int 1, .ref ou]) (rest := []) Z (R1_answer l hfl D t xa nw na rw ou qq no mk k hk j hj H.size) h_W_answer k_777 k_778 rfl rfl ⟨Nat.le_of_ble_eq_true rfl, Nat.le_of_ble_eq_true rfl⟩ (xh_pre hK hPc hDc hG (fun q hq => hS.2.1 q hq (Nat.not_le.mpr hq))) rfl hl.1 rfl (Nat.le_of_ble_eq_true rfl) d_W_law_678 ⟨Nat.le_of_ble_eq_true rfl, Nat.le_of_ble_eq_true rfl⟩) hP hD hS hA (fun r_ u_ H locs hw hP hD hS => ?_)
        obtain rfl := hw.symm
        refine lv_istore (lv' := [(5, .int 0), (4, .int 1), (3, .ref ou), (2, .ref ma), (1, .ref xa), (0, .ref b)]) hx hb d_W_law_681 hl (by decide) rfl (fun ls hl => ?_)
        refine lv_aload_n hx hb d_W_law_683 rfl (lv_at hl 3 rfl) ?_
        refine lv_aload_n hx hb d_W_law_684 rfl (lv_at hl 5 rfl) ?_
        refine lv_iload hx hb d_W_law_685 (lv_at hl 1 rfl) ?_
        refine lv_iconst (v := 1) hx hb d_W_law_687 (by decide) ?_
        refine lv_iadd hx hb d_W_law_688 ?_
        refine va_sld hx hb hX hbl hbA hS (by unfold vp_in; decide) d_W_law_689 ?_
        refine lv_topi (fun z9 ez9 => ?_)
        obtain rfl : nI k = z9 := ea2.trans ez9.symm
        refine lv_aload_n hx hb d_W_law_690 rfl (lv_at hl 5 rfl) ?_
        refine lv_iload hx hb d_W_law_691 (lv_at hl 1 rfl) ?_
        refine lv_iconst (v := 2) hx hb d_W_law_693 (by decide) ?_
        refine lv_iadd hx hb d_W_law_694 ?_
        refine va_sld hx hb hX hbl hbA hS (by unfold vp_in; decide) d_W_law_695 ?_
        refine lv_topi (fun z9 ez9 => ?_)
        obtain rfl : nI j = z9 := ea3.trans ez9.symm
        refine lv_aload_n hx hb d_W_law_696 rfl (lv_at hl 5 rfl) ?_
        refine lv_iload hx hb d_W_law_697 (lv_at hl 1 rfl) ?_
        refine lv_iconst (v := 3) hx hb d_W_law_699 (by decide) ?_
        refine lv_iadd hx hb d_W_law_700 ?_
        refine va_sld hx hb hX hbl hbA hS (by unfold vp_in; decide) d_W_law_701 ?_
        refine lv_topi (fun z9 ez9 => ?_)
        obtain rfl : 1 = z9 := ea4.trans ez9.symm
        obtain ⟨hP, hD⟩ := lP_k hk hP hD
        have hP : va_P D vwCl [zJ t ou 1 (xo (0)), zO 13 ma [.int 0, .int 0, .int 0, .int 0, .int 0, .int 0, .ref nb, .ref wy, .ref hd, .ref tk], zA t 7 nb 7 (fun j => some (pq j 0)), zO 9 (pq k 0) [.int (nI k), .int 1, .int 0, .int 0, .int 0, .int 0, .int (nI (8 + 3 * k)), .int ((-1)), .int 0, .int 0, .ref ((pq k 1)), .ref ((pq k 7)), .ref ((pq k 11)), .ref ((pq k 15)), .ref ((pq k 19)), .ref ((pq k 23)), .int 0], zO 11 (pq k 1) [.int 0, .ref ((pq k 2)), .ref ((pq k 3)), .ref ((pq k 4)), .ref ((pq k 5)), .ref ((pq k 6)), .int 1], zJ t (pq k 2) 32 (fun _ => 1099511627776), zJ t (pq k 3) 8 (fun _ => 0), zI t (pq k 4) 8 (fun _ => 0), zI t (pq k 5) 4 (xm 1), zI t (pq k 6) 4 (xm mk), zO 10 (pq k 7) [.ref ((pq k 8)), .ref ((pq k 9)), .ref ((pq k 10)), .int 0], zI t (pq k 8) 8 (fun _ => 0), zI t (pq k 9) 8 (fun _ => 0), zA t 5 (pq k 10) 8 (fun _ => none), zO 10 (pq k 11) [.ref ((pq k 12)), .ref ((pq k 13)), .ref ((pq k 14)), .int 0], zI t (pq k 12) 8 (fun _ => 0), zI t (pq k 13) 8 (fun _ => 0), zA t 5 (pq k 14) 8 (fun _ => none), zO 10 (pq k 15) [.ref ((pq k 16)), .ref ((pq k 17)), .ref ((pq k 18)), .int 0], zI t (pq k 16) 8 (fun _ => 0), zI t (pq k 17) 8 (fun _ => 0), zA t 5 (pq k 18) 8 (fun _ => none), zO 10 (pq k 19) [.ref ((pq k 20)), .ref ((pq k 21)), .ref ((pq k 22)), .int 0], zI t (pq k 20) 8 (fun _ => 0), zI t (pq k 21) 8 (fun _ => 0), zA t 5 (pq k 22) 8 (fun _ => none), zA t 5 (pq k 23) 16 (fun _ => none)] H := hP
        have hD : va_D (fun q : Nat => s.heap.size ≤ q) [zJ t ou 1 (xo (0)), zO 13 ma [.int 0, .int 0, .int 0, .int 0, .int 0, .int 0, .ref nb, .ref wy, .ref hd, .ref tk], zA t 7 nb 7 (fun j => some (pq j 0)), zO 9 (pq k 0) [.int (nI k), .int 1, .int 0, .int 0, .int 0, .int 0, .int (nI (8 + 3 * k)), .int ((-1)), .int 0, .int 0, .ref ((pq k 1)), .ref ((pq k 7)), .ref ((pq k 11)), .ref ((pq k 15)), .ref ((pq k 19)), .ref ((pq k 23)), .int 0], zO 11 (pq k 1) [.int 0, .ref ((pq k 2)), .ref ((pq k 3)), .ref ((pq k 4)), .ref ((pq k 5)), .ref ((pq k 6)), .int 1], zJ t (pq k 2) 32 (fun _ => 1099511627776), zJ t (pq k 3) 8 (fun _ => 0), zI t (pq k 4) 8 (fun _ => 0), zI t (pq k 5) 4 (xm 1), zI t (pq k 6) 4 (xm mk), zO 10 (pq k 7) [.ref ((pq k 8)), .ref ((pq k 9)), .ref ((pq k 10)), .int 0], zI t (pq k 8) 8 (fun _ => 0), zI t (pq k 9) 8 (fun _ => 0), zA t 5 (pq k 10) 8 (fun _ => none), zO 10 (pq k 11) [.ref ((pq k 12)), .ref ((pq k 13)), .ref ((pq k 14)), .int 0], zI t (pq k 12) 8 (fun _ => 0), zI t (pq k 13) 8 (fun _ => 0), zA t 5 (pq k 14) 8 (fun _ => none), zO 10 (pq k 15) [.ref ((pq k 16)), .ref ((pq k 17)), .ref ((pq k 18)), .int 0], zI t (pq k 16) 8 (fun _ => 0), zI t (pq k 17) 8 (fun _ => 0), zA t 5 (pq k 18) 8 (fun _ => none), zO 10 (pq k 19) [.ref ((pq k 20)), .ref ((pq k 21)), .ref ((pq k 22)), .int 0], zI t (pq k 20) 8 (fun _ => 0), zI t (pq k 21) 8 (fun _ => 0), zA t 5 (pq k 22) 8 (fun _ => none), zA t 5 (pq k 23) 16 (fun _ => none)] := hD
        refine xe_calll (wr := [zJ t ou 1 (xo (0))]) (xs_V (As := [.int (nI k), .int (nI j), .int 1]) (rest := []) Z (C_P_answer_01 l D t ma nb wy hd tk 0 pq mk k hk j hj H.size) m_P_answer k_1263 k_1264 k_1265 rfl rfl ⟨Nat.le_of_ble_eq_true rfl, Nat.le_of_ble_eq_true rfl⟩ (va_recv hK.2 hP (ci := 13) (q0 := 1) rfl rfl) (xe_pre hK (hP.sub [1, 2, 3, 4, 5, 6, 7, 8, 9, 10, 11, 12, 13, 14, 15, 16, 17, 18, 19, 20, 21, 22, 23, 24, 25, 26] rfl) (hD.sub [1, 2, 3, 4, 5, 6, 7, 8, 9, 10, 11, 12, 13, 14, 15, 16, 17, 18, 19, 20, 21, 22, 23, 24, 25, 26] (by decide) rfl)) rfl hl.1 rfl (Nat.le_of_ble_eq_true rfl) d_W_law_702 ⟨Nat.le_of_ble_eq_true rfl, Nat.le_of_ble_eq_true rfl⟩) hP hD hS hA [1, 2, 3, 4, 5, 6, 7, 8, 9, 10, 11, 12, 13, 14, 15, 16, 17, 18, 19, 20, 21, 22, 23, 24, 25, 26] [0] rfl rfl (by decide) (by decide) (fun r_ u_ H locs hw hP hD hS => ?_)
        have hP : va_P D vwCl [zJ t ou 1 (xo (0)), zO 13 ma [.int 0, .int 0, .int 0, .int 0, .int 0, .int 0, .ref nb, .ref wy, .ref hd, .ref tk]] H := hP
        have hD : va_D (fun q : Nat => s.heap.size ≤ q) [zJ t ou 1 (xo (0)), zO 13 ma [.int 0, .int 0, .int 0, .int 0, .int 0, .int 0, .ref nb, .ref wy, .ref hd, .ref tk]] := hD
        obtain rfl := hw.symm
        refine lv_lstore (lv' := [(6, .long 0), (5, .int 0), (4, .int 1), (3, .ref ou), (2, .ref ma), (1, .ref xa), (0, .ref b)]) hx hb d_W_law_705 hl (by decide) rfl (fun ls hl => ?_)
        refine lv_aload_n hx hb d_W_law_707 rfl (lv_at hl 4 rfl) ?_
        refine xr_call (xs_V (As := []) (rest := []) Z (C_P_thrown l D t ma 0 (.int 0) (.int 0) (.int 0) (.int 0) (.int 0) (.ref nb) (.ref wy) (.ref hd) (.ref tk)) m_P_thrown k_1026 k_1027 k_1028 rfl rfl ⟨Nat.le_of_ble_eq_true rfl, Nat.le_of_ble_eq_true rfl⟩ (va_recv hK.2 hP (ci := 13) (q0 := 1) rfl rfl) (xr_pre hK (hP.sub [1] rfl)) rfl hl.1 rfl (Nat.le_of_ble_eq_true rfl) d_W_law_708 ⟨Nat.le_of_ble_eq_true rfl, Nat.le_of_ble_eq_true rfl⟩) ?_
        refine lv_iload hx hb d_W_law_711 (lv_at hl 1 rfl) ?_
        refine lv_icmp_eq (tgt := 718) hx hb d_W_law_713 (by decide) (fun _ => ?_) (fun c_8 => absurd (rfl) c_8)
        refine lv_iload hx hb d_W_law_718 (lv_at hl 1 rfl) ?_
        refine lv_if_ne (tgt := 734) hx hb d_W_law_720 (by decide) (fun c_9 => absurd c_9 (by decide)) (fun _ => ?_)
        refine lv_aload_n hx hb d_W_law_723 rfl (lv_at hl 3 rfl) ?_
        refine lv_iconst (v := 0) hx hb d_W_law_724 (by decide) ?_
        refine va_lald hx hb hK.2 hP 0 1 rfl rfl (by unfold vp_in; decide) d_W_law_725 ?_
        refine lv_lload hx hb d_W_law_726 (lv_at hl 0 rfl) ?_
        refine xl_lcmpE (x := 0) hx hb d_W_law_728 ?_
        refine lv_if_eq (tgt := 734) hx hb d_W_law_729 (by decide) (fun _ => ?_) (fun c_10 => absurd (rfl) c_10)
        refine lv_goto (tgt := 977) hx hb d_W_law_734 (by decide) ?_
        refine W.widen (k := 100000) (n := 1000000) (Nat.le_of_ble_eq_true rfl) (Nat.le_of_ble_eq_true rfl) ?_
        exact back H locs ls hS (lv_sub hl [2, 6] rfl)
      · obtain ⟨hP, hD⟩ := lQ_k hk hP hD
        have hPc : va_P D vwCl [zO 7 xa [.ref nw, .ref na, .int 0], zA t 4 na 7 (fun j => some (qq j 0)), zO 2 nw [.ref rw, .int 0, .int 0, .int 0, .int 0], zA t 3 rw 300 (fun _ => none), zO 3 (qq k 0) [.int (nI k), .ref nw, .int 0, .int 0, .int 0, .ref ((qq k 1)), .ref ((qq k 7)), .ref ((qq k 11)), .int 1, .int 0, .int 0, .int (nI (8 + 3 * k)), .int ((-1)), .int 0, .ref ((qq k 15))], zO 5 (qq k 1) [.ref ((qq k 2)), .ref ((qq k 3)), .ref ((qq k 4)), .ref ((qq k 5)), .ref ((qq k 6)), .int 1], zJ t (qq k 2) 32 (fun _ => 1099511627776), zI t (qq k 3) 8 (fun _ => 0), zJ t (qq k 4) 8 (fun _ => 0), zI t (qq k 5) 4 (xm 1), zI t (qq k 6) 4 (xm mk), zO 4 (qq k 7) [.ref ((qq k 8)), .ref ((qq k 9)), .ref ((qq k 10))], zI t (qq k 8) 32 (fun _ => 0), zI t (qq k 9) 32 (fun _ => 0), zA t 2 (qq k 10) 32 (fun _ => none), zO 4 (qq k 11) [.ref ((qq k 12)), .ref ((qq k 13)), .ref ((qq k 14))], zI t (qq k 12) 64 (fun _ => 0), zI t (qq k 13) 64 (fun _ => 0), zA t 2 (qq k 14) 64 (fun _ => none), zO 0 (qq k 15) [.ref ((no k)), .int 0, .ref ((qq k 16)), .ref ((qq k 20)), .ref ((qq k 24)), .int 0, .int 0, .int 0], zO 4 (qq k 16) [.ref ((qq k 17)), .ref ((qq k 18)), .ref ((qq k 19))], zI t (qq k 17) 32 (fun _ => 0), zI t (qq k 18) 32 (fun _ => 0), zA t 2 (qq k 19) 32 (fun _ => none), zO 4 (qq k 20) [.ref ((qq k 21)), .ref ((qq k 22)), .ref ((qq k 23))], zI t (qq k 21) 4 (fun _ => 0), zI t (qq k 22) 4 (fun _ => 0), zA t 2 (qq k 23) 4 (fun _ => none), zA t 2 (qq k 24) 16 (fun _ => none), zJ t ou 1 (fun _ => 0)] H := xd_P hP (fun q h => List.mem_append_right _ h)
        have hDc : va_D (fun q : Nat => s.heap.size ≤ q) [zO 7 xa [.ref nw, .ref na, .int 0], zA t 4 na 7 (fun j => some (qq j 0)), zO 2 nw [.ref rw, .int 0, .int 0, .int 0, .int 0], zA t 3 rw 300 (fun _ => none), zO 3 (qq k 0) [.int (nI k), .ref nw, .int 0, .int 0, .int 0, .ref ((qq k 1)), .ref ((qq k 7)), .ref ((qq k 11)), .int 1, .int 0, .int 0, .int (nI (8 + 3 * k)), .int ((-1)), .int 0, .ref ((qq k 15))], zO 5 (qq k 1) [.ref ((qq k 2)), .ref ((qq k 3)), .ref ((qq k 4)), .ref ((qq k 5)), .ref ((qq k 6)), .int 1], zJ t (qq k 2) 32 (fun _ => 1099511627776), zI t (qq k 3) 8 (fun _ => 0), zJ t (qq k 4) 8 (fun _ => 0), zI t (qq k 5) 4 (xm 1), zI t (qq k 6) 4 (xm mk), zO 4 (qq k 7) [.ref ((qq k 8)), .ref ((qq k 9)), .ref ((qq k 10))], zI t (qq k 8) 32 (fun _ => 0), zI t (qq k 9) 32 (fun _ => 0), zA t 2 (qq k 10) 32 (fun _ => none), zO 4 (qq k 11) [.ref ((qq k 12)), .ref ((qq k 13)), .ref ((qq k 14))], zI t (qq k 12) 64 (fun _ => 0), zI t (qq k 13) 64 (fun _ => 0), zA t 2 (qq k 14) 64 (fun _ => none), zO 0 (qq k 15) [.ref ((no k)), .int 0, .ref ((qq k 16)), .ref ((qq k 20)), .ref ((qq k 24)), .int 0, .int 0, .int 0], zO 4 (qq k 16) [.ref ((qq k 17)), .ref ((qq k 18)), .ref ((qq k 19))], zI t (qq k 17) 32 (fun _ => 0), zI t (qq k 18) 32 (fun _ => 0), zA t 2 (qq k 19) 32 (fun _ => none), zO 4 (qq k 20) [.ref ((qq k 21)), .ref ((qq k 22)), .ref ((qq k 23))], zI t (qq k 21) 4 (fun _ => 0), zI t (qq k 22) 4 (fun _ => 0), zA t 2 (qq k 23) 4 (fun _ => none), zA t 2 (qq k 24) 16 (fun _ => none), zJ t ou 1 (fun _ => 0)] := xd_R hD
        refine xe_sfxi (wr := lP t ma nb wy hd tk hli hst pq mk) (wc := [zO 7 xa [.ref nw, .ref na, .int 0], zA t 4 na 7 (fun j => some (qq j 0)), zO 2 nw [.ref rw, .int 0, .int 0, .int 0, .int 0], zA t 3 rw 300 (fun _ => none), zO 3 (qq k 0) [.int (nI k), .ref nw, .int 0, .int 0, .int 0, .ref ((qq k 1)), .ref ((qq k 7)), .ref ((qq k 11)), .int 1, .int 0, .int 0, .int (nI (8 + 3 * k)), .int ((-1)), .int 0, .ref ((qq k 15))], zO 5 (qq k 1) [.ref ((qq k 2)), .ref ((qq k 3)), .ref ((qq k 4)), .ref ((qq k 5)), .ref ((qq k 6)), .int 1], zJ t (qq k 2) 32 (fun _ => 1099511627776), zI t (qq k 3) 8 (fun _ => 0), zJ t (qq k 4) 8 (fun _ => 0), zI t (qq k 5) 4 (xm 1), zI t (qq k 6) 4 (xm mk), zO 4 (qq k 7) [.ref ((qq k 8)), .ref ((qq k 9)), .ref ((qq k 10))], zI t (qq k 8) 32 (fun _ => 0), zI t (qq k 9) 32 (fun _ => 0), zA t 2 (qq k 10) 32 (fun _ => none), zO 4 (qq k 11) [.ref ((qq k 12)), .ref ((qq k 13)), .ref ((qq k 14))], zI t (qq k 12) 64 (fun _ => 0), zI t (qq k 13) 64 (fun _ => 0), zA t 2 (qq k 14) 64 (fun _ => none), zO 0 (qq k 15) [.ref ((no k)), .int 0, .ref ((qq k 16)), .ref ((qq k 20)), .ref ((qq k 24)), .int 0, .int 0, .int 0], zO 4 (qq k 16) [.ref ((qq k 17)), .ref ((qq k 18)), .ref ((qq k 19))], zI t (qq k 17) 32 (fun _ => 0), zI t (qq k 18) 32 (fun _ => 0), zA t 2 (qq k 19) 32 (fun _ => none), zO 4 (qq k 20) [.ref ((qq k 21)), .ref ((qq k 22)), .ref ((qq k 23))], zI t (qq k 21) 4 (fun _ => 0), zI t (qq k 22) 4 (fun _ => 0), zA t 2 (qq k 23) 4 (fun _ => none), zA t 2 (qq k 24) 16 (fun _ => none), zJ t ou 1 (fun _ => 0)]) (xh_S (As := [.ref xa, .int (nI k), .int (nI j), .int a4, .ref ou]) (rest := []) Z (H3_answer l hfl D t xa nw na rw ou qq no mk k hk j hj a4 h0 h1 H.size) h_W_answer k_777 k_778 rfl rfl ⟨Nat.le_of_ble_eq_true rfl, Nat.le_of_ble_eq_true rfl⟩ (xh_pre hK hPc hDc hG (fun q hq => hS.2.1 q hq (Nat.not_le.mpr hq))) rfl hl.1 rfl (Nat.le_of_ble_eq_true rfl) d_W_law_678 ⟨Nat.le_of_ble_eq_true rfl, Nat.le_of_ble_eq_true rfl⟩) hP hD hS hA (fun r_ u_ H locs hw hP hD hS => ?_)
        obtain rfl := hw.symm
        refine lv_istore (lv' := [(5, .int 2), (4, .int 1), (3, .ref ou), (2, .ref ma), (1, .ref xa), (0, .ref b)]) hx hb d_W_law_681 hl (by decide) rfl (fun ls hl => ?_)
        refine lv_aload_n hx hb d_W_law_683 rfl (lv_at hl 3 rfl) ?_
        refine lv_aload_n hx hb d_W_law_684 rfl (lv_at hl 5 rfl) ?_
        refine lv_iload hx hb d_W_law_685 (lv_at hl 1 rfl) ?_
        refine lv_iconst (v := 1) hx hb d_W_law_687 (by decide) ?_
        refine lv_iadd hx hb d_W_law_688 ?_
        refine va_sld hx hb hX hbl hbA hS (by unfold vp_in; decide) d_W_law_689 ?_
        refine lv_topi (fun z9 ez9 => ?_)
        obtain rfl : nI k = z9 := ea2.trans ez9.symm
        refine lv_aload_n hx hb d_W_law_690 rfl (lv_at hl 5 rfl) ?_
        refine lv_iload hx hb d_W_law_691 (lv_at hl 1 rfl) ?_
        refine lv_iconst (v := 2) hx hb d_W_law_693 (by decide) ?_
        refine lv_iadd hx hb d_W_law_694 ?_
        refine va_sld hx hb hX hbl hbA hS (by unfold vp_in; decide) d_W_law_695 ?_
        refine lv_topi (fun z9 ez9 => ?_)
        obtain rfl : nI j = z9 := ea3.trans ez9.symm
        refine lv_aload_n hx hb d_W_law_696 rfl (lv_at hl 5 rfl) ?_
        refine lv_iload hx hb d_W_law_697 (lv_at hl 1 rfl) ?_
        refine lv_iconst (v := 3) hx hb d_W_law_699 (by decide) ?_
        refine lv_iadd hx hb d_W_law_700 ?_
        refine va_sld hx hb hX hbl hbA hS (by unfold vp_in; decide) d_W_law_701 ?_
        refine lv_topi (fun z9 ez9 => ?_)
        obtain rfl : a4 = z9 := ea4.trans ez9.symm
        obtain ⟨hP, hD⟩ := lP_0 hP hD
        have hP : va_P D vwCl [zO 13 ma [.int 0, .int 0, .int 0, .int 0, .int 0, .int 0, .ref nb, .ref wy, .ref hd, .ref tk]] H := hP
        have hD : va_D (fun q : Nat => s.heap.size ≤ q) [zO 13 ma [.int 0, .int 0, .int 0, .int 0, .int 0, .int 0, .ref nb, .ref wy, .ref hd, .ref tk]] := hD
        refine xe_calll (wr := []) (xs_V (As := [.int (nI k), .int (nI j), .int a4]) (rest := []) Z (C_P_answer_3 l D t ma nb wy hd tk 0 k hk j hj a4 h0 h1 H.size) m_P_answer k_1263 k_1264 k_1265 rfl rfl ⟨Nat.le_of_ble_eq_true rfl, Nat.le_of_ble_eq_true rfl⟩ (va_recv hK.2 hP (ci := 13) (q0 := 0) rfl rfl) (xe_pre hK (hP.sub [0] rfl) (hD.sub [0] (by decide) rfl)) rfl hl.1 rfl (Nat.le_of_ble_eq_true rfl) d_W_law_702 ⟨Nat.le_of_ble_eq_true rfl, Nat.le_of_ble_eq_true rfl⟩) hP hD hS hA [0] [] rfl rfl (by decide) (by decide) (fun r_ u_ H locs hw hP hD hS => ?_)
        have hP : va_P D vwCl [zO 13 ma [.int 2, .int 0, .int 0, .int 0, .int 0, .int 0, .ref nb, .ref wy, .ref hd, .ref tk]] H := hP
        have hD : va_D (fun q : Nat => s.heap.size ≤ q) [zO 13 ma [.int 2, .int 0, .int 0, .int 0, .int 0, .int 0, .ref nb, .ref wy, .ref hd, .ref tk]] := hD
        obtain rfl := hw.symm
        refine lv_lstore (lv' := [(6, .long 0), (5, .int 2), (4, .int 1), (3, .ref ou), (2, .ref ma), (1, .ref xa), (0, .ref b)]) hx hb d_W_law_705 hl (by decide) rfl (fun ls hl => ?_)
        refine lv_aload_n hx hb d_W_law_707 rfl (lv_at hl 4 rfl) ?_
        refine xr_call (xs_V (As := []) (rest := []) Z (C_P_thrown l D t ma 2 (.int 0) (.int 0) (.int 0) (.int 0) (.int 0) (.ref nb) (.ref wy) (.ref hd) (.ref tk)) m_P_thrown k_1026 k_1027 k_1028 rfl rfl ⟨Nat.le_of_ble_eq_true rfl, Nat.le_of_ble_eq_true rfl⟩ (va_recv hK.2 hP (ci := 13) (q0 := 0) rfl rfl) (xr_pre hK (hP.sub [0] rfl)) rfl hl.1 rfl (Nat.le_of_ble_eq_true rfl) d_W_law_708 ⟨Nat.le_of_ble_eq_true rfl, Nat.le_of_ble_eq_true rfl⟩) ?_
        refine lv_iload hx hb d_W_law_711 (lv_at hl 1 rfl) ?_
        refine lv_icmp_eq (tgt := 718) hx hb d_W_law_713 (by decide) (fun _ => ?_) (fun c_11 => absurd (rfl) c_11)
        refine lv_iload hx hb d_W_law_718 (lv_at hl 1 rfl) ?_
        refine lv_if_ne (tgt := 734) hx hb d_W_law_720 (by decide) (fun _ => ?_) (fun c_12 => absurd c_12 (by decide))
        refine lv_goto (tgt := 977) hx hb d_W_law_734 (by decide) ?_
        refine W.widen (k := 100000) (n := 1000000) (Nat.le_of_ble_eq_true rfl) (Nat.le_of_ble_eq_true rfl) ?_
        exact back H locs ls hS (lv_sub hl [2, 6] rfl)
theorem d_W_law_737 : decode c_W_law 737 = .ok (.aload_n 1, 1) := by decide +kernel
theorem d_W_law_738 : decode c_W_law 738 = .ok (.aload_n 0, 1) := by decide +kernel
theorem d_W_law_739 : decode c_W_law 739 = .ok (.iload 4, 2) := by decide +kernel
theorem d_W_law_741 : decode c_W_law 741 = .ok (.iconst 1, 1) := by decide +kernel
theorem d_W_law_742 : decode c_W_law 742 = .ok (.iadd, 1) := by decide +kernel
theorem d_W_law_743 : decode c_W_law 743 = .ok (.iaload, 1) := by decide +kernel
theorem d_W_law_744 : decode c_W_law 744 = .ok (.aload_n 0, 1) := by decide +kernel
theorem d_W_law_745 : decode c_W_law 745 = .ok (.iload 4, 2) := by decide +kernel
theorem d_W_law_747 : decode c_W_law 747 = .ok (.iconst 2, 1) := by decide +kernel
theorem d_W_law_748 : decode c_W_law 748 = .ok (.iadd, 1) := by decide +kernel
theorem d_W_law_749 : decode c_W_law 749 = .ok (.iaload, 1) := by decide +kernel
theorem d_W_law_750 : decode c_W_law 750 = .ok (.aload_n 3, 1) := by decide +kernel
theorem d_W_law_751 : decode c_W_law 751 = .ok (.invokestatic 111, 3) := by decide +kernel
theorem d_W_law_754 : decode c_W_law 754 = .ok (.istore 5, 2) := by decide +kernel
theorem d_W_law_756 : decode c_W_law 756 = .ok (.aload_n 2, 1) := by decide +kernel
theorem d_W_law_757 : decode c_W_law 757 = .ok (.aload_n 0, 1) := by decide +kernel
theorem d_W_law_758 : decode c_W_law 758 = .ok (.iload 4, 2) := by decide +kernel
theorem d_W_law_760 : decode c_W_law 760 = .ok (.iconst 1, 1) := by decide +kernel
theorem d_W_law_761 : decode c_W_law 761 = .ok (.iadd, 1) := by decide +kernel
theorem d_W_law_762 : decode c_W_law 762 = .ok (.iaload, 1) := by decide +kernel
theorem d_W_law_763 : decode c_W_law 763 = .ok (.aload_n 0, 1) := by decide +kernel
theorem d_W_law_764 : decode c_W_law 764 = .ok (.iload 4, 2) := by decide +kernel
theorem d_W_law_766 : decode c_W_law 766 = .ok (.iconst 2, 1) := by decide +kernel
theorem d_W_law_767 : decode c_W_law 767 = .ok (.iadd, 1) := by decide +kernel
theorem d_W_law_768 : decode c_W_law 768 = .ok (.iaload, 1) := by decide +kernel
theorem d_W_law_769 : decode c_W_law 769 = .ok (.invokevirtual 113, 3) := by decide +kernel
theorem d_W_law_772 : decode c_W_law 772 = .ok (.lstore 6, 2) := by decide +kernel
theorem d_W_law_774 : decode c_W_law 774 = .ok (.aload_n 2, 1) := by decide +kernel
theorem d_W_law_775 : decode c_W_law 775 = .ok (.invokevirtual 76, 3) := by decide +kernel
theorem d_W_law_778 : decode c_W_law 778 = .ok (.iload 5, 2) := by decide +kernel
theorem d_W_law_780 : decode c_W_law 780 = .ok (.if_icmp .eq 5, 3) := by decide +kernel
theorem d_W_law_785 : decode c_W_law 785 = .ok (.iload 5, 2) := by decide +kernel
theorem d_W_law_787 : decode c_W_law 787 = .ok (.ifCond .ne 14, 3) := by decide +kernel
theorem d_W_law_790 : decode c_W_law 790 = .ok (.aload_n 3, 1) := by decide +kernel
theorem d_W_law_791 : decode c_W_law 791 = .ok (.iconst 0, 1) := by decide +kernel
theorem d_W_law_792 : decode c_W_law 792 = .ok (.laload, 1) := by decide +kernel
theorem d_W_law_793 : decode c_W_law 793 = .ok (.lload 6, 2) := by decide +kernel
theorem d_W_law_795 : decode c_W_law 795 = .ok (.lcmp, 1) := by decide +kernel
theorem d_W_law_796 : decode c_W_law 796 = .ok (.ifCond .eq 5, 3) := by decide +kernel
theorem d_W_law_801 : decode c_W_law 801 = .ok (.goto 176, 3) := by decide +kernel
set_option maxHeartbeats 4000000 in
set_option maxRecDepth 100000 in
/-- number -/
theorem LW_number {p : Program} {e : Env} {s : State} {m : MethodId} {below : List Frame} {meth : Method} {c : Code} (l : Launch) (hfl : l.flags = pinnedFlags ++ [noTraceFlag]) {b : Nat} {xs : Nat → Int32} (D : va_G) (t : Nat → ClassId) (Z : xF p m c code 8 s "QuorumStoreLaw" D vwCl (xTY t)) (hG : xg s) (hX : va_X b 8 xs s s.heap) (hbl : b < s.heap.size) (xa nw na rw ou ma nb wy hd tk hli hst : Nat) (qq pq : Nat → Nat → Nat) (no : Nat → Nat) (mk : Int32) {H : Heap} {locs : List Loc} {ls : Array Slot} (hP : va_P D vwCl (lP t ma nb wy hd tk hli hst pq mk ++ (lQ t xa nw na rw qq no mk ++ [zJ t ou 1 (fun _ => 0)])) H) (hD : va_D (fun q : Nat => s.heap.size ≤ q) (lP t ma nb wy hd tk hli hst pq mk ++ (lQ t xa nw na rw qq no mk ++ [zJ t ou 1 (fun _ => 0)]))) (hS : va_S (fun q : Nat => s.heap.size ≤ q) s.heap H locs) (hl : lv_has ls 8 [(4, .int 1), (3, .ref ou), (2, .ref ma), (1, .ref xa), (0, .ref b)])
    (back : ∀ (H : Heap) (locs : List Loc) (ls : Array Slot), va_S (fun q : Nat => s.heap.size ≤ q) s.heap H locs → lv_has ls 8 [(4, .int 1), (0, .ref b)] → W p l e room_1 s m #[Value.ref b] below meth c H locs 100000 1000000 (lw_Z below #[Value.ref b] s) (F0 m 977 ls [])) : W p l e room_1 s m #[Value.ref b] below meth c H locs 380 5892 (lw_Z below #[Value.ref b] s) (F0 m 737 ls []) := by
  obtain ⟨hx, hb, hml, hown, hK⟩ := id Z
  have hts := hK.1.at (args := #[Value.ref b])
  have hA : ∀ q : Nat, s.heap.size ≤ q → (fun q : Nat => s.heap.size ≤ q) q := fun _ h => h
  have hbA : ¬ (fun q : Nat => s.heap.size ≤ q) b := Nat.not_le.mpr hbl
  refine lv_aload_n hx hb d_W_law_737 rfl (lv_at hl 3 rfl) ?_
  refine lv_aload_n hx hb d_W_law_738 rfl (lv_at hl 4 rfl) ?_
  refine lv_iload hx hb d_W_law_739 (lv_at hl 0 rfl) ?_
  refine lv_iconst (v := 1) hx hb d_W_law_741 (by decide) ?_
  refine lv_iadd hx hb d_W_law_742 ?_
  refine va_sld hx hb hX hbl hbA hS (by unfold vp_in; decide) d_W_law_743 ?_
  refine lv_topi (fun a2 ea2 => ?_)
  refine lv_aload_n hx hb d_W_law_744 rfl (lv_at hl 4 rfl) ?_
  refine lv_iload hx hb d_W_law_745 (lv_at hl 0 rfl) ?_
  refine lv_iconst (v := 2) hx hb d_W_law_747 (by decide) ?_
  refine lv_iadd hx hb d_W_law_748 ?_
  refine va_sld hx hb hX hbl hbA hS (by unfold vp_in; decide) d_W_law_749 ?_
  refine lv_topi (fun a3 ea3 => ?_)
  refine lv_aload_n hx hb d_W_law_750 rfl (lv_at hl 1 rfl) ?_
  rcases xq_node a2 7 (by decide) with hn | ⟨k, hk, rfl⟩
  · obtain ⟨hP, hD⟩ := lQ_0 hP hD
    have hPc : va_P D vwCl [zO 7 xa [.ref nw, .ref na, .int 0], zA t 4 na 7 (fun j => some (qq j 0)), zO 2 nw [.ref rw, .int 0, .int 0, .int 0, .int 0], zA t 3 rw 300 (fun _ => none), zJ t ou 1 (fun _ => 0)] H := xd_P hP (fun q h => List.mem_append_right _ h)
    have hDc : va_D (fun q : Nat => s.heap.size ≤ q) [zO 7 xa [.ref nw, .ref na, .int 0], zA t 4 na 7 (fun j => some (qq j 0)), zO 2 nw [.ref rw, .int 0, .int 0, .int 0, .int 0], zA t 3 rw 300 (fun _ => none), zJ t ou 1 (fun _ => 0)] := xd_R hD
    refine xe_sfxi (wr := lP t ma nb wy hd tk hli hst pq mk) (wc := [zO 7 xa [.ref nw, .ref na, .int 0], zA t 4 na 7 (fun j => some (qq j 0)), zO 2 nw [.ref rw, .int 0, .int 0, .int 0, .int 0], zA t 3 rw 300 (fun _ => none), zJ t ou 1 (fun _ => 0)]) (xh_S (As := [.ref xa, .int a2, .int a3, .ref ou]) (rest := []) Z (H_number l hfl D t xa nw na rw ou qq a2 a3 hn H.size) h_W_number k_785 k_786 rfl rfl ⟨Nat.le_of_ble_eq_true rfl, Nat.le_of_ble_eq_true rfl⟩ (xh_pre hK hPc hDc hG (fun q hq => hS.2.1 q hq (Nat.not_le.mpr hq))) rfl hl.1 rfl (Nat.le_of_ble_eq_true rfl) d_W_law_751 ⟨Nat.le_of_ble_eq_true rfl, Nat.le_of_ble_eq_true rfl⟩) hP hD hS hA (fun r_ u_ H locs hw hP hD hS => ?_)
    obtain rfl := hw.symm
    refine lv_istore (lv' := [(5, .int 1), (4, .int 1), (3, .ref ou), (2, .ref ma), (1, .ref xa), (0, .ref b)]) hx hb d_W_law_754 hl (by decide) rfl (fun ls hl => ?_)
    refine lv_aload_n hx hb d_W_law_756 rfl (lv_at hl 3 rfl) ?_
    refine lv_aload_n hx hb d_W_law_757 rfl (lv_at hl 5 rfl) ?_
    refine lv_iload hx hb d_W_law_758 (lv_at hl 1 rfl) ?_
    refine lv_iconst (v := 1) hx hb d_W_law_760 (by decide) ?_
    refine lv_iadd hx hb d_W_law_761 ?_
    refine va_sld hx hb hX hbl hbA hS (by unfold vp_in; decide) d_W_law_762 ?_
    refine lv_topi (fun z9 ez9 => ?_)
    obtain rfl : a2 = z9 := ea2.trans ez9.symm
    refine lv_aload_n hx hb d_W_law_763 rfl (lv_at hl 5 rfl) ?_
    refine lv_iload hx hb d_W_law_764 (lv_at hl 1 rfl) ?_
    refine lv_iconst (v := 2) hx hb d_W_law_766 (by decide) ?_
    refine lv_iadd hx hb d_W_law_767 ?_
    refine va_sld hx hb hX hbl hbA hS (by unfold vp_in; decide) d_W_law_768 ?_
    refine lv_topi (fun z9 ez9 => ?_)
    obtain rfl : a3 = z9 := ea3.trans ez9.symm
    obtain ⟨hP, hD⟩ := lP_0 hP hD
    have hP : va_P D vwCl [zO 13 ma [.int 0, .int 0, .int 0, .int 0, .int 0, .int 0, .ref nb, .ref wy, .ref hd, .ref tk]] H := hP
    have hD : va_D (fun q : Nat => s.heap.size ≤ q) [zO 13 ma [.int 0, .int 0, .int 0, .int 0, .int 0, .int 0, .ref nb, .ref wy, .ref hd, .ref tk]] := hD
    refine xe_calll (wr := []) (xs_V (As := [.int a2, .int a3]) (rest := []) Z (C_P_number_1 l D t ma nb wy hd tk 0 a2 a3 hn H.size) m_P_number k_1267 k_1268 k_1269 rfl rfl ⟨Nat.le_of_ble_eq_true rfl, Nat.le_of_ble_eq_true rfl⟩ (va_recv hK.2 hP (ci := 13) (q0 := 0) rfl rfl) (xe_pre hK (hP.sub [0] rfl) (hD.sub [0] (by decide) rfl)) rfl hl.1 rfl (Nat.le_of_ble_eq_true rfl) d_W_law_769 ⟨Nat.le_of_ble_eq_true rfl, Nat.le_of_ble_eq_true rfl⟩) hP hD hS hA [0] [] rfl rfl (by decide) (by decide) (fun r_ u_ H locs hw hP hD hS => ?_)
    have hP : va_P D vwCl [zO 13 ma [.int 1, .int 0, .int 0, .int 0, .int 0, .int 0, .ref nb, .ref wy, .ref hd, .ref tk]] H := hP
    have hD : va_D (fun q : Nat => s.heap.size ≤ q) [zO 13 ma [.int 1, .int 0, .int 0, .int 0, .int 0, .int 0, .ref nb, .ref wy, .ref hd, .ref tk]] := hD
    obtain rfl := hw.symm
    refine lv_lstore (lv' := [(6, .long 0), (5, .int 1), (4, .int 1), (3, .ref ou), (2, .ref ma), (1, .ref xa), (0, .ref b)]) hx hb d_W_law_772 hl (by decide) rfl (fun ls hl => ?_)
    refine lv_aload_n hx hb d_W_law_774 rfl (lv_at hl 4 rfl) ?_
    refine xr_call (xs_V (As := []) (rest := []) Z (C_P_thrown l D t ma 1 (.int 0) (.int 0) (.int 0) (.int 0) (.int 0) (.ref nb) (.ref wy) (.ref hd) (.ref tk)) m_P_thrown k_1026 k_1027 k_1028 rfl rfl ⟨Nat.le_of_ble_eq_true rfl, Nat.le_of_ble_eq_true rfl⟩ (va_recv hK.2 hP (ci := 13) (q0 := 0) rfl rfl) (xr_pre hK (hP.sub [0] rfl)) rfl hl.1 rfl (Nat.le_of_ble_eq_true rfl) d_W_law_775 ⟨Nat.le_of_ble_eq_true rfl, Nat.le_of_ble_eq_true rfl⟩) ?_
    refine lv_iload hx hb d_W_law_778 (lv_at hl 1 rfl) ?_
    refine lv_icmp_eq (tgt := 785) hx hb d_W_law_780 (by decide) (fun _ => ?_) (fun c_1 => absurd (rfl) c_1)
    refine lv_iload hx hb d_W_law_785 (lv_at hl 1 rfl) ?_
    refine lv_if_ne (tgt := 801) hx hb d_W_law_787 (by decide) (fun _ => ?_) (fun c_2 => absurd c_2 (by decide))
    refine lv_goto (tgt := 977) hx hb d_W_law_801 (by decide) ?_
    refine W.widen (k := 100000) (n := 1000000) (Nat.le_of_ble_eq_true rfl) (Nat.le_of_ble_eq_true rfl) ?_
    exact back H locs ls hS (lv_sub hl [2, 6] rfl)
  · rcases xq_node a3 32 (by decide) with hc | ⟨j, hj, rfl⟩
    · obtain ⟨hP, hD⟩ := lQ_k hk hP hD
      have hPc : va_P D vwCl [zO 7 xa [.ref nw, .ref na, .int 0], zA t 4 na 7 (fun j => some (qq j 0)), zO 2 nw [.ref rw, .int 0, .int 0, .int 0, .int 0], zA t 3 rw 300 (fun _ => none), zO 3 (qq k 0) [.int (nI k), .ref nw, .int 0, .int 0, .int 0, .ref ((qq k 1)), .ref ((qq k 7)), .ref ((qq k 11)), .int 1, .int 0, .int 0, .int (nI (8 + 3 * k)), .int ((-1)), .int 0, .ref ((qq k 15))], zO 5 (qq k 1) [.ref ((qq k 2)), .ref ((qq k 3)), .ref ((qq k 4)), .ref ((qq k 5)), .ref ((qq k 6)), .int 1], zJ t (qq k 2) 32 (fun _ => 1099511627776), zI t (qq k 3) 8 (fun _ => 0), zJ t (qq k 4) 8 (fun _ => 0), zI t (qq k 5) 4 (xm 1), zI t (qq k 6) 4 (xm mk), zO 4 (qq k 7) [.ref ((qq k 8)), .ref ((qq k 9)), .ref ((qq k 10))], zI t (qq k 8) 32 (fun _ => 0), zI t (qq k 9) 32 (fun _ => 0), zA t 2 (qq k 10) 32 (fun _ => none), zO 4 (qq k 11) [.ref ((qq k 12)), .ref ((qq k 13)), .ref ((qq k 14))], zI t (qq k 12) 64 (fun _ => 0), zI t (qq k 13) 64 (fun _ => 0), zA t 2 (qq k 14) 64 (fun _ => none), zO 0 (qq k 15) [.ref ((no k)), .int 0, .ref ((qq k 16)), .ref ((qq k 20)), .ref ((qq k 24)), .int 0, .int 0, .int 0], zO 4 (qq k 16) [.ref ((qq k 17)), .ref ((qq k 18)), .ref ((qq k 19))], zI t (qq k 17) 32 (fun _ => 0), zI t (qq k 18) 32 (fun _ => 0), zA t 2 (qq k 19) 32 (fun _ => none), zO 4 (qq k 20) [.ref ((qq k 21)), .ref ((qq k 22)), .ref ((qq k 23))], zI t (qq k 21) 4 (fun _ => 0), zI t (qq k 22) 4 (fun _ => 0), zA t 2 (qq k 23) 4 (fun _ => none), zA t 2 (qq k 24) 16 (fun _ => none), zJ t ou 1 (fun _ => 0)] H := xd_P hP (fun q h => List.mem_append_right _ h)
      have hDc : va_D (fun q : Nat => s.heap.size ≤ q) [zO 7 xa [.ref nw, .ref na, .int 0], zA t 4 na 7 (fun j => some (qq j 0)), zO 2 nw [.ref rw, .int 0, .int 0, .int 0, .int 0], zA t 3 rw 300 (fun _ => none), zO 3 (qq k 0) [.int (nI k), .ref nw, .int 0, .int 0, .int 0, .ref ((qq k 1)), .ref ((qq k 7)), .ref ((qq k 11)), .int 1, .int 0, .int 0, .int (nI (8 + 3 * k)), .int ((-1)), .int 0, .ref ((qq k 15))], zO 5 (qq k 1) [.ref ((qq k 2)), .ref ((qq k 3)), .ref ((qq k 4)), .ref ((qq k 5)), .ref ((qq k 6)), .int 1], zJ t (qq k 2) 32 (fun _ => 1099511627776), zI t (qq k 3) 8 (fun _ => 0), zJ t (qq k 4) 8 (fun _ => 0), zI t (qq k 5) 4 (xm 1), zI t (qq k 6) 4 (xm mk), zO 4 (qq k 7) [.ref ((qq k 8)), .ref ((qq k 9)), .ref ((qq k 10))], zI t (qq k 8) 32 (fun _ => 0), zI t (qq k 9) 32 (fun _ => 0), zA t 2 (qq k 10) 32 (fun _ => none), zO 4 (qq k 11) [.ref ((qq k 12)), .ref ((qq k 13)), .ref ((qq k 14))], zI t (qq k 12) 64 (fun _ => 0), zI t (qq k 13) 64 (fun _ => 0), zA t 2 (qq k 14) 64 (fun _ => none), zO 0 (qq k 15) [.ref ((no k)), .int 0, .ref ((qq k 16)), .ref ((qq k 20)), .ref ((qq k 24)), .int 0, .int 0, .int 0], zO 4 (qq k 16) [.ref ((qq k 17)), .ref ((qq k 18)), .ref ((qq k 19))], zI t (qq k 17) 32 (fun _ => 0), zI t (qq k 18) 32 (fun _ => 0), zA t 2 (qq k 19) 32 (fun _ => none), zO 4 (qq k 20) [.ref ((qq k 21)), .ref ((qq k 22)), .ref ((qq k 23))], zI t (qq k 21) 4 (fun _ => 0), zI t (qq k 22) 4 (fun _ => 0), zA t 2 (qq k 23) 4 (fun _ => none), zA t 2 (qq k 24) 16 (fun _ => none), zJ t ou 1 (fun _ => 0)] := xd_R hD
      refine xe_sfxi (wr := lP t ma nb wy hd tk hli hst pq mk) (wc := [zO 7 xa [.ref nw, .ref na, .int 0], zA t 4 na 7 (fun j => some (qq j 0)), zO 2 nw [.ref rw, .int 0, .int 0, .int 0, .int 0], zA t 3 rw 300 (fun _ => none), zO 3 (qq k 0) [.int (nI k), .ref nw, .int 0, .int 0, .int 0, .ref ((qq k 1)), .ref ((qq k 7)), .ref ((qq k 11)), .int 1, .int 0, .int 0, .int (nI (8 + 3 * k)), .int ((-1)), .int 0, .ref ((qq k 15))], zO 5 (qq k 1) [.ref ((qq k 2)), .ref ((qq k 3)), .ref ((qq k 4)), .ref ((qq k 5)), .ref ((qq k 6)), .int 1], zJ t (qq k 2) 32 (fun _ => 1099511627776), zI t (qq k 3) 8 (fun _ => 0), zJ t (qq k 4) 8 (fun _ => 0), zI t (qq k 5) 4 (xm 1), zI t (qq k 6) 4 (xm mk), zO 4 (qq k 7) [.ref ((qq k 8)), .ref ((qq k 9)), .ref ((qq k 10))], zI t (qq k 8) 32 (fun _ => 0), zI t (qq k 9) 32 (fun _ => 0), zA t 2 (qq k 10) 32 (fun _ => none), zO 4 (qq k 11) [.ref ((qq k 12)), .ref ((qq k 13)), .ref ((qq k 14))], zI t (qq k 12) 64 (fun _ => 0), zI t (qq k 13) 64 (fun _ => 0), zA t 2 (qq k 14) 64 (fun _ => none), zO 0 (qq k 15) [.ref ((no k)), .int 0, .ref ((qq k 16)), .ref ((qq k 20)), .ref ((qq k 24)), .int 0, .int 0, .int 0], zO 4 (qq k 16) [.ref ((qq k 17)), .ref ((qq k 18)), .ref ((qq k 19))], zI t (qq k 17) 32 (fun _ => 0), zI t (qq k 18) 32 (fun _ => 0), zA t 2 (qq k 19) 32 (fun _ => none), zO 4 (qq k 20) [.ref ((qq k 21)), .ref ((qq k 22)), .ref ((qq k 23))], zI t (qq k 21) 4 (fun _ => 0), zI t (qq k 22) 4 (fun _ => 0), zA t 2 (qq k 23) 4 (fun _ => none), zA t 2 (qq k 24) 16 (fun _ => none), zJ t ou 1 (fun _ => 0)]) (xh_S (As := [.ref xa, .int (nI k), .int a3, .ref ou]) (rest := []) Z (H2_number l hfl D t xa nw na rw ou qq no mk k hk a3 hc H.size) h_W_number k_785 k_786 rfl rfl ⟨Nat.le_of_ble_eq_true rfl, Nat.le_of_ble_eq_true rfl⟩ (xh_pre hK hPc hDc hG (fun q hq => hS.2.1 q hq (Nat.not_le.mpr hq))) rfl hl.1 rfl (Nat.le_of_ble_eq_true rfl) d_W_law_751 ⟨Nat.le_of_ble_eq_true rfl, Nat.le_of_ble_eq_true rfl⟩) hP hD hS hA (fun r_ u_ H locs hw hP hD hS => ?_)
      obtain rfl := hw.symm
      refine lv_istore (lv' := [(5, .int 1), (4, .int 1), (3, .ref ou), (2, .ref ma), (1, .ref xa), (0, .ref b)]) hx hb d_W_law_754 hl (by decide) rfl (fun ls hl => ?_)
      refine lv_aload_n hx hb d_W_law_756 rfl (lv_at hl 3 rfl) ?_
      refine lv_aload_n hx hb d_W_law_757 rfl (lv_at hl 5 rfl) ?_
      refine lv_iload hx hb d_W_law_758 (lv_at hl 1 rfl) ?_
      refine lv_iconst (v := 1) hx hb d_W_law_760 (by decide) ?_
      refine lv_iadd hx hb d_W_law_761 ?_
      refine va_sld hx hb hX hbl hbA hS (by unfold vp_in; decide) d_W_law_762 ?_
      refine lv_topi (fun z9 ez9 => ?_)
      obtain rfl : nI k = z9 := ea2.trans ez9.symm
      refine lv_aload_n hx hb d_W_law_763 rfl (lv_at hl 5 rfl) ?_
      refine lv_iload hx hb d_W_law_764 (lv_at hl 1 rfl) ?_
      refine lv_iconst (v := 2) hx hb d_W_law_766 (by decide) ?_
      refine lv_iadd hx hb d_W_law_767 ?_
      refine va_sld hx hb hX hbl hbA hS (by unfold vp_in; decide) d_W_law_768 ?_
      refine lv_topi (fun z9 ez9 => ?_)
      obtain rfl : a3 = z9 := ea3.trans ez9.symm
      obtain ⟨hP, hD⟩ := lP_0 hP hD
      have hP : va_P D vwCl [zO 13 ma [.int 0, .int 0, .int 0, .int 0, .int 0, .int 0, .ref nb, .ref wy, .ref hd, .ref tk]] H := hP
      have hD : va_D (fun q : Nat => s.heap.size ≤ q) [zO 13 ma [.int 0, .int 0, .int 0, .int 0, .int 0, .int 0, .ref nb, .ref wy, .ref hd, .ref tk]] := hD
      refine xe_calll (wr := []) (xs_V (As := [.int (nI k), .int a3]) (rest := []) Z (C_P_number_2 l D t ma nb wy hd tk 0 k hk a3 hc H.size) m_P_number k_1267 k_1268 k_1269 rfl rfl ⟨Nat.le_of_ble_eq_true rfl, Nat.le_of_ble_eq_true rfl⟩ (va_recv hK.2 hP (ci := 13) (q0 := 0) rfl rfl) (xe_pre hK (hP.sub [0] rfl) (hD.sub [0] (by decide) rfl)) rfl hl.1 rfl (Nat.le_of_ble_eq_true rfl) d_W_law_769 ⟨Nat.le_of_ble_eq_true rfl, Nat.le_of_ble_eq_true rfl⟩) hP hD hS hA [0] [] rfl rfl (by decide) (by decide) (fun r_ u_ H locs hw hP hD hS => ?_)
      have hP : va_P D vwCl [zO 13 ma [.int 1, .int 0, .int 0, .int 0, .int 0, .int 0, .ref nb, .ref wy, .ref hd, .ref tk]] H := hP
      have hD : va_D (fun q : Nat => s.heap.size ≤ q) [zO 13 ma [.int 1, .int 0, .int 0, .int 0, .int 0, .int 0, .ref nb, .ref wy, .ref hd, .ref tk]] := hD
      obtain rfl := hw.symm
      refine lv_lstore (lv' := [(6, .long 0), (5, .int 1), (4, .int 1), (3, .ref ou), (2, .ref ma), (1, .ref xa), (0, .ref b)]) hx hb d_W_law_772 hl (by decide) rfl (fun ls hl => ?_)
      refine lv_aload_n hx hb d_W_law_774 rfl (lv_at hl 4 rfl) ?_
      refine xr_call (xs_V (As := []) (rest := []) Z (C_P_thrown l D t ma 1 (.int 0) (.int 0) (.int 0) (.int 0) (.int 0) (.ref nb) (.ref wy) (.ref hd) (.ref tk)) m_P_thrown k_1026 k_1027 k_1028 rfl rfl ⟨Nat.le_of_ble_eq_true rfl, Nat.le_of_ble_eq_true rfl⟩ (va_recv hK.2 hP (ci := 13) (q0 := 0) rfl rfl) (xr_pre hK (hP.sub [0] rfl)) rfl hl.1 rfl (Nat.le_of_ble_eq_true rfl) d_W_law_775 ⟨Nat.le_of_ble_eq_true rfl, Nat.le_of_ble_eq_true rfl⟩) ?_
      refine lv_iload hx hb d_W_law_778 (lv_at hl 1 rfl) ?_
      refine lv_icmp_eq (tgt := 785) hx hb d_W_law_780 (by decide) (fun _ => ?_) (fun c_3 => absurd (rfl) c_3)
      refine lv_iload hx hb d_W_law_785 (lv_at hl 1 rfl) ?_
      refine lv_if_ne (tgt := 801) hx hb d_W_law_787 (by decide) (fun _ => ?_) (fun c_4 => absurd c_4 (by decide))
      refine lv_goto (tgt := 977) hx hb d_W_law_801 (by decide) ?_
      refine W.widen (k := 100000) (n := 1000000) (Nat.le_of_ble_eq_true rfl) (Nat.le_of_ble_eq_true rfl) ?_
      exact back H locs ls hS (lv_sub hl [2, 6] rfl)
    · obtain ⟨hP, hD⟩ := lQ_k hk hP hD
      have hPc : va_P D vwCl [zO 7 xa [.ref nw, .ref na, .int 0], zA t 4 na 7 (fun j => some (qq j 0)), zO 2 nw [.ref rw, .int 0, .int 0, .int 0, .int 0], zA t 3 rw 300 (fun _ => none), zO 3 (qq k 0) [.int (nI k), .ref nw, .int 0, .int 0, .int 0, .ref ((qq k 1)), .ref ((qq k 7)), .ref ((qq k 11)), .int 1, .int 0, .int 0, .int (nI (8 + 3 * k)), .int ((-1)), .int 0, .ref ((qq k 15))], zO 5 (qq k 1) [.ref ((qq k 2)), .ref ((qq k 3)), .ref ((qq k 4)), .ref ((qq k 5)), .ref ((qq k 6)), .int 1], zJ t (qq k 2) 32 (fun _ => 1099511627776), zI t (qq k 3) 8 (fun _ => 0), zJ t (qq k 4) 8 (fun _ => 0), zI t (qq k 5) 4 (xm 1), zI t (qq k 6) 4 (xm mk), zO 4 (qq k 7) [.ref ((qq k 8)), .ref ((qq k 9)), .ref ((qq k 10))], zI t (qq k 8) 32 (fun _ => 0), zI t (qq k 9) 32 (fun _ => 0), zA t 2 (qq k 10) 32 (fun _ => none), zO 4 (qq k 11) [.ref ((qq k 12)), .ref ((qq k 13)), .ref ((qq k 14))], zI t (qq k 12) 64 (fun _ => 0), zI t (qq k 13) 64 (fun _ => 0), zA t 2 (qq k 14) 64 (fun _ => none), zO 0 (qq k 15) [.ref ((no k)), .int 0, .ref ((qq k 16)), .ref ((qq k 20)), .ref ((qq k 24)), .int 0, .int 0, .int 0], zO 4 (qq k 16) [.ref ((qq k 17)), .ref ((qq k 18)), .ref ((qq k 19))], zI t (qq k 17) 32 (fun _ => 0), zI t (qq k 18) 32 (fun _ => 0), zA t 2 (qq k 19) 32 (fun _ => none), zO 4 (qq k 20) [.ref ((qq k 21)), .ref ((qq k 22)), .ref ((qq k 23))], zI t (qq k 21) 4 (fun _ => 0), zI t (qq k 22) 4 (fun _ => 0), zA t 2 (qq k 23) 4 (fun _ => none), zA t 2 (qq k 24) 16 (fun _ => none), zJ t ou 1 (fun _ => 0)] H := xd_P hP (fun q h => List.mem_append_right _ h)
      have hDc : va_D (fun q : Nat => s.heap.size ≤ q) [zO 7 xa [.ref nw, .ref na, .int 0], zA t 4 na 7 (fun j => some (qq j 0)), zO 2 nw [.ref rw, .int 0, .int 0, .int 0, .int 0], zA t 3 rw 300 (fun _ => none), zO 3 (qq k 0) [.int (nI k), .ref nw, .int 0, .int 0, .int 0, .ref ((qq k 1)), .ref ((qq k 7)), .ref ((qq k 11)), .int 1, .int 0, .int 0, .int (nI (8 + 3 * k)), .int ((-1)), .int 0, .ref ((qq k 15))], zO 5 (qq k 1) [.ref ((qq k 2)), .ref ((qq k 3)), .ref ((qq k 4)), .ref ((qq k 5)), .ref ((qq k 6)), .int 1], zJ t (qq k 2) 32 (fun _ => 1099511627776), zI t (qq k 3) 8 (fun _ => 0), zJ t (qq k 4) 8 (fun _ => 0), zI t (qq k 5) 4 (xm 1), zI t (qq k 6) 4 (xm mk), zO 4 (qq k 7) [.ref ((qq k 8)), .ref ((qq k 9)), .ref ((qq k 10))], zI t (qq k 8) 32 (fun _ => 0), zI t (qq k 9) 32 (fun _ => 0), zA t 2 (qq k 10) 32 (fun _ => none), zO 4 (qq k 11) [.ref ((qq k 12)), .ref ((qq k 13)), .ref ((qq k 14))], zI t (qq k 12) 64 (fun _ => 0), zI t (qq k 13) 64 (fun _ => 0), zA t 2 (qq k 14) 64 (fun _ => none), zO 0 (qq k 15) [.ref ((no k)), .int 0, .ref ((qq k 16)), .ref ((qq k 20)), .ref ((qq k 24)), .int 0, .int 0, .int 0], zO 4 (qq k 16) [.ref ((qq k 17)), .ref ((qq k 18)), .ref ((qq k 19))], zI t (qq k 17) 32 (fun _ => 0), zI t (qq k 18) 32 (fun _ => 0), zA t 2 (qq k 19) 32 (fun _ => none), zO 4 (qq k 20) [.ref ((qq k 21)), .ref ((qq k 22)), .ref ((qq k 23))], zI t (qq k 21) 4 (fun _ => 0), zI t (qq k 22) 4 (fun _ => 0), zA t 2 (qq k 23) 4 (fun _ => none), zA t 2 (qq k 24) 16 (fun _ => none), zJ t ou 1 (fun _ => 0)] := xd_R hD
      refine xe_sfxi (wr := lP t ma nb wy hd tk hli hst pq mk) (wc := [zO 7 xa [.ref nw, .ref na, .int 0], zA t 4 na 7 (fun j => some (qq j 0)), zO 2 nw [.ref rw, .int 0, .int 0, .int 0, .int 0], zA t 3 rw 300 (fun _ => none), zO 3 (qq k 0) [.int (nI k), .ref nw, .int 0, .int 0, .int 0, .ref ((qq k 1)), .ref ((qq k 7)), .ref ((qq k 11)), .int 1, .int 0, .int 0, .int (nI (8 + 3 * k)), .int ((-1)), .int 0, .ref ((qq k 15))], zO 5 (qq k 1) [.ref ((qq k 2)), .ref ((qq k 3)), .ref ((qq k 4)), .ref ((qq k 5)), .ref ((qq k 6)), .int 1], zJ t (qq k 2) 32 (fun _ => 1099511627776), zI t (qq k 3) 8 (fun _ => 0), zJ t (qq k 4) 8 (fun _ => 0), zI t (qq k 5) 4 (xm 1), zI t (qq k 6) 4 (xm mk), zO 4 (qq k 7) [.ref ((qq k 8)), .ref ((qq k 9)), .ref ((qq k 10))], zI t (qq k 8) 32 (fun _ => 0), zI t (qq k 9) 32 (fun _ => 0), zA t 2 (qq k 10) 32 (fun _ => none), zO 4 (qq k 11) [.ref ((qq k 12)), .ref ((qq k 13)), .ref ((qq k 14))], zI t (qq k 12) 64 (fun _ => 0), zI t (qq k 13) 64 (fun _ => 0), zA t 2 (qq k 14) 64 (fun _ => none), zO 0 (qq k 15) [.ref ((no k)), .int 0, .ref ((qq k 16)), .ref ((qq k 20)), .ref ((qq k 24)), .int 0, .int 0, .int 0], zO 4 (qq k 16) [.ref ((qq k 17)), .ref ((qq k 18)), .ref ((qq k 19))], zI t (qq k 17) 32 (fun _ => 0), zI t (qq k 18) 32 (fun _ => 0), zA t 2 (qq k 19) 32 (fun _ => none), zO 4 (qq k 20) [.ref ((qq k 21)), .ref ((qq k 22)), .ref ((qq k 23))], zI t (qq k 21) 4 (fun _ => 0), zI t (qq k 22) 4 (fun _ => 0), zA t 2 (qq k 23) 4 (fun _ => none), zA t 2 (qq k 24) 16 (fun _ => none), zJ t ou 1 (fun _ => 0)]) (xh_S (As := [.ref xa, .int (nI k), .int (nI j), .ref ou]) (rest := []) Z (R_number l hfl D t xa nw na rw ou qq no mk k hk j hj H.size) h_W_number k_785 k_786 rfl rfl ⟨Nat.le_of_ble_eq_true rfl, Nat.le_of_ble_eq_true rfl⟩ (xh_pre hK hPc hDc hG (fun q hq => hS.2.1 q hq (Nat.not_le.mpr hq))) rfl hl.1 rfl (Nat.le_of_ble_eq_true rfl) d_W_law_751 ⟨Nat.le_of_ble_eq_true rfl, Nat.le_of_ble_eq_true rfl⟩) hP hD hS hA (fun r_ u_ H locs hw hP hD hS => ?_)
      obtain rfl := hw.symm
      refine lv_istore (lv' := [(5, .int 0), (4, .int 1), (3, .ref ou), (2, .ref ma), (1, .ref xa), (0, .ref b)]) hx hb d_W_law_754 hl (by decide) rfl (fun ls hl => ?_)
      refine lv_aload_n hx hb d_W_law_756 rfl (lv_at hl 3 rfl) ?_
      refine lv_aload_n hx hb d_W_law_757 rfl (lv_at hl 5 rfl) ?_
      refine lv_iload hx hb d_W_law_758 (lv_at hl 1 rfl) ?_
      refine lv_iconst (v := 1) hx hb d_W_law_760 (by decide) ?_
      refine lv_iadd hx hb d_W_law_761 ?_
      refine va_sld hx hb hX hbl hbA hS (by unfold vp_in; decide) d_W_law_762 ?_
      refine lv_topi (fun z9 ez9 => ?_)
      obtain rfl : nI k = z9 := ea2.trans ez9.symm
      refine lv_aload_n hx hb d_W_law_763 rfl (lv_at hl 5 rfl) ?_
      refine lv_iload hx hb d_W_law_764 (lv_at hl 1 rfl) ?_
      refine lv_iconst (v := 2) hx hb d_W_law_766 (by decide) ?_
      refine lv_iadd hx hb d_W_law_767 ?_
      refine va_sld hx hb hX hbl hbA hS (by unfold vp_in; decide) d_W_law_768 ?_
      refine lv_topi (fun z9 ez9 => ?_)
      obtain rfl : nI j = z9 := ea3.trans ez9.symm
      obtain ⟨hP, hD⟩ := lP_k hk hP hD
      have hP : va_P D vwCl [zJ t ou 1 (xo (1099511627776)), zO 13 ma [.int 0, .int 0, .int 0, .int 0, .int 0, .int 0, .ref nb, .ref wy, .ref hd, .ref tk], zA t 7 nb 7 (fun j => some (pq j 0)), zO 9 (pq k 0) [.int (nI k), .int 1, .int 0, .int 0, .int 0, .int 0, .int (nI (8 + 3 * k)), .int ((-1)), .int 0, .int 0, .ref ((pq k 1)), .ref ((pq k 7)), .ref ((pq k 11)), .ref ((pq k 15)), .ref ((pq k 19)), .ref ((pq k 23)), .int 0], zO 11 (pq k 1) [.int 0, .ref ((pq k 2)), .ref ((pq k 3)), .ref ((pq k 4)), .ref ((pq k 5)), .ref ((pq k 6)), .int 1], zJ t (pq k 2) 32 (fun _ => 1099511627776), zJ t (pq k 3) 8 (fun _ => 0), zI t (pq k 4) 8 (fun _ => 0), zI t (pq k 5) 4 (xm 1), zI t (pq k 6) 4 (xm mk), zO 10 (pq k 7) [.ref ((pq k 8)), .ref ((pq k 9)), .ref ((pq k 10)), .int 0], zI t (pq k 8) 8 (fun _ => 0), zI t (pq k 9) 8 (fun _ => 0), zA t 5 (pq k 10) 8 (fun _ => none), zO 10 (pq k 11) [.ref ((pq k 12)), .ref ((pq k 13)), .ref ((pq k 14)), .int 0], zI t (pq k 12) 8 (fun _ => 0), zI t (pq k 13) 8 (fun _ => 0), zA t 5 (pq k 14) 8 (fun _ => none), zO 10 (pq k 15) [.ref ((pq k 16)), .ref ((pq k 17)), .ref ((pq k 18)), .int 0], zI t (pq k 16) 8 (fun _ => 0), zI t (pq k 17) 8 (fun _ => 0), zA t 5 (pq k 18) 8 (fun _ => none), zO 10 (pq k 19) [.ref ((pq k 20)), .ref ((pq k 21)), .ref ((pq k 22)), .int 0], zI t (pq k 20) 8 (fun _ => 0), zI t (pq k 21) 8 (fun _ => 0), zA t 5 (pq k 22) 8 (fun _ => none), zA t 5 (pq k 23) 16 (fun _ => none)] H := hP
      have hD : va_D (fun q : Nat => s.heap.size ≤ q) [zJ t ou 1 (xo (1099511627776)), zO 13 ma [.int 0, .int 0, .int 0, .int 0, .int 0, .int 0, .ref nb, .ref wy, .ref hd, .ref tk], zA t 7 nb 7 (fun j => some (pq j 0)), zO 9 (pq k 0) [.int (nI k), .int 1, .int 0, .int 0, .int 0, .int 0, .int (nI (8 + 3 * k)), .int ((-1)), .int 0, .int 0, .ref ((pq k 1)), .ref ((pq k 7)), .ref ((pq k 11)), .ref ((pq k 15)), .ref ((pq k 19)), .ref ((pq k 23)), .int 0], zO 11 (pq k 1) [.int 0, .ref ((pq k 2)), .ref ((pq k 3)), .ref ((pq k 4)), .ref ((pq k 5)), .ref ((pq k 6)), .int 1], zJ t (pq k 2) 32 (fun _ => 1099511627776), zJ t (pq k 3) 8 (fun _ => 0), zI t (pq k 4) 8 (fun _ => 0), zI t (pq k 5) 4 (xm 1), zI t (pq k 6) 4 (xm mk), zO 10 (pq k 7) [.ref ((pq k 8)), .ref ((pq k 9)), .ref ((pq k 10)), .int 0], zI t (pq k 8) 8 (fun _ => 0), zI t (pq k 9) 8 (fun _ => 0), zA t 5 (pq k 10) 8 (fun _ => none), zO 10 (pq k 11) [.ref ((pq k 12)), .ref ((pq k 13)), .ref ((pq k 14)), .int 0], zI t (pq k 12) 8 (fun _ => 0), zI t (pq k 13) 8 (fun _ => 0), zA t 5 (pq k 14) 8 (fun _ => none), zO 10 (pq k 15) [.ref ((pq k 16)), .ref ((pq k 17)), .ref ((pq k 18)), .int 0], zI t (pq k 16) 8 (fun _ => 0), zI t (pq k 17) 8 (fun _ => 0), zA t 5 (pq k 18) 8 (fun _ => none), zO 10 (pq k 19) [.ref ((pq k 20)), .ref ((pq k 21)), .ref ((pq k 22)), .int 0], zI t (pq k 20) 8 (fun _ => 0), zI t (pq k 21) 8 (fun _ => 0), zA t 5 (pq k 22) 8 (fun _ => none), zA t 5 (pq k 23) 16 (fun _ => none)] := hD
      refine xe_calll (wr := [zJ t ou 1 (xo (1099511627776))]) (xs_V (As := [.int (nI k), .int (nI j)]) (rest := []) Z (C_P_number l D t ma nb wy hd tk 0 pq mk k hk j hj H.size) m_P_number k_1267 k_1268 k_1269 rfl rfl ⟨Nat.le_of_ble_eq_true rfl, Nat.le_of_ble_eq_true rfl⟩ (va_recv hK.2 hP (ci := 13) (q0 := 1) rfl rfl) (xe_pre hK (hP.sub [1, 2, 3, 4, 5, 6, 7, 8, 9, 10, 11, 12, 13, 14, 15, 16, 17, 18, 19, 20, 21, 22, 23, 24, 25, 26] rfl) (hD.sub [1, 2, 3, 4, 5, 6, 7, 8, 9, 10, 11, 12, 13, 14, 15, 16, 17, 18, 19, 20, 21, 22, 23, 24, 25, 26] (by decide) rfl)) rfl hl.1 rfl (Nat.le_of_ble_eq_true rfl) d_W_law_769 ⟨Nat.le_of_ble_eq_true rfl, Nat.le_of_ble_eq_true rfl⟩) hP hD hS hA [1, 2, 3, 4, 5, 6, 7, 8, 9, 10, 11, 12, 13, 14, 15, 16, 17, 18, 19, 20, 21, 22, 23, 24, 25, 26] [0] rfl rfl (by decide) (by decide) (fun r_ u_ H locs hw hP hD hS => ?_)
      have hP : va_P D vwCl [zJ t ou 1 (xo (1099511627776)), zO 13 ma [.int 0, .int 0, .int 0, .int 0, .int 0, .int 0, .ref nb, .ref wy, .ref hd, .ref tk]] H := hP
      have hD : va_D (fun q : Nat => s.heap.size ≤ q) [zJ t ou 1 (xo (1099511627776)), zO 13 ma [.int 0, .int 0, .int 0, .int 0, .int 0, .int 0, .ref nb, .ref wy, .ref hd, .ref tk]] := hD
      obtain rfl := hw.symm
      refine lv_lstore (lv' := [(6, .long 1099511627776), (5, .int 0), (4, .int 1), (3, .ref ou), (2, .ref ma), (1, .ref xa), (0, .ref b)]) hx hb d_W_law_772 hl (by decide) rfl (fun ls hl => ?_)
      refine lv_aload_n hx hb d_W_law_774 rfl (lv_at hl 4 rfl) ?_
      refine xr_call (xs_V (As := []) (rest := []) Z (C_P_thrown l D t ma 0 (.int 0) (.int 0) (.int 0) (.int 0) (.int 0) (.ref nb) (.ref wy) (.ref hd) (.ref tk)) m_P_thrown k_1026 k_1027 k_1028 rfl rfl ⟨Nat.le_of_ble_eq_true rfl, Nat.le_of_ble_eq_true rfl⟩ (va_recv hK.2 hP (ci := 13) (q0 := 1) rfl rfl) (xr_pre hK (hP.sub [1] rfl)) rfl hl.1 rfl (Nat.le_of_ble_eq_true rfl) d_W_law_775 ⟨Nat.le_of_ble_eq_true rfl, Nat.le_of_ble_eq_true rfl⟩) ?_
      refine lv_iload hx hb d_W_law_778 (lv_at hl 1 rfl) ?_
      refine lv_icmp_eq (tgt := 785) hx hb d_W_law_780 (by decide) (fun _ => ?_) (fun c_5 => absurd (rfl) c_5)
      refine lv_iload hx hb d_W_law_785 (lv_at hl 1 rfl) ?_
      refine lv_if_ne (tgt := 801) hx hb d_W_law_787 (by decide) (fun c_6 => absurd c_6 (by decide)) (fun _ => ?_)
      refine lv_aload_n hx hb d_W_law_790 rfl (lv_at hl 3 rfl) ?_
      refine lv_iconst (v := 0) hx hb d_W_law_791 (by decide) ?_
      refine va_lald hx hb hK.2 hP 0 1 rfl rfl (by unfold vp_in; decide) d_W_law_792 ?_
      refine lv_lload hx hb d_W_law_793 (lv_at hl 0 rfl) ?_
      refine xl_lcmpE (x := 1099511627776) hx hb d_W_law_795 ?_
      refine lv_if_eq (tgt := 801) hx hb d_W_law_796 (by decide) (fun _ => ?_) (fun c_7 => absurd (rfl) c_7)
      refine lv_goto (tgt := 977) hx hb d_W_law_801 (by decide) ?_
      refine W.widen (k := 100000) (n := 1000000) (Nat.le_of_ble_eq_true rfl) (Nat.le_of_ble_eq_true rfl) ?_
      exact back H locs ls hS (lv_sub hl [2, 6] rfl)
theorem d_W_law_804 : decode c_W_law 804 = .ok (.aload_n 1, 1) := by decide +kernel
theorem d_W_law_805 : decode c_W_law 805 = .ok (.aload_n 0, 1) := by decide +kernel
theorem d_W_law_806 : decode c_W_law 806 = .ok (.iload 4, 2) := by decide +kernel
theorem d_W_law_808 : decode c_W_law 808 = .ok (.iconst 1, 1) := by decide +kernel
theorem d_W_law_809 : decode c_W_law 809 = .ok (.iadd, 1) := by decide +kernel
theorem d_W_law_810 : decode c_W_law 810 = .ok (.iaload, 1) := by decide +kernel
theorem d_W_law_811 : decode c_W_law 811 = .ok (.aload_n 0, 1) := by decide +kernel
theorem d_W_law_812 : decode c_W_law 812 = .ok (.iload 4, 2) := by decide +kernel
theorem d_W_law_814 : decode c_W_law 814 = .ok (.iconst 2, 1) := by decide +kernel
theorem d_W_law_815 : decode c_W_law 815 = .ok (.iadd, 1) := by decide +kernel
theorem d_W_law_816 : decode c_W_law 816 = .ok (.iaload, 1) := by decide +kernel
theorem d_W_law_817 : decode c_W_law 817 = .ok (.aload_n 0, 1) := by decide +kernel
theorem d_W_law_818 : decode c_W_law 818 = .ok (.iload 4, 2) := by decide +kernel
theorem d_W_law_820 : decode c_W_law 820 = .ok (.iconst 3, 1) := by decide +kernel
theorem d_W_law_821 : decode c_W_law 821 = .ok (.iadd, 1) := by decide +kernel
theorem d_W_law_822 : decode c_W_law 822 = .ok (.iaload, 1) := by decide +kernel
theorem d_W_law_823 : decode c_W_law 823 = .ok (.aload_n 3, 1) := by decide +kernel
theorem d_W_law_824 : decode c_W_law 824 = .ok (.invokestatic 114, 3) := by decide +kernel
theorem d_W_law_827 : decode c_W_law 827 = .ok (.istore 5, 2) := by decide +kernel
theorem d_W_law_829 : decode c_W_law 829 = .ok (.aload_n 2, 1) := by decide +kernel
theorem d_W_law_830 : decode c_W_law 830 = .ok (.aload_n 0, 1) := by decide +kernel
theorem d_W_law_831 : decode c_W_law 831 = .ok (.iload 4, 2) := by decide +kernel
theorem d_W_law_833 : decode c_W_law 833 = .ok (.iconst 1, 1) := by decide +kernel
theorem d_W_law_834 : decode c_W_law 834 = .ok (.iadd, 1) := by decide +kernel
theorem d_W_law_835 : decode c_W_law 835 = .ok (.iaload, 1) := by decide +kernel
theorem d_W_law_836 : decode c_W_law 836 = .ok (.aload_n 0, 1) := by decide +kernel
theorem d_W_law_837 : decode c_W_law 837 = .ok (.iload 4, 2) := by decide +kernel
theorem d_W_law_839 : decode c_W_law 839 = .ok (.iconst 2, 1) := by decide +kernel
theorem d_W_law_840 : decode c_W_law 840 = .ok (.iadd, 1) := by decide +kernel
theorem d_W_law_841 : decode c_W_law 841 = .ok (.iaload, 1) := by decide +kernel
theorem d_W_law_842 : decode c_W_law 842 = .ok (.aload_n 0, 1) := by decide +kernel
theorem d_W_law_843 : decode c_W_law 843 = .ok (.iload 4, 2) := by decide +kernel
theorem d_W_law_845 : decode c_W_law 845 = .ok (.iconst 3, 1) := by decide +kernel
theorem d_W_law_846 : decode c_W_law 846 = .ok (.iadd, 1) := by decide +kernel
theorem d_W_law_847 : decode c_W_law 847 = .ok (.iaload, 1) := by decide +kernel
theorem d_W_law_848 : decode c_W_law 848 = .ok (.invokevirtual 116, 3) := by decide +kernel
theorem d_W_law_851 : decode c_W_law 851 = .ok (.istore 6, 2) := by decide +kernel
theorem d_W_law_853 : decode c_W_law 853 = .ok (.aload_n 2, 1) := by decide +kernel
theorem d_W_law_854 : decode c_W_law 854 = .ok (.invokevirtual 76, 3) := by decide +kernel
theorem d_W_law_857 : decode c_W_law 857 = .ok (.iload 5, 2) := by decide +kernel
theorem d_W_law_859 : decode c_W_law 859 = .ok (.if_icmp .eq 5, 3) := by decide +kernel
theorem d_W_law_864 : decode c_W_law 864 = .ok (.iload 5, 2) := by decide +kernel
theorem d_W_law_866 : decode c_W_law 866 = .ok (.ifCond .ne 15, 3) := by decide +kernel
theorem d_W_law_881 : decode c_W_law 881 = .ok (.goto 96, 3) := by decide +kernel
set_option maxHeartbeats 4000000 in
set_option maxRecDepth 100000 in
/-- known -/
theorem LW_known {p : Program} {e : Env} {s : State} {m : MethodId} {below : List Frame} {meth : Method} {c : Code} (l : Launch) (hfl : l.flags = pinnedFlags ++ [noTraceFlag]) {b : Nat} {xs : Nat → Int32} (D : va_G) (t : Nat → ClassId) (Z : xF p m c code 8 s "QuorumStoreLaw" D vwCl (xTY t)) (hG : xg s) (hX : va_X b 8 xs s s.heap) (hbl : b < s.heap.size) (xa nw na rw ou ma nb wy hd tk hli hst : Nat) (qq pq : Nat → Nat → Nat) (no : Nat → Nat) (mk : Int32) {H : Heap} {locs : List Loc} {ls : Array Slot} (hP : va_P D vwCl (lP t ma nb wy hd tk hli hst pq mk ++ (lQ t xa nw na rw qq no mk ++ [zJ t ou 1 (fun _ => 0)])) H) (hD : va_D (fun q : Nat => s.heap.size ≤ q) (lP t ma nb wy hd tk hli hst pq mk ++ (lQ t xa nw na rw qq no mk ++ [zJ t ou 1 (fun _ => 0)]))) (hS : va_S (fun q : Nat => s.heap.size ≤ q) s.heap H locs) (hl : lv_has ls 8 [(4, .int 1), (3, .ref ou), (2, .ref ma), (1, .ref xa), (0, .ref b)])
    (back : ∀ (H : Heap) (locs : List Loc) (ls : Array Slot), va_S (fun q : Nat => s.heap.size ≤ q) s.heap H locs → lv_has ls 8 [(4, .int 1), (0, .ref b)] → W p l e room_1 s m #[Value.ref b] below meth c H locs 100000 1000000 (lw_Z below #[Value.ref b] s) (F0 m 977 ls [])) : W p l e room_1 s m #[Value.ref b] below meth c H locs 380 5892 (lw_Z below #[Value.ref b] s) (F0 m 804 ls []) := by
  obtain ⟨hx, hb, hml, hown, hK⟩ := id Z
  have hts := hK.1.at (args := #[Value.ref b])
  have hA : ∀ q : Nat, s.heap.size ≤ q → (fun q : Nat => s.heap.size ≤ q) q := fun _ h => h
  have hbA : ¬ (fun q : Nat => s.heap.size ≤ q) b := Nat.not_le.mpr hbl
  refine lv_aload_n hx hb d_W_law_804 rfl (lv_at hl 3 rfl) ?_
  refine lv_aload_n hx hb d_W_law_805 rfl (lv_at hl 4 rfl) ?_
  refine lv_iload hx hb d_W_law_806 (lv_at hl 0 rfl) ?_
  refine lv_iconst (v := 1) hx hb d_W_law_808 (by decide) ?_
  refine lv_iadd hx hb d_W_law_809 ?_
  refine va_sld hx hb hX hbl hbA hS (by unfold vp_in; decide) d_W_law_810 ?_
  refine lv_topi (fun a2 ea2 => ?_)
  refine lv_aload_n hx hb d_W_law_811 rfl (lv_at hl 4 rfl) ?_
  refine lv_iload hx hb d_W_law_812 (lv_at hl 0 rfl) ?_
  refine lv_iconst (v := 2) hx hb d_W_law_814 (by decide) ?_
  refine lv_iadd hx hb d_W_law_815 ?_
  refine va_sld hx hb hX hbl hbA hS (by unfold vp_in; decide) d_W_law_816 ?_
  refine lv_topi (fun a3 ea3 => ?_)
  refine lv_aload_n hx hb d_W_law_817 rfl (lv_at hl 4 rfl) ?_
  refine lv_iload hx hb d_W_law_818 (lv_at hl 0 rfl) ?_
  refine lv_iconst (v := 3) hx hb d_W_law_820 (by decide) ?_
  refine lv_iadd hx hb d_W_law_821 ?_
  refine va_sld hx hb hX hbl hbA hS (by unfold vp_in; decide) d_W_law_822 ?_
  refine lv_topi (fun a4 ea4 => ?_)
  refine lv_aload_n hx hb d_W_law_823 rfl (lv_at hl 1 rfl) ?_
  rcases xq_node a2 7 (by decide) with hn | ⟨k, hk, rfl⟩
  · obtain ⟨hP, hD⟩ := lQ_0 hP hD
    have hPc : va_P D vwCl [zO 7 xa [.ref nw, .ref na, .int 0], zA t 4 na 7 (fun j => some (qq j 0)), zO 2 nw [.ref rw, .int 0, .int 0, .int 0, .int 0], zA t 3 rw 300 (fun _ => none), zJ t ou 1 (fun _ => 0)] H := xd_P hP (fun q h => List.mem_append_right _ h)
    have hDc : va_D (fun q : Nat => s.heap.size ≤ q) [zO 7 xa [.ref nw, .ref na, .int 0], zA t 4 na 7 (fun j => some (qq j 0)), zO 2 nw [.ref rw, .int 0, .int 0, .int 0, .int 0], zA t 3 rw 300 (fun _ => none), zJ t ou 1 (fun _ => 0)] := xd_R hD
    refine xe_sfxi (wr := lP t ma nb wy hd tk hli hst pq mk) (wc := [zO 7 xa [.ref nw, .ref na, .int 0], zA t 4 na 7 (fun j => some (qq j 0)), zO 2 nw [.ref rw, .int 0, .int 0, .int 0, .int 0], zA t 3 rw 300 (fun _ => none), zJ t ou 1 (fun _ => 0)]) (xh_S (As := [.ref xa, .int a2, .int a3, .int a4, .ref ou]) (rest := []) Z (H_known l hfl D t xa nw na rw ou qq a2 a3 a4 hn H.size) h_W_known k_793 k_794 rfl rfl ⟨Nat.le_of_ble_eq_true rfl, Nat.le_of_ble_eq_true rfl⟩ (xh_pre hK hPc hDc hG (fun q hq => hS.2.1 q hq (Nat.not_le.mpr hq))) rfl hl.1 rfl (Nat.le_of_ble_eq_true rfl) d_W_law_824 ⟨Nat.le_of_ble_eq_true rfl, Nat.le_of_ble_eq_true rfl⟩) hP hD hS hA (fun r_ u_ H locs hw hP hD hS => ?_)
    obtain rfl := hw.symm
    refine lv_istore (lv' := [(5, .int 1), (4, .int 1), (3, .ref ou), (2, .ref ma), (1, .ref xa), (0, .ref b)]) hx hb d_W_law_827 hl (by decide) rfl (fun ls hl => ?_)
    refine lv_aload_n hx hb d_W_law_829 rfl (lv_at hl 3 rfl) ?_
    refine lv_aload_n hx hb d_W_law_830 rfl (lv_at hl 5 rfl) ?_
    refine lv_iload hx hb d_W_law_831 (lv_at hl 1 rfl) ?_
    refine lv_iconst (v := 1) hx hb d_W_law_833 (by decide) ?_
    refine lv_iadd hx hb d_W_law_834 ?_
    refine va_sld hx hb hX hbl hbA hS (by unfold vp_in; decide) d_W_law_835 ?_
    refine lv_topi (fun z9 ez9 => ?_)
    obtain rfl : a2 = z9 := ea2.trans ez9.symm
    refine lv_aload_n hx hb d_W_law_836 rfl (lv_at hl 5 rfl) ?_
    refine lv_iload hx hb d_W_law_837 (lv_at hl 1 rfl) ?_
    refine lv_iconst (v := 2) hx hb d_W_law_839 (by decide) ?_
    refine lv_iadd hx hb d_W_law_840 ?_
    refine va_sld hx hb hX hbl hbA hS (by unfold vp_in; decide) d_W_law_841 ?_
    refine lv_topi (fun z9 ez9 => ?_)
    obtain rfl : a3 = z9 := ea3.trans ez9.symm
    refine lv_aload_n hx hb d_W_law_842 rfl (lv_at hl 5 rfl) ?_
    refine lv_iload hx hb d_W_law_843 (lv_at hl 1 rfl) ?_
    refine lv_iconst (v := 3) hx hb d_W_law_845 (by decide) ?_
    refine lv_iadd hx hb d_W_law_846 ?_
    refine va_sld hx hb hX hbl hbA hS (by unfold vp_in; decide) d_W_law_847 ?_
    refine lv_topi (fun z9 ez9 => ?_)
    obtain rfl : a4 = z9 := ea4.trans ez9.symm
    obtain ⟨hP, hD⟩ := lP_0 hP hD
    have hP : va_P D vwCl [zO 13 ma [.int 0, .int 0, .int 0, .int 0, .int 0, .int 0, .ref nb, .ref wy, .ref hd, .ref tk]] H := hP
    have hD : va_D (fun q : Nat => s.heap.size ≤ q) [zO 13 ma [.int 0, .int 0, .int 0, .int 0, .int 0, .int 0, .ref nb, .ref wy, .ref hd, .ref tk]] := hD
    refine xe_calli (wr := []) (xs_V (As := [.int a2, .int a3, .int a4]) (rest := []) Z (C_P_known_1 l D t ma nb wy hd tk 0 a2 a3 a4 hn H.size) m_P_known k_1271 k_1272 k_1273 rfl rfl ⟨Nat.le_of_ble_eq_true rfl, Nat.le_of_ble_eq_true rfl⟩ (va_recv hK.2 hP (ci := 13) (q0 := 0) rfl rfl) (xe_pre hK (hP.sub [0] rfl) (hD.sub [0] (by decide) rfl)) rfl hl.1 rfl (Nat.le_of_ble_eq_true rfl) d_W_law_848 ⟨Nat.le_of_ble_eq_true rfl, Nat.le_of_ble_eq_true rfl⟩) hP hD hS hA [0] [] rfl rfl (by decide) (by decide) (fun r_1 u_ H locs hw hP hD hS => ?_)
    have hP : va_P D vwCl [zO 13 ma [.int 1, .int 0, .int 0, .int 0, .int 0, .int 0, .ref nb, .ref wy, .ref hd, .ref tk]] H := hP
    have hD : va_D (fun q : Nat => s.heap.size ≤ q) [zO 13 ma [.int 1, .int 0, .int 0, .int 0, .int 0, .int 0, .ref nb, .ref wy, .ref hd, .ref tk]] := hD
    obtain rfl := hw.symm
    refine lv_istore (lv' := [(6, .int 0), (5, .int 1), (4, .int 1), (3, .ref ou), (2, .ref ma), (1, .ref xa), (0, .ref b)]) hx hb d_W_law_851 hl (by decide) rfl (fun ls hl => ?_)
    refine lv_aload_n hx hb d_W_law_853 rfl (lv_at hl 4 rfl) ?_
    refine xr_call (xs_V (As := []) (rest := []) Z (C_P_thrown l D t ma 1 (.int 0) (.int 0) (.int 0) (.int 0) (.int 0) (.ref nb) (.ref wy) (.ref hd) (.ref tk)) m_P_thrown k_1026 k_1027 k_1028 rfl rfl ⟨Nat.le_of_ble_eq_true rfl, Nat.le_of_ble_eq_true rfl⟩ (va_recv hK.2 hP (ci := 13) (q0 := 0) rfl rfl) (xr_pre hK (hP.sub [0] rfl)) rfl hl.1 rfl (Nat.le_of_ble_eq_true rfl) d_W_law_854 ⟨Nat.le_of_ble_eq_true rfl, Nat.le_of_ble_eq_true rfl⟩) ?_
    refine lv_iload hx hb d_W_law_857 (lv_at hl 1 rfl) ?_
    refine lv_icmp_eq (tgt := 864) hx hb d_W_law_859 (by decide) (fun _ => ?_) (fun c_2 => absurd (rfl) c_2)
    refine lv_iload hx hb d_W_law_864 (lv_at hl 1 rfl) ?_
    refine lv_if_ne (tgt := 881) hx hb d_W_law_866 (by decide) (fun _ => ?_) (fun c_3 => absurd c_3 (by decide))
    refine lv_goto (tgt := 977) hx hb d_W_law_881 (by decide) ?_
    refine W.widen (k := 100000) (n := 1000000) (Nat.le_of_ble_eq_true rfl) (Nat.le_of_ble_eq_true rfl) ?_
    exact back H locs ls hS (lv_sub hl [2, 6] rfl)
  · obtain ⟨hP, hD⟩ := lQ_k hk hP hD
    have hPc : va_P D vwCl [zO 7 xa [.ref nw, .ref na, .int 0], zA t 4 na 7 (fun j => some (qq j 0)), zO 2 nw [.ref rw, .int 0, .int 0, .int 0, .int 0], zA t 3 rw 300 (fun _ => none), zO 3 (qq k 0) [.int (nI k), .ref nw, .int 0, .int 0, .int 0, .ref ((qq k 1)), .ref ((qq k 7)), .ref ((qq k 11)), .int 1, .int 0, .int 0, .int (nI (8 + 3 * k)), .int ((-1)), .int 0, .ref ((qq k 15))], zO 5 (qq k 1) [.ref ((qq k 2)), .ref ((qq k 3)), .ref ((qq k 4)), .ref ((qq k 5)), .ref ((qq k 6)), .int 1], zJ t (qq k 2) 32 (fun _ => 1099511627776), zI t (qq k 3) 8 (fun _ => 0), zJ t (qq k 4) 8 (fun _ => 0), zI t (qq k 5) 4 (xm 1), zI t (qq k 6) 4 (xm mk), zO 4 (qq k 7) [.ref ((qq k 8)), .ref ((qq k 9)), .ref ((qq k 10))], zI t (qq k 8) 32 (fun _ => 0), zI t (qq k 9) 32 (fun _ => 0), zA t 2 (qq k 10) 32 (fun _ => none), zO 4 (qq k 11) [.ref ((qq k 12)), .ref ((qq k 13)), .ref ((qq k 14))], zI t (qq k 12) 64 (fun _ => 0), zI t (qq k 13) 64 (fun _ => 0), zA t 2 (qq k 14) 64 (fun _ => none), zO 0 (qq k 15) [.ref ((no k)), .int 0, .ref ((qq k 16)), .ref ((qq k 20)), .ref ((qq k 24)), .int 0, .int 0, .int 0], zO 4 (qq k 16) [.ref ((qq k 17)), .ref ((qq k 18)), .ref ((qq k 19))], zI t (qq k 17) 32 (fun _ => 0), zI t (qq k 18) 32 (fun _ => 0), zA t 2 (qq k 19) 32 (fun _ => none), zO 4 (qq k 20) [.ref ((qq k 21)), .ref ((qq k 22)), .ref ((qq k 23))], zI t (qq k 21) 4 (fun _ => 0), zI t (qq k 22) 4 (fun _ => 0), zA t 2 (qq k 23) 4 (fun _ => none), zA t 2 (qq k 24) 16 (fun _ => none), zJ t ou 1 (fun _ => 0)] H := xd_P hP (fun q h => List.mem_append_right _ h)
    have hDc : va_D (fun q : Nat => s.heap.size ≤ q) [zO 7 xa [.ref nw, .ref na, .int 0], zA t 4 na 7 (fun j => some (qq j 0)), zO 2 nw [.ref rw, .int 0, .int 0, .int 0, .int 0], zA t 3 rw 300 (fun _ => none), zO 3 (qq k 0) [.int (nI k), .ref nw, .int 0, .int 0, .int 0, .ref ((qq k 1)), .ref ((qq k 7)), .ref ((qq k 11)), .int 1, .int 0, .int 0, .int (nI (8 + 3 * k)), .int ((-1)), .int 0, .ref ((qq k 15))], zO 5 (qq k 1) [.ref ((qq k 2)), .ref ((qq k 3)), .ref ((qq k 4)), .ref ((qq k 5)), .ref ((qq k 6)), .int 1], zJ t (qq k 2) 32 (fun _ => 1099511627776), zI t (qq k 3) 8 (fun _ => 0), zJ t (qq k 4) 8 (fun _ => 0), zI t (qq k 5) 4 (xm 1), zI t (qq k 6) 4 (xm mk), zO 4 (qq k 7) [.ref ((qq k 8)), .ref ((qq k 9)), .ref ((qq k 10))], zI t (qq k 8) 32 (fun _ => 0), zI t (qq k 9) 32 (fun _ => 0), zA t 2 (qq k 10) 32 (fun _ => none), zO 4 (qq k 11) [.ref ((qq k 12)), .ref ((qq k 13)), .ref ((qq k 14))], zI t (qq k 12) 64 (fun _ => 0), zI t (qq k 13) 64 (fun _ => 0), zA t 2 (qq k 14) 64 (fun _ => none), zO 0 (qq k 15) [.ref ((no k)), .int 0, .ref ((qq k 16)), .ref ((qq k 20)), .ref ((qq k 24)), .int 0, .int 0, .int 0], zO 4 (qq k 16) [.ref ((qq k 17)), .ref ((qq k 18)), .ref ((qq k 19))], zI t (qq k 17) 32 (fun _ => 0), zI t (qq k 18) 32 (fun _ => 0), zA t 2 (qq k 19) 32 (fun _ => none), zO 4 (qq k 20) [.ref ((qq k 21)), .ref ((qq k 22)), .ref ((qq k 23))], zI t (qq k 21) 4 (fun _ => 0), zI t (qq k 22) 4 (fun _ => 0), zA t 2 (qq k 23) 4 (fun _ => none), zA t 2 (qq k 24) 16 (fun _ => none), zJ t ou 1 (fun _ => 0)] := xd_R hD
    refine xe_sfxi (wr := lP t ma nb wy hd tk hli hst pq mk) (wc := [zO 7 xa [.ref nw, .ref na, .int 0], zA t 4 na 7 (fun j => some (qq j 0)), zO 2 nw [.ref rw, .int 0, .int 0, .int 0, .int 0], zA t 3 rw 300 (fun _ => none), zO 3 (qq k 0) [.int (nI k), .ref nw, .int 0, .int 0, .int 0, .ref ((qq k 1)), .ref ((qq k 7)), .ref ((qq k 11)), .int 1, .int 0, .int 0, .int (nI (8 + 3 * k)), .int ((-1)), .int 0, .ref ((qq k 15))], zO 5 (qq k 1) [.ref ((qq k 2)), .ref ((qq k 3)), .ref ((qq k 4)), .ref ((qq k 5)), .ref ((qq k 6)), .int 1], zJ t (qq k 2) 32 (fun _ => 1099511627776), zI t (qq k 3) 8 (fun _ => 0), zJ t (qq k 4) 8 (fun _ => 0), zI t (qq k 5) 4 (xm 1), zI t (qq k 6) 4 (xm mk), zO 4 (qq k 7) [.ref ((qq k 8)), .ref ((qq k 9)), .ref ((qq k 10))], zI t (qq k 8) 32 (fun _ => 0), zI t (qq k 9) 32 (fun _ => 0), zA t 2 (qq k 10) 32 (fun _ => none), zO 4 (qq k 11) [.ref ((qq k 12)), .ref ((qq k 13)), .ref ((qq k 14))], zI t (qq k 12) 64 (fun _ => 0), zI t (qq k 13) 64 (fun _ => 0), zA t 2 (qq k 14) 64 (fun _ => none), zO 0 (qq k 15) [.ref ((no k)), .int 0, .ref ((qq k 16)), .ref ((qq k 20)), .ref ((qq k 24)), .int 0, .int 0, .int 0], zO 4 (qq k 16) [.ref ((qq k 17)), .ref ((qq k 18)), .ref ((qq k 19))], zI t (qq k 17) 32 (fun _ => 0), zI t (qq k 18) 32 (fun _ => 0), zA t 2 (qq k 19) 32 (fun _ => none), zO 4 (qq k 20) [.ref ((qq k 21)), .ref ((qq k 22)), .ref ((qq k 23))], zI t (qq k 21) 4 (fun _ => 0), zI t (qq k 22) 4 (fun _ => 0), zA t 2 (qq k 23) 4 (fun _ => none), zA t 2 (qq k 24) 16 (fun _ => none), zJ t ou 1 (fun _ => 0)]) (xh_S (As := [.ref xa, .int (nI k), .int a3, .int a4, .ref ou]) (rest := []) Z (H2_known l hfl D t xa nw na rw ou qq no mk k hk a3 a4 H.size) h_W_known k_793 k_794 rfl rfl ⟨Nat.le_of_ble_eq_true rfl, Nat.le_of_ble_eq_true rfl⟩ (xh_pre hK hPc hDc hG (fun q hq => hS.2.1 q hq (Nat.not_le.mpr hq))) rfl hl.1 rfl (Nat.le_of_ble_eq_true rfl) d_W_law_824 ⟨Nat.le_of_ble_eq_true rfl, Nat.le_of_ble_eq_true rfl⟩) hP hD hS hA (fun r_ u_ H locs hw hP hD hS => ?_)
    obtain rfl := hw.symm
    refine lv_istore (lv' := [(5, .int 1), (4, .int 1), (3, .ref ou), (2, .ref ma), (1, .ref xa), (0, .ref b)]) hx hb d_W_law_827 hl (by decide) rfl (fun ls hl => ?_)
    refine lv_aload_n hx hb d_W_law_829 rfl (lv_at hl 3 rfl) ?_
    refine lv_aload_n hx hb d_W_law_830 rfl (lv_at hl 5 rfl) ?_
    refine lv_iload hx hb d_W_law_831 (lv_at hl 1 rfl) ?_
    refine lv_iconst (v := 1) hx hb d_W_law_833 (by decide) ?_
    refine lv_iadd hx hb d_W_law_834 ?_
    refine va_sld hx hb hX hbl hbA hS (by unfold vp_in; decide) d_W_law_835 ?_
    refine lv_topi (fun z9 ez9 => ?_)
    obtain rfl : nI k = z9 := ea2.trans ez9.symm
    refine lv_aload_n hx hb d_W_law_836 rfl (lv_at hl 5 rfl) ?_
    refine lv_iload hx hb d_W_law_837 (lv_at hl 1 rfl) ?_
    refine lv_iconst (v := 2) hx hb d_W_law_839 (by decide) ?_
    refine lv_iadd hx hb d_W_law_840 ?_
    refine va_sld hx hb hX hbl hbA hS (by unfold vp_in; decide) d_W_law_841 ?_
    refine lv_topi (fun z9 ez9 => ?_)
    obtain rfl : a3 = z9 := ea3.trans ez9.symm
    refine lv_aload_n hx hb d_W_law_842 rfl (lv_at hl 5 rfl) ?_
    refine lv_iload hx hb d_W_law_843 (lv_at hl 1 rfl) ?_
    refine lv_iconst (v := 3) hx hb d_W_law_845 (by decide) ?_
    refine lv_iadd hx hb d_W_law_846 ?_
    refine va_sld hx hb hX hbl hbA hS (by unfold vp_in; decide) d_W_law_847 ?_
    refine lv_topi (fun z9 ez9 => ?_)
    obtain rfl : a4 = z9 := ea4.trans ez9.symm
    obtain ⟨hP, hD⟩ := lP_k hk hP hD
    have hP : va_P D vwCl [zO 13 ma [.int 0, .int 0, .int 0, .int 0, .int 0, .int 0, .ref nb, .ref wy, .ref hd, .ref tk], zA t 7 nb 7 (fun j => some (pq j 0)), zO 9 (pq k 0) [.int (nI k), .int 1, .int 0, .int 0, .int 0, .int 0, .int (nI (8 + 3 * k)), .int ((-1)), .int 0, .int 0, .ref ((pq k 1)), .ref ((pq k 7)), .ref ((pq k 11)), .ref ((pq k 15)), .ref ((pq k 19)), .ref ((pq k 23)), .int 0], zO 11 (pq k 1) [.int 0, .ref ((pq k 2)), .ref ((pq k 3)), .ref ((pq k 4)), .ref ((pq k 5)), .ref ((pq k 6)), .int 1], zJ t (pq k 2) 32 (fun _ => 1099511627776), zJ t (pq k 3) 8 (fun _ => 0), zI t (pq k 4) 8 (fun _ => 0), zI t (pq k 5) 4 (xm 1), zI t (pq k 6) 4 (xm mk), zO 10 (pq k 7) [.ref ((pq k 8)), .ref ((pq k 9)), .ref ((pq k 10)), .int 0], zI t (pq k 8) 8 (fun _ => 0), zI t (pq k 9) 8 (fun _ => 0), zA t 5 (pq k 10) 8 (fun _ => none), zO 10 (pq k 11) [.ref ((pq k 12)), .ref ((pq k 13)), .ref ((pq k 14)), .int 0], zI t (pq k 12) 8 (fun _ => 0), zI t (pq k 13) 8 (fun _ => 0), zA t 5 (pq k 14) 8 (fun _ => none), zO 10 (pq k 15) [.ref ((pq k 16)), .ref ((pq k 17)), .ref ((pq k 18)), .int 0], zI t (pq k 16) 8 (fun _ => 0), zI t (pq k 17) 8 (fun _ => 0), zA t 5 (pq k 18) 8 (fun _ => none), zO 10 (pq k 19) [.ref ((pq k 20)), .ref ((pq k 21)), .ref ((pq k 22)), .int 0], zI t (pq k 20) 8 (fun _ => 0), zI t (pq k 21) 8 (fun _ => 0), zA t 5 (pq k 22) 8 (fun _ => none), zA t 5 (pq k 23) 16 (fun _ => none)] H := hP
    have hD : va_D (fun q : Nat => s.heap.size ≤ q) [zO 13 ma [.int 0, .int 0, .int 0, .int 0, .int 0, .int 0, .ref nb, .ref wy, .ref hd, .ref tk], zA t 7 nb 7 (fun j => some (pq j 0)), zO 9 (pq k 0) [.int (nI k), .int 1, .int 0, .int 0, .int 0, .int 0, .int (nI (8 + 3 * k)), .int ((-1)), .int 0, .int 0, .ref ((pq k 1)), .ref ((pq k 7)), .ref ((pq k 11)), .ref ((pq k 15)), .ref ((pq k 19)), .ref ((pq k 23)), .int 0], zO 11 (pq k 1) [.int 0, .ref ((pq k 2)), .ref ((pq k 3)), .ref ((pq k 4)), .ref ((pq k 5)), .ref ((pq k 6)), .int 1], zJ t (pq k 2) 32 (fun _ => 1099511627776), zJ t (pq k 3) 8 (fun _ => 0), zI t (pq k 4) 8 (fun _ => 0), zI t (pq k 5) 4 (xm 1), zI t (pq k 6) 4 (xm mk), zO 10 (pq k 7) [.ref ((pq k 8)), .ref ((pq k 9)), .ref ((pq k 10)), .int 0], zI t (pq k 8) 8 (fun _ => 0), zI t (pq k 9) 8 (fun _ => 0), zA t 5 (pq k 10) 8 (fun _ => none), zO 10 (pq k 11) [.ref ((pq k 12)), .ref ((pq k 13)), .ref ((pq k 14)), .int 0], zI t (pq k 12) 8 (fun _ => 0), zI t (pq k 13) 8 (fun _ => 0), zA t 5 (pq k 14) 8 (fun _ => none), zO 10 (pq k 15) [.ref ((pq k 16)), .ref ((pq k 17)), .ref ((pq k 18)), .int 0], zI t (pq k 16) 8 (fun _ => 0), zI t (pq k 17) 8 (fun _ => 0), zA t 5 (pq k 18) 8 (fun _ => none), zO 10 (pq k 19) [.ref ((pq k 20)), .ref ((pq k 21)), .ref ((pq k 22)), .int 0], zI t (pq k 20) 8 (fun _ => 0), zI t (pq k 21) 8 (fun _ => 0), zA t 5 (pq k 22) 8 (fun _ => none), zA t 5 (pq k 23) 16 (fun _ => none)] := hD
    refine xe_calli (wr := []) (xs_V (As := [.int (nI k), .int a3, .int a4]) (rest := []) Z (C_P_known l D t ma nb wy hd tk 0 pq mk k hk a3 a4 H.size) m_P_known k_1271 k_1272 k_1273 rfl rfl ⟨Nat.le_of_ble_eq_true rfl, Nat.le_of_ble_eq_true rfl⟩ (va_recv hK.2 hP (ci := 13) (q0 := 0) rfl rfl) (xe_pre hK (hP.sub [0, 1, 2, 3, 4, 5, 6, 7, 8, 9, 10, 11, 12, 13, 14, 15, 16, 17, 18, 19, 20, 21, 22, 23, 24, 25] rfl) (hD.sub [0, 1, 2, 3, 4, 5, 6, 7, 8, 9, 10, 11, 12, 13, 14, 15, 16, 17, 18, 19, 20, 21, 22, 23, 24, 25] (by decide) rfl)) rfl hl.1 rfl (Nat.le_of_ble_eq_true rfl) d_W_law_848 ⟨Nat.le_of_ble_eq_true rfl, Nat.le_of_ble_eq_true rfl⟩) hP hD hS hA [0, 1, 2, 3, 4, 5, 6, 7, 8, 9, 10, 11, 12, 13, 14, 15, 16, 17, 18, 19, 20, 21, 22, 23, 24, 25] [] rfl rfl (by decide) (by decide) (fun r_4 u_ H locs hw hP hD hS => ?_)
    have hP : va_P D vwCl [zO 13 ma [.int 1, .int 0, .int 0, .int 0, .int 0, .int 0, .ref nb, .ref wy, .ref hd, .ref tk]] H := hP
    have hD : va_D (fun q : Nat => s.heap.size ≤ q) [zO 13 ma [.int 1, .int 0, .int 0, .int 0, .int 0, .int 0, .ref nb, .ref wy, .ref hd, .ref tk]] := hD
    obtain rfl := hw.symm
    refine lv_istore (lv' := [(6, .int 0), (5, .int 1), (4, .int 1), (3, .ref ou), (2, .ref ma), (1, .ref xa), (0, .ref b)]) hx hb d_W_law_851 hl (by decide) rfl (fun ls hl => ?_)
    refine lv_aload_n hx hb d_W_law_853 rfl (lv_at hl 4 rfl) ?_
    refine xr_call (xs_V (As := []) (rest := []) Z (C_P_thrown l D t ma 1 (.int 0) (.int 0) (.int 0) (.int 0) (.int 0) (.ref nb) (.ref wy) (.ref hd) (.ref tk)) m_P_thrown k_1026 k_1027 k_1028 rfl rfl ⟨Nat.le_of_ble_eq_true rfl, Nat.le_of_ble_eq_true rfl⟩ (va_recv hK.2 hP (ci := 13) (q0 := 0) rfl rfl) (xr_pre hK (hP.sub [0] rfl)) rfl hl.1 rfl (Nat.le_of_ble_eq_true rfl) d_W_law_854 ⟨Nat.le_of_ble_eq_true rfl, Nat.le_of_ble_eq_true rfl⟩) ?_
    refine lv_iload hx hb d_W_law_857 (lv_at hl 1 rfl) ?_
    refine lv_icmp_eq (tgt := 864) hx hb d_W_law_859 (by decide) (fun _ => ?_) (fun c_5 => absurd (rfl) c_5)
    refine lv_iload hx hb d_W_law_864 (lv_at hl 1 rfl) ?_
    refine lv_if_ne (tgt := 881) hx hb d_W_law_866 (by decide) (fun _ => ?_) (fun c_6 => absurd c_6 (by decide))
    refine lv_goto (tgt := 977) hx hb d_W_law_881 (by decide) ?_
    refine W.widen (k := 100000) (n := 1000000) (Nat.le_of_ble_eq_true rfl) (Nat.le_of_ble_eq_true rfl) ?_
    exact back H locs ls hS (lv_sub hl [2, 6] rfl)
theorem d_W_law_884 : decode c_W_law 884 = .ok (.aload_n 1, 1) := by decide +kernel
theorem d_W_law_885 : decode c_W_law 885 = .ok (.aload_n 0, 1) := by decide +kernel
theorem d_W_law_886 : decode c_W_law 886 = .ok (.iload 4, 2) := by decide +kernel
theorem d_W_law_888 : decode c_W_law 888 = .ok (.iconst 1, 1) := by decide +kernel
theorem d_W_law_889 : decode c_W_law 889 = .ok (.iadd, 1) := by decide +kernel
theorem d_W_law_890 : decode c_W_law 890 = .ok (.iaload, 1) := by decide +kernel
theorem d_W_law_891 : decode c_W_law 891 = .ok (.aload_n 0, 1) := by decide +kernel
theorem d_W_law_892 : decode c_W_law 892 = .ok (.iload 4, 2) := by decide +kernel
theorem d_W_law_894 : decode c_W_law 894 = .ok (.iconst 2, 1) := by decide +kernel
theorem d_W_law_895 : decode c_W_law 895 = .ok (.iadd, 1) := by decide +kernel
theorem d_W_law_896 : decode c_W_law 896 = .ok (.iaload, 1) := by decide +kernel
theorem d_W_law_897 : decode c_W_law 897 = .ok (.aload_n 3, 1) := by decide +kernel
theorem d_W_law_898 : decode c_W_law 898 = .ok (.invokestatic 117, 3) := by decide +kernel
theorem d_W_law_901 : decode c_W_law 901 = .ok (.istore 5, 2) := by decide +kernel
theorem d_W_law_903 : decode c_W_law 903 = .ok (.aload_n 2, 1) := by decide +kernel
theorem d_W_law_904 : decode c_W_law 904 = .ok (.aload_n 0, 1) := by decide +kernel
theorem d_W_law_905 : decode c_W_law 905 = .ok (.iload 4, 2) := by decide +kernel
theorem d_W_law_907 : decode c_W_law 907 = .ok (.iconst 1, 1) := by decide +kernel
theorem d_W_law_908 : decode c_W_law 908 = .ok (.iadd, 1) := by decide +kernel
theorem d_W_law_909 : decode c_W_law 909 = .ok (.iaload, 1) := by decide +kernel
theorem d_W_law_910 : decode c_W_law 910 = .ok (.aload_n 0, 1) := by decide +kernel
theorem d_W_law_911 : decode c_W_law 911 = .ok (.iload 4, 2) := by decide +kernel
theorem d_W_law_913 : decode c_W_law 913 = .ok (.iconst 2, 1) := by decide +kernel
theorem d_W_law_914 : decode c_W_law 914 = .ok (.iadd, 1) := by decide +kernel
theorem d_W_law_915 : decode c_W_law 915 = .ok (.iaload, 1) := by decide +kernel
theorem d_W_law_916 : decode c_W_law 916 = .ok (.invokevirtual 119, 3) := by decide +kernel
theorem d_W_law_919 : decode c_W_law 919 = .ok (.istore 6, 2) := by decide +kernel
theorem d_W_law_921 : decode c_W_law 921 = .ok (.aload_n 2, 1) := by decide +kernel
theorem d_W_law_922 : decode c_W_law 922 = .ok (.invokevirtual 76, 3) := by decide +kernel
theorem d_W_law_925 : decode c_W_law 925 = .ok (.iload 5, 2) := by decide +kernel
theorem d_W_law_927 : decode c_W_law 927 = .ok (.if_icmp .eq 5, 3) := by decide +kernel
theorem d_W_law_932 : decode c_W_law 932 = .ok (.iload 5, 2) := by decide +kernel
theorem d_W_law_934 : decode c_W_law 934 = .ok (.ifCond .ne 15, 3) := by decide +kernel
theorem d_W_law_937 : decode c_W_law 937 = .ok (.aload_n 3, 1) := by decide +kernel
theorem d_W_law_938 : decode c_W_law 938 = .ok (.iconst 0, 1) := by decide +kernel
theorem d_W_law_939 : decode c_W_law 939 = .ok (.laload, 1) := by decide +kernel
theorem d_W_law_940 : decode c_W_law 940 = .ok (.iload 6, 2) := by decide +kernel
theorem d_W_law_942 : decode c_W_law 942 = .ok (.i2l, 1) := by decide +kernel
theorem d_W_law_943 : decode c_W_law 943 = .ok (.lcmp, 1) := by decide +kernel
theorem d_W_law_944 : decode c_W_law 944 = .ok (.ifCond .eq 5, 3) := by decide +kernel
theorem d_W_law_949 : decode c_W_law 949 = .ok (.goto 28, 3) := by decide +kernel
set_option maxHeartbeats 4000000 in
set_option maxRecDepth 100000 in
/-- about -/
theorem LW_about {p : Program} {e : Env} {s : State} {m : MethodId} {below : List Frame} {meth : Method} {c : Code} (l : Launch) (hfl : l.flags = pinnedFlags ++ [noTraceFlag]) {b : Nat} {xs : Nat → Int32} (D : va_G) (t : Nat → ClassId) (Z : xF p m c code 8 s "QuorumStoreLaw" D vwCl (xTY t)) (hG : xg s) (hX : va_X b 8 xs s s.heap) (hbl : b < s.heap.size) (xa nw na rw ou ma nb wy hd tk hli hst : Nat) (qq pq : Nat → Nat → Nat) (no : Nat → Nat) (mk : Int32) {H : Heap} {locs : List Loc} {ls : Array Slot} (hP : va_P D vwCl (lP t ma nb wy hd tk hli hst pq mk ++ (lQ t xa nw na rw qq no mk ++ [zJ t ou 1 (fun _ => 0)])) H) (hD : va_D (fun q : Nat => s.heap.size ≤ q) (lP t ma nb wy hd tk hli hst pq mk ++ (lQ t xa nw na rw qq no mk ++ [zJ t ou 1 (fun _ => 0)]))) (hS : va_S (fun q : Nat => s.heap.size ≤ q) s.heap H locs) (hl : lv_has ls 8 [(4, .int 1), (3, .ref ou), (2, .ref ma), (1, .ref xa), (0, .ref b)])
    (back : ∀ (H : Heap) (locs : List Loc) (ls : Array Slot), va_S (fun q : Nat => s.heap.size ≤ q) s.heap H locs → lv_has ls 8 [(4, .int 1), (0, .ref b)] → W p l e room_1 s m #[Value.ref b] below meth c H locs 100000 1000000 (lw_Z below #[Value.ref b] s) (F0 m 977 ls [])) : W p l e room_1 s m #[Value.ref b] below meth c H locs 380 5892 (lw_Z below #[Value.ref b] s) (F0 m 884 ls []) := by
  obtain ⟨hx, hb, hml, hown, hK⟩ := id Z
  have hts := hK.1.at (args := #[Value.ref b])
  have hA : ∀ q : Nat, s.heap.size ≤ q → (fun q : Nat => s.heap.size ≤ q) q := fun _ h => h
  have hbA : ¬ (fun q : Nat => s.heap.size ≤ q) b := Nat.not_le.mpr hbl
  refine lv_aload_n hx hb d_W_law_884 rfl (lv_at hl 3 rfl) ?_
  refine lv_aload_n hx hb d_W_law_885 rfl (lv_at hl 4 rfl) ?_
  refine lv_iload hx hb d_W_law_886 (lv_at hl 0 rfl) ?_
  refine lv_iconst (v := 1) hx hb d_W_law_888 (by decide) ?_
  refine lv_iadd hx hb d_W_law_889 ?_
  refine va_sld hx hb hX hbl hbA hS (by unfold vp_in; decide) d_W_law_890 ?_
  refine lv_topi (fun a2 ea2 => ?_)
  refine lv_aload_n hx hb d_W_law_891 rfl (lv_at hl 4 rfl) ?_
  refine lv_iload hx hb d_W_law_892 (lv_at hl 0 rfl) ?_
  refine lv_iconst (v := 2) hx hb d_W_law_894 (by decide) ?_
  refine lv_iadd hx hb d_W_law_895 ?_
  refine va_sld hx hb hX hbl hbA hS (by unfold vp_in; decide) d_W_law_896 ?_
  refine lv_topi (fun a3 ea3 => ?_)
  refine lv_aload_n hx hb d_W_law_897 rfl (lv_at hl 1 rfl) ?_
  rcases xq_node a2 7 (by decide) with hn | ⟨k, hk, rfl⟩
  · obtain ⟨hP, hD⟩ := lQ_0 hP hD
    have hPc : va_P D vwCl [zO 7 xa [.ref nw, .ref na, .int 0], zA t 4 na 7 (fun j => some (qq j 0)), zO 2 nw [.ref rw, .int 0, .int 0, .int 0, .int 0], zA t 3 rw 300 (fun _ => none), zJ t ou 1 (fun _ => 0)] H := xd_P hP (fun q h => List.mem_append_right _ h)
    have hDc : va_D (fun q : Nat => s.heap.size ≤ q) [zO 7 xa [.ref nw, .ref na, .int 0], zA t 4 na 7 (fun j => some (qq j 0)), zO 2 nw [.ref rw, .int 0, .int 0, .int 0, .int 0], zA t 3 rw 300 (fun _ => none), zJ t ou 1 (fun _ => 0)] := xd_R hD
    refine xe_sfxi (wr := lP t ma nb wy hd tk hli hst pq mk) (wc := [zO 7 xa [.ref nw, .ref na, .int 0], zA t 4 na 7 (fun j => some (qq j 0)), zO 2 nw [.ref rw, .int 0, .int 0, .int 0, .int 0], zA t 3 rw 300 (fun _ => none), zJ t ou 1 (fun _ => 0)]) (xh_S (As := [.ref xa, .int a2, .int a3, .ref ou]) (rest := []) Z (H_about l hfl D t xa nw na rw ou qq a2 a3 hn H.size) h_W_about k_802 k_803 rfl rfl ⟨Nat.le_of_ble_eq_true rfl, Nat.le_of_ble_eq_true rfl⟩ (xh_pre hK hPc hDc hG (fun q hq => hS.2.1 q hq (Nat.not_le.mpr hq))) rfl hl.1 rfl (Nat.le_of_ble_eq_true rfl) d_W_law_898 ⟨Nat.le_of_ble_eq_true rfl, Nat.le_of_ble_eq_true rfl⟩) hP hD hS hA (fun r_ u_ H locs hw hP hD hS => ?_)
    obtain rfl := hw.symm
    refine lv_istore (lv' := [(5, .int 1), (4, .int 1), (3, .ref ou), (2, .ref ma), (1, .ref xa), (0, .ref b)]) hx hb d_W_law_901 hl (by decide) rfl (fun ls hl => ?_)
    refine lv_aload_n hx hb d_W_law_903 rfl (lv_at hl 3 rfl) ?_
    refine lv_aload_n hx hb d_W_law_904 rfl (lv_at hl 5 rfl) ?_
    refine lv_iload hx hb d_W_law_905 (lv_at hl 1 rfl) ?_
    refine lv_iconst (v := 1) hx hb d_W_law_907 (by decide) ?_
    refine lv_iadd hx hb d_W_law_908 ?_
    refine va_sld hx hb hX hbl hbA hS (by unfold vp_in; decide) d_W_law_909 ?_
    refine lv_topi (fun z9 ez9 => ?_)
    obtain rfl : a2 = z9 := ea2.trans ez9.symm
    refine lv_aload_n hx hb d_W_law_910 rfl (lv_at hl 5 rfl) ?_
    refine lv_iload hx hb d_W_law_911 (lv_at hl 1 rfl) ?_
    refine lv_iconst (v := 2) hx hb d_W_law_913 (by decide) ?_
    refine lv_iadd hx hb d_W_law_914 ?_
    refine va_sld hx hb hX hbl hbA hS (by unfold vp_in; decide) d_W_law_915 ?_
    refine lv_topi (fun z9 ez9 => ?_)
    obtain rfl : a3 = z9 := ea3.trans ez9.symm
    obtain ⟨hP, hD⟩ := lP_0 hP hD
    have hP : va_P D vwCl [zO 13 ma [.int 0, .int 0, .int 0, .int 0, .int 0, .int 0, .ref nb, .ref wy, .ref hd, .ref tk]] H := hP
    have hD : va_D (fun q : Nat => s.heap.size ≤ q) [zO 13 ma [.int 0, .int 0, .int 0, .int 0, .int 0, .int 0, .ref nb, .ref wy, .ref hd, .ref tk]] := hD
    refine xe_calli (wr := []) (xs_V (As := [.int a2, .int a3]) (rest := []) Z (C_P_about_1 l D t ma nb wy hd tk 0 a2 a3 hn H.size) m_P_about k_1275 k_1276 k_1277 rfl rfl ⟨Nat.le_of_ble_eq_true rfl, Nat.le_of_ble_eq_true rfl⟩ (va_recv hK.2 hP (ci := 13) (q0 := 0) rfl rfl) (xe_pre hK (hP.sub [0] rfl) (hD.sub [0] (by decide) rfl)) rfl hl.1 rfl (Nat.le_of_ble_eq_true rfl) d_W_law_916 ⟨Nat.le_of_ble_eq_true rfl, Nat.le_of_ble_eq_true rfl⟩) hP hD hS hA [0] [] rfl rfl (by decide) (by decide) (fun r_1 u_ H locs hw hP hD hS => ?_)
    have hP : va_P D vwCl [zO 13 ma [.int 1, .int 0, .int 0, .int 0, .int 0, .int 0, .ref nb, .ref wy, .ref hd, .ref tk]] H := hP
    have hD : va_D (fun q : Nat => s.heap.size ≤ q) [zO 13 ma [.int 1, .int 0, .int 0, .int 0, .int 0, .int 0, .ref nb, .ref wy, .ref hd, .ref tk]] := hD
    obtain rfl := hw.symm
    refine lv_istore (lv' := [(6, .int 0), (5, .int 1), (4, .int 1), (3, .ref ou), (2, .ref ma), (1, .ref xa), (0, .ref b)]) hx hb d_W_law_919 hl (by decide) rfl (fun ls hl => ?_)
    refine lv_aload_n hx hb d_W_law_921 rfl (lv_at hl 4 rfl) ?_
    refine xr_call (xs_V (As := []) (rest := []) Z (C_P_thrown l D t ma 1 (.int 0) (.int 0) (.int 0) (.int 0) (.int 0) (.ref nb) (.ref wy) (.ref hd) (.ref tk)) m_P_thrown k_1026 k_1027 k_1028 rfl rfl ⟨Nat.le_of_ble_eq_true rfl, Nat.le_of_ble_eq_true rfl⟩ (va_recv hK.2 hP (ci := 13) (q0 := 0) rfl rfl) (xr_pre hK (hP.sub [0] rfl)) rfl hl.1 rfl (Nat.le_of_ble_eq_true rfl) d_W_law_922 ⟨Nat.le_of_ble_eq_true rfl, Nat.le_of_ble_eq_true rfl⟩) ?_
    refine lv_iload hx hb d_W_law_925 (lv_at hl 1 rfl) ?_
    refine lv_icmp_eq (tgt := 932) hx hb d_W_law_927 (by decide) (fun _ => ?_) (fun c_2 => absurd (rfl) c_2)
    refine lv_iload hx hb d_W_law_932 (lv_at hl 1 rfl) ?_
    refine lv_if_ne (tgt := 949) hx hb d_W_law_934 (by decide) (fun _ => ?_) (fun c_3 => absurd c_3 (by decide))
    refine lv_goto (tgt := 977) hx hb d_W_law_949 (by decide) ?_
    refine W.widen (k := 100000) (n := 1000000) (Nat.le_of_ble_eq_true rfl) (Nat.le_of_ble_eq_true rfl) ?_
    exact back H locs ls hS (lv_sub hl [2, 6] rfl)
  · rcases xq_13 a3 with hw9 | rfl | rfl | rfl | rfl | rfl | rfl | rfl | rfl | rfl | rfl | rfl | rfl | rfl | rfl
    · obtain ⟨hP, hD⟩ := lQ_k hk hP hD
      have hPc : va_P D vwCl [zO 7 xa [.ref nw, .ref na, .int 0], zA t 4 na 7 (fun j => some (qq j 0)), zO 2 nw [.ref rw, .int 0, .int 0, .int 0, .int 0], zA t 3 rw 300 (fun _ => none), zO 3 (qq k 0) [.int (nI k), .ref nw, .int 0, .int 0, .int 0, .ref ((qq k 1)), .ref ((qq k 7)), .ref ((qq k 11)), .int 1, .int 0, .int 0, .int (nI (8 + 3 * k)), .int ((-1)), .int 0, .ref ((qq k 15))], zO 5 (qq k 1) [.ref ((qq k 2)), .ref ((qq k 3)), .ref ((qq k 4)), .ref ((qq k 5)), .ref ((qq k 6)), .int 1], zJ t (qq k 2) 32 (fun _ => 1099511627776), zI t (qq k 3) 8 (fun _ => 0), zJ t (qq k 4) 8 (fun _ => 0), zI t (qq k 5) 4 (xm 1), zI t (qq k 6) 4 (xm mk), zO 4 (qq k 7) [.ref ((qq k 8)), .ref ((qq k 9)), .ref ((qq k 10))], zI t (qq k 8) 32 (fun _ => 0), zI t (qq k 9) 32 (fun _ => 0), zA t 2 (qq k 10) 32 (fun _ => none), zO 4 (qq k 11) [.ref ((qq k 12)), .ref ((qq k 13)), .ref ((qq k 14))], zI t (qq k 12) 64 (fun _ => 0), zI t (qq k 13) 64 (fun _ => 0), zA t 2 (qq k 14) 64 (fun _ => none), zO 0 (qq k 15) [.ref ((no k)), .int 0, .ref ((qq k 16)), .ref ((qq k 20)), .ref ((qq k 24)), .int 0, .int 0, .int 0], zO 4 (qq k 16) [.ref ((qq k 17)), .ref ((qq k 18)), .ref ((qq k 19))], zI t (qq k 17) 32 (fun _ => 0), zI t (qq k 18) 32 (fun _ => 0), zA t 2 (qq k 19) 32 (fun _ => none), zO 4 (qq k 20) [.ref ((qq k 21)), .ref ((qq k 22)), .ref ((qq k 23))], zI t (qq k 21) 4 (fun _ => 0), zI t (qq k 22) 4 (fun _ => 0), zA t 2 (qq k 23) 4 (fun _ => none), zA t 2 (qq k 24) 16 (fun _ => none), zJ t ou 1 (fun _ => 0)] H := xd_P hP (fun q h => List.mem_append_right _ h)
      have hDc : va_D (fun q : Nat => s.heap.size ≤ q) [zO 7 xa [.ref nw, .ref na, .int 0], zA t 4 na 7 (fun j => some (qq j 0)), zO 2 nw [.ref rw, .int 0, .int 0, .int 0, .int 0], zA t 3 rw 300 (fun _ => none), zO 3 (qq k 0) [.int (nI k), .ref nw, .int 0, .int 0, .int 0, .ref ((qq k 1)), .ref ((qq k 7)), .ref ((qq k 11)), .int 1, .int 0, .int 0, .int (nI (8 + 3 * k)), .int ((-1)), .int 0, .ref ((qq k 15))], zO 5 (qq k 1) [.ref ((qq k 2)), .ref ((qq k 3)), .ref ((qq k 4)), .ref ((qq k 5)), .ref ((qq k 6)), .int 1], zJ t (qq k 2) 32 (fun _ => 1099511627776), zI t (qq k 3) 8 (fun _ => 0), zJ t (qq k 4) 8 (fun _ => 0), zI t (qq k 5) 4 (xm 1), zI t (qq k 6) 4 (xm mk), zO 4 (qq k 7) [.ref ((qq k 8)), .ref ((qq k 9)), .ref ((qq k 10))], zI t (qq k 8) 32 (fun _ => 0), zI t (qq k 9) 32 (fun _ => 0), zA t 2 (qq k 10) 32 (fun _ => none), zO 4 (qq k 11) [.ref ((qq k 12)), .ref ((qq k 13)), .ref ((qq k 14))], zI t (qq k 12) 64 (fun _ => 0), zI t (qq k 13) 64 (fun _ => 0), zA t 2 (qq k 14) 64 (fun _ => none), zO 0 (qq k 15) [.ref ((no k)), .int 0, .ref ((qq k 16)), .ref ((qq k 20)), .ref ((qq k 24)), .int 0, .int 0, .int 0], zO 4 (qq k 16) [.ref ((qq k 17)), .ref ((qq k 18)), .ref ((qq k 19))], zI t (qq k 17) 32 (fun _ => 0), zI t (qq k 18) 32 (fun _ => 0), zA t 2 (qq k 19) 32 (fun _ => none), zO 4 (qq k 20) [.ref ((qq k 21)), .ref ((qq k 22)), .ref ((qq k 23))], zI t (qq k 21) 4 (fun _ => 0), zI t (qq k 22) 4 (fun _ => 0), zA t 2 (qq k 23) 4 (fun _ => none), zA t 2 (qq k 24) 16 (fun _ => none), zJ t ou 1 (fun _ => 0)] := xd_R hD
      refine xe_sfxi (wr := lP t ma nb wy hd tk hli hst pq mk) (wc := [zO 7 xa [.ref nw, .ref na, .int 0], zA t 4 na 7 (fun j => some (qq j 0)), zO 2 nw [.ref rw, .int 0, .int 0, .int 0, .int 0], zA t 3 rw 300 (fun _ => none), zO 3 (qq k 0) [.int (nI k), .ref nw, .int 0, .int 0, .int 0, .ref ((qq k 1)), .ref ((qq k 7)), .ref ((qq k 11)), .int 1, .int 0, .int 0, .int (nI (8 + 3 * k)), .int ((-1)), .int 0, .ref ((qq k 15))], zO 5 (qq k 1) [.ref ((qq k 2)), .ref ((qq k 3)), .ref ((qq k 4)), .ref ((qq k 5)), .ref ((qq k 6)), .int 1], zJ t (qq k 2) 32 (fun _ => 1099511627776), zI t (qq k 3) 8 (fun _ => 0), zJ t (qq k 4) 8 (fun _ => 0), zI t (qq k 5) 4 (xm 1), zI t (qq k 6) 4 (xm mk), zO 4 (qq k 7) [.ref ((qq k 8)), .ref ((qq k 9)), .ref ((qq k 10))], zI t (qq k 8) 32 (fun _ => 0), zI t (qq k 9) 32 (fun _ => 0), zA t 2 (qq k 10) 32 (fun _ => none), zO 4 (qq k 11) [.ref ((qq k 12)), .ref ((qq k 13)), .ref ((qq k 14))], zI t (qq k 12) 64 (fun _ => 0), zI t (qq k 13) 64 (fun _ => 0), zA t 2 (qq k 14) 64 (fun _ => none), zO 0 (qq k 15) [.ref ((no k)), .int 0, .ref ((qq k 16)), .ref ((qq k 20)), .ref ((qq k 24)), .int 0, .int 0, .int 0], zO 4 (qq k 16) [.ref ((qq k 17)), .ref ((qq k 18)), .ref ((qq k 19))], zI t (qq k 17) 32 (fun _ => 0), zI t (qq k 18) 32 (fun _ => 0), zA t 2 (qq k 19) 32 (fun _ => none), zO 4 (qq k 20) [.ref ((qq k 21)), .ref ((qq k 22)), .ref ((qq k 23))], zI t (qq k 21) 4 (fun _ => 0), zI t (qq k 22) 4 (fun _ => 0), zA t 2 (qq k 23) 4 (fun _ => none), zA t 2 (qq k 24) 16 (fun _ => none), zJ t ou 1 (fun _ => 0)]) (xh_S (As := [.ref xa, .int (nI k), .int a3, .ref ou]) (rest := []) Z (H2_about l hfl D t xa nw na rw ou qq no mk k hk a3 hw9 H.size) h_W_about k_802 k_803 rfl rfl ⟨Nat.le_of_ble_eq_true rfl, Nat.le_of_ble_eq_true rfl⟩ (xh_pre hK hPc hDc hG (fun q hq => hS.2.1 q hq (Nat.not_le.mpr hq))) rfl hl.1 rfl (Nat.le_of_ble_eq_true rfl) d_W_law_898 ⟨Nat.le_of_ble_eq_true rfl, Nat.le_of_ble_eq_true rfl⟩) hP hD hS hA (fun r_ u_ H locs hw hP hD hS => ?_)
      obtain rfl := hw.symm
      refine lv_istore (lv' := [(5, .int 2), (4, .int 1), (3, .ref ou), (2, .ref ma), (1, .ref xa), (0, .ref b)]) hx hb d_W_law_901 hl (by decide) rfl (fun ls hl => ?_)
      refine lv_aload_n hx hb d_W_law_903 rfl (lv_at hl 3 rfl) ?_
      refine lv_aload_n hx hb d_W_law_904 rfl (lv_at hl 5 rfl) ?_
      refine lv_iload hx hb d_W_law_905 (lv_at hl 1 rfl) ?_
      refine lv_iconst (v := 1) hx hb d_W_law_907 (by decide) ?_
      refine lv_iadd hx hb d_W_law_908 ?_
      refine va_sld hx hb hX hbl hbA hS (by unfold vp_in; decide) d_W_law_909 ?_
      refine lv_topi (fun z9 ez9 => ?_)
      obtain rfl : nI k = z9 := ea2.trans ez9.symm
      refine lv_aload_n hx hb d_W_law_910 rfl (lv_at hl 5 rfl) ?_
      refine lv_iload hx hb d_W_law_911 (lv_at hl 1 rfl) ?_
      refine lv_iconst (v := 2) hx hb d_W_law_913 (by decide) ?_
      refine lv_iadd hx hb d_W_law_914 ?_
      refine va_sld hx hb hX hbl hbA hS (by unfold vp_in; decide) d_W_law_915 ?_
      refine lv_topi (fun z9 ez9 => ?_)
      obtain rfl : a3 = z9 := ea3.trans ez9.symm
      obtain ⟨hP, hD⟩ := lP_k hk hP hD
      have hP : va_P D vwCl [zO 13 ma [.int 0, .int 0, .int 0, .int 0, .int 0, .int 0, .ref nb, .ref wy, .ref hd, .ref tk], zA t 7 nb 7 (fun j => some (pq j 0)), zO 9 (pq k 0) [.int (nI k), .int 1, .int 0, .int 0, .int 0, .int 0, .int (nI (8 + 3 * k)), .int ((-1)), .int 0, .int 0, .ref ((pq k 1)), .ref ((pq k 7)), .ref ((pq k 11)), .ref ((pq k 15)), .ref ((pq k 19)), .ref ((pq k 23)), .int 0], zO 11 (pq k 1) [.int 0, .ref ((pq k 2)), .ref ((pq k 3)), .ref ((pq k 4)), .ref ((pq k 5)), .ref ((pq k 6)), .int 1], zJ t (pq k 2) 32 (fun _ => 1099511627776), zJ t (pq k 3) 8 (fun _ => 0), zI t (pq k 4) 8 (fun _ => 0), zI t (pq k 5) 4 (xm 1), zI t (pq k 6) 4 (xm mk), zO 10 (pq k 7) [.ref ((pq k 8)), .ref ((pq k 9)), .ref ((pq k 10)), .int 0], zI t (pq k 8) 8 (fun _ => 0), zI t (pq k 9) 8 (fun _ => 0), zA t 5 (pq k 10) 8 (fun _ => none), zO 10 (pq k 11) [.ref ((pq k 12)), .ref ((pq k 13)), .ref ((pq k 14)), .int 0], zI t (pq k 12) 8 (fun _ => 0), zI t (pq k 13) 8 (fun _ => 0), zA t 5 (pq k 14) 8 (fun _ => none), zO 10 (pq k 15) [.ref ((pq k 16)), .ref ((pq k 17)), .ref ((pq k 18)), .int 0], zI t (pq k 16) 8 (fun _ => 0), zI t (pq k 17) 8 (fun _ => 0), zA t 5 (pq k 18) 8 (fun _ => none), zO 10 (pq k 19) [.ref ((pq k 20)), .ref ((pq k 21)), .ref ((pq k 22)), .int 0], zI t (pq k 20) 8 (fun _ => 0), zI t (pq k 21) 8 (fun _ => 0), zA t 5 (pq k 22) 8 (fun _ => none), zA t 5 (pq k 23) 16 (fun _ => none)] H := hP
      have hD : va_D (fun q : Nat => s.heap.size ≤ q) [zO 13 ma [.int 0, .int 0, .int 0, .int 0, .int 0, .int 0, .ref nb, .ref wy, .ref hd, .ref tk], zA t 7 nb 7 (fun j => some (pq j 0)), zO 9 (pq k 0) [.int (nI k), .int 1, .int 0, .int 0, .int 0, .int 0, .int (nI (8 + 3 * k)), .int ((-1)), .int 0, .int 0, .ref ((pq k 1)), .ref ((pq k 7)), .ref ((pq k 11)), .ref ((pq k 15)), .ref ((pq k 19)), .ref ((pq k 23)), .int 0], zO 11 (pq k 1) [.int 0, .ref ((pq k 2)), .ref ((pq k 3)), .ref ((pq k 4)), .ref ((pq k 5)), .ref ((pq k 6)), .int 1], zJ t (pq k 2) 32 (fun _ => 1099511627776), zJ t (pq k 3) 8 (fun _ => 0), zI t (pq k 4) 8 (fun _ => 0), zI t (pq k 5) 4 (xm 1), zI t (pq k 6) 4 (xm mk), zO 10 (pq k 7) [.ref ((pq k 8)), .ref ((pq k 9)), .ref ((pq k 10)), .int 0], zI t (pq k 8) 8 (fun _ => 0), zI t (pq k 9) 8 (fun _ => 0), zA t 5 (pq k 10) 8 (fun _ => none), zO 10 (pq k 11) [.ref ((pq k 12)), .ref ((pq k 13)), .ref ((pq k 14)), .int 0], zI t (pq k 12) 8 (fun _ => 0), zI t (pq k 13) 8 (fun _ => 0), zA t 5 (pq k 14) 8 (fun _ => none), zO 10 (pq k 15) [.ref ((pq k 16)), .ref ((pq k 17)), .ref ((pq k 18)), .int 0], zI t (pq k 16) 8 (fun _ => 0), zI t (pq k 17) 8 (fun _ => 0), zA t 5 (pq k 18) 8 (fun _ => none), zO 10 (pq k 19) [.ref ((pq k 20)), .ref ((pq k 21)), .ref ((pq k 22)), .int 0], zI t (pq k 20) 8 (fun _ => 0), zI t (pq k 21) 8 (fun _ => 0), zA t 5 (pq k 22) 8 (fun _ => none), zA t 5 (pq k 23) 16 (fun _ => none)] := hD
      refine xe_calli (wr := []) (xs_V (As := [.int (nI k), .int a3]) (rest := []) Z (C_P_about_2 l D t ma nb wy hd tk 0 pq mk k hk a3 hw9 H.size) m_P_about k_1275 k_1276 k_1277 rfl rfl ⟨Nat.le_of_ble_eq_true rfl, Nat.le_of_ble_eq_true rfl⟩ (va_recv hK.2 hP (ci := 13) (q0 := 0) rfl rfl) (xe_pre hK (hP.sub [0, 1, 2, 3, 4, 5, 6, 7, 8, 9, 10, 11, 12, 13, 14, 15, 16, 17, 18, 19, 20, 21, 22, 23, 24, 25] rfl) (hD.sub [0, 1, 2, 3, 4, 5, 6, 7, 8, 9, 10, 11, 12, 13, 14, 15, 16, 17, 18, 19, 20, 21, 22, 23, 24, 25] (by decide) rfl)) rfl hl.1 rfl (Nat.le_of_ble_eq_true rfl) d_W_law_916 ⟨Nat.le_of_ble_eq_true rfl, Nat.le_of_ble_eq_true rfl⟩) hP hD hS hA [0, 1, 2, 3, 4, 5, 6, 7, 8, 9, 10, 11, 12, 13, 14, 15, 16, 17, 18, 19, 20, 21, 22, 23, 24, 25] [] rfl rfl (by decide) (by decide) (fun r_4 u_ H locs hw hP hD hS => ?_)
      have hP : va_P D vwCl [zO 13 ma [.int 2, .int 0, .int 0, .int 0, .int 0, .int 0, .ref nb, .ref wy, .ref hd, .ref tk]] H := hP
      have hD : va_D (fun q : Nat => s.heap.size ≤ q) [zO 13 ma [.int 2, .int 0, .int 0, .int 0, .int 0, .int 0, .ref nb, .ref wy, .ref hd, .ref tk]] := hD
      obtain rfl := hw.symm
      refine lv_istore (lv' := [(6, .int 0), (5, .int 2), (4, .int 1), (3, .ref ou), (2, .ref ma), (1, .ref xa), (0, .ref b)]) hx hb d_W_law_919 hl (by decide) rfl (fun ls hl => ?_)
      refine lv_aload_n hx hb d_W_law_921 rfl (lv_at hl 4 rfl) ?_
      refine xr_call (xs_V (As := []) (rest := []) Z (C_P_thrown l D t ma 2 (.int 0) (.int 0) (.int 0) (.int 0) (.int 0) (.ref nb) (.ref wy) (.ref hd) (.ref tk)) m_P_thrown k_1026 k_1027 k_1028 rfl rfl ⟨Nat.le_of_ble_eq_true rfl, Nat.le_of_ble_eq_true rfl⟩ (va_recv hK.2 hP (ci := 13) (q0 := 0) rfl rfl) (xr_pre hK (hP.sub [0] rfl)) rfl hl.1 rfl (Nat.le_of_ble_eq_true rfl) d_W_law_922 ⟨Nat.le_of_ble_eq_true rfl, Nat.le_of_ble_eq_true rfl⟩) ?_
      refine lv_iload hx hb d_W_law_925 (lv_at hl 1 rfl) ?_
      refine lv_icmp_eq (tgt := 932) hx hb d_W_law_927 (by decide) (fun _ => ?_) (fun c_5 => absurd (rfl) c_5)
      refine lv_iload hx hb d_W_law_932 (lv_at hl 1 rfl) ?_
      refine lv_if_ne (tgt := 949) hx hb d_W_law_934 (by decide) (fun _ => ?_) (fun c_6 => absurd c_6 (by decide))
      refine lv_goto (tgt := 977) hx hb d_W_law_949 (by decide) ?_
      refine W.widen (k := 100000) (n := 1000000) (Nat.le_of_ble_eq_true rfl) (Nat.le_of_ble_eq_true rfl) ?_
      exact back H locs ls hS (lv_sub hl [2, 6] rfl)
    · obtain ⟨hP, hD⟩ := lQ_k hk hP hD
      have hPc : va_P D vwCl [zO 7 xa [.ref nw, .ref na, .int 0], zA t 4 na 7 (fun j => some (qq j 0)), zO 2 nw [.ref rw, .int 0, .int 0, .int 0, .int 0], zA t 3 rw 300 (fun _ => none), zO 3 (qq k 0) [.int (nI k), .ref nw, .int 0, .int 0, .int 0, .ref ((qq k 1)), .ref ((qq k 7)), .ref ((qq k 11)), .int 1, .int 0, .int 0, .int (nI (8 + 3 * k)), .int ((-1)), .int 0, .ref ((qq k 15))], zO 5 (qq k 1) [.ref ((qq k 2)), .ref ((qq k 3)), .ref ((qq k 4)), .ref ((qq k 5)), .ref ((qq k 6)), .int 1], zJ t (qq k 2) 32 (fun _ => 1099511627776), zI t (qq k 3) 8 (fun _ => 0), zJ t (qq k 4) 8 (fun _ => 0), zI t (qq k 5) 4 (xm 1), zI t (qq k 6) 4 (xm mk), zO 4 (qq k 7) [.ref ((qq k 8)), .ref ((qq k 9)), .ref ((qq k 10))], zI t (qq k 8) 32 (fun _ => 0), zI t (qq k 9) 32 (fun _ => 0), zA t 2 (qq k 10) 32 (fun _ => none), zO 4 (qq k 11) [.ref ((qq k 12)), .ref ((qq k 13)), .ref ((qq k 14))], zI t (qq k 12) 64 (fun _ => 0), zI t (qq k 13) 64 (fun _ => 0), zA t 2 (qq k 14) 64 (fun _ => none), zO 0 (qq k 15) [.ref ((no k)), .int 0, .ref ((qq k 16)), .ref ((qq k 20)), .ref ((qq k 24)), .int 0, .int 0, .int 0], zO 4 (qq k 16) [.ref ((qq k 17)), .ref ((qq k 18)), .ref ((qq k 19))], zI t (qq k 17) 32 (fun _ => 0), zI t (qq k 18) 32 (fun _ => 0), zA t 2 (qq k 19) 32 (fun _ => none), zO 4 (qq k 20) [.ref ((qq k 21)), .ref ((qq k 22)), .ref ((qq k 23))], zI t (qq k 21) 4 (fun _ => 0), zI t (qq k 22) 4 (fun _ => 0), zA t 2 (qq k 23) 4 (fun _ => none), zA t 2 (qq k 24) 16 (fun _ => none), zJ t ou 1 (fun _ => 0)] H := xd_P hP (fun q h => List.mem_append_right _ h)
      have hDc : va_D (fun q : Nat => s.heap.size ≤ q) [zO 7 xa [.ref nw, .ref na, .int 0], zA t 4 na 7 (fun j => some (qq j 0)), zO 2 nw [.ref rw, .int 0, .int 0, .int 0, .int 0], zA t 3 rw 300 (fun _ => none), zO 3 (qq k 0) [.int (nI k), .ref nw, .int 0, .int 0, .int 0, .ref ((qq k 1)), .ref ((qq k 7)), .ref ((qq k 11)), .int 1, .int 0, .int 0, .int (nI (8 + 3 * k)), .int ((-1)), .int 0, .ref ((qq k 15))], zO 5 (qq k 1) [.ref ((qq k 2)), .ref ((qq k 3)), .ref ((qq k 4)), .ref ((qq k 5)), .ref ((qq k 6)), .int 1], zJ t (qq k 2) 32 (fun _ => 1099511627776), zI t (qq k 3) 8 (fun _ => 0), zJ t (qq k 4) 8 (fun _ => 0), zI t (qq k 5) 4 (xm 1), zI t (qq k 6) 4 (xm mk), zO 4 (qq k 7) [.ref ((qq k 8)), .ref ((qq k 9)), .ref ((qq k 10))], zI t (qq k 8) 32 (fun _ => 0), zI t (qq k 9) 32 (fun _ => 0), zA t 2 (qq k 10) 32 (fun _ => none), zO 4 (qq k 11) [.ref ((qq k 12)), .ref ((qq k 13)), .ref ((qq k 14))], zI t (qq k 12) 64 (fun _ => 0), zI t (qq k 13) 64 (fun _ => 0), zA t 2 (qq k 14) 64 (fun _ => none), zO 0 (qq k 15) [.ref ((no k)), .int 0, .ref ((qq k 16)), .ref ((qq k 20)), .ref ((qq k 24)), .int 0, .int 0, .int 0], zO 4 (qq k 16) [.ref ((qq k 17)), .ref ((qq k 18)), .ref ((qq k 19))], zI t (qq k 17) 32 (fun _ => 0), zI t (qq k 18) 32 (fun _ => 0), zA t 2 (qq k 19) 32 (fun _ => none), zO 4 (qq k 20) [.ref ((qq k 21)), .ref ((qq k 22)), .ref ((qq k 23))], zI t (qq k 21) 4 (fun _ => 0), zI t (qq k 22) 4 (fun _ => 0), zA t 2 (qq k 23) 4 (fun _ => none), zA t 2 (qq k 24) 16 (fun _ => none), zJ t ou 1 (fun _ => 0)] := xd_R hD
      refine xe_sfxi (wr := lP t ma nb wy hd tk hli hst pq mk) (wc := [zO 7 xa [.ref nw, .ref na, .int 0], zA t 4 na 7 (fun j => some (qq j 0)), zO 2 nw [.ref rw, .int 0, .int 0, .int 0, .int 0], zA t 3 rw 300 (fun _ => none), zO 3 (qq k 0) [.int (nI k), .ref nw, .int 0, .int 0, .int 0, .ref ((qq k 1)), .ref ((qq k 7)), .ref ((qq k 11)), .int 1, .int 0, .int 0, .int (nI (8 + 3 * k)), .int ((-1)), .int 0, .ref ((qq k 15))], zO 5 (qq k 1) [.ref ((qq k 2)), .ref ((qq k 3)), .ref ((qq k 4)), .ref ((qq k 5)), .ref ((qq k 6)), .int 1], zJ t (qq k 2) 32 (fun _ => 1099511627776), zI t (qq k 3) 8 (fun _ => 0), zJ t (qq k 4) 8 (fun _ => 0), zI t (qq k 5) 4 (xm 1), zI t (qq k 6) 4 (xm mk), zO 4 (qq k 7) [.ref ((qq k 8)), .ref ((qq k 9)), .ref ((qq k 10))], zI t (qq k 8) 32 (fun _ => 0), zI t (qq k 9) 32 (fun _ => 0), zA t 2 (qq k 10) 32 (fun _ => none), zO 4 (qq k 11) [.ref ((qq k 12)), .ref ((qq k 13)), .ref ((qq k 14))], zI t (qq k 12) 64 (fun _ => 0), zI t (qq k 13) 64 (fun _ => 0), zA t 2 (qq k 14) 64 (fun _ => none), zO 0 (qq k 15) [.ref ((no k)), .int 0, .ref ((qq k 16)), .ref ((qq k 20)), .ref ((qq k 24)), .int 0, .int 0, .int 0], zO 4 (qq k 16) [.ref ((qq k 17)), .ref ((qq k 18)), .ref ((qq k 19))], zI t (qq k 17) 32 (fun _ => 0), zI t (qq k 18) 32 (fun _ => 0), zA t 2 (qq k 19) 32 (fun _ => none), zO 4 (qq k 20) [.ref ((qq k 21)), .ref ((qq k 22)), .ref ((qq k 23))], zI t (qq k 21) 4 (fun _ => 0), zI t (qq k 22) 4 (fun _ => 0), zA t 2 (qq k 23) 4 (fun _ => none), zA t 2 (qq k 24) 16 (fun _ => none), zJ t ou 1 (fun _ => 0)]) (xh_S (As := [.ref xa, .int (nI k), .int 0, .ref ou]) (rest := []) Z (R0_about l hfl D t xa nw na rw ou qq no mk k hk H.size) h_W_about k_802 k_803 rfl rfl ⟨Nat.le_of_ble_eq_true rfl, Nat.le_of_ble_eq_true rfl⟩ (xh_pre hK hPc hDc hG (fun q hq => hS.2.1 q hq (Nat.not_le.mpr hq))) rfl hl.1 rfl (Nat.le_of_ble_eq_true rfl) d_W_law_898 ⟨Nat.le_of_ble_eq_true rfl, Nat.le_of_ble_eq_true rfl⟩) hP hD hS hA (fun r_ u_ H locs hw hP hD hS => ?_)
      obtain rfl := hw.symm
      refine lv_istore (lv' := [(5, .int 0), (4, .int 1), (3, .ref ou), (2, .ref ma), (1, .ref xa), (0, .ref b)]) hx hb d_W_law_901 hl (by decide) rfl (fun ls hl => ?_)
      refine lv_aload_n hx hb d_W_law_903 rfl (lv_at hl 3 rfl) ?_
      refine lv_aload_n hx hb d_W_law_904 rfl (lv_at hl 5 rfl) ?_
      refine lv_iload hx hb d_W_law_905 (lv_at hl 1 rfl) ?_
      refine lv_iconst (v := 1) hx hb d_W_law_907 (by decide) ?_
      refine lv_iadd hx hb d_W_law_908 ?_
      refine va_sld hx hb hX hbl hbA hS (by unfold vp_in; decide) d_W_law_909 ?_
      refine lv_topi (fun z9 ez9 => ?_)
      obtain rfl : nI k = z9 := ea2.trans ez9.symm
      refine lv_aload_n hx hb d_W_law_910 rfl (lv_at hl 5 rfl) ?_
      refine lv_iload hx hb d_W_law_911 (lv_at hl 1 rfl) ?_
      refine lv_iconst (v := 2) hx hb d_W_law_913 (by decide) ?_
      refine lv_iadd hx hb d_W_law_914 ?_
      refine va_sld hx hb hX hbl hbA hS (by unfold vp_in; decide) d_W_law_915 ?_
      refine lv_topi (fun z9 ez9 => ?_)
      obtain rfl : 0 = z9 := ea3.trans ez9.symm
      obtain ⟨hP, hD⟩ := lP_k hk hP hD
      have hP : va_P D vwCl [zJ t ou 1 (xo ((1 : Int32).toInt64)), zO 13 ma [.int 0, .int 0, .int 0, .int 0, .int 0, .int 0, .ref nb, .ref wy, .ref hd, .ref tk], zA t 7 nb 7 (fun j => some (pq j 0)), zO 9 (pq k 0) [.int (nI k), .int 1, .int 0, .int 0, .int 0, .int 0, .int (nI (8 + 3 * k)), .int ((-1)), .int 0, .int 0, .ref ((pq k 1)), .ref ((pq k 7)), .ref ((pq k 11)), .ref ((pq k 15)), .ref ((pq k 19)), .ref ((pq k 23)), .int 0], zO 11 (pq k 1) [.int 0, .ref ((pq k 2)), .ref ((pq k 3)), .ref ((pq k 4)), .ref ((pq k 5)), .ref ((pq k 6)), .int 1], zJ t (pq k 2) 32 (fun _ => 1099511627776), zJ t (pq k 3) 8 (fun _ => 0), zI t (pq k 4) 8 (fun _ => 0), zI t (pq k 5) 4 (xm 1), zI t (pq k 6) 4 (xm mk), zO 10 (pq k 7) [.ref ((pq k 8)), .ref ((pq k 9)), .ref ((pq k 10)), .int 0], zI t (pq k 8) 8 (fun _ => 0), zI t (pq k 9) 8 (fun _ => 0), zA t 5 (pq k 10) 8 (fun _ => none), zO 10 (pq k 11) [.ref ((pq k 12)), .ref ((pq k 13)), .ref ((pq k 14)), .int 0], zI t (pq k 12) 8 (fun _ => 0), zI t (pq k 13) 8 (fun _ => 0), zA t 5 (pq k 14) 8 (fun _ => none), zO 10 (pq k 15) [.ref ((pq k 16)), .ref ((pq k 17)), .ref ((pq k 18)), .int 0], zI t (pq k 16) 8 (fun _ => 0), zI t (pq k 17) 8 (fun _ => 0), zA t 5 (pq k 18) 8 (fun _ => none), zO 10 (pq k 19) [.ref ((pq k 20)), .ref ((pq k 21)), .ref ((pq k 22)), .int 0], zI t (pq k 20) 8 (fun _ => 0), zI t (pq k 21) 8 (fun _ => 0), zA t 5 (pq k 22) 8 (fun _ => none), zA t 5 (pq k 23) 16 (fun _ => none)] H := hP
      have hD : va_D (fun q : Nat => s.heap.size ≤ q) [zJ t ou 1 (xo ((1 : Int32).toInt64)), zO 13 ma [.int 0, .int 0, .int 0, .int 0, .int 0, .int 0, .ref nb, .ref wy, .ref hd, .ref tk], zA t 7 nb 7 (fun j => some (pq j 0)), zO 9 (pq k 0) [.int (nI k), .int 1, .int 0, .int 0, .int 0, .int 0, .int (nI (8 + 3 * k)), .int ((-1)), .int 0, .int 0, .ref ((pq k 1)), .ref ((pq k 7)), .ref ((pq k 11)), .ref ((pq k 15)), .ref ((pq k 19)), .ref ((pq k 23)), .int 0], zO 11 (pq k 1) [.int 0, .ref ((pq k 2)), .ref ((pq k 3)), .ref ((pq k 4)), .ref ((pq k 5)), .ref ((pq k 6)), .int 1], zJ t (pq k 2) 32 (fun _ => 1099511627776), zJ t (pq k 3) 8 (fun _ => 0), zI t (pq k 4) 8 (fun _ => 0), zI t (pq k 5) 4 (xm 1), zI t (pq k 6) 4 (xm mk), zO 10 (pq k 7) [.ref ((pq k 8)), .ref ((pq k 9)), .ref ((pq k 10)), .int 0], zI t (pq k 8) 8 (fun _ => 0), zI t (pq k 9) 8 (fun _ => 0), zA t 5 (pq k 10) 8 (fun _ => none), zO 10 (pq k 11) [.ref ((pq k 12)), .ref ((pq k 13)), .ref ((pq k 14)), .int 0], zI t (pq k 12) 8 (fun _ => 0), zI t (pq k 13) 8 (fun _ => 0), zA t 5 (pq k 14) 8 (fun _ => none), zO 10 (pq k 15) [.ref ((pq k 16)), .ref ((pq k 17)), .ref ((pq k 18)), .int 0], zI t (pq k 16) 8 (fun _ => 0), zI t (pq k 17) 8 (fun _ => 0), zA t 5 (pq k 18) 8 (fun _ => none), zO 10 (pq k 19) [.ref ((pq k 20)), .ref ((pq k 21)), .ref ((pq k 22)), .int 0], zI t (pq k 20) 8 (fun _ => 0), zI t (pq k 21) 8 (fun _ => 0), zA t 5 (pq k 22) 8 (fun _ => none), zA t 5 (pq k 23) 16 (fun _ => none)] := hD
      refine xe_calli (wr := [zJ t ou 1 (xo ((1 : Int32).toInt64))]) (xs_V (As := [.int (nI k), .int 0]) (rest := []) Z (C_P_about_00 l D t ma nb wy hd tk 0 pq mk k hk H.size) m_P_about k_1275 k_1276 k_1277 rfl rfl ⟨Nat.le_of_ble_eq_true rfl, Nat.le_of_ble_eq_true rfl⟩ (va_recv hK.2 hP (ci := 13) (q0 := 1) rfl rfl) (xe_pre hK (hP.sub [1, 2, 3, 4, 5, 6, 7, 8, 9, 10, 11, 12, 13, 14, 15, 16, 17, 18, 19, 20, 21, 22, 23, 24, 25, 26] rfl) (hD.sub [1, 2, 3, 4, 5, 6, 7, 8, 9, 10, 11, 12, 13, 14, 15, 16, 17, 18, 19, 20, 21, 22, 23, 24, 25, 26] (by decide) rfl)) rfl hl.1 rfl (Nat.le_of_ble_eq_true rfl) d_W_law_916 ⟨Nat.le_of_ble_eq_true rfl, Nat.le_of_ble_eq_true rfl⟩) hP hD hS hA [1, 2, 3, 4, 5, 6, 7, 8, 9, 10, 11, 12, 13, 14, 15, 16, 17, 18, 19, 20, 21, 22, 23, 24, 25, 26] [0] rfl rfl (by decide) (by decide) (fun r_7 u_ H locs hw hP hD hS => ?_)
      have hP : va_P D vwCl [zJ t ou 1 (xo ((1 : Int32).toInt64)), zO 13 ma [.int 0, .int 0, .int 0, .int 0, .int 0, .int 0, .ref nb, .ref wy, .ref hd, .ref tk]] H := hP
      have hD : va_D (fun q : Nat => s.heap.size ≤ q) [zJ t ou 1 (xo ((1 : Int32).toInt64)), zO 13 ma [.int 0, .int 0, .int 0, .int 0, .int 0, .int 0, .ref nb, .ref wy, .ref hd, .ref tk]] := hD
      obtain rfl := hw.symm
      refine lv_istore (lv' := [(6, .int 1), (5, .int 0), (4, .int 1), (3, .ref ou), (2, .ref ma), (1, .ref xa), (0, .ref b)]) hx hb d_W_law_919 hl (by decide) rfl (fun ls hl => ?_)
      refine lv_aload_n hx hb d_W_law_921 rfl (lv_at hl 4 rfl) ?_
      refine xr_call (xs_V (As := []) (rest := []) Z (C_P_thrown l D t ma 0 (.int 0) (.int 0) (.int 0) (.int 0) (.int 0) (.ref nb) (.ref wy) (.ref hd) (.ref tk)) m_P_thrown k_1026 k_1027 k_1028 rfl rfl ⟨Nat.le_of_ble_eq_true rfl, Nat.le_of_ble_eq_true rfl⟩ (va_recv hK.2 hP (ci := 13) (q0 := 1) rfl rfl) (xr_pre hK (hP.sub [1] rfl)) rfl hl.1 rfl (Nat.le_of_ble_eq_true rfl) d_W_law_922 ⟨Nat.le_of_ble_eq_true rfl, Nat.le_of_ble_eq_true rfl⟩) ?_
      refine lv_iload hx hb d_W_law_925 (lv_at hl 1 rfl) ?_
      refine lv_icmp_eq (tgt := 932) hx hb d_W_law_927 (by decide) (fun _ => ?_) (fun c_8 => absurd (rfl) c_8)
      refine lv_iload hx hb d_W_law_932 (lv_at hl 1 rfl) ?_
      refine lv_if_ne (tgt := 949) hx hb d_W_law_934 (by decide) (fun c_9 => absurd c_9 (by decide)) (fun _ => ?_)
      refine lv_aload_n hx hb d_W_law_937 rfl (lv_at hl 3 rfl) ?_
      refine lv_iconst (v := 0) hx hb d_W_law_938 (by decide) ?_
      refine va_lald hx hb hK.2 hP 0 1 rfl rfl (by unfold vp_in; decide) d_W_law_939 ?_
      refine lv_iload hx hb d_W_law_940 (lv_at hl 0 rfl) ?_
      refine lv_i2l (v := (1 : Int32).toInt64) hx hb d_W_law_942 rfl ?_
      refine xl_lcmpE (x := (1 : Int32).toInt64) hx hb d_W_law_943 ?_
      refine lv_if_eq (tgt := 949) hx hb d_W_law_944 (by decide) (fun _ => ?_) (fun c_10 => absurd (rfl) c_10)
      refine lv_goto (tgt := 977) hx hb d_W_law_949 (by decide) ?_
      refine W.widen (k := 100000) (n := 1000000) (Nat.le_of_ble_eq_true rfl) (Nat.le_of_ble_eq_true rfl) ?_
      exact back H locs ls hS (lv_sub hl [2, 6] rfl)
    · obtain ⟨hP, hD⟩ := lQ_k hk hP hD
      have hPc : va_P D vwCl [zO 7 xa [.ref nw, .ref na, .int 0], zA t 4 na 7 (fun j => some (qq j 0)), zO 2 nw [.ref rw, .int 0, .int 0, .int 0, .int 0], zA t 3 rw 300 (fun _ => none), zO 3 (qq k 0) [.int (nI k), .ref nw, .int 0, .int 0, .int 0, .ref ((qq k 1)), .ref ((qq k 7)), .ref ((qq k 11)), .int 1, .int 0, .int 0, .int (nI (8 + 3 * k)), .int ((-1)), .int 0, .ref ((qq k 15))], zO 5 (qq k 1) [.ref ((qq k 2)), .ref ((qq k 3)), .ref ((qq k 4)), .ref ((qq k 5)), .ref ((qq k 6)), .int 1], zJ t (qq k 2) 32 (fun _ => 1099511627776), zI t (qq k 3) 8 (fun _ => 0), zJ t (qq k 4) 8 (fun _ => 0), zI t (qq k 5) 4 (xm 1), zI t (qq k 6) 4 (xm mk), zO 4 (qq k 7) [.ref ((qq k 8)), .ref ((qq k 9)), .ref ((qq k 10))], zI t (qq k 8) 32 (fun _ => 0), zI t (qq k 9) 32 (fun _ => 0), zA t 2 (qq k 10) 32 (fun _ => none), zO 4 (qq k 11) [.ref ((qq k 12)), .ref ((qq k 13)), .ref ((qq k 14))], zI t (qq k 12) 64 (fun _ => 0), zI t (qq k 13) 64 (fun _ => 0), zA t 2 (qq k 14) 64 (fun _ => none), zO 0 (qq k 15) [.ref ((no k)), .int 0, .ref ((qq k 16)), .ref ((qq k 20)), .ref ((qq k 24)), .int 0, .int 0, .int 0], zO 4 (qq k 16) [.ref ((qq k 17)), .ref ((qq k 18)), .ref ((qq k 19))], zI t (qq k 17) 32 (fun _ => 0), zI t (qq k 18) 32 (fun _ => 0), zA t 2 (qq k 19) 32 (fun _ => none), zO 4 (qq k 20) [.ref ((qq k 21)), .ref ((qq k 22)), .ref ((qq k 23))], zI t (qq k 21) 4 (fun _ => 0), zI t (qq k 22) 4 (fun _ => 0), zA t 2 (qq k 23) 4 (fun _ => none), zA t 2 (qq k 24) 16 (fun _ => none), zJ t ou 1 (fun _ => 0)] H := xd_P hP (fun q h => List.mem_append_right _ h)
      have hDc : va_D (fun q : Nat => s.heap.size ≤ q) [zO 7 xa [.ref nw, .ref na, .int 0], zA t 4 na 7 (fun j => some (qq j 0)), zO 2 nw [.ref rw, .int 0, .int 0, .int 0, .int 0], zA t 3 rw 300 (fun _ => none), zO 3 (qq k 0) [.int (nI k), .ref nw, .int 0, .int 0, .int 0, .ref ((qq k 1)), .ref ((qq k 7)), .ref ((qq k 11)), .int 1, .int 0, .int 0, .int (nI (8 + 3 * k)), .int ((-1)), .int 0, .ref ((qq k 15))], zO 5 (qq k 1) [.ref ((qq k 2)), .ref ((qq k 3)), .ref ((qq k 4)), .ref ((qq k 5)), .ref ((qq k 6)), .int 1], zJ t (qq k 2) 32 (fun _ => 1099511627776), zI t (qq k 3) 8 (fun _ => 0), zJ t (qq k 4) 8 (fun _ => 0), zI t (qq k 5) 4 (xm 1), zI t (qq k 6) 4 (xm mk), zO 4 (qq k 7) [.ref ((qq k 8)), .ref ((qq k 9)), .ref ((qq k 10))], zI t (qq k 8) 32 (fun _ => 0), zI t (qq k 9) 32 (fun _ => 0), zA t 2 (qq k 10) 32 (fun _ => none), zO 4 (qq k 11) [.ref ((qq k 12)), .ref ((qq k 13)), .ref ((qq k 14))], zI t (qq k 12) 64 (fun _ => 0), zI t (qq k 13) 64 (fun _ => 0), zA t 2 (qq k 14) 64 (fun _ => none), zO 0 (qq k 15) [.ref ((no k)), .int 0, .ref ((qq k 16)), .ref ((qq k 20)), .ref ((qq k 24)), .int 0, .int 0, .int 0], zO 4 (qq k 16) [.ref ((qq k 17)), .ref ((qq k 18)), .ref ((qq k 19))], zI t (qq k 17) 32 (fun _ => 0), zI t (qq k 18) 32 (fun _ => 0), zA t 2 (qq k 19) 32 (fun _ => none), zO 4 (qq k 20) [.ref ((qq k 21)), .ref ((qq k 22)), .ref ((qq k 23))], zI t (qq k 21) 4 (fun _ => 0), zI t (qq k 22) 4 (fun _ => 0), zA t 2 (qq k 23) 4 (fun _ => none), zA t 2 (qq k 24) 16 (fun _ => none), zJ t ou 1 (fun _ => 0)] := xd_R hD
      refine xe_sfxi (wr := lP t ma nb wy hd tk hli hst pq mk) (wc := [zO 7 xa [.ref nw, .ref na, .int 0], zA t 4 na 7 (fun j => some (qq j 0)), zO 2 nw [.ref rw, .int 0, .int 0, .int 0, .int 0], zA t 3 rw 300 (fun _ => none), zO 3 (qq k 0) [.int (nI k), .ref nw, .int 0, .int 0, .int 0, .ref ((qq k 1)), .ref ((qq k 7)), .ref ((qq k 11)), .int 1, .int 0, .int 0, .int (nI (8 + 3 * k)), .int ((-1)), .int 0, .ref ((qq k 15))], zO 5 (qq k 1) [.ref ((qq k 2)), .ref ((qq k 3)), .ref ((qq k 4)), .ref ((qq k 5)), .ref ((qq k 6)), .int 1], zJ t (qq k 2) 32 (fun _ => 1099511627776), zI t (qq k 3) 8 (fun _ => 0), zJ t (qq k 4) 8 (fun _ => 0), zI t (qq k 5) 4 (xm 1), zI t (qq k 6) 4 (xm mk), zO 4 (qq k 7) [.ref ((qq k 8)), .ref ((qq k 9)), .ref ((qq k 10))], zI t (qq k 8) 32 (fun _ => 0), zI t (qq k 9) 32 (fun _ => 0), zA t 2 (qq k 10) 32 (fun _ => none), zO 4 (qq k 11) [.ref ((qq k 12)), .ref ((qq k 13)), .ref ((qq k 14))], zI t (qq k 12) 64 (fun _ => 0), zI t (qq k 13) 64 (fun _ => 0), zA t 2 (qq k 14) 64 (fun _ => none), zO 0 (qq k 15) [.ref ((no k)), .int 0, .ref ((qq k 16)), .ref ((qq k 20)), .ref ((qq k 24)), .int 0, .int 0, .int 0], zO 4 (qq k 16) [.ref ((qq k 17)), .ref ((qq k 18)), .ref ((qq k 19))], zI t (qq k 17) 32 (fun _ => 0), zI t (qq k 18) 32 (fun _ => 0), zA t 2 (qq k 19) 32 (fun _ => none), zO 4 (qq k 20) [.ref ((qq k 21)), .ref ((qq k 22)), .ref ((qq k 23))], zI t (qq k 21) 4 (fun _ => 0), zI t (qq k 22) 4 (fun _ => 0), zA t 2 (qq k 23) 4 (fun _ => none), zA t 2 (qq k 24) 16 (fun _ => none), zJ t ou 1 (fun _ => 0)]) (xh_S (As := [.ref xa, .int (nI k), .int 1, .ref ou]) (rest := []) Z (R1_about l hfl D t xa nw na rw ou qq no mk k hk H.size) h_W_about k_802 k_803 rfl rfl ⟨Nat.le_of_ble_eq_true rfl, Nat.le_of_ble_eq_true rfl⟩ (xh_pre hK hPc hDc hG (fun q hq => hS.2.1 q hq (Nat.not_le.mpr hq))) rfl hl.1 rfl (Nat.le_of_ble_eq_true rfl) d_W_law_898 ⟨Nat.le_of_ble_eq_true rfl, Nat.le_of_ble_eq_true rfl⟩) hP hD hS hA (fun r_ u_ H locs hw hP hD hS => ?_)
      obtain rfl := hw.symm
      refine lv_istore (lv' := [(5, .int 0), (4, .int 1), (3, .ref ou), (2, .ref ma), (1, .ref xa), (0, .ref b)]) hx hb d_W_law_901 hl (by decide) rfl (fun ls hl => ?_)
      refine lv_aload_n hx hb d_W_law_903 rfl (lv_at hl 3 rfl) ?_
      refine lv_aload_n hx hb d_W_law_904 rfl (lv_at hl 5 rfl) ?_
      refine lv_iload hx hb d_W_law_905 (lv_at hl 1 rfl) ?_
      refine lv_iconst (v := 1) hx hb d_W_law_907 (by decide) ?_
      refine lv_iadd hx hb d_W_law_908 ?_
      refine va_sld hx hb hX hbl hbA hS (by unfold vp_in; decide) d_W_law_909 ?_
      refine lv_topi (fun z9 ez9 => ?_)
      obtain rfl : nI k = z9 := ea2.trans ez9.symm
      refine lv_aload_n hx hb d_W_law_910 rfl (lv_at hl 5 rfl) ?_
      refine lv_iload hx hb d_W_law_911 (lv_at hl 1 rfl) ?_
      refine lv_iconst (v := 2) hx hb d_W_law_913 (by decide) ?_
      refine lv_iadd hx hb d_W_law_914 ?_
      refine va_sld hx hb hX hbl hbA hS (by unfold vp_in; decide) d_W_law_915 ?_
      refine lv_topi (fun z9 ez9 => ?_)
      obtain rfl : 1 = z9 := ea3.trans ez9.symm
      obtain ⟨hP, hD⟩ := lP_k hk hP hD
      have hP : va_P D vwCl [zJ t ou 1 (xo ((0 : Int32).toInt64)), zO 13 ma [.int 0, .int 0, .int 0, .int 0, .int 0, .int 0, .ref nb, .ref wy, .ref hd, .ref tk], zA t 7 nb 7 (fun j => some (pq j 0)), zO 9 (pq k 0) [.int (nI k), .int 1, .int 0, .int 0, .int 0, .int 0, .int (nI (8 + 3 * k)), .int ((-1)), .int 0, .int 0, .ref ((pq k 1)), .ref ((pq k 7)), .ref ((pq k 11)), .ref ((pq k 15)), .ref ((pq k 19)), .ref ((pq k 23)), .int 0], zO 11 (pq k 1) [.int 0, .ref ((pq k 2)), .ref ((pq k 3)), .ref ((pq k 4)), .ref ((pq k 5)), .ref ((pq k 6)), .int 1], zJ t (pq k 2) 32 (fun _ => 1099511627776), zJ t (pq k 3) 8 (fun _ => 0), zI t (pq k 4) 8 (fun _ => 0), zI t (pq k 5) 4 (xm 1), zI t (pq k 6) 4 (xm mk), zO 10 (pq k 7) [.ref ((pq k 8)), .ref ((pq k 9)), .ref ((pq k 10)), .int 0], zI t (pq k 8) 8 (fun _ => 0), zI t (pq k 9) 8 (fun _ => 0), zA t 5 (pq k 10) 8 (fun _ => none), zO 10 (pq k 11) [.ref ((pq k 12)), .ref ((pq k 13)), .ref ((pq k 14)), .int 0], zI t (pq k 12) 8 (fun _ => 0), zI t (pq k 13) 8 (fun _ => 0), zA t 5 (pq k 14) 8 (fun _ => none), zO 10 (pq k 15) [.ref ((pq k 16)), .ref ((pq k 17)), .ref ((pq k 18)), .int 0], zI t (pq k 16) 8 (fun _ => 0), zI t (pq k 17) 8 (fun _ => 0), zA t 5 (pq k 18) 8 (fun _ => none), zO 10 (pq k 19) [.ref ((pq k 20)), .ref ((pq k 21)), .ref ((pq k 22)), .int 0], zI t (pq k 20) 8 (fun _ => 0), zI t (pq k 21) 8 (fun _ => 0), zA t 5 (pq k 22) 8 (fun _ => none), zA t 5 (pq k 23) 16 (fun _ => none)] H := hP
      have hD : va_D (fun q : Nat => s.heap.size ≤ q) [zJ t ou 1 (xo ((0 : Int32).toInt64)), zO 13 ma [.int 0, .int 0, .int 0, .int 0, .int 0, .int 0, .ref nb, .ref wy, .ref hd, .ref tk], zA t 7 nb 7 (fun j => some (pq j 0)), zO 9 (pq k 0) [.int (nI k), .int 1, .int 0, .int 0, .int 0, .int 0, .int (nI (8 + 3 * k)), .int ((-1)), .int 0, .int 0, .ref ((pq k 1)), .ref ((pq k 7)), .ref ((pq k 11)), .ref ((pq k 15)), .ref ((pq k 19)), .ref ((pq k 23)), .int 0], zO 11 (pq k 1) [.int 0, .ref ((pq k 2)), .ref ((pq k 3)), .ref ((pq k 4)), .ref ((pq k 5)), .ref ((pq k 6)), .int 1], zJ t (pq k 2) 32 (fun _ => 1099511627776), zJ t (pq k 3) 8 (fun _ => 0), zI t (pq k 4) 8 (fun _ => 0), zI t (pq k 5) 4 (xm 1), zI t (pq k 6) 4 (xm mk), zO 10 (pq k 7) [.ref ((pq k 8)), .ref ((pq k 9)), .ref ((pq k 10)), .int 0], zI t (pq k 8) 8 (fun _ => 0), zI t (pq k 9) 8 (fun _ => 0), zA t 5 (pq k 10) 8 (fun _ => none), zO 10 (pq k 11) [.ref ((pq k 12)), .ref ((pq k 13)), .ref ((pq k 14)), .int 0], zI t (pq k 12) 8 (fun _ => 0), zI t (pq k 13) 8 (fun _ => 0), zA t 5 (pq k 14) 8 (fun _ => none), zO 10 (pq k 15) [.ref ((pq k 16)), .ref ((pq k 17)), .ref ((pq k 18)), .int 0], zI t (pq k 16) 8 (fun _ => 0), zI t (pq k 17) 8 (fun _ => 0), zA t 5 (pq k 18) 8 (fun _ => none), zO 10 (pq k 19) [.ref ((pq k 20)), .ref ((pq k 21)), .ref ((pq k 22)), .int 0], zI t (pq k 20) 8 (fun _ => 0), zI t (pq k 21) 8 (fun _ => 0), zA t 5 (pq k 22) 8 (fun _ => none), zA t 5 (pq k 23) 16 (fun _ => none)] := hD
      refine xe_calli (wr := [zJ t ou 1 (xo ((0 : Int32).toInt64))]) (xs_V (As := [.int (nI k), .int 1]) (rest := []) Z (C_P_about_01 l D t ma nb wy hd tk 0 pq mk k hk H.size) m_P_about k_1275 k_1276 k_1277 rfl rfl ⟨Nat.le_of_ble_eq_true rfl, Nat.le_of_ble_eq_true rfl⟩ (va_recv hK.2 hP (ci := 13) (q0 := 1) rfl rfl) (xe_pre hK (hP.sub [1, 2, 3, 4, 5, 6, 7, 8, 9, 10, 11, 12, 13, 14, 15, 16, 17, 18, 19, 20, 21, 22, 23, 24, 25, 26] rfl) (hD.sub [1, 2, 3, 4, 5, 6, 7, 8, 9, 10, 11, 12, 13, 14, 15, 16, 17, 18, 19, 20, 21, 22, 23, 24, 25, 26] (by decide) rfl)) rfl hl.1 rfl (Nat.le_of_ble_eq_true rfl) d_W_law_916 ⟨Nat.le_of_ble_eq_true rfl, Nat.le_of_ble_eq_true rfl⟩) hP hD hS hA [1, 2, 3, 4, 5, 6, 7, 8, 9, 10, 11, 12, 13, 14, 15, 16, 17, 18, 19, 20, 21, 22, 23, 24, 25, 26] [0] rfl rfl (by decide) (by decide) (fun r_11 u_ H locs hw hP hD hS => ?_)
      have hP : va_P D vwCl [zJ t ou 1 (xo ((0 : Int32).toInt64)), zO 13 ma [.int 0, .int 0, .int 0, .int 0, .int 0, .int 0, .ref nb, .ref wy, .ref hd, .ref tk]] H := hP
      have hD : va_D (fun q : Nat => s.heap.size ≤ q) [zJ t ou 1 (xo ((0 : Int32).toInt64)), zO 13 ma [.int 0, .int 0, .int 0, .int 0, .int 0, .int 0, .ref nb, .ref wy, .ref hd, .ref tk]] := hD
      obtain rfl := hw.symm
      refine lv_istore (lv' := [(6, .int 0), (5, .int 0), (4, .int 1), (3, .ref ou), (2, .ref ma), (1, .ref xa), (0, .ref b)]) hx hb d_W_law_919 hl (by decide) rfl (fun ls hl => ?_)
      refine lv_aload_n hx hb d_W_law_921 rfl (lv_at hl 4 rfl) ?_
      refine xr_call (xs_V (As := []) (rest := []) Z (C_P_thrown l D t ma 0 (.int 0) (.int 0) (.int 0) (.int 0) (.int 0) (.ref nb) (.ref wy) (.ref hd) (.ref tk)) m_P_thrown k_1026 k_1027 k_1028 rfl rfl ⟨Nat.le_of_ble_eq_true rfl, Nat.le_of_ble_eq_true rfl⟩ (va_recv hK.2 hP (ci := 13) (q0 := 1) rfl rfl) (xr_pre hK (hP.sub [1] rfl)) rfl hl.1 rfl (Nat.le_of_ble_eq_true rfl) d_W_law_922 ⟨Nat.le_of_ble_eq_true rfl, Nat.le_of_ble_eq_true rfl⟩) ?_
      refine lv_iload hx hb d_W_law_925 (lv_at hl 1 rfl) ?_
      refine lv_icmp_eq (tgt := 932) hx hb d_W_law_927 (by decide) (fun _ => ?_) (fun c_12 => absurd (rfl) c_12)
      refine lv_iload hx hb d_W_law_932 (lv_at hl 1 rfl) ?_
      refine lv_if_ne (tgt := 949) hx hb d_W_law_934 (by decide) (fun c_13 => absurd c_13 (by decide)) (fun _ => ?_)
      refine lv_aload_n hx hb d_W_law_937 rfl (lv_at hl 3 rfl) ?_
      refine lv_iconst (v := 0) hx hb d_W_law_938 (by decide) ?_
      refine va_lald hx hb hK.2 hP 0 1 rfl rfl (by unfold vp_in; decide) d_W_law_939 ?_
      refine lv_iload hx hb d_W_law_940 (lv_at hl 0 rfl) ?_
      refine lv_i2l (v := (0 : Int32).toInt64) hx hb d_W_law_942 rfl ?_
      refine xl_lcmpE (x := (0 : Int32).toInt64) hx hb d_W_law_943 ?_
      refine lv_if_eq (tgt := 949) hx hb d_W_law_944 (by decide) (fun _ => ?_) (fun c_14 => absurd (rfl) c_14)
      refine lv_goto (tgt := 977) hx hb d_W_law_949 (by decide) ?_
      refine W.widen (k := 100000) (n := 1000000) (Nat.le_of_ble_eq_true rfl) (Nat.le_of_ble_eq_true rfl) ?_
      exact back H locs ls hS (lv_sub hl [2, 6] rfl)
    · obtain ⟨hP, hD⟩ := lQ_k hk hP hD
      have hPc : va_P D vwCl [zO 7 xa [.ref nw, .ref na, .int 0], zA t 4 na 7 (fun j => some (qq j 0)), zO 2 nw [.ref rw, .int 0, .int 0, .int 0, .int 0], zA t 3 rw 300 (fun _ => none), zO 3 (qq k 0) [.int (nI k), .ref nw, .int 0, .int 0, .int 0, .ref ((qq k 1)), .ref ((qq k 7)), .ref ((qq k 11)), .int 1, .int 0, .int 0, .int (nI (8 + 3 * k)), .int ((-1)), .int 0, .ref ((qq k 15))], zO 5 (qq k 1) [.ref ((qq k 2)), .ref ((qq k 3)), .ref ((qq k 4)), .ref ((qq k 5)), .ref ((qq k 6)), .int 1], zJ t (qq k 2) 32 (fun _ => 1099511627776), zI t (qq k 3) 8 (fun _ => 0), zJ t (qq k 4) 8 (fun _ => 0), zI t (qq k 5) 4 (xm 1), zI t (qq k 6) 4 (xm mk), zO 4 (qq k 7) [.ref ((qq k 8)), .ref ((qq k 9)), .ref ((qq k 10))], zI t (qq k 8) 32 (fun _ => 0), zI t (qq k 9) 32 (fun _ => 0), zA t 2 (qq k 10) 32 (fun _ => none), zO 4 (qq k 11) [.ref ((qq k 12)), .ref ((qq k 13)), .ref ((qq k 14))], zI t (qq k 12) 64 (fun _ => 0), zI t (qq k 13) 64 (fun _ => 0), zA t 2 (qq k 14) 64 (fun _ => none), zO 0 (qq k 15) [.ref ((no k)), .int 0, .ref ((qq k 16)), .ref ((qq k 20)), .ref ((qq k 24)), .int 0, .int 0, .int 0], zO 4 (qq k 16) [.ref ((qq k 17)), .ref ((qq k 18)), .ref ((qq k 19))], zI t (qq k 17) 32 (fun _ => 0), zI t (qq k 18) 32 (fun _ => 0), zA t 2 (qq k 19) 32 (fun _ => none), zO 4 (qq k 20) [.ref ((qq k 21)), .ref ((qq k 22)), .ref ((qq k 23))], zI t (qq k 21) 4 (fun _ => 0), zI t (qq k 22) 4 (fun _ => 0), zA t 2 (qq k 23) 4 (fun _ => none), zA t 2 (qq k 24) 16 (fun _ => none), zJ t ou 1 (fun _ => 0)] H := xd_P hP (fun q h => List.mem_append_right _ h)
      have hDc : va_D (fun q : Nat => s.heap.size ≤ q) [zO 7 xa [.ref nw, .ref na, .int 0], zA t 4 na 7 (fun j => some (qq j 0)), zO 2 nw [.ref rw, .int 0, .int 0, .int 0, .int 0], zA t 3 rw 300 (fun _ => none), zO 3 (qq k 0) [.int (nI k), .ref nw, .int 0, .int 0, .int 0, .ref ((qq k 1)), .ref ((qq k 7)), .ref ((qq k 11)), .int 1, .int 0, .int 0, .int (nI (8 + 3 * k)), .int ((-1)), .int 0, .ref ((qq k 15))], zO 5 (qq k 1) [.ref ((qq k 2)), .ref ((qq k 3)), .ref ((qq k 4)), .ref ((qq k 5)), .ref ((qq k 6)), .int 1], zJ t (qq k 2) 32 (fun _ => 1099511627776), zI t (qq k 3) 8 (fun _ => 0), zJ t (qq k 4) 8 (fun _ => 0), zI t (qq k 5) 4 (xm 1), zI t (qq k 6) 4 (xm mk), zO 4 (qq k 7) [.ref ((qq k 8)), .ref ((qq k 9)), .ref ((qq k 10))], zI t (qq k 8) 32 (fun _ => 0), zI t (qq k 9) 32 (fun _ => 0), zA t 2 (qq k 10) 32 (fun _ => none), zO 4 (qq k 11) [.ref ((qq k 12)), .ref ((qq k 13)), .ref ((qq k 14))], zI t (qq k 12) 64 (fun _ => 0), zI t (qq k 13) 64 (fun _ => 0), zA t 2 (qq k 14) 64 (fun _ => none), zO 0 (qq k 15) [.ref ((no k)), .int 0, .ref ((qq k 16)), .ref ((qq k 20)), .ref ((qq k 24)), .int 0, .int 0, .int 0], zO 4 (qq k 16) [.ref ((qq k 17)), .ref ((qq k 18)), .ref ((qq k 19))], zI t (qq k 17) 32 (fun _ => 0), zI t (qq k 18) 32 (fun _ => 0), zA t 2 (qq k 19) 32 (fun _ => none), zO 4 (qq k 20) [.ref ((qq k 21)), .ref ((qq k 22)), .ref ((qq k 23))], zI t (qq k 21) 4 (fun _ => 0), zI t (qq k 22) 4 (fun _ => 0), zA t 2 (qq k 23) 4 (fun _ => none), zA t 2 (qq k 24) 16 (fun _ => none), zJ t ou 1 (fun _ => 0)] := xd_R hD
      refine xe_sfxi (wr := lP t ma nb wy hd tk hli hst pq mk) (wc := [zO 7 xa [.ref nw, .ref na, .int 0], zA t 4 na 7 (fun j => some (qq j 0)), zO 2 nw [.ref rw, .int 0, .int 0, .int 0, .int 0], zA t 3 rw 300 (fun _ => none), zO 3 (qq k 0) [.int (nI k), .ref nw, .int 0, .int 0, .int 0, .ref ((qq k 1)), .ref ((qq k 7)), .ref ((qq k 11)), .int 1, .int 0, .int 0, .int (nI (8 + 3 * k)), .int ((-1)), .int 0, .ref ((qq k 15))], zO 5 (qq k 1) [.ref ((qq k 2)), .ref ((qq k 3)), .ref ((qq k 4)), .ref ((qq k 5)), .ref ((qq k 6)), .int 1], zJ t (qq k 2) 32 (fun _ => 1099511627776), zI t (qq k 3) 8 (fun _ => 0), zJ t (qq k 4) 8 (fun _ => 0), zI t (qq k 5) 4 (xm 1), zI t (qq k 6) 4 (xm mk), zO 4 (qq k 7) [.ref ((qq k 8)), .ref ((qq k 9)), .ref ((qq k 10))], zI t (qq k 8) 32 (fun _ => 0), zI t (qq k 9) 32 (fun _ => 0), zA t 2 (qq k 10) 32 (fun _ => none), zO 4 (qq k 11) [.ref ((qq k 12)), .ref ((qq k 13)), .ref ((qq k 14))], zI t (qq k 12) 64 (fun _ => 0), zI t (qq k 13) 64 (fun _ => 0), zA t 2 (qq k 14) 64 (fun _ => none), zO 0 (qq k 15) [.ref ((no k)), .int 0, .ref ((qq k 16)), .ref ((qq k 20)), .ref ((qq k 24)), .int 0, .int 0, .int 0], zO 4 (qq k 16) [.ref ((qq k 17)), .ref ((qq k 18)), .ref ((qq k 19))], zI t (qq k 17) 32 (fun _ => 0), zI t (qq k 18) 32 (fun _ => 0), zA t 2 (qq k 19) 32 (fun _ => none), zO 4 (qq k 20) [.ref ((qq k 21)), .ref ((qq k 22)), .ref ((qq k 23))], zI t (qq k 21) 4 (fun _ => 0), zI t (qq k 22) 4 (fun _ => 0), zA t 2 (qq k 23) 4 (fun _ => none), zA t 2 (qq k 24) 16 (fun _ => none), zJ t ou 1 (fun _ => 0)]) (xh_S (As := [.ref xa, .int (nI k), .int 2, .ref ou]) (rest := []) Z (R2_about l hfl D t xa nw na rw ou qq no mk k hk H.size) h_W_about k_802 k_803 rfl rfl ⟨Nat.le_of_ble_eq_true rfl, Nat.le_of_ble_eq_true rfl⟩ (xh_pre hK hPc hDc hG (fun q hq => hS.2.1 q hq (Nat.not_le.mpr hq))) rfl hl.1 rfl (Nat.le_of_ble_eq_true rfl) d_W_law_898 ⟨Nat.le_of_ble_eq_true rfl, Nat.le_of_ble_eq_true rfl⟩) hP hD hS hA (fun r_ u_ H locs hw hP hD hS => ?_)
      obtain rfl := hw.symm
      refine lv_istore (lv' := [(5, .int 0), (4, .int 1), (3, .ref ou), (2, .ref ma), (1, .ref xa), (0, .ref b)]) hx hb d_W_law_901 hl (by decide) rfl (fun ls hl => ?_)
      refine lv_aload_n hx hb d_W_law_903 rfl (lv_at hl 3 rfl) ?_
      refine lv_aload_n hx hb d_W_law_904 rfl (lv_at hl 5 rfl) ?_
      refine lv_iload hx hb d_W_law_905 (lv_at hl 1 rfl) ?_
      refine lv_iconst (v := 1) hx hb d_W_law_907 (by decide) ?_
      refine lv_iadd hx hb d_W_law_908 ?_
      refine va_sld hx hb hX hbl hbA hS (by unfold vp_in; decide) d_W_law_909 ?_
      refine lv_topi (fun z9 ez9 => ?_)
      obtain rfl : nI k = z9 := ea2.trans ez9.symm
      refine lv_aload_n hx hb d_W_law_910 rfl (lv_at hl 5 rfl) ?_
      refine lv_iload hx hb d_W_law_911 (lv_at hl 1 rfl) ?_
      refine lv_iconst (v := 2) hx hb d_W_law_913 (by decide) ?_
      refine lv_iadd hx hb d_W_law_914 ?_
      refine va_sld hx hb hX hbl hbA hS (by unfold vp_in; decide) d_W_law_915 ?_
      refine lv_topi (fun z9 ez9 => ?_)
      obtain rfl : 2 = z9 := ea3.trans ez9.symm
      obtain ⟨hP, hD⟩ := lP_k hk hP hD
      have hP : va_P D vwCl [zJ t ou 1 (xo ((0 : Int32).toInt64)), zO 13 ma [.int 0, .int 0, .int 0, .int 0, .int 0, .int 0, .ref nb, .ref wy, .ref hd, .ref tk], zA t 7 nb 7 (fun j => some (pq j 0)), zO 9 (pq k 0) [.int (nI k), .int 1, .int 0, .int 0, .int 0, .int 0, .int (nI (8 + 3 * k)), .int ((-1)), .int 0, .int 0, .ref ((pq k 1)), .ref ((pq k 7)), .ref ((pq k 11)), .ref ((pq k 15)), .ref ((pq k 19)), .ref ((pq k 23)), .int 0], zO 11 (pq k 1) [.int 0, .ref ((pq k 2)), .ref ((pq k 3)), .ref ((pq k 4)), .ref ((pq k 5)), .ref ((pq k 6)), .int 1], zJ t (pq k 2) 32 (fun _ => 1099511627776), zJ t (pq k 3) 8 (fun _ => 0), zI t (pq k 4) 8 (fun _ => 0), zI t (pq k 5) 4 (xm 1), zI t (pq k 6) 4 (xm mk), zO 10 (pq k 7) [.ref ((pq k 8)), .ref ((pq k 9)), .ref ((pq k 10)), .int 0], zI t (pq k 8) 8 (fun _ => 0), zI t (pq k 9) 8 (fun _ => 0), zA t 5 (pq k 10) 8 (fun _ => none), zO 10 (pq k 11) [.ref ((pq k 12)), .ref ((pq k 13)), .ref ((pq k 14)), .int 0], zI t (pq k 12) 8 (fun _ => 0), zI t (pq k 13) 8 (fun _ => 0), zA t 5 (pq k 14) 8 (fun _ => none), zO 10 (pq k 15) [.ref ((pq k 16)), .ref ((pq k 17)), .ref ((pq k 18)), .int 0], zI t (pq k 16) 8 (fun _ => 0), zI t (pq k 17) 8 (fun _ => 0), zA t 5 (pq k 18) 8 (fun _ => none), zO 10 (pq k 19) [.ref ((pq k 20)), .ref ((pq k 21)), .ref ((pq k 22)), .int 0], zI t (pq k 20) 8 (fun _ => 0), zI t (pq k 21) 8 (fun _ => 0), zA t 5 (pq k 22) 8 (fun _ => none), zA t 5 (pq k 23) 16 (fun _ => none)] H := hP
      have hD : va_D (fun q : Nat => s.heap.size ≤ q) [zJ t ou 1 (xo ((0 : Int32).toInt64)), zO 13 ma [.int 0, .int 0, .int 0, .int 0, .int 0, .int 0, .ref nb, .ref wy, .ref hd, .ref tk], zA t 7 nb 7 (fun j => some (pq j 0)), zO 9 (pq k 0) [.int (nI k), .int 1, .int 0, .int 0, .int 0, .int 0, .int (nI (8 + 3 * k)), .int ((-1)), .int 0, .int 0, .ref ((pq k 1)), .ref ((pq k 7)), .ref ((pq k 11)), .ref ((pq k 15)), .ref ((pq k 19)), .ref ((pq k 23)), .int 0], zO 11 (pq k 1) [.int 0, .ref ((pq k 2)), .ref ((pq k 3)), .ref ((pq k 4)), .ref ((pq k 5)), .ref ((pq k 6)), .int 1], zJ t (pq k 2) 32 (fun _ => 1099511627776), zJ t (pq k 3) 8 (fun _ => 0), zI t (pq k 4) 8 (fun _ => 0), zI t (pq k 5) 4 (xm 1), zI t (pq k 6) 4 (xm mk), zO 10 (pq k 7) [.ref ((pq k 8)), .ref ((pq k 9)), .ref ((pq k 10)), .int 0], zI t (pq k 8) 8 (fun _ => 0), zI t (pq k 9) 8 (fun _ => 0), zA t 5 (pq k 10) 8 (fun _ => none), zO 10 (pq k 11) [.ref ((pq k 12)), .ref ((pq k 13)), .ref ((pq k 14)), .int 0], zI t (pq k 12) 8 (fun _ => 0), zI t (pq k 13) 8 (fun _ => 0), zA t 5 (pq k 14) 8 (fun _ => none), zO 10 (pq k 15) [.ref ((pq k 16)), .ref ((pq k 17)), .ref ((pq k 18)), .int 0], zI t (pq k 16) 8 (fun _ => 0), zI t (pq k 17) 8 (fun _ => 0), zA t 5 (pq k 18) 8 (fun _ => none), zO 10 (pq k 19) [.ref ((pq k 20)), .ref ((pq k 21)), .ref ((pq k 22)), .int 0], zI t (pq k 20) 8 (fun _ => 0), zI t (pq k 21) 8 (fun _ => 0), zA t 5 (pq k 22) 8 (fun _ => none), zA t 5 (pq k 23) 16 (fun _ => none)] := hD
      refine xe_calli (wr := [zJ t ou 1 (xo ((0 : Int32).toInt64))]) (xs_V (As := [.int (nI k), .int 2]) (rest := []) Z (C_P_about_02 l D t ma nb wy hd tk 0 pq mk k hk H.size) m_P_about k_1275 k_1276 k_1277 rfl rfl ⟨Nat.le_of_ble_eq_true rfl, Nat.le_of_ble_eq_true rfl⟩ (va_recv hK.2 hP (ci := 13) (q0 := 1) rfl rfl) (xe_pre hK (hP.sub [1, 2, 3, 4, 5, 6, 7, 8, 9, 10, 11, 12, 13, 14, 15, 16, 17, 18, 19, 20, 21, 22, 23, 24, 25, 26] rfl) (hD.sub [1, 2, 3, 4, 5, 6, 7, 8, 9, 10, 11, 12, 13, 14, 15, 16, 17, 18, 19, 20, 21, 22, 23, 24, 25, 26] (by decide) rfl)) rfl hl.1 rfl (Nat.le_of_ble_eq_true rfl) d_W_law_916 ⟨Nat.le_of_ble_eq_true rfl, Nat.le_of_ble_eq_true rfl⟩) hP hD hS hA [1, 2, 3, 4, 5, 6, 7, 8, 9, 10, 11, 12, 13, 14, 15, 16, 17, 18, 19, 20, 21, 22, 23, 24, 25, 26] [0] rfl rfl (by decide) (by decide) (fun r_15 u_ H locs hw hP hD hS => ?_)
      have hP : va_P D vwCl [zJ t ou 1 (xo ((0 : Int32).toInt64)), zO 13 ma [.int 0, .int 0, .int 0, .int 0, .int 0, .int 0, .ref nb, .ref wy, .ref hd, .ref tk]] H := hP
      have hD : va_D (fun q : Nat => s.heap.size ≤ q) [zJ t ou 1 (xo ((0 : Int32).toInt64)), zO 13 ma [.int 0, .int 0, .int 0, .int 0, .int 0, .int 0, .ref nb, .ref wy, .ref hd, .ref tk]] := hD
      obtain rfl := hw.symm
      refine lv_istore (lv' := [(6, .int 0), (5, .int 0), (4, .int 1), (3, .ref ou), (2, .ref ma), (1, .ref xa), (0, .ref b)]) hx hb d_W_law_919 hl (by decide) rfl (fun ls hl => ?_)
      refine lv_aload_n hx hb d_W_law_921 rfl (lv_at hl 4 rfl) ?_
      refine xr_call (xs_V (As := []) (rest := []) Z (C_P_thrown l D t ma 0 (.int 0) (.int 0) (.int 0) (.int 0) (.int 0) (.ref nb) (.ref wy) (.ref hd) (.ref tk)) m_P_thrown k_1026 k_1027 k_1028 rfl rfl ⟨Nat.le_of_ble_eq_true rfl, Nat.le_of_ble_eq_true rfl⟩ (va_recv hK.2 hP (ci := 13) (q0 := 1) rfl rfl) (xr_pre hK (hP.sub [1] rfl)) rfl hl.1 rfl (Nat.le_of_ble_eq_true rfl) d_W_law_922 ⟨Nat.le_of_ble_eq_true rfl, Nat.le_of_ble_eq_true rfl⟩) ?_
      refine lv_iload hx hb d_W_law_925 (lv_at hl 1 rfl) ?_
      refine lv_icmp_eq (tgt := 932) hx hb d_W_law_927 (by decide) (fun _ => ?_) (fun c_16 => absurd (rfl) c_16)
      refine lv_iload hx hb d_W_law_932 (lv_at hl 1 rfl) ?_
      refine lv_if_ne (tgt := 949) hx hb d_W_law_934 (by decide) (fun c_17 => absurd c_17 (by decide)) (fun _ => ?_)
      refine lv_aload_n hx hb d_W_law_937 rfl (lv_at hl 3 rfl) ?_
      refine lv_iconst (v := 0) hx hb d_W_law_938 (by decide) ?_
      refine va_lald hx hb hK.2 hP 0 1 rfl rfl (by unfold vp_in; decide) d_W_law_939 ?_
      refine lv_iload hx hb d_W_law_940 (lv_at hl 0 rfl) ?_
      refine lv_i2l (v := (0 : Int32).toInt64) hx hb d_W_law_942 rfl ?_
      refine xl_lcmpE (x := (0 : Int32).toInt64) hx hb d_W_law_943 ?_
      refine lv_if_eq (tgt := 949) hx hb d_W_law_944 (by decide) (fun _ => ?_) (fun c_18 => absurd (rfl) c_18)
      refine lv_goto (tgt := 977) hx hb d_W_law_949 (by decide) ?_
      refine W.widen (k := 100000) (n := 1000000) (Nat.le_of_ble_eq_true rfl) (Nat.le_of_ble_eq_true rfl) ?_
      exact back H locs ls hS (lv_sub hl [2, 6] rfl)
    · obtain ⟨hP, hD⟩ := lQ_k hk hP hD
      have hPc : va_P D vwCl [zO 7 xa [.ref nw, .ref na, .int 0], zA t 4 na 7 (fun j => some (qq j 0)), zO 2 nw [.ref rw, .int 0, .int 0, .int 0, .int 0], zA t 3 rw 300 (fun _ => none), zO 3 (qq k 0) [.int (nI k), .ref nw, .int 0, .int 0, .int 0, .ref ((qq k 1)), .ref ((qq k 7)), .ref ((qq k 11)), .int 1, .int 0, .int 0, .int (nI (8 + 3 * k)), .int ((-1)), .int 0, .ref ((qq k 15))], zO 5 (qq k 1) [.ref ((qq k 2)), .ref ((qq k 3)), .ref ((qq k 4)), .ref ((qq k 5)), .ref ((qq k 6)), .int 1], zJ t (qq k 2) 32 (fun _ => 1099511627776), zI t (qq k 3) 8 (fun _ => 0), zJ t (qq k 4) 8 (fun _ => 0), zI t (qq k 5) 4 (xm 1), zI t (qq k 6) 4 (xm mk), zO 4 (qq k 7) [.ref ((qq k 8)), .ref ((qq k 9)), .ref ((qq k 10))], zI t (qq k 8) 32 (fun _ => 0), zI t (qq k 9) 32 (fun _ => 0), zA t 2 (qq k 10) 32 (fun _ => none), zO 4 (qq k 11) [.ref ((qq k 12)), .ref ((qq k 13)), .ref ((qq k 14))], zI t (qq k 12) 64 (fun _ => 0), zI t (qq k 13) 64 (fun _ => 0), zA t 2 (qq k 14) 64 (fun _ => none), zO 0 (qq k 15) [.ref ((no k)), .int 0, .ref ((qq k 16)), .ref ((qq k 20)), .ref ((qq k 24)), .int 0, .int 0, .int 0], zO 4 (qq k 16) [.ref ((qq k 17)), .ref ((qq k 18)), .ref ((qq k 19))], zI t (qq k 17) 32 (fun _ => 0), zI t (qq k 18) 32 (fun _ => 0), zA t 2 (qq k 19) 32 (fun _ => none), zO 4 (qq k 20) [.ref ((qq k 21)), .ref ((qq k 22)), .ref ((qq k 23))], zI t (qq k 21) 4 (fun _ => 0), zI t (qq k 22) 4 (fun _ => 0), zA t 2 (qq k 23) 4 (fun _ => none), zA t 2 (qq k 24) 16 (fun _ => none), zJ t ou 1 (fun _ => 0)] H := xd_P hP (fun q h => List.mem_append_right _ h)
      have hDc : va_D (fun q : Nat => s.heap.size ≤ q) [zO 7 xa [.ref nw, .ref na, .int 0], zA t 4 na 7 (fun j => some (qq j 0)), zO 2 nw [.ref rw, .int 0, .int 0, .int 0, .int 0], zA t 3 rw 300 (fun _ => none), zO 3 (qq k 0) [.int (nI k), .ref nw, .int 0, .int 0, .int 0, .ref ((qq k 1)), .ref ((qq k 7)), .ref ((qq k 11)), .int 1, .int 0, .int 0, .int (nI (8 + 3 * k)), .int ((-1)), .int 0, .ref ((qq k 15))], zO 5 (qq k 1) [.ref ((qq k 2)), .ref ((qq k 3)), .ref ((qq k 4)), .ref ((qq k 5)), .ref ((qq k 6)), .int 1], zJ t (qq k 2) 32 (fun _ => 1099511627776), zI t (qq k 3) 8 (fun _ => 0), zJ t (qq k 4) 8 (fun _ => 0), zI t (qq k 5) 4 (xm 1), zI t (qq k 6) 4 (xm mk), zO 4 (qq k 7) [.ref ((qq k 8)), .ref ((qq k 9)), .ref ((qq k 10))], zI t (qq k 8) 32 (fun _ => 0), zI t (qq k 9) 32 (fun _ => 0), zA t 2 (qq k 10) 32 (fun _ => none), zO 4 (qq k 11) [.ref ((qq k 12)), .ref ((qq k 13)), .ref ((qq k 14))], zI t (qq k 12) 64 (fun _ => 0), zI t (qq k 13) 64 (fun _ => 0), zA t 2 (qq k 14) 64 (fun _ => none), zO 0 (qq k 15) [.ref ((no k)), .int 0, .ref ((qq k 16)), .ref ((qq k 20)), .ref ((qq k 24)), .int 0, .int 0, .int 0], zO 4 (qq k 16) [.ref ((qq k 17)), .ref ((qq k 18)), .ref ((qq k 19))], zI t (qq k 17) 32 (fun _ => 0), zI t (qq k 18) 32 (fun _ => 0), zA t 2 (qq k 19) 32 (fun _ => none), zO 4 (qq k 20) [.ref ((qq k 21)), .ref ((qq k 22)), .ref ((qq k 23))], zI t (qq k 21) 4 (fun _ => 0), zI t (qq k 22) 4 (fun _ => 0), zA t 2 (qq k 23) 4 (fun _ => none), zA t 2 (qq k 24) 16 (fun _ => none), zJ t ou 1 (fun _ => 0)] := xd_R hD
      refine xe_sfxi (wr := lP t ma nb wy hd tk hli hst pq mk) (wc := [zO 7 xa [.ref nw, .ref na, .int 0], zA t 4 na 7 (fun j => some (qq j 0)), zO 2 nw [.ref rw, .int 0, .int 0, .int 0, .int 0], zA t 3 rw 300 (fun _ => none), zO 3 (qq k 0) [.int (nI k), .ref nw, .int 0, .int 0, .int 0, .ref ((qq k 1)), .ref ((qq k 7)), .ref ((qq k 11)), .int 1, .int 0, .int 0, .int (nI (8 + 3 * k)), .int ((-1)), .int 0, .ref ((qq k 15))], zO 5 (qq k 1) [.ref ((qq k 2)), .ref ((qq k 3)), .ref ((qq k 4)), .ref ((qq k 5)), .ref ((qq k 6)), .int 1], zJ t (qq k 2) 32 (fun _ => 1099511627776), zI t (qq k 3) 8 (fun _ => 0), zJ t (qq k 4) 8 (fun _ => 0), zI t (qq k 5) 4 (xm 1), zI t (qq k 6) 4 (xm mk), zO 4 (qq k 7) [.ref ((qq k 8)), .ref ((qq k 9)), .ref ((qq k 10))], zI t (qq k 8) 32 (fun _ => 0), zI t (qq k 9) 32 (fun _ => 0), zA t 2 (qq k 10) 32 (fun _ => none), zO 4 (qq k 11) [.ref ((qq k 12)), .ref ((qq k 13)), .ref ((qq k 14))], zI t (qq k 12) 64 (fun _ => 0), zI t (qq k 13) 64 (fun _ => 0), zA t 2 (qq k 14) 64 (fun _ => none), zO 0 (qq k 15) [.ref ((no k)), .int 0, .ref ((qq k 16)), .ref ((qq k 20)), .ref ((qq k 24)), .int 0, .int 0, .int 0], zO 4 (qq k 16) [.ref ((qq k 17)), .ref ((qq k 18)), .ref ((qq k 19))], zI t (qq k 17) 32 (fun _ => 0), zI t (qq k 18) 32 (fun _ => 0), zA t 2 (qq k 19) 32 (fun _ => none), zO 4 (qq k 20) [.ref ((qq k 21)), .ref ((qq k 22)), .ref ((qq k 23))], zI t (qq k 21) 4 (fun _ => 0), zI t (qq k 22) 4 (fun _ => 0), zA t 2 (qq k 23) 4 (fun _ => none), zA t 2 (qq k 24) 16 (fun _ => none), zJ t ou 1 (fun _ => 0)]) (xh_S (As := [.ref xa, .int (nI k), .int 3, .ref ou]) (rest := []) Z (R3_about l hfl D t xa nw na rw ou qq no mk k hk H.size) h_W_about k_802 k_803 rfl rfl ⟨Nat.le_of_ble_eq_true rfl, Nat.le_of_ble_eq_true rfl⟩ (xh_pre hK hPc hDc hG (fun q hq => hS.2.1 q hq (Nat.not_le.mpr hq))) rfl hl.1 rfl (Nat.le_of_ble_eq_true rfl) d_W_law_898 ⟨Nat.le_of_ble_eq_true rfl, Nat.le_of_ble_eq_true rfl⟩) hP hD hS hA (fun r_ u_ H locs hw hP hD hS => ?_)
      obtain rfl := hw.symm
      refine lv_istore (lv' := [(5, .int 0), (4, .int 1), (3, .ref ou), (2, .ref ma), (1, .ref xa), (0, .ref b)]) hx hb d_W_law_901 hl (by decide) rfl (fun ls hl => ?_)
      refine lv_aload_n hx hb d_W_law_903 rfl (lv_at hl 3 rfl) ?_
      refine lv_aload_n hx hb d_W_law_904 rfl (lv_at hl 5 rfl) ?_
      refine lv_iload hx hb d_W_law_905 (lv_at hl 1 rfl) ?_
      refine lv_iconst (v := 1) hx hb d_W_law_907 (by decide) ?_
      refine lv_iadd hx hb d_W_law_908 ?_
      refine va_sld hx hb hX hbl hbA hS (by unfold vp_in; decide) d_W_law_909 ?_
      refine lv_topi (fun z9 ez9 => ?_)
      obtain rfl : nI k = z9 := ea2.trans ez9.symm
      refine lv_aload_n hx hb d_W_law_910 rfl (lv_at hl 5 rfl) ?_
      refine lv_iload hx hb d_W_law_911 (lv_at hl 1 rfl) ?_
      refine lv_iconst (v := 2) hx hb d_W_law_913 (by decide) ?_
      refine lv_iadd hx hb d_W_law_914 ?_
      refine va_sld hx hb hX hbl hbA hS (by unfold vp_in; decide) d_W_law_915 ?_
      refine lv_topi (fun z9 ez9 => ?_)
      obtain rfl : 3 = z9 := ea3.trans ez9.symm
      obtain ⟨hP, hD⟩ := lP_k hk hP hD
      have hP : va_P D vwCl [zJ t ou 1 (xo ((0 : Int32).toInt64)), zO 13 ma [.int 0, .int 0, .int 0, .int 0, .int 0, .int 0, .ref nb, .ref wy, .ref hd, .ref tk], zA t 7 nb 7 (fun j => some (pq j 0)), zO 9 (pq k 0) [.int (nI k), .int 1, .int 0, .int 0, .int 0, .int 0, .int (nI (8 + 3 * k)), .int ((-1)), .int 0, .int 0, .ref ((pq k 1)), .ref ((pq k 7)), .ref ((pq k 11)), .ref ((pq k 15)), .ref ((pq k 19)), .ref ((pq k 23)), .int 0], zO 11 (pq k 1) [.int 0, .ref ((pq k 2)), .ref ((pq k 3)), .ref ((pq k 4)), .ref ((pq k 5)), .ref ((pq k 6)), .int 1], zJ t (pq k 2) 32 (fun _ => 1099511627776), zJ t (pq k 3) 8 (fun _ => 0), zI t (pq k 4) 8 (fun _ => 0), zI t (pq k 5) 4 (xm 1), zI t (pq k 6) 4 (xm mk), zO 10 (pq k 7) [.ref ((pq k 8)), .ref ((pq k 9)), .ref ((pq k 10)), .int 0], zI t (pq k 8) 8 (fun _ => 0), zI t (pq k 9) 8 (fun _ => 0), zA t 5 (pq k 10) 8 (fun _ => none), zO 10 (pq k 11) [.ref ((pq k 12)), .ref ((pq k 13)), .ref ((pq k 14)), .int 0], zI t (pq k 12) 8 (fun _ => 0), zI t (pq k 13) 8 (fun _ => 0), zA t 5 (pq k 14) 8 (fun _ => none), zO 10 (pq k 15) [.ref ((pq k 16)), .ref ((pq k 17)), .ref ((pq k 18)), .int 0], zI t (pq k 16) 8 (fun _ => 0), zI t (pq k 17) 8 (fun _ => 0), zA t 5 (pq k 18) 8 (fun _ => none), zO 10 (pq k 19) [.ref ((pq k 20)), .ref ((pq k 21)), .ref ((pq k 22)), .int 0], zI t (pq k 20) 8 (fun _ => 0), zI t (pq k 21) 8 (fun _ => 0), zA t 5 (pq k 22) 8 (fun _ => none), zA t 5 (pq k 23) 16 (fun _ => none)] H := hP
      have hD : va_D (fun q : Nat => s.heap.size ≤ q) [zJ t ou 1 (xo ((0 : Int32).toInt64)), zO 13 ma [.int 0, .int 0, .int 0, .int 0, .int 0, .int 0, .ref nb, .ref wy, .ref hd, .ref tk], zA t 7 nb 7 (fun j => some (pq j 0)), zO 9 (pq k 0) [.int (nI k), .int 1, .int 0, .int 0, .int 0, .int 0, .int (nI (8 + 3 * k)), .int ((-1)), .int 0, .int 0, .ref ((pq k 1)), .ref ((pq k 7)), .ref ((pq k 11)), .ref ((pq k 15)), .ref ((pq k 19)), .ref ((pq k 23)), .int 0], zO 11 (pq k 1) [.int 0, .ref ((pq k 2)), .ref ((pq k 3)), .ref ((pq k 4)), .ref ((pq k 5)), .ref ((pq k 6)), .int 1], zJ t (pq k 2) 32 (fun _ => 1099511627776), zJ t (pq k 3) 8 (fun _ => 0), zI t (pq k 4) 8 (fun _ => 0), zI t (pq k 5) 4 (xm 1), zI t (pq k 6) 4 (xm mk), zO 10 (pq k 7) [.ref ((pq k 8)), .ref ((pq k 9)), .ref ((pq k 10)), .int 0], zI t (pq k 8) 8 (fun _ => 0), zI t (pq k 9) 8 (fun _ => 0), zA t 5 (pq k 10) 8 (fun _ => none), zO 10 (pq k 11) [.ref ((pq k 12)), .ref ((pq k 13)), .ref ((pq k 14)), .int 0], zI t (pq k 12) 8 (fun _ => 0), zI t (pq k 13) 8 (fun _ => 0), zA t 5 (pq k 14) 8 (fun _ => none), zO 10 (pq k 15) [.ref ((pq k 16)), .ref ((pq k 17)), .ref ((pq k 18)), .int 0], zI t (pq k 16) 8 (fun _ => 0), zI t (pq k 17) 8 (fun _ => 0), zA t 5 (pq k 18) 8 (fun _ => none), zO 10 (pq k 19) [.ref ((pq k 20)), .ref ((pq k 21)), .ref ((pq k 22)), .int 0], zI t (pq k 20) 8 (fun _ => 0), zI t (pq k 21) 8 (fun _ => 0), zA t 5 (pq k 22) 8 (fun _ => none), zA t 5 (pq k 23) 16 (fun _ => none)] := hD
      refine xe_calli (wr := [zJ t ou 1 (xo ((0 : Int32).toInt64))]) (xs_V (As := [.int (nI k), .int 3]) (rest := []) Z (C_P_about_03 l D t ma nb wy hd tk 0 pq mk k hk H.size) m_P_about k_1275 k_1276 k_1277 rfl rfl ⟨Nat.le_of_ble_eq_true rfl, Nat.le_of_ble_eq_true rfl⟩ (va_recv hK.2 hP (ci := 13) (q0 := 1) rfl rfl) (xe_pre hK (hP.sub [1, 2, 3, 4, 5, 6, 7, 8, 9, 10, 11, 12, 13, 14, 15, 16, 17, 18, 19, 20, 21, 22, 23, 24, 25, 26] rfl) (hD.sub [1, 2, 3, 4, 5, 6, 7, 8, 9, 10, 11, 12, 13, 14, 15, 16, 17, 18, 19, 20, 21, 22, 23, 24, 25, 26] (by decide) rfl)) rfl hl.1 rfl (Nat.le_of_ble_eq_true rfl) d_W_law_916 ⟨Nat.le_of_ble_eq_true rfl, Nat.le_of_ble_eq_true rfl⟩) hP hD hS hA [1, 2, 3, 4, 5, 6, 7, 8, 9, 10, 11, 12, 13, 14, 15, 16, 17, 18, 19, 20, 21, 22, 23, 24, 25, 26] [0] rfl rfl (by decide) (by decide) (fun r_19 u_ H locs hw hP hD hS => ?_)
      have hP : va_P D vwCl [zJ t ou 1 (xo ((0 : Int32).toInt64)), zO 13 ma [.int 0, .int 0, .int 0, .int 0, .int 0, .int 0, .ref nb, .ref wy, .ref hd, .ref tk]] H := hP
      have hD : va_D (fun q : Nat => s.heap.size ≤ q) [zJ t ou 1 (xo ((0 : Int32).toInt64)), zO 13 ma [.int 0, .int 0, .int 0, .int 0, .int 0, .int 0, .ref nb, .ref wy, .ref hd, .ref tk]] := hD
      obtain rfl := hw.symm
      refine lv_istore (lv' := [(6, .int 0), (5, .int 0), (4, .int 1), (3, .ref ou), (2, .ref ma), (1, .ref xa), (0, .ref b)]) hx hb d_W_law_919 hl (by decide) rfl (fun ls hl => ?_)
      refine lv_aload_n hx hb d_W_law_921 rfl (lv_at hl 4 rfl) ?_
      refine xr_call (xs_V (As := []) (rest := []) Z (C_P_thrown l D t ma 0 (.int 0) (.int 0) (.int 0) (.int 0) (.int 0) (.ref nb) (.ref wy) (.ref hd) (.ref tk)) m_P_thrown k_1026 k_1027 k_1028 rfl rfl ⟨Nat.le_of_ble_eq_true rfl, Nat.le_of_ble_eq_true rfl⟩ (va_recv hK.2 hP (ci := 13) (q0 := 1) rfl rfl) (xr_pre hK (hP.sub [1] rfl)) rfl hl.1 rfl (Nat.le_of_ble_eq_true rfl) d_W_law_922 ⟨Nat.le_of_ble_eq_true rfl, Nat.le_of_ble_eq_true rfl⟩) ?_
      refine lv_iload hx hb d_W_law_925 (lv_at hl 1 rfl) ?_
      refine lv_icmp_eq (tgt := 932) hx hb d_W_law_927 (by decide) (fun _ => ?_) (fun c_20 => absurd (rfl) c_20)
      refine lv_iload hx hb d_W_law_932 (lv_at hl 1 rfl) ?_
      refine lv_if_ne (tgt := 949) hx hb d_W_law_934 (by decide) (fun c_21 => absurd c_21 (by decide)) (fun _ => ?_)
      refine lv_aload_n hx hb d_W_law_937 rfl (lv_at hl 3 rfl) ?_
      refine lv_iconst (v := 0) hx hb d_W_law_938 (by decide) ?_
      refine va_lald hx hb hK.2 hP 0 1 rfl rfl (by unfold vp_in; decide) d_W_law_939 ?_
      refine lv_iload hx hb d_W_law_940 (lv_at hl 0 rfl) ?_
      refine lv_i2l (v := (0 : Int32).toInt64) hx hb d_W_law_942 rfl ?_
      refine xl_lcmpE (x := (0 : Int32).toInt64) hx hb d_W_law_943 ?_
      refine lv_if_eq (tgt := 949) hx hb d_W_law_944 (by decide) (fun _ => ?_) (fun c_22 => absurd (rfl) c_22)
      refine lv_goto (tgt := 977) hx hb d_W_law_949 (by decide) ?_
      refine W.widen (k := 100000) (n := 1000000) (Nat.le_of_ble_eq_true rfl) (Nat.le_of_ble_eq_true rfl) ?_
      exact back H locs ls hS (lv_sub hl [2, 6] rfl)
    · obtain ⟨hP, hD⟩ := lQ_k hk hP hD
      have hPc : va_P D vwCl [zO 7 xa [.ref nw, .ref na, .int 0], zA t 4 na 7 (fun j => some (qq j 0)), zO 2 nw [.ref rw, .int 0, .int 0, .int 0, .int 0], zA t 3 rw 300 (fun _ => none), zO 3 (qq k 0) [.int (nI k), .ref nw, .int 0, .int 0, .int 0, .ref ((qq k 1)), .ref ((qq k 7)), .ref ((qq k 11)), .int 1, .int 0, .int 0, .int (nI (8 + 3 * k)), .int ((-1)), .int 0, .ref ((qq k 15))], zO 5 (qq k 1) [.ref ((qq k 2)), .ref ((qq k 3)), .ref ((qq k 4)), .ref ((qq k 5)), .ref ((qq k 6)), .int 1], zJ t (qq k 2) 32 (fun _ => 1099511627776), zI t (qq k 3) 8 (fun _ => 0), zJ t (qq k 4) 8 (fun _ => 0), zI t (qq k 5) 4 (xm 1), zI t (qq k 6) 4 (xm mk), zO 4 (qq k 7) [.ref ((qq k 8)), .ref ((qq k 9)), .ref ((qq k 10))], zI t (qq k 8) 32 (fun _ => 0), zI t (qq k 9) 32 (fun _ => 0), zA t 2 (qq k 10) 32 (fun _ => none), zO 4 (qq k 11) [.ref ((qq k 12)), .ref ((qq k 13)), .ref ((qq k 14))], zI t (qq k 12) 64 (fun _ => 0), zI t (qq k 13) 64 (fun _ => 0), zA t 2 (qq k 14) 64 (fun _ => none), zO 0 (qq k 15) [.ref ((no k)), .int 0, .ref ((qq k 16)), .ref ((qq k 20)), .ref ((qq k 24)), .int 0, .int 0, .int 0], zO 4 (qq k 16) [.ref ((qq k 17)), .ref ((qq k 18)), .ref ((qq k 19))], zI t (qq k 17) 32 (fun _ => 0), zI t (qq k 18) 32 (fun _ => 0), zA t 2 (qq k 19) 32 (fun _ => none), zO 4 (qq k 20) [.ref ((qq k 21)), .ref ((qq k 22)), .ref ((qq k 23))], zI t (qq k 21) 4 (fun _ => 0), zI t (qq k 22) 4 (fun _ => 0), zA t 2 (qq k 23) 4 (fun _ => none), zA t 2 (qq k 24) 16 (fun _ => none), zJ t ou 1 (fun _ => 0)] H := xd_P hP (fun q h => List.mem_append_right _ h)
      have hDc : va_D (fun q : Nat => s.heap.size ≤ q) [zO 7 xa [.ref nw, .ref na, .int 0], zA t 4 na 7 (fun j => some (qq j 0)), zO 2 nw [.ref rw, .int 0, .int 0, .int 0, .int 0], zA t 3 rw 300 (fun _ => none), zO 3 (qq k 0) [.int (nI k), .ref nw, .int 0, .int 0, .int 0, .ref ((qq k 1)), .ref ((qq k 7)), .ref ((qq k 11)), .int 1, .int 0, .int 0, .int (nI (8 + 3 * k)), .int ((-1)), .int 0, .ref ((qq k 15))], zO 5 (qq k 1) [.ref ((qq k 2)), .ref ((qq k 3)), .ref ((qq k 4)), .ref ((qq k 5)), .ref ((qq k 6)), .int 1], zJ t (qq k 2) 32 (fun _ => 1099511627776), zI t (qq k 3) 8 (fun _ => 0), zJ t (qq k 4) 8 (fun _ => 0), zI t (qq k 5) 4 (xm 1), zI t (qq k 6) 4 (xm mk), zO 4 (qq k 7) [.ref ((qq k 8)), .ref ((qq k 9)), .ref ((qq k 10))], zI t (qq k 8) 32 (fun _ => 0), zI t (qq k 9) 32 (fun _ => 0), zA t 2 (qq k 10) 32 (fun _ => none), zO 4 (qq k 11) [.ref ((qq k 12)), .ref ((qq k 13)), .ref ((qq k 14))], zI t (qq k 12) 64 (fun _ => 0), zI t (qq k 13) 64 (fun _ => 0), zA t 2 (qq k 14) 64 (fun _ => none), zO 0 (qq k 15) [.ref ((no k)), .int 0, .ref ((qq k 16)), .ref ((qq k 20)), .ref ((qq k 24)), .int 0, .int 0, .int 0], zO 4 (qq k 16) [.ref ((qq k 17)), .ref ((qq k 18)), .ref ((qq k 19))], zI t (qq k 17) 32 (fun _ => 0), zI t (qq k 18) 32 (fun _ => 0), zA t 2 (qq k 19) 32 (fun _ => none), zO 4 (qq k 20) [.ref ((qq k 21)), .ref ((qq k 22)), .ref ((qq k 23))], zI t (qq k 21) 4 (fun _ => 0), zI t (qq k 22) 4 (fun _ => 0), zA t 2 (qq k 23) 4 (fun _ => none), zA t 2 (qq k 24) 16 (fun _ => none), zJ t ou 1 (fun _ => 0)] := xd_R hD
      refine xe_sfxi (wr := lP t ma nb wy hd tk hli hst pq mk) (wc := [zO 7 xa [.ref nw, .ref na, .int 0], zA t 4 na 7 (fun j => some (qq j 0)), zO 2 nw [.ref rw, .int 0, .int 0, .int 0, .int 0], zA t 3 rw 300 (fun _ => none), zO 3 (qq k 0) [.int (nI k), .ref nw, .int 0, .int 0, .int 0, .ref ((qq k 1)), .ref ((qq k 7)), .ref ((qq k 11)), .int 1, .int 0, .int 0, .int (nI (8 + 3 * k)), .int ((-1)), .int 0, .ref ((qq k 15))], zO 5 (qq k 1) [.ref ((qq k 2)), .ref ((qq k 3)), .ref ((qq k 4)), .ref ((qq k 5)), .ref ((qq k 6)), .int 1], zJ t (qq k 2) 32 (fun _ => 1099511627776), zI t (qq k 3) 8 (fun _ => 0), zJ t (qq k 4) 8 (fun _ => 0), zI t (qq k 5) 4 (xm 1), zI t (qq k 6) 4 (xm mk), zO 4 (qq k 7) [.ref ((qq k 8)), .ref ((qq k 9)), .ref ((qq k 10))], zI t (qq k 8) 32 (fun _ => 0), zI t (qq k 9) 32 (fun _ => 0), zA t 2 (qq k 10) 32 (fun _ => none), zO 4 (qq k 11) [.ref ((qq k 12)), .ref ((qq k 13)), .ref ((qq k 14))], zI t (qq k 12) 64 (fun _ => 0), zI t (qq k 13) 64 (fun _ => 0), zA t 2 (qq k 14) 64 (fun _ => none), zO 0 (qq k 15) [.ref ((no k)), .int 0, .ref ((qq k 16)), .ref ((qq k 20)), .ref ((qq k 24)), .int 0, .int 0, .int 0], zO 4 (qq k 16) [.ref ((qq k 17)), .ref ((qq k 18)), .ref ((qq k 19))], zI t (qq k 17) 32 (fun _ => 0), zI t (qq k 18) 32 (fun _ => 0), zA t 2 (qq k 19) 32 (fun _ => none), zO 4 (qq k 20) [.ref ((qq k 21)), .ref ((qq k 22)), .ref ((qq k 23))], zI t (qq k 21) 4 (fun _ => 0), zI t (qq k 22) 4 (fun _ => 0), zA t 2 (qq k 23) 4 (fun _ => none), zA t 2 (qq k 24) 16 (fun _ => none), zJ t ou 1 (fun _ => 0)]) (xh_S (As := [.ref xa, .int (nI k), .int 4, .ref ou]) (rest := []) Z (R4_about l hfl D t xa nw na rw ou qq no mk k hk H.size) h_W_about k_802 k_803 rfl rfl ⟨Nat.le_of_ble_eq_true rfl, Nat.le_of_ble_eq_true rfl⟩ (xh_pre hK hPc hDc hG (fun q hq => hS.2.1 q hq (Nat.not_le.mpr hq))) rfl hl.1 rfl (Nat.le_of_ble_eq_true rfl) d_W_law_898 ⟨Nat.le_of_ble_eq_true rfl, Nat.le_of_ble_eq_true rfl⟩) hP hD hS hA (fun r_ u_ H locs hw hP hD hS => ?_)
      obtain rfl := hw.symm
      refine lv_istore (lv' := [(5, .int 0), (4, .int 1), (3, .ref ou), (2, .ref ma), (1, .ref xa), (0, .ref b)]) hx hb d_W_law_901 hl (by decide) rfl (fun ls hl => ?_)
      refine lv_aload_n hx hb d_W_law_903 rfl (lv_at hl 3 rfl) ?_
      refine lv_aload_n hx hb d_W_law_904 rfl (lv_at hl 5 rfl) ?_
      refine lv_iload hx hb d_W_law_905 (lv_at hl 1 rfl) ?_
      refine lv_iconst (v := 1) hx hb d_W_law_907 (by decide) ?_
      refine lv_iadd hx hb d_W_law_908 ?_
      refine va_sld hx hb hX hbl hbA hS (by unfold vp_in; decide) d_W_law_909 ?_
      refine lv_topi (fun z9 ez9 => ?_)
      obtain rfl : nI k = z9 := ea2.trans ez9.symm
      refine lv_aload_n hx hb d_W_law_910 rfl (lv_at hl 5 rfl) ?_
      refine lv_iload hx hb d_W_law_911 (lv_at hl 1 rfl) ?_
      refine lv_iconst (v := 2) hx hb d_W_law_913 (by decide) ?_
      refine lv_iadd hx hb d_W_law_914 ?_
      refine va_sld hx hb hX hbl hbA hS (by unfold vp_in; decide) d_W_law_915 ?_
      refine lv_topi (fun z9 ez9 => ?_)
      obtain rfl : 4 = z9 := ea3.trans ez9.symm
      obtain ⟨hP, hD⟩ := lP_k hk hP hD
      have hP : va_P D vwCl [zJ t ou 1 (xo ((0 : Int32).toInt64)), zO 13 ma [.int 0, .int 0, .int 0, .int 0, .int 0, .int 0, .ref nb, .ref wy, .ref hd, .ref tk], zA t 7 nb 7 (fun j => some (pq j 0)), zO 9 (pq k 0) [.int (nI k), .int 1, .int 0, .int 0, .int 0, .int 0, .int (nI (8 + 3 * k)), .int ((-1)), .int 0, .int 0, .ref ((pq k 1)), .ref ((pq k 7)), .ref ((pq k 11)), .ref ((pq k 15)), .ref ((pq k 19)), .ref ((pq k 23)), .int 0], zO 11 (pq k 1) [.int 0, .ref ((pq k 2)), .ref ((pq k 3)), .ref ((pq k 4)), .ref ((pq k 5)), .ref ((pq k 6)), .int 1], zJ t (pq k 2) 32 (fun _ => 1099511627776), zJ t (pq k 3) 8 (fun _ => 0), zI t (pq k 4) 8 (fun _ => 0), zI t (pq k 5) 4 (xm 1), zI t (pq k 6) 4 (xm mk), zO 10 (pq k 7) [.ref ((pq k 8)), .ref ((pq k 9)), .ref ((pq k 10)), .int 0], zI t (pq k 8) 8 (fun _ => 0), zI t (pq k 9) 8 (fun _ => 0), zA t 5 (pq k 10) 8 (fun _ => none), zO 10 (pq k 11) [.ref ((pq k 12)), .ref ((pq k 13)), .ref ((pq k 14)), .int 0], zI t (pq k 12) 8 (fun _ => 0), zI t (pq k 13) 8 (fun _ => 0), zA t 5 (pq k 14) 8 (fun _ => none), zO 10 (pq k 15) [.ref ((pq k 16)), .ref ((pq k 17)), .ref ((pq k 18)), .int 0], zI t (pq k 16) 8 (fun _ => 0), zI t (pq k 17) 8 (fun _ => 0), zA t 5 (pq k 18) 8 (fun _ => none), zO 10 (pq k 19) [.ref ((pq k 20)), .ref ((pq k 21)), .ref ((pq k 22)), .int 0], zI t (pq k 20) 8 (fun _ => 0), zI t (pq k 21) 8 (fun _ => 0), zA t 5 (pq k 22) 8 (fun _ => none), zA t 5 (pq k 23) 16 (fun _ => none)] H := hP
      have hD : va_D (fun q : Nat => s.heap.size ≤ q) [zJ t ou 1 (xo ((0 : Int32).toInt64)), zO 13 ma [.int 0, .int 0, .int 0, .int 0, .int 0, .int 0, .ref nb, .ref wy, .ref hd, .ref tk], zA t 7 nb 7 (fun j => some (pq j 0)), zO 9 (pq k 0) [.int (nI k), .int 1, .int 0, .int 0, .int 0, .int 0, .int (nI (8 + 3 * k)), .int ((-1)), .int 0, .int 0, .ref ((pq k 1)), .ref ((pq k 7)), .ref ((pq k 11)), .ref ((pq k 15)), .ref ((pq k 19)), .ref ((pq k 23)), .int 0], zO 11 (pq k 1) [.int 0, .ref ((pq k 2)), .ref ((pq k 3)), .ref ((pq k 4)), .ref ((pq k 5)), .ref ((pq k 6)), .int 1], zJ t (pq k 2) 32 (fun _ => 1099511627776), zJ t (pq k 3) 8 (fun _ => 0), zI t (pq k 4) 8 (fun _ => 0), zI t (pq k 5) 4 (xm 1), zI t (pq k 6) 4 (xm mk), zO 10 (pq k 7) [.ref ((pq k 8)), .ref ((pq k 9)), .ref ((pq k 10)), .int 0], zI t (pq k 8) 8 (fun _ => 0), zI t (pq k 9) 8 (fun _ => 0), zA t 5 (pq k 10) 8 (fun _ => none), zO 10 (pq k 11) [.ref ((pq k 12)), .ref ((pq k 13)), .ref ((pq k 14)), .int 0], zI t (pq k 12) 8 (fun _ => 0), zI t (pq k 13) 8 (fun _ => 0), zA t 5 (pq k 14) 8 (fun _ => none), zO 10 (pq k 15) [.ref ((pq k 16)), .ref ((pq k 17)), .ref ((pq k 18)), .int 0], zI t (pq k 16) 8 (fun _ => 0), zI t (pq k 17) 8 (fun _ => 0), zA t 5 (pq k 18) 8 (fun _ => none), zO 10 (pq k 19) [.ref ((pq k 20)), .ref ((pq k 21)), .ref ((pq k 22)), .int 0], zI t (pq k 20) 8 (fun _ => 0), zI t (pq k 21) 8 (fun _ => 0), zA t 5 (pq k 22) 8 (fun _ => none), zA t 5 (pq k 23) 16 (fun _ => none)] := hD
      refine xe_calli (wr := [zJ t ou 1 (xo ((0 : Int32).toInt64))]) (xs_V (As := [.int (nI k), .int 4]) (rest := []) Z (C_P_about_04 l D t ma nb wy hd tk 0 pq mk k hk H.size) m_P_about k_1275 k_1276 k_1277 rfl rfl ⟨Nat.le_of_ble_eq_true rfl, Nat.le_of_ble_eq_true rfl⟩ (va_recv hK.2 hP (ci := 13) (q0 := 1) rfl rfl) (xe_pre hK (hP.sub [1, 2, 3, 4, 5, 6, 7, 8, 9, 10, 11, 12, 13, 14, 15, 16, 17, 18, 19, 20, 21, 22, 23, 24, 25, 26] rfl) (hD.sub [1, 2, 3, 4, 5, 6, 7, 8, 9, 10, 11, 12, 13, 14, 15, 16, 17, 18, 19, 20, 21, 22, 23, 24, 25, 26] (by decide) rfl)) rfl hl.1 rfl (Nat.le_of_ble_eq_true rfl) d_W_law_916 ⟨Nat.le_of_ble_eq_true rfl, Nat.le_of_ble_eq_true rfl⟩) hP hD hS hA [1, 2, 3, 4, 5, 6, 7, 8, 9, 10, 11, 12, 13, 14, 15, 16, 17, 18, 19, 20, 21, 22, 23, 24, 25, 26] [0] rfl rfl (by decide) (by decide) (fun r_23 u_ H locs hw hP hD hS => ?_)
      have hP : va_P D vwCl [zJ t ou 1 (xo ((0 : Int32).toInt64)), zO 13 ma [.int 0, .int 0, .int 0, .int 0, .int 0, .int 0, .ref nb, .ref wy, .ref hd, .ref tk]] H := hP
      have hD : va_D (fun q : Nat => s.heap.size ≤ q) [zJ t ou 1 (xo ((0 : Int32).toInt64)), zO 13 ma [.int 0, .int 0, .int 0, .int 0, .int 0, .int 0, .ref nb, .ref wy, .ref hd, .ref tk]] := hD
      obtain rfl := hw.symm
      refine lv_istore (lv' := [(6, .int 0), (5, .int 0), (4, .int 1), (3, .ref ou), (2, .ref ma), (1, .ref xa), (0, .ref b)]) hx hb d_W_law_919 hl (by decide) rfl (fun ls hl => ?_)
      refine lv_aload_n hx hb d_W_law_921 rfl (lv_at hl 4 rfl) ?_
      refine xr_call (xs_V (As := []) (rest := []) Z (C_P_thrown l D t ma 0 (.int 0) (.int 0) (.int 0) (.int 0) (.int 0) (.ref nb) (.ref wy) (.ref hd) (.ref tk)) m_P_thrown k_1026 k_1027 k_1028 rfl rfl ⟨Nat.le_of_ble_eq_true rfl, Nat.le_of_ble_eq_true rfl⟩ (va_recv hK.2 hP (ci := 13) (q0 := 1) rfl rfl) (xr_pre hK (hP.sub [1] rfl)) rfl hl.1 rfl (Nat.le_of_ble_eq_true rfl) d_W_law_922 ⟨Nat.le_of_ble_eq_true rfl, Nat.le_of_ble_eq_true rfl⟩) ?_
      refine lv_iload hx hb d_W_law_925 (lv_at hl 1 rfl) ?_
      refine lv_icmp_eq (tgt := 932) hx hb d_W_law_927 (by decide) (fun _ => ?_) (fun c_24 => absurd (rfl) c_24)
      refine lv_iload hx hb d_W_law_932 (lv_at hl 1 rfl) ?_
      refine lv_if_ne (tgt := 949) hx hb d_W_law_934 (by decide) (fun c_25 => absurd c_25 (by decide)) (fun _ => ?_)
      refine lv_aload_n hx hb d_W_law_937 rfl (lv_at hl 3 rfl) ?_
      refine lv_iconst (v := 0) hx hb d_W_law_938 (by decide) ?_
      refine va_lald hx hb hK.2 hP 0 1 rfl rfl (by unfold vp_in; decide) d_W_law_939 ?_
      refine lv_iload hx hb d_W_law_940 (lv_at hl 0 rfl) ?_
      refine lv_i2l (v := (0 : Int32).toInt64) hx hb d_W_law_942 rfl ?_
      refine xl_lcmpE (x := (0 : Int32).toInt64) hx hb d_W_law_943 ?_
      refine lv_if_eq (tgt := 949) hx hb d_W_law_944 (by decide) (fun _ => ?_) (fun c_26 => absurd (rfl) c_26)
      refine lv_goto (tgt := 977) hx hb d_W_law_949 (by decide) ?_
      refine W.widen (k := 100000) (n := 1000000) (Nat.le_of_ble_eq_true rfl) (Nat.le_of_ble_eq_true rfl) ?_
      exact back H locs ls hS (lv_sub hl [2, 6] rfl)
    · obtain ⟨hP, hD⟩ := lQ_k hk hP hD
      have hPc : va_P D vwCl [zO 7 xa [.ref nw, .ref na, .int 0], zA t 4 na 7 (fun j => some (qq j 0)), zO 2 nw [.ref rw, .int 0, .int 0, .int 0, .int 0], zA t 3 rw 300 (fun _ => none), zO 3 (qq k 0) [.int (nI k), .ref nw, .int 0, .int 0, .int 0, .ref ((qq k 1)), .ref ((qq k 7)), .ref ((qq k 11)), .int 1, .int 0, .int 0, .int (nI (8 + 3 * k)), .int ((-1)), .int 0, .ref ((qq k 15))], zO 5 (qq k 1) [.ref ((qq k 2)), .ref ((qq k 3)), .ref ((qq k 4)), .ref ((qq k 5)), .ref ((qq k 6)), .int 1], zJ t (qq k 2) 32 (fun _ => 1099511627776), zI t (qq k 3) 8 (fun _ => 0), zJ t (qq k 4) 8 (fun _ => 0), zI t (qq k 5) 4 (xm 1), zI t (qq k 6) 4 (xm mk), zO 4 (qq k 7) [.ref ((qq k 8)), .ref ((qq k 9)), .ref ((qq k 10))], zI t (qq k 8) 32 (fun _ => 0), zI t (qq k 9) 32 (fun _ => 0), zA t 2 (qq k 10) 32 (fun _ => none), zO 4 (qq k 11) [.ref ((qq k 12)), .ref ((qq k 13)), .ref ((qq k 14))], zI t (qq k 12) 64 (fun _ => 0), zI t (qq k 13) 64 (fun _ => 0), zA t 2 (qq k 14) 64 (fun _ => none), zO 0 (qq k 15) [.ref ((no k)), .int 0, .ref ((qq k 16)), .ref ((qq k 20)), .ref ((qq k 24)), .int 0, .int 0, .int 0], zO 4 (qq k 16) [.ref ((qq k 17)), .ref ((qq k 18)), .ref ((qq k 19))], zI t (qq k 17) 32 (fun _ => 0), zI t (qq k 18) 32 (fun _ => 0), zA t 2 (qq k 19) 32 (fun _ => none), zO 4 (qq k 20) [.ref ((qq k 21)), .ref ((qq k 22)), .ref ((qq k 23))], zI t (qq k 21) 4 (fun _ => 0), zI t (qq k 22) 4 (fun _ => 0), zA t 2 (qq k 23) 4 (fun _ => none), zA t 2 (qq k 24) 16 (fun _ => none), zJ t ou 1 (fun _ => 0)] H := xd_P hP (fun q h => List.mem_append_right _ h)
      have hDc : va_D (fun q : Nat => s.heap.size ≤ q) [zO 7 xa [.ref nw, .ref na, .int 0], zA t 4 na 7 (fun j => some (qq j 0)), zO 2 nw [.ref rw, .int 0, .int 0, .int 0, .int 0], zA t 3 rw 300 (fun _ => none), zO 3 (qq k 0) [.int (nI k), .ref nw, .int 0, .int 0, .int 0, .ref ((qq k 1)), .ref ((qq k 7)), .ref ((qq k 11)), .int 1, .int 0, .int 0, .int (nI (8 + 3 * k)), .int ((-1)), .int 0, .ref ((qq k 15))], zO 5 (qq k 1) [.ref ((qq k 2)), .ref ((qq k 3)), .ref ((qq k 4)), .ref ((qq k 5)), .ref ((qq k 6)), .int 1], zJ t (qq k 2) 32 (fun _ => 1099511627776), zI t (qq k 3) 8 (fun _ => 0), zJ t (qq k 4) 8 (fun _ => 0), zI t (qq k 5) 4 (xm 1), zI t (qq k 6) 4 (xm mk), zO 4 (qq k 7) [.ref ((qq k 8)), .ref ((qq k 9)), .ref ((qq k 10))], zI t (qq k 8) 32 (fun _ => 0), zI t (qq k 9) 32 (fun _ => 0), zA t 2 (qq k 10) 32 (fun _ => none), zO 4 (qq k 11) [.ref ((qq k 12)), .ref ((qq k 13)), .ref ((qq k 14))], zI t (qq k 12) 64 (fun _ => 0), zI t (qq k 13) 64 (fun _ => 0), zA t 2 (qq k 14) 64 (fun _ => none), zO 0 (qq k 15) [.ref ((no k)), .int 0, .ref ((qq k 16)), .ref ((qq k 20)), .ref ((qq k 24)), .int 0, .int 0, .int 0], zO 4 (qq k 16) [.ref ((qq k 17)), .ref ((qq k 18)), .ref ((qq k 19))], zI t (qq k 17) 32 (fun _ => 0), zI t (qq k 18) 32 (fun _ => 0), zA t 2 (qq k 19) 32 (fun _ => none), zO 4 (qq k 20) [.ref ((qq k 21)), .ref ((qq k 22)), .ref ((qq k 23))], zI t (qq k 21) 4 (fun _ => 0), zI t (qq k 22) 4 (fun _ => 0), zA t 2 (qq k 23) 4 (fun _ => none), zA t 2 (qq k 24) 16 (fun _ => none), zJ t ou 1 (fun _ => 0)] := xd_R hD
      refine xe_sfxi (wr := lP t ma nb wy hd tk hli hst pq mk) (wc := [zO 7 xa [.ref nw, .ref na, .int 0], zA t 4 na 7 (fun j => some (qq j 0)), zO 2 nw [.ref rw, .int 0, .int 0, .int 0, .int 0], zA t 3 rw 300 (fun _ => none), zO 3 (qq k 0) [.int (nI k), .ref nw, .int 0, .int 0, .int 0, .ref ((qq k 1)), .ref ((qq k 7)), .ref ((qq k 11)), .int 1, .int 0, .int 0, .int (nI (8 + 3 * k)), .int ((-1)), .int 0, .ref ((qq k 15))], zO 5 (qq k 1) [.ref ((qq k 2)), .ref ((qq k 3)), .ref ((qq k 4)), .ref ((qq k 5)), .ref ((qq k 6)), .int 1], zJ t (qq k 2) 32 (fun _ => 1099511627776), zI t (qq k 3) 8 (fun _ => 0), zJ t (qq k 4) 8 (fun _ => 0), zI t (qq k 5) 4 (xm 1), zI t (qq k 6) 4 (xm mk), zO 4 (qq k 7) [.ref ((qq k 8)), .ref ((qq k 9)), .ref ((qq k 10))], zI t (qq k 8) 32 (fun _ => 0), zI t (qq k 9) 32 (fun _ => 0), zA t 2 (qq k 10) 32 (fun _ => none), zO 4 (qq k 11) [.ref ((qq k 12)), .ref ((qq k 13)), .ref ((qq k 14))], zI t (qq k 12) 64 (fun _ => 0), zI t (qq k 13) 64 (fun _ => 0), zA t 2 (qq k 14) 64 (fun _ => none), zO 0 (qq k 15) [.ref ((no k)), .int 0, .ref ((qq k 16)), .ref ((qq k 20)), .ref ((qq k 24)), .int 0, .int 0, .int 0], zO 4 (qq k 16) [.ref ((qq k 17)), .ref ((qq k 18)), .ref ((qq k 19))], zI t (qq k 17) 32 (fun _ => 0), zI t (qq k 18) 32 (fun _ => 0), zA t 2 (qq k 19) 32 (fun _ => none), zO 4 (qq k 20) [.ref ((qq k 21)), .ref ((qq k 22)), .ref ((qq k 23))], zI t (qq k 21) 4 (fun _ => 0), zI t (qq k 22) 4 (fun _ => 0), zA t 2 (qq k 23) 4 (fun _ => none), zA t 2 (qq k 24) 16 (fun _ => none), zJ t ou 1 (fun _ => 0)]) (xh_S (As := [.ref xa, .int (nI k), .int 5, .ref ou]) (rest := []) Z (R5_about l hfl D t xa nw na rw ou qq no mk k hk H.size) h_W_about k_802 k_803 rfl rfl ⟨Nat.le_of_ble_eq_true rfl, Nat.le_of_ble_eq_true rfl⟩ (xh_pre hK hPc hDc hG (fun q hq => hS.2.1 q hq (Nat.not_le.mpr hq))) rfl hl.1 rfl (Nat.le_of_ble_eq_true rfl) d_W_law_898 ⟨Nat.le_of_ble_eq_true rfl, Nat.le_of_ble_eq_true rfl⟩) hP hD hS hA (fun r_ u_ H locs hw hP hD hS => ?_)
      obtain rfl := hw.symm
      refine lv_istore (lv' := [(5, .int 0), (4, .int 1), (3, .ref ou), (2, .ref ma), (1, .ref xa), (0, .ref b)]) hx hb d_W_law_901 hl (by decide) rfl (fun ls hl => ?_)
      refine lv_aload_n hx hb d_W_law_903 rfl (lv_at hl 3 rfl) ?_
      refine lv_aload_n hx hb d_W_law_904 rfl (lv_at hl 5 rfl) ?_
      refine lv_iload hx hb d_W_law_905 (lv_at hl 1 rfl) ?_
      refine lv_iconst (v := 1) hx hb d_W_law_907 (by decide) ?_
      refine lv_iadd hx hb d_W_law_908 ?_
      refine va_sld hx hb hX hbl hbA hS (by unfold vp_in; decide) d_W_law_909 ?_
      refine lv_topi (fun z9 ez9 => ?_)
      obtain rfl : nI k = z9 := ea2.trans ez9.symm
      refine lv_aload_n hx hb d_W_law_910 rfl (lv_at hl 5 rfl) ?_
      refine lv_iload hx hb d_W_law_911 (lv_at hl 1 rfl) ?_
      refine lv_iconst (v := 2) hx hb d_W_law_913 (by decide) ?_
      refine lv_iadd hx hb d_W_law_914 ?_
      refine va_sld hx hb hX hbl hbA hS (by unfold vp_in; decide) d_W_law_915 ?_
      refine lv_topi (fun z9 ez9 => ?_)
      obtain rfl : 5 = z9 := ea3.trans ez9.symm
      obtain ⟨hP, hD⟩ := lP_k hk hP hD
      have hP : va_P D vwCl [zJ t ou 1 (xo ((0 : Int32).toInt64)), zO 13 ma [.int 0, .int 0, .int 0, .int 0, .int 0, .int 0, .ref nb, .ref wy, .ref hd, .ref tk], zA t 7 nb 7 (fun j => some (pq j 0)), zO 9 (pq k 0) [.int (nI k), .int 1, .int 0, .int 0, .int 0, .int 0, .int (nI (8 + 3 * k)), .int ((-1)), .int 0, .int 0, .ref ((pq k 1)), .ref ((pq k 7)), .ref ((pq k 11)), .ref ((pq k 15)), .ref ((pq k 19)), .ref ((pq k 23)), .int 0], zO 11 (pq k 1) [.int 0, .ref ((pq k 2)), .ref ((pq k 3)), .ref ((pq k 4)), .ref ((pq k 5)), .ref ((pq k 6)), .int 1], zJ t (pq k 2) 32 (fun _ => 1099511627776), zJ t (pq k 3) 8 (fun _ => 0), zI t (pq k 4) 8 (fun _ => 0), zI t (pq k 5) 4 (xm 1), zI t (pq k 6) 4 (xm mk), zO 10 (pq k 7) [.ref ((pq k 8)), .ref ((pq k 9)), .ref ((pq k 10)), .int 0], zI t (pq k 8) 8 (fun _ => 0), zI t (pq k 9) 8 (fun _ => 0), zA t 5 (pq k 10) 8 (fun _ => none), zO 10 (pq k 11) [.ref ((pq k 12)), .ref ((pq k 13)), .ref ((pq k 14)), .int 0], zI t (pq k 12) 8 (fun _ => 0), zI t (pq k 13) 8 (fun _ => 0), zA t 5 (pq k 14) 8 (fun _ => none), zO 10 (pq k 15) [.ref ((pq k 16)), .ref ((pq k 17)), .ref ((pq k 18)), .int 0], zI t (pq k 16) 8 (fun _ => 0), zI t (pq k 17) 8 (fun _ => 0), zA t 5 (pq k 18) 8 (fun _ => none), zO 10 (pq k 19) [.ref ((pq k 20)), .ref ((pq k 21)), .ref ((pq k 22)), .int 0], zI t (pq k 20) 8 (fun _ => 0), zI t (pq k 21) 8 (fun _ => 0), zA t 5 (pq k 22) 8 (fun _ => none), zA t 5 (pq k 23) 16 (fun _ => none)] H := hP
      have hD : va_D (fun q : Nat => s.heap.size ≤ q) [zJ t ou 1 (xo ((0 : Int32).toInt64)), zO 13 ma [.int 0, .int 0, .int 0, .int 0, .int 0, .int 0, .ref nb, .ref wy, .ref hd, .ref tk], zA t 7 nb 7 (fun j => some (pq j 0)), zO 9 (pq k 0) [.int (nI k), .int 1, .int 0, .int 0, .int 0, .int 0, .int (nI (8 + 3 * k)), .int ((-1)), .int 0, .int 0, .ref ((pq k 1)), .ref ((pq k 7)), .ref ((pq k 11)), .ref ((pq k 15)), .ref ((pq k 19)), .ref ((pq k 23)), .int 0], zO 11 (pq k 1) [.int 0, .ref ((pq k 2)), .ref ((pq k 3)), .ref ((pq k 4)), .ref ((pq k 5)), .ref ((pq k 6)), .int 1], zJ t (pq k 2) 32 (fun _ => 1099511627776), zJ t (pq k 3) 8 (fun _ => 0), zI t (pq k 4) 8 (fun _ => 0), zI t (pq k 5) 4 (xm 1), zI t (pq k 6) 4 (xm mk), zO 10 (pq k 7) [.ref ((pq k 8)), .ref ((pq k 9)), .ref ((pq k 10)), .int 0], zI t (pq k 8) 8 (fun _ => 0), zI t (pq k 9) 8 (fun _ => 0), zA t 5 (pq k 10) 8 (fun _ => none), zO 10 (pq k 11) [.ref ((pq k 12)), .ref ((pq k 13)), .ref ((pq k 14)), .int 0], zI t (pq k 12) 8 (fun _ => 0), zI t (pq k 13) 8 (fun _ => 0), zA t 5 (pq k 14) 8 (fun _ => none), zO 10 (pq k 15) [.ref ((pq k 16)), .ref ((pq k 17)), .ref ((pq k 18)), .int 0], zI t (pq k 16) 8 (fun _ => 0), zI t (pq k 17) 8 (fun _ => 0), zA t 5 (pq k 18) 8 (fun _ => none), zO 10 (pq k 19) [.ref ((pq k 20)), .ref ((pq k 21)), .ref ((pq k 22)), .int 0], zI t (pq k 20) 8 (fun _ => 0), zI t (pq k 21) 8 (fun _ => 0), zA t 5 (pq k 22) 8 (fun _ => none), zA t 5 (pq k 23) 16 (fun _ => none)] := hD
      refine xe_calli (wr := [zJ t ou 1 (xo ((0 : Int32).toInt64))]) (xs_V (As := [.int (nI k), .int 5]) (rest := []) Z (C_P_about_05 l D t ma nb wy hd tk 0 pq mk k hk H.size) m_P_about k_1275 k_1276 k_1277 rfl rfl ⟨Nat.le_of_ble_eq_true rfl, Nat.le_of_ble_eq_true rfl⟩ (va_recv hK.2 hP (ci := 13) (q0 := 1) rfl rfl) (xe_pre hK (hP.sub [1, 2, 3, 4, 5, 6, 7, 8, 9, 10, 11, 12, 13, 14, 15, 16, 17, 18, 19, 20, 21, 22, 23, 24, 25, 26] rfl) (hD.sub [1, 2, 3, 4, 5, 6, 7, 8, 9, 10, 11, 12, 13, 14, 15, 16, 17, 18, 19, 20, 21, 22, 23, 24, 25, 26] (by decide) rfl)) rfl hl.1 rfl (Nat.le_of_ble_eq_true rfl) d_W_law_916 ⟨Nat.le_of_ble_eq_true rfl, Nat.le_of_ble_eq_true rfl⟩) hP hD hS hA [1, 2, 3, 4, 5, 6, 7, 8, 9, 10, 11, 12, 13, 14, 15, 16, 17, 18, 19, 20, 21, 22, 23, 24, 25, 26] [0] rfl rfl (by decide) (by decide) (fun r_27 u_ H locs hw hP hD hS => ?_)
      have hP : va_P D vwCl [zJ t ou 1 (xo ((0 : Int32).toInt64)), zO 13 ma [.int 0, .int 0, .int 0, .int 0, .int 0, .int 0, .ref nb, .ref wy, .ref hd, .ref tk]] H := hP
      have hD : va_D (fun q : Nat => s.heap.size ≤ q) [zJ t ou 1 (xo ((0 : Int32).toInt64)), zO 13 ma [.int 0, .int 0, .int 0, .int 0, .int 0, .int 0, .ref nb, .ref wy, .ref hd, .ref tk]] := hD
      obtain rfl := hw.symm
      refine lv_istore (lv' := [(6, .int 0), (5, .int 0), (4, .int 1), (3, .ref ou), (2, .ref ma), (1, .ref xa), (0, .ref b)]) hx hb d_W_law_919 hl (by decide) rfl (fun ls hl => ?_)
      refine lv_aload_n hx hb d_W_law_921 rfl (lv_at hl 4 rfl) ?_
      refine xr_call (xs_V (As := []) (rest := []) Z (C_P_thrown l D t ma 0 (.int 0) (.int 0) (.int 0) (.int 0) (.int 0) (.ref nb) (.ref wy) (.ref hd) (.ref tk)) m_P_thrown k_1026 k_1027 k_1028 rfl rfl ⟨Nat.le_of_ble_eq_true rfl, Nat.le_of_ble_eq_true rfl⟩ (va_recv hK.2 hP (ci := 13) (q0 := 1) rfl rfl) (xr_pre hK (hP.sub [1] rfl)) rfl hl.1 rfl (Nat.le_of_ble_eq_true rfl) d_W_law_922 ⟨Nat.le_of_ble_eq_true rfl, Nat.le_of_ble_eq_true rfl⟩) ?_
      refine lv_iload hx hb d_W_law_925 (lv_at hl 1 rfl) ?_
      refine lv_icmp_eq (tgt := 932) hx hb d_W_law_927 (by decide) (fun _ => ?_) (fun c_28 => absurd (rfl) c_28)
      refine lv_iload hx hb d_W_law_932 (lv_at hl 1 rfl) ?_
      refine lv_if_ne (tgt := 949) hx hb d_W_law_934 (by decide) (fun c_29 => absurd c_29 (by decide)) (fun _ => ?_)
      refine lv_aload_n hx hb d_W_law_937 rfl (lv_at hl 3 rfl) ?_
      refine lv_iconst (v := 0) hx hb d_W_law_938 (by decide) ?_
      refine va_lald hx hb hK.2 hP 0 1 rfl rfl (by unfold vp_in; decide) d_W_law_939 ?_
      refine lv_iload hx hb d_W_law_940 (lv_at hl 0 rfl) ?_
      refine lv_i2l (v := (0 : Int32).toInt64) hx hb d_W_law_942 rfl ?_
      refine xl_lcmpE (x := (0 : Int32).toInt64) hx hb d_W_law_943 ?_
      refine lv_if_eq (tgt := 949) hx hb d_W_law_944 (by decide) (fun _ => ?_) (fun c_30 => absurd (rfl) c_30)
      refine lv_goto (tgt := 977) hx hb d_W_law_949 (by decide) ?_
      refine W.widen (k := 100000) (n := 1000000) (Nat.le_of_ble_eq_true rfl) (Nat.le_of_ble_eq_true rfl) ?_
      exact back H locs ls hS (lv_sub hl [2, 6] rfl)
    · obtain ⟨hP, hD⟩ := lQ_k hk hP hD
      have hPc : va_P D vwCl [zO 7 xa [.ref nw, .ref na, .int 0], zA t 4 na 7 (fun j => some (qq j 0)), zO 2 nw [.ref rw, .int 0, .int 0, .int 0, .int 0], zA t 3 rw 300 (fun _ => none), zO 3 (qq k 0) [.int (nI k), .ref nw, .int 0, .int 0, .int 0, .ref ((qq k 1)), .ref ((qq k 7)), .ref ((qq k 11)), .int 1, .int 0, .int 0, .int (nI (8 + 3 * k)), .int ((-1)), .int 0, .ref ((qq k 15))], zO 5 (qq k 1) [.ref ((qq k 2)), .ref ((qq k 3)), .ref ((qq k 4)), .ref ((qq k 5)), .ref ((qq k 6)), .int 1], zJ t (qq k 2) 32 (fun _ => 1099511627776), zI t (qq k 3) 8 (fun _ => 0), zJ t (qq k 4) 8 (fun _ => 0), zI t (qq k 5) 4 (xm 1), zI t (qq k 6) 4 (xm mk), zO 4 (qq k 7) [.ref ((qq k 8)), .ref ((qq k 9)), .ref ((qq k 10))], zI t (qq k 8) 32 (fun _ => 0), zI t (qq k 9) 32 (fun _ => 0), zA t 2 (qq k 10) 32 (fun _ => none), zO 4 (qq k 11) [.ref ((qq k 12)), .ref ((qq k 13)), .ref ((qq k 14))], zI t (qq k 12) 64 (fun _ => 0), zI t (qq k 13) 64 (fun _ => 0), zA t 2 (qq k 14) 64 (fun _ => none), zO 0 (qq k 15) [.ref ((no k)), .int 0, .ref ((qq k 16)), .ref ((qq k 20)), .ref ((qq k 24)), .int 0, .int 0, .int 0], zO 4 (qq k 16) [.ref ((qq k 17)), .ref ((qq k 18)), .ref ((qq k 19))], zI t (qq k 17) 32 (fun _ => 0), zI t (qq k 18) 32 (fun _ => 0), zA t 2 (qq k 19) 32 (fun _ => none), zO 4 (qq k 20) [.ref ((qq k 21)), .ref ((qq k 22)), .ref ((qq k 23))], zI t (qq k 21) 4 (fun _ => 0), zI t (qq k 22) 4 (fun _ => 0), zA t 2 (qq k 23) 4 (fun _ => none), zA t 2 (qq k 24) 16 (fun _ => none), zJ t ou 1 (fun _ => 0)] H := xd_P hP (fun q h => List.mem_append_right _ h)
      have hDc : va_D (fun q : Nat => s.heap.size ≤ q) [zO 7 xa [.ref nw, .ref na, .int 0], zA t 4 na 7 (fun j => some (qq j 0)), zO 2 nw [.ref rw, .int 0, .int 0, .int 0, .int 0], zA t 3 rw 300 (fun _ => none), zO 3 (qq k 0) [.int (nI k), .ref nw, .int 0, .int 0, .int 0, .ref ((qq k 1)), .ref ((qq k 7)), .ref ((qq k 11)), .int 1, .int 0, .int 0, .int (nI (8 + 3 * k)), .int ((-1)), .int 0, .ref ((qq k 15))], zO 5 (qq k 1) [.ref ((qq k 2)), .ref ((qq k 3)), .ref ((qq k 4)), .ref ((qq k 5)), .ref ((qq k 6)), .int 1], zJ t (qq k 2) 32 (fun _ => 1099511627776), zI t (qq k 3) 8 (fun _ => 0), zJ t (qq k 4) 8 (fun _ => 0), zI t (qq k 5) 4 (xm 1), zI t (qq k 6) 4 (xm mk), zO 4 (qq k 7) [.ref ((qq k 8)), .ref ((qq k 9)), .ref ((qq k 10))], zI t (qq k 8) 32 (fun _ => 0), zI t (qq k 9) 32 (fun _ => 0), zA t 2 (qq k 10) 32 (fun _ => none), zO 4 (qq k 11) [.ref ((qq k 12)), .ref ((qq k 13)), .ref ((qq k 14))], zI t (qq k 12) 64 (fun _ => 0), zI t (qq k 13) 64 (fun _ => 0), zA t 2 (qq k 14) 64 (fun _ => none), zO 0 (qq k 15) [.ref ((no k)), .int 0, .ref ((qq k 16)), .ref ((qq k 20)), .ref ((qq k 24)), .int 0, .int 0, .int 0], zO 4 (qq k 16) [.ref ((qq k 17)), .ref ((qq k 18)), .ref ((qq k 19))], zI t (qq k 17) 32 (fun _ => 0), zI t (qq k 18) 32 (fun _ => 0), zA t 2 (qq k 19) 32 (fun _ => none), zO 4 (qq k 20) [.ref ((qq k 21)), .ref ((qq k 22)), .ref ((qq k 23))], zI t (qq k 21) 4 (fun _ => 0), zI t (qq k 22) 4 (fun _ => 0), zA t 2 (qq k 23) 4 (fun _ => none), zA t 2 (qq k 24) 16 (fun _ => none), zJ t ou 1 (fun _ => 0)] := xd_R hD
      refine xe_sfxi (wr := lP t ma nb wy hd tk hli hst pq mk) (wc := [zO 7 xa [.ref nw, .ref na, .int 0], zA t 4 na 7 (fun j => some (qq j 0)), zO 2 nw [.ref rw, .int 0, .int 0, .int 0, .int 0], zA t 3 rw 300 (fun _ => none), zO 3 (qq k 0) [.int (nI k), .ref nw, .int 0, .int 0, .int 0, .ref ((qq k 1)), .ref ((qq k 7)), .ref ((qq k 11)), .int 1, .int 0, .int 0, .int (nI (8 + 3 * k)), .int ((-1)), .int 0, .ref ((qq k 15))], zO 5 (qq k 1) [.ref ((qq k 2)), .ref ((qq k 3)), .ref ((qq k 4)), .ref ((qq k 5)), .ref ((qq k 6)), .int 1], zJ t (qq k 2) 32 (fun _ => 1099511627776), zI t (qq k 3) 8 (fun _ => 0), zJ t (qq k 4) 8 (fun _ => 0), zI t (qq k 5) 4 (xm 1), zI t (qq k 6) 4 (xm mk), zO 4 (qq k 7) [.ref ((qq k 8)), .ref ((qq k 9)), .ref ((qq k 10))], zI t (qq k 8) 32 (fun _ => 0), zI t (qq k 9) 32 (fun _ => 0), zA t 2 (qq k 10) 32 (fun _ => none), zO 4 (qq k 11) [.ref ((qq k 12)), .ref ((qq k 13)), .ref ((qq k 14))], zI t (qq k 12) 64 (fun _ => 0), zI t (qq k 13) 64 (fun _ => 0), zA t 2 (qq k 14) 64 (fun _ => none), zO 0 (qq k 15) [.ref ((no k)), .int 0, .ref ((qq k 16)), .ref ((qq k 20)), .ref ((qq k 24)), .int 0, .int 0, .int 0], zO 4 (qq k 16) [.ref ((qq k 17)), .ref ((qq k 18)), .ref ((qq k 19))], zI t (qq k 17) 32 (fun _ => 0), zI t (qq k 18) 32 (fun _ => 0), zA t 2 (qq k 19) 32 (fun _ => none), zO 4 (qq k 20) [.ref ((qq k 21)), .ref ((qq k 22)), .ref ((qq k 23))], zI t (qq k 21) 4 (fun _ => 0), zI t (qq k 22) 4 (fun _ => 0), zA t 2 (qq k 23) 4 (fun _ => none), zA t 2 (qq k 24) 16 (fun _ => none), zJ t ou 1 (fun _ => 0)]) (xh_S (As := [.ref xa, .int (nI k), .int 6, .ref ou]) (rest := []) Z (R6_about l hfl D t xa nw na rw ou qq no mk k hk H.size) h_W_about k_802 k_803 rfl rfl ⟨Nat.le_of_ble_eq_true rfl, Nat.le_of_ble_eq_true rfl⟩ (xh_pre hK hPc hDc hG (fun q hq => hS.2.1 q hq (Nat.not_le.mpr hq))) rfl hl.1 rfl (Nat.le_of_ble_eq_true rfl) d_W_law_898 ⟨Nat.le_of_ble_eq_true rfl, Nat.le_of_ble_eq_true rfl⟩) hP hD hS hA (fun r_ u_ H locs hw hP hD hS => ?_)
      obtain rfl := hw.symm
      refine lv_istore (lv' := [(5, .int 0), (4, .int 1), (3, .ref ou), (2, .ref ma), (1, .ref xa), (0, .ref b)]) hx hb d_W_law_901 hl (by decide) rfl (fun ls hl => ?_)
      refine lv_aload_n hx hb d_W_law_903 rfl (lv_at hl 3 rfl) ?_
      refine lv_aload_n hx hb d_W_law_904 rfl (lv_at hl 5 rfl) ?_
      refine lv_iload hx hb d_W_law_905 (lv_at hl 1 rfl) ?_
      refine lv_iconst (v := 1) hx hb d_W_law_907 (by decide) ?_
      refine lv_iadd hx hb d_W_law_908 ?_
      refine va_sld hx hb hX hbl hbA hS (by unfold vp_in; decide) d_W_law_909 ?_
      refine lv_topi (fun z9 ez9 => ?_)
      obtain rfl : nI k = z9 := ea2.trans ez9.symm
      refine lv_aload_n hx hb d_W_law_910 rfl (lv_at hl 5 rfl) ?_
      refine lv_iload hx hb d_W_law_911 (lv_at hl 1 rfl) ?_
      refine lv_iconst (v := 2) hx hb d_W_law_913 (by decide) ?_
      refine lv_iadd hx hb d_W_law_914 ?_
      refine va_sld hx hb hX hbl hbA hS (by unfold vp_in; decide) d_W_law_915 ?_
      refine lv_topi (fun z9 ez9 => ?_)
      obtain rfl : 6 = z9 := ea3.trans ez9.symm
      obtain ⟨hP, hD⟩ := lP_k hk hP hD
      have hP : va_P D vwCl [zJ t ou 1 (xo ((mk : Int32).toInt64)), zO 13 ma [.int 0, .int 0, .int 0, .int 0, .int 0, .int 0, .ref nb, .ref wy, .ref hd, .ref tk], zA t 7 nb 7 (fun j => some (pq j 0)), zO 9 (pq k 0) [.int (nI k), .int 1, .int 0, .int 0, .int 0, .int 0, .int (nI (8 + 3 * k)), .int ((-1)), .int 0, .int 0, .ref ((pq k 1)), .ref ((pq k 7)), .ref ((pq k 11)), .ref ((pq k 15)), .ref ((pq k 19)), .ref ((pq k 23)), .int 0], zO 11 (pq k 1) [.int 0, .ref ((pq k 2)), .ref ((pq k 3)), .ref ((pq k 4)), .ref ((pq k 5)), .ref ((pq k 6)), .int 1], zJ t (pq k 2) 32 (fun _ => 1099511627776), zJ t (pq k 3) 8 (fun _ => 0), zI t (pq k 4) 8 (fun _ => 0), zI t (pq k 5) 4 (xm 1), zI t (pq k 6) 4 (xm mk), zO 10 (pq k 7) [.ref ((pq k 8)), .ref ((pq k 9)), .ref ((pq k 10)), .int 0], zI t (pq k 8) 8 (fun _ => 0), zI t (pq k 9) 8 (fun _ => 0), zA t 5 (pq k 10) 8 (fun _ => none), zO 10 (pq k 11) [.ref ((pq k 12)), .ref ((pq k 13)), .ref ((pq k 14)), .int 0], zI t (pq k 12) 8 (fun _ => 0), zI t (pq k 13) 8 (fun _ => 0), zA t 5 (pq k 14) 8 (fun _ => none), zO 10 (pq k 15) [.ref ((pq k 16)), .ref ((pq k 17)), .ref ((pq k 18)), .int 0], zI t (pq k 16) 8 (fun _ => 0), zI t (pq k 17) 8 (fun _ => 0), zA t 5 (pq k 18) 8 (fun _ => none), zO 10 (pq k 19) [.ref ((pq k 20)), .ref ((pq k 21)), .ref ((pq k 22)), .int 0], zI t (pq k 20) 8 (fun _ => 0), zI t (pq k 21) 8 (fun _ => 0), zA t 5 (pq k 22) 8 (fun _ => none), zA t 5 (pq k 23) 16 (fun _ => none)] H := hP
      have hD : va_D (fun q : Nat => s.heap.size ≤ q) [zJ t ou 1 (xo ((mk : Int32).toInt64)), zO 13 ma [.int 0, .int 0, .int 0, .int 0, .int 0, .int 0, .ref nb, .ref wy, .ref hd, .ref tk], zA t 7 nb 7 (fun j => some (pq j 0)), zO 9 (pq k 0) [.int (nI k), .int 1, .int 0, .int 0, .int 0, .int 0, .int (nI (8 + 3 * k)), .int ((-1)), .int 0, .int 0, .ref ((pq k 1)), .ref ((pq k 7)), .ref ((pq k 11)), .ref ((pq k 15)), .ref ((pq k 19)), .ref ((pq k 23)), .int 0], zO 11 (pq k 1) [.int 0, .ref ((pq k 2)), .ref ((pq k 3)), .ref ((pq k 4)), .ref ((pq k 5)), .ref ((pq k 6)), .int 1], zJ t (pq k 2) 32 (fun _ => 1099511627776), zJ t (pq k 3) 8 (fun _ => 0), zI t (pq k 4) 8 (fun _ => 0), zI t (pq k 5) 4 (xm 1), zI t (pq k 6) 4 (xm mk), zO 10 (pq k 7) [.ref ((pq k 8)), .ref ((pq k 9)), .ref ((pq k 10)), .int 0], zI t (pq k 8) 8 (fun _ => 0), zI t (pq k 9) 8 (fun _ => 0), zA t 5 (pq k 10) 8 (fun _ => none), zO 10 (pq k 11) [.ref ((pq k 12)), .ref ((pq k 13)), .ref ((pq k 14)), .int 0], zI t (pq k 12) 8 (fun _ => 0), zI t (pq k 13) 8 (fun _ => 0), zA t 5 (pq k 14) 8 (fun _ => none), zO 10 (pq k 15) [.ref ((pq k 16)), .ref ((pq k 17)), .ref ((pq k 18)), .int 0], zI t (pq k 16) 8 (fun _ => 0), zI t (pq k 17) 8 (fun _ => 0), zA t 5 (pq k 18) 8 (fun _ => none), zO 10 (pq k 19) [.ref ((pq k 20)), .ref ((pq k 21)), .ref ((pq k 22)), .int 0], zI t (pq k 20) 8 (fun _ => 0), zI t (pq k 21) 8 (fun _ => 0), zA t 5 (pq k 22) 8 (fun _ => none), zA t 5 (pq k 23) 16 (fun _ => none)] := hD
      refine xe_calli (wr := [zJ t ou 1 (xo ((mk : Int32).toInt64))]) (xs_V (As := [.int (nI k), .int 6]) (rest := []) Z (C_P_about_06 l D t ma nb wy hd tk 0 pq mk k hk H.size) m_P_about k_1275 k_1276 k_1277 rfl rfl ⟨Nat.le_of_ble_eq_true rfl, Nat.le_of_ble_eq_true rfl⟩ (va_recv hK.2 hP (ci := 13) (q0 := 1) rfl rfl) (xe_pre hK (hP.sub [1, 2, 3, 4, 5, 6, 7, 8, 9, 10, 11, 12, 13, 14, 15, 16, 17, 18, 19, 20, 21, 22, 23, 24, 25, 26] rfl) (hD.sub [1, 2, 3, 4, 5, 6, 7, 8, 9, 10, 11, 12, 13, 14, 15, 16, 17, 18, 19, 20, 21, 22, 23, 24, 25, 26] (by decide) rfl)) rfl hl.1 rfl (Nat.le_of_ble_eq_true rfl) d_W_law_916 ⟨Nat.le_of_ble_eq_true rfl, Nat.le_of_ble_eq_true rfl⟩) hP hD hS hA [1, 2, 3, 4, 5, 6, 7, 8, 9, 10, 11, 12, 13, 14, 15, 16, 17, 18, 19, 20, 21, 22, 23, 24, 25, 26] [0] rfl rfl (by decide) (by decide) (fun r_31 u_ H locs hw hP hD hS => ?_)
      have hP : va_P D vwCl [zJ t ou 1 (xo ((mk : Int32).toInt64)), zO 13 ma [.int 0, .int 0, .int 0, .int 0, .int 0, .int 0, .ref nb, .ref wy, .ref hd, .ref tk]] H := hP
      have hD : va_D (fun q : Nat => s.heap.size ≤ q) [zJ t ou 1 (xo ((mk : Int32).toInt64)), zO 13 ma [.int 0, .int 0, .int 0, .int 0, .int 0, .int 0, .ref nb, .ref wy, .ref hd, .ref tk]] := hD
      obtain rfl := hw.symm
      refine lv_istore (lv' := [(6, .int mk), (5, .int 0), (4, .int 1), (3, .ref ou), (2, .ref ma), (1, .ref xa), (0, .ref b)]) hx hb d_W_law_919 hl (by decide) rfl (fun ls hl => ?_)
      refine lv_aload_n hx hb d_W_law_921 rfl (lv_at hl 4 rfl) ?_
      refine xr_call (xs_V (As := []) (rest := []) Z (C_P_thrown l D t ma 0 (.int 0) (.int 0) (.int 0) (.int 0) (.int 0) (.ref nb) (.ref wy) (.ref hd) (.ref tk)) m_P_thrown k_1026 k_1027 k_1028 rfl rfl ⟨Nat.le_of_ble_eq_true rfl, Nat.le_of_ble_eq_true rfl⟩ (va_recv hK.2 hP (ci := 13) (q0 := 1) rfl rfl) (xr_pre hK (hP.sub [1] rfl)) rfl hl.1 rfl (Nat.le_of_ble_eq_true rfl) d_W_law_922 ⟨Nat.le_of_ble_eq_true rfl, Nat.le_of_ble_eq_true rfl⟩) ?_
      refine lv_iload hx hb d_W_law_925 (lv_at hl 1 rfl) ?_
      refine lv_icmp_eq (tgt := 932) hx hb d_W_law_927 (by decide) (fun _ => ?_) (fun c_32 => absurd (rfl) c_32)
      refine lv_iload hx hb d_W_law_932 (lv_at hl 1 rfl) ?_
      refine lv_if_ne (tgt := 949) hx hb d_W_law_934 (by decide) (fun c_33 => absurd c_33 (by decide)) (fun _ => ?_)
      refine lv_aload_n hx hb d_W_law_937 rfl (lv_at hl 3 rfl) ?_
      refine lv_iconst (v := 0) hx hb d_W_law_938 (by decide) ?_
      refine va_lald hx hb hK.2 hP 0 1 rfl rfl (by unfold vp_in; decide) d_W_law_939 ?_
      refine lv_iload hx hb d_W_law_940 (lv_at hl 0 rfl) ?_
      refine lv_i2l (v := (mk : Int32).toInt64) hx hb d_W_law_942 rfl ?_
      refine xl_lcmpE (x := (mk : Int32).toInt64) hx hb d_W_law_943 ?_
      refine lv_if_eq (tgt := 949) hx hb d_W_law_944 (by decide) (fun _ => ?_) (fun c_34 => absurd (rfl) c_34)
      refine lv_goto (tgt := 977) hx hb d_W_law_949 (by decide) ?_
      refine W.widen (k := 100000) (n := 1000000) (Nat.le_of_ble_eq_true rfl) (Nat.le_of_ble_eq_true rfl) ?_
      exact back H locs ls hS (lv_sub hl [2, 6] rfl)
    · obtain ⟨hP, hD⟩ := lQ_k hk hP hD
      have hPc : va_P D vwCl [zO 7 xa [.ref nw, .ref na, .int 0], zA t 4 na 7 (fun j => some (qq j 0)), zO 2 nw [.ref rw, .int 0, .int 0, .int 0, .int 0], zA t 3 rw 300 (fun _ => none), zO 3 (qq k 0) [.int (nI k), .ref nw, .int 0, .int 0, .int 0, .ref ((qq k 1)), .ref ((qq k 7)), .ref ((qq k 11)), .int 1, .int 0, .int 0, .int (nI (8 + 3 * k)), .int ((-1)), .int 0, .ref ((qq k 15))], zO 5 (qq k 1) [.ref ((qq k 2)), .ref ((qq k 3)), .ref ((qq k 4)), .ref ((qq k 5)), .ref ((qq k 6)), .int 1], zJ t (qq k 2) 32 (fun _ => 1099511627776), zI t (qq k 3) 8 (fun _ => 0), zJ t (qq k 4) 8 (fun _ => 0), zI t (qq k 5) 4 (xm 1), zI t (qq k 6) 4 (xm mk), zO 4 (qq k 7) [.ref ((qq k 8)), .ref ((qq k 9)), .ref ((qq k 10))], zI t (qq k 8) 32 (fun _ => 0), zI t (qq k 9) 32 (fun _ => 0), zA t 2 (qq k 10) 32 (fun _ => none), zO 4 (qq k 11) [.ref ((qq k 12)), .ref ((qq k 13)), .ref ((qq k 14))], zI t (qq k 12) 64 (fun _ => 0), zI t (qq k 13) 64 (fun _ => 0), zA t 2 (qq k 14) 64 (fun _ => none), zO 0 (qq k 15) [.ref ((no k)), .int 0, .ref ((qq k 16)), .ref ((qq k 20)), .ref ((qq k 24)), .int 0, .int 0, .int 0], zO 4 (qq k 16) [.ref ((qq k 17)), .ref ((qq k 18)), .ref ((qq k 19))], zI t (qq k 17) 32 (fun _ => 0), zI t (qq k 18) 32 (fun _ => 0), zA t 2 (qq k 19) 32 (fun _ => none), zO 4 (qq k 20) [.ref ((qq k 21)), .ref ((qq k 22)), .ref ((qq k 23))], zI t (qq k 21) 4 (fun _ => 0), zI t (qq k 22) 4 (fun _ => 0), zA t 2 (qq k 23) 4 (fun _ => none), zA t 2 (qq k 24) 16 (fun _ => none), zJ t ou 1 (fun _ => 0)] H := xd_P hP (fun q h => List.mem_append_right _ h)
      have hDc : va_D (fun q : Nat => s.heap.size ≤ q) [zO 7 xa [.ref nw, .ref na, .int 0], zA t 4 na 7 (fun j => some (qq j 0)), zO 2 nw [.ref rw, .int 0, .int 0, .int 0, .int 0], zA t 3 rw 300 (fun _ => none), zO 3 (qq k 0) [.int (nI k), .ref nw, .int 0, .int 0, .int 0, .ref ((qq k 1)), .ref ((qq k 7)), .ref ((qq k 11)), .int 1, .int 0, .int 0, .int (nI (8 + 3 * k)), .int ((-1)), .int 0, .ref ((qq k 15))], zO 5 (qq k 1) [.ref ((qq k 2)), .ref ((qq k 3)), .ref ((qq k 4)), .ref ((qq k 5)), .ref ((qq k 6)), .int 1], zJ t (qq k 2) 32 (fun _ => 1099511627776), zI t (qq k 3) 8 (fun _ => 0), zJ t (qq k 4) 8 (fun _ => 0), zI t (qq k 5) 4 (xm 1), zI t (qq k 6) 4 (xm mk), zO 4 (qq k 7) [.ref ((qq k 8)), .ref ((qq k 9)), .ref ((qq k 10))], zI t (qq k 8) 32 (fun _ => 0), zI t (qq k 9) 32 (fun _ => 0), zA t 2 (qq k 10) 32 (fun _ => none), zO 4 (qq k 11) [.ref ((qq k 12)), .ref ((qq k 13)), .ref ((qq k 14))], zI t (qq k 12) 64 (fun _ => 0), zI t (qq k 13) 64 (fun _ => 0), zA t 2 (qq k 14) 64 (fun _ => none), zO 0 (qq k 15) [.ref ((no k)), .int 0, .ref ((qq k 16)), .ref ((qq k 20)), .ref ((qq k 24)), .int 0, .int 0, .int 0], zO 4 (qq k 16) [.ref ((qq k 17)), .ref ((qq k 18)), .ref ((qq k 19))], zI t (qq k 17) 32 (fun _ => 0), zI t (qq k 18) 32 (fun _ => 0), zA t 2 (qq k 19) 32 (fun _ => none), zO 4 (qq k 20) [.ref ((qq k 21)), .ref ((qq k 22)), .ref ((qq k 23))], zI t (qq k 21) 4 (fun _ => 0), zI t (qq k 22) 4 (fun _ => 0), zA t 2 (qq k 23) 4 (fun _ => none), zA t 2 (qq k 24) 16 (fun _ => none), zJ t ou 1 (fun _ => 0)] := xd_R hD
      refine xe_sfxi (wr := lP t ma nb wy hd tk hli hst pq mk) (wc := [zO 7 xa [.ref nw, .ref na, .int 0], zA t 4 na 7 (fun j => some (qq j 0)), zO 2 nw [.ref rw, .int 0, .int 0, .int 0, .int 0], zA t 3 rw 300 (fun _ => none), zO 3 (qq k 0) [.int (nI k), .ref nw, .int 0, .int 0, .int 0, .ref ((qq k 1)), .ref ((qq k 7)), .ref ((qq k 11)), .int 1, .int 0, .int 0, .int (nI (8 + 3 * k)), .int ((-1)), .int 0, .ref ((qq k 15))], zO 5 (qq k 1) [.ref ((qq k 2)), .ref ((qq k 3)), .ref ((qq k 4)), .ref ((qq k 5)), .ref ((qq k 6)), .int 1], zJ t (qq k 2) 32 (fun _ => 1099511627776), zI t (qq k 3) 8 (fun _ => 0), zJ t (qq k 4) 8 (fun _ => 0), zI t (qq k 5) 4 (xm 1), zI t (qq k 6) 4 (xm mk), zO 4 (qq k 7) [.ref ((qq k 8)), .ref ((qq k 9)), .ref ((qq k 10))], zI t (qq k 8) 32 (fun _ => 0), zI t (qq k 9) 32 (fun _ => 0), zA t 2 (qq k 10) 32 (fun _ => none), zO 4 (qq k 11) [.ref ((qq k 12)), .ref ((qq k 13)), .ref ((qq k 14))], zI t (qq k 12) 64 (fun _ => 0), zI t (qq k 13) 64 (fun _ => 0), zA t 2 (qq k 14) 64 (fun _ => none), zO 0 (qq k 15) [.ref ((no k)), .int 0, .ref ((qq k 16)), .ref ((qq k 20)), .ref ((qq k 24)), .int 0, .int 0, .int 0], zO 4 (qq k 16) [.ref ((qq k 17)), .ref ((qq k 18)), .ref ((qq k 19))], zI t (qq k 17) 32 (fun _ => 0), zI t (qq k 18) 32 (fun _ => 0), zA t 2 (qq k 19) 32 (fun _ => none), zO 4 (qq k 20) [.ref ((qq k 21)), .ref ((qq k 22)), .ref ((qq k 23))], zI t (qq k 21) 4 (fun _ => 0), zI t (qq k 22) 4 (fun _ => 0), zA t 2 (qq k 23) 4 (fun _ => none), zA t 2 (qq k 24) 16 (fun _ => none), zJ t ou 1 (fun _ => 0)]) (xh_S (As := [.ref xa, .int (nI k), .int 7, .ref ou]) (rest := []) Z (R7_about l hfl D t xa nw na rw ou qq no mk k hk H.size) h_W_about k_802 k_803 rfl rfl ⟨Nat.le_of_ble_eq_true rfl, Nat.le_of_ble_eq_true rfl⟩ (xh_pre hK hPc hDc hG (fun q hq => hS.2.1 q hq (Nat.not_le.mpr hq))) rfl hl.1 rfl (Nat.le_of_ble_eq_true rfl) d_W_law_898 ⟨Nat.le_of_ble_eq_true rfl, Nat.le_of_ble_eq_true rfl⟩) hP hD hS hA (fun r_ u_ H locs hw hP hD hS => ?_)
      obtain rfl := hw.symm
      refine lv_istore (lv' := [(5, .int 0), (4, .int 1), (3, .ref ou), (2, .ref ma), (1, .ref xa), (0, .ref b)]) hx hb d_W_law_901 hl (by decide) rfl (fun ls hl => ?_)
      refine lv_aload_n hx hb d_W_law_903 rfl (lv_at hl 3 rfl) ?_
      refine lv_aload_n hx hb d_W_law_904 rfl (lv_at hl 5 rfl) ?_
      refine lv_iload hx hb d_W_law_905 (lv_at hl 1 rfl) ?_
      refine lv_iconst (v := 1) hx hb d_W_law_907 (by decide) ?_
      refine lv_iadd hx hb d_W_law_908 ?_
      refine va_sld hx hb hX hbl hbA hS (by unfold vp_in; decide) d_W_law_909 ?_
      refine lv_topi (fun z9 ez9 => ?_)
      obtain rfl : nI k = z9 := ea2.trans ez9.symm
      refine lv_aload_n hx hb d_W_law_910 rfl (lv_at hl 5 rfl) ?_
      refine lv_iload hx hb d_W_law_911 (lv_at hl 1 rfl) ?_
      refine lv_iconst (v := 2) hx hb d_W_law_913 (by decide) ?_
      refine lv_iadd hx hb d_W_law_914 ?_
      refine va_sld hx hb hX hbl hbA hS (by unfold vp_in; decide) d_W_law_915 ?_
      refine lv_topi (fun z9 ez9 => ?_)
      obtain rfl : 7 = z9 := ea3.trans ez9.symm
      obtain ⟨hP, hD⟩ := lP_k hk hP hD
      have hP : va_P D vwCl [zJ t ou 1 (xo (((-1) : Int32).toInt64)), zO 13 ma [.int 0, .int 0, .int 0, .int 0, .int 0, .int 0, .ref nb, .ref wy, .ref hd, .ref tk], zA t 7 nb 7 (fun j => some (pq j 0)), zO 9 (pq k 0) [.int (nI k), .int 1, .int 0, .int 0, .int 0, .int 0, .int (nI (8 + 3 * k)), .int ((-1)), .int 0, .int 0, .ref ((pq k 1)), .ref ((pq k 7)), .ref ((pq k 11)), .ref ((pq k 15)), .ref ((pq k 19)), .ref ((pq k 23)), .int 0], zO 11 (pq k 1) [.int 0, .ref ((pq k 2)), .ref ((pq k 3)), .ref ((pq k 4)), .ref ((pq k 5)), .ref ((pq k 6)), .int 1], zJ t (pq k 2) 32 (fun _ => 1099511627776), zJ t (pq k 3) 8 (fun _ => 0), zI t (pq k 4) 8 (fun _ => 0), zI t (pq k 5) 4 (xm 1), zI t (pq k 6) 4 (xm mk), zO 10 (pq k 7) [.ref ((pq k 8)), .ref ((pq k 9)), .ref ((pq k 10)), .int 0], zI t (pq k 8) 8 (fun _ => 0), zI t (pq k 9) 8 (fun _ => 0), zA t 5 (pq k 10) 8 (fun _ => none), zO 10 (pq k 11) [.ref ((pq k 12)), .ref ((pq k 13)), .ref ((pq k 14)), .int 0], zI t (pq k 12) 8 (fun _ => 0), zI t (pq k 13) 8 (fun _ => 0), zA t 5 (pq k 14) 8 (fun _ => none), zO 10 (pq k 15) [.ref ((pq k 16)), .ref ((pq k 17)), .ref ((pq k 18)), .int 0], zI t (pq k 16) 8 (fun _ => 0), zI t (pq k 17) 8 (fun _ => 0), zA t 5 (pq k 18) 8 (fun _ => none), zO 10 (pq k 19) [.ref ((pq k 20)), .ref ((pq k 21)), .ref ((pq k 22)), .int 0], zI t (pq k 20) 8 (fun _ => 0), zI t (pq k 21) 8 (fun _ => 0), zA t 5 (pq k 22) 8 (fun _ => none), zA t 5 (pq k 23) 16 (fun _ => none)] H := hP
      have hD : va_D (fun q : Nat => s.heap.size ≤ q) [zJ t ou 1 (xo (((-1) : Int32).toInt64)), zO 13 ma [.int 0, .int 0, .int 0, .int 0, .int 0, .int 0, .ref nb, .ref wy, .ref hd, .ref tk], zA t 7 nb 7 (fun j => some (pq j 0)), zO 9 (pq k 0) [.int (nI k), .int 1, .int 0, .int 0, .int 0, .int 0, .int (nI (8 + 3 * k)), .int ((-1)), .int 0, .int 0, .ref ((pq k 1)), .ref ((pq k 7)), .ref ((pq k 11)), .ref ((pq k 15)), .ref ((pq k 19)), .ref ((pq k 23)), .int 0], zO 11 (pq k 1) [.int 0, .ref ((pq k 2)), .ref ((pq k 3)), .ref ((pq k 4)), .ref ((pq k 5)), .ref ((pq k 6)), .int 1], zJ t (pq k 2) 32 (fun _ => 1099511627776), zJ t (pq k 3) 8 (fun _ => 0), zI t (pq k 4) 8 (fun _ => 0), zI t (pq k 5) 4 (xm 1), zI t (pq k 6) 4 (xm mk), zO 10 (pq k 7) [.ref ((pq k 8)), .ref ((pq k 9)), .ref ((pq k 10)), .int 0], zI t (pq k 8) 8 (fun _ => 0), zI t (pq k 9) 8 (fun _ => 0), zA t 5 (pq k 10) 8 (fun _ => none), zO 10 (pq k 11) [.ref ((pq k 12)), .ref ((pq k 13)), .ref ((pq k 14)), .int 0], zI t (pq k 12) 8 (fun _ => 0), zI t (pq k 13) 8 (fun _ => 0), zA t 5 (pq k 14) 8 (fun _ => none), zO 10 (pq k 15) [.ref ((pq k 16)), .ref ((pq k 17)), .ref ((pq k 18)), .int 0], zI t (pq k 16) 8 (fun _ => 0), zI t (pq k 17) 8 (fun _ => 0), zA t 5 (pq k 18) 8 (fun _ => none), zO 10 (pq k 19) [.ref ((pq k 20)), .ref ((pq k 21)), .ref ((pq k 22)), .int 0], zI t (pq k 20) 8 (fun _ => 0), zI t (pq k 21) 8 (fun _ => 0), zA t 5 (pq k 22) 8 (fun _ => none), zA t 5 (pq k 23) 16 (fun _ => none)] := hD
      refine xe_calli (wr := [zJ t ou 1 (xo (((-1) : Int32).toInt64))]) (xs_V (As := [.int (nI k), .int 7]) (rest := []) Z (C_P_about_07 l D t ma nb wy hd tk 0 pq mk k hk H.size) m_P_about k_1275 k_1276 k_1277 rfl rfl ⟨Nat.le_of_ble_eq_true rfl, Nat.le_of_ble_eq_true rfl⟩ (va_recv hK.2 hP (ci := 13) (q0 := 1) rfl rfl) (xe_pre hK (hP.sub [1, 2, 3, 4, 5, 6, 7, 8, 9, 10, 11, 12, 13, 14, 15, 16, 17, 18, 19, 20, 21, 22, 23, 24, 25, 26] rfl) (hD.sub [1, 2, 3, 4, 5, 6, 7, 8, 9, 10, 11, 12, 13, 14, 15, 16, 17, 18, 19, 20, 21, 22, 23, 24, 25, 26] (by decide) rfl)) rfl hl.1 rfl (Nat.le_of_ble_eq_true rfl) d_W_law_916 ⟨Nat.le_of_ble_eq_true rfl, Nat.le_of_ble_eq_true rfl⟩) hP hD hS hA [1, 2, 3, 4, 5, 6, 7, 8, 9, 10, 11, 12, 13, 14, 15, 16, 17, 18, 19, 20, 21, 22, 23, 24, 25, 26] [0] rfl rfl (by decide) (by decide) (fun r_35 u_ H locs hw hP hD hS => ?_)
      have hP : va_P D vwCl [zJ t ou 1 (xo (((-1) : Int32).toInt64)), zO 13 ma [.int 0, .int 0, .int 0, .int 0, .int 0, .int 0, .ref nb, .ref wy, .ref hd, .ref tk]] H := hP
      have hD : va_D (fun q : Nat => s.heap.size ≤ q) [zJ t ou 1 (xo (((-1) : Int32).toInt64)), zO 13 ma [.int 0, .int 0, .int 0, .int 0, .int 0, .int 0, .ref nb, .ref wy, .ref hd, .ref tk]] := hD
      obtain rfl := hw.symm
      refine lv_istore (lv' := [(6, .int ((-1))), (5, .int 0), (4, .int 1), (3, .ref ou), (2, .ref ma), (1, .ref xa), (0, .ref b)]) hx hb d_W_law_919 hl (by decide) rfl (fun ls hl => ?_)
      refine lv_aload_n hx hb d_W_law_921 rfl (lv_at hl 4 rfl) ?_
      refine xr_call (xs_V (As := []) (rest := []) Z (C_P_thrown l D t ma 0 (.int 0) (.int 0) (.int 0) (.int 0) (.int 0) (.ref nb) (.ref wy) (.ref hd) (.ref tk)) m_P_thrown k_1026 k_1027 k_1028 rfl rfl ⟨Nat.le_of_ble_eq_true rfl, Nat.le_of_ble_eq_true rfl⟩ (va_recv hK.2 hP (ci := 13) (q0 := 1) rfl rfl) (xr_pre hK (hP.sub [1] rfl)) rfl hl.1 rfl (Nat.le_of_ble_eq_true rfl) d_W_law_922 ⟨Nat.le_of_ble_eq_true rfl, Nat.le_of_ble_eq_true rfl⟩) ?_
      refine lv_iload hx hb d_W_law_925 (lv_at hl 1 rfl) ?_
      refine lv_icmp_eq (tgt := 932) hx hb d_W_law_927 (by decide) (fun _ => ?_) (fun c_36 => absurd (rfl) c_36)
      refine lv_iload hx hb d_W_law_932 (lv_at hl 1 rfl) ?_
      refine lv_if_ne (tgt := 949) hx hb d_W_law_934 (by decide) (fun c_37 => absurd c_37 (by decide)) (fun _ => ?_)
      refine lv_aload_n hx hb d_W_law_937 rfl (lv_at hl 3 rfl) ?_
      refine lv_iconst (v := 0) hx hb d_W_law_938 (by decide) ?_
      refine va_lald hx hb hK.2 hP 0 1 rfl rfl (by unfold vp_in; decide) d_W_law_939 ?_
      refine lv_iload hx hb d_W_law_940 (lv_at hl 0 rfl) ?_
      refine lv_i2l (v := ((-1) : Int32).toInt64) hx hb d_W_law_942 rfl ?_
      refine xl_lcmpE (x := ((-1) : Int32).toInt64) hx hb d_W_law_943 ?_
      refine lv_if_eq (tgt := 949) hx hb d_W_law_944 (by decide) (fun _ => ?_) (fun c_38 => absurd (rfl) c_38)
      refine lv_goto (tgt := 977) hx hb d_W_law_949 (by decide) ?_
      refine W.widen (k := 100000) (n := 1000000) (Nat.le_of_ble_eq_true rfl) (Nat.le_of_ble_eq_true rfl) ?_
      exact back H locs ls hS (lv_sub hl [2, 6] rfl)
    · obtain ⟨hP, hD⟩ := lQ_k hk hP hD
      have hPc : va_P D vwCl [zO 7 xa [.ref nw, .ref na, .int 0], zA t 4 na 7 (fun j => some (qq j 0)), zO 2 nw [.ref rw, .int 0, .int 0, .int 0, .int 0], zA t 3 rw 300 (fun _ => none), zO 3 (qq k 0) [.int (nI k), .ref nw, .int 0, .int 0, .int 0, .ref ((qq k 1)), .ref ((qq k 7)), .ref ((qq k 11)), .int 1, .int 0, .int 0, .int (nI (8 + 3 * k)), .int ((-1)), .int 0, .ref ((qq k 15))], zO 5 (qq k 1) [.ref ((qq k 2)), .ref ((qq k 3)), .ref ((qq k 4)), .ref ((qq k 5)), .ref ((qq k 6)), .int 1], zJ t (qq k 2) 32 (fun _ => 1099511627776), zI t (qq k 3) 8 (fun _ => 0), zJ t (qq k 4) 8 (fun _ => 0), zI t (qq k 5) 4 (xm 1), zI t (qq k 6) 4 (xm mk), zO 4 (qq k 7) [.ref ((qq k 8)), .ref ((qq k 9)), .ref ((qq k 10))], zI t (qq k 8) 32 (fun _ => 0), zI t (qq k 9) 32 (fun _ => 0), zA t 2 (qq k 10) 32 (fun _ => none), zO 4 (qq k 11) [.ref ((qq k 12)), .ref ((qq k 13)), .ref ((qq k 14))], zI t (qq k 12) 64 (fun _ => 0), zI t (qq k 13) 64 (fun _ => 0), zA t 2 (qq k 14) 64 (fun _ => none), zO 0 (qq k 15) [.ref ((no k)), .int 0, .ref ((qq k 16)), .ref ((qq k 20)), .ref ((qq k 24)), .int 0, .int 0, .int 0], zO 4 (qq k 16) [.ref ((qq k 17)), .ref ((qq k 18)), .ref ((qq k 19))], zI t (qq k 17) 32 (fun _ => 0), zI t (qq k 18) 32 (fun _ => 0), zA t 2 (qq k 19) 32 (fun _ => none), zO 4 (qq k 20) [.ref ((qq k 21)), .ref ((qq k 22)), .ref ((qq k 23))], zI t (qq k 21) 4 (fun _ => 0), zI t (qq k 22) 4 (fun _ => 0), zA t 2 (qq k 23) 4 (fun _ => none), zA t 2 (qq k 24) 16 (fun _ => none), zJ t ou 1 (fun _ => 0)] H := xd_P hP (fun q h => List.mem_append_right _ h)
      have hDc : va_D (fun q : Nat => s.heap.size ≤ q) [zO 7 xa [.ref nw, .ref na, .int 0], zA t 4 na 7 (fun j => some (qq j 0)), zO 2 nw [.ref rw, .int 0, .int 0, .int 0, .int 0], zA t 3 rw 300 (fun _ => none), zO 3 (qq k 0) [.int (nI k), .ref nw, .int 0, .int 0, .int 0, .ref ((qq k 1)), .ref ((qq k 7)), .ref ((qq k 11)), .int 1, .int 0, .int 0, .int (nI (8 + 3 * k)), .int ((-1)), .int 0, .ref ((qq k 15))], zO 5 (qq k 1) [.ref ((qq k 2)), .ref ((qq k 3)), .ref ((qq k 4)), .ref ((qq k 5)), .ref ((qq k 6)), .int 1], zJ t (qq k 2) 32 (fun _ => 1099511627776), zI t (qq k 3) 8 (fun _ => 0), zJ t (qq k 4) 8 (fun _ => 0), zI t (qq k 5) 4 (xm 1), zI t (qq k 6) 4 (xm mk), zO 4 (qq k 7) [.ref ((qq k 8)), .ref ((qq k 9)), .ref ((qq k 10))], zI t (qq k 8) 32 (fun _ => 0), zI t (qq k 9) 32 (fun _ => 0), zA t 2 (qq k 10) 32 (fun _ => none), zO 4 (qq k 11) [.ref ((qq k 12)), .ref ((qq k 13)), .ref ((qq k 14))], zI t (qq k 12) 64 (fun _ => 0), zI t (qq k 13) 64 (fun _ => 0), zA t 2 (qq k 14) 64 (fun _ => none), zO 0 (qq k 15) [.ref ((no k)), .int 0, .ref ((qq k 16)), .ref ((qq k 20)), .ref ((qq k 24)), .int 0, .int 0, .int 0], zO 4 (qq k 16) [.ref ((qq k 17)), .ref ((qq k 18)), .ref ((qq k 19))], zI t (qq k 17) 32 (fun _ => 0), zI t (qq k 18) 32 (fun _ => 0), zA t 2 (qq k 19) 32 (fun _ => none), zO 4 (qq k 20) [.ref ((qq k 21)), .ref ((qq k 22)), .ref ((qq k 23))], zI t (qq k 21) 4 (fun _ => 0), zI t (qq k 22) 4 (fun _ => 0), zA t 2 (qq k 23) 4 (fun _ => none), zA t 2 (qq k 24) 16 (fun _ => none), zJ t ou 1 (fun _ => 0)] := xd_R hD
      refine xe_sfxi (wr := lP t ma nb wy hd tk hli hst pq mk) (wc := [zO 7 xa [.ref nw, .ref na, .int 0], zA t 4 na 7 (fun j => some (qq j 0)), zO 2 nw [.ref rw, .int 0, .int 0, .int 0, .int 0], zA t 3 rw 300 (fun _ => none), zO 3 (qq k 0) [.int (nI k), .ref nw, .int 0, .int 0, .int 0, .ref ((qq k 1)), .ref ((qq k 7)), .ref ((qq k 11)), .int 1, .int 0, .int 0, .int (nI (8 + 3 * k)), .int ((-1)), .int 0, .ref ((qq k 15))], zO 5 (qq k 1) [.ref ((qq k 2)), .ref ((qq k 3)), .ref ((qq k 4)), .ref ((qq k 5)), .ref ((qq k 6)), .int 1], zJ t (qq k 2) 32 (fun _ => 1099511627776), zI t (qq k 3) 8 (fun _ => 0), zJ t (qq k 4) 8 (fun _ => 0), zI t (qq k 5) 4 (xm 1), zI t (qq k 6) 4 (xm mk), zO 4 (qq k 7) [.ref ((qq k 8)), .ref ((qq k 9)), .ref ((qq k 10))], zI t (qq k 8) 32 (fun _ => 0), zI t (qq k 9) 32 (fun _ => 0), zA t 2 (qq k 10) 32 (fun _ => none), zO 4 (qq k 11) [.ref ((qq k 12)), .ref ((qq k 13)), .ref ((qq k 14))], zI t (qq k 12) 64 (fun _ => 0), zI t (qq k 13) 64 (fun _ => 0), zA t 2 (qq k 14) 64 (fun _ => none), zO 0 (qq k 15) [.ref ((no k)), .int 0, .ref ((qq k 16)), .ref ((qq k 20)), .ref ((qq k 24)), .int 0, .int 0, .int 0], zO 4 (qq k 16) [.ref ((qq k 17)), .ref ((qq k 18)), .ref ((qq k 19))], zI t (qq k 17) 32 (fun _ => 0), zI t (qq k 18) 32 (fun _ => 0), zA t 2 (qq k 19) 32 (fun _ => none), zO 4 (qq k 20) [.ref ((qq k 21)), .ref ((qq k 22)), .ref ((qq k 23))], zI t (qq k 21) 4 (fun _ => 0), zI t (qq k 22) 4 (fun _ => 0), zA t 2 (qq k 23) 4 (fun _ => none), zA t 2 (qq k 24) 16 (fun _ => none), zJ t ou 1 (fun _ => 0)]) (xh_S (As := [.ref xa, .int (nI k), .int 8, .ref ou]) (rest := []) Z (R8_about l hfl D t xa nw na rw ou qq no mk k hk H.size) h_W_about k_802 k_803 rfl rfl ⟨Nat.le_of_ble_eq_true rfl, Nat.le_of_ble_eq_true rfl⟩ (xh_pre hK hPc hDc hG (fun q hq => hS.2.1 q hq (Nat.not_le.mpr hq))) rfl hl.1 rfl (Nat.le_of_ble_eq_true rfl) d_W_law_898 ⟨Nat.le_of_ble_eq_true rfl, Nat.le_of_ble_eq_true rfl⟩) hP hD hS hA (fun r_ u_ H locs hw hP hD hS => ?_)
      obtain rfl := hw.symm
      refine lv_istore (lv' := [(5, .int 0), (4, .int 1), (3, .ref ou), (2, .ref ma), (1, .ref xa), (0, .ref b)]) hx hb d_W_law_901 hl (by decide) rfl (fun ls hl => ?_)
      refine lv_aload_n hx hb d_W_law_903 rfl (lv_at hl 3 rfl) ?_
      refine lv_aload_n hx hb d_W_law_904 rfl (lv_at hl 5 rfl) ?_
      refine lv_iload hx hb d_W_law_905 (lv_at hl 1 rfl) ?_
      refine lv_iconst (v := 1) hx hb d_W_law_907 (by decide) ?_
      refine lv_iadd hx hb d_W_law_908 ?_
      refine va_sld hx hb hX hbl hbA hS (by unfold vp_in; decide) d_W_law_909 ?_
      refine lv_topi (fun z9 ez9 => ?_)
      obtain rfl : nI k = z9 := ea2.trans ez9.symm
      refine lv_aload_n hx hb d_W_law_910 rfl (lv_at hl 5 rfl) ?_
      refine lv_iload hx hb d_W_law_911 (lv_at hl 1 rfl) ?_
      refine lv_iconst (v := 2) hx hb d_W_law_913 (by decide) ?_
      refine lv_iadd hx hb d_W_law_914 ?_
      refine va_sld hx hb hX hbl hbA hS (by unfold vp_in; decide) d_W_law_915 ?_
      refine lv_topi (fun z9 ez9 => ?_)
      obtain rfl : 8 = z9 := ea3.trans ez9.symm
      obtain ⟨hP, hD⟩ := lP_k hk hP hD
      have hP : va_P D vwCl [zJ t ou 1 (xo ((nI (8 + 3 * k) : Int32).toInt64)), zO 13 ma [.int 0, .int 0, .int 0, .int 0, .int 0, .int 0, .ref nb, .ref wy, .ref hd, .ref tk], zA t 7 nb 7 (fun j => some (pq j 0)), zO 9 (pq k 0) [.int (nI k), .int 1, .int 0, .int 0, .int 0, .int 0, .int (nI (8 + 3 * k)), .int ((-1)), .int 0, .int 0, .ref ((pq k 1)), .ref ((pq k 7)), .ref ((pq k 11)), .ref ((pq k 15)), .ref ((pq k 19)), .ref ((pq k 23)), .int 0], zO 11 (pq k 1) [.int 0, .ref ((pq k 2)), .ref ((pq k 3)), .ref ((pq k 4)), .ref ((pq k 5)), .ref ((pq k 6)), .int 1], zJ t (pq k 2) 32 (fun _ => 1099511627776), zJ t (pq k 3) 8 (fun _ => 0), zI t (pq k 4) 8 (fun _ => 0), zI t (pq k 5) 4 (xm 1), zI t (pq k 6) 4 (xm mk), zO 10 (pq k 7) [.ref ((pq k 8)), .ref ((pq k 9)), .ref ((pq k 10)), .int 0], zI t (pq k 8) 8 (fun _ => 0), zI t (pq k 9) 8 (fun _ => 0), zA t 5 (pq k 10) 8 (fun _ => none), zO 10 (pq k 11) [.ref ((pq k 12)), .ref ((pq k 13)), .ref ((pq k 14)), .int 0], zI t (pq k 12) 8 (fun _ => 0), zI t (pq k 13) 8 (fun _ => 0), zA t 5 (pq k 14) 8 (fun _ => none), zO 10 (pq k 15) [.ref ((pq k 16)), .ref ((pq k 17)), .ref ((pq k 18)), .int 0], zI t (pq k 16) 8 (fun _ => 0), zI t (pq k 17) 8 (fun _ => 0), zA t 5 (pq k 18) 8 (fun _ => none), zO 10 (pq k 19) [.ref ((pq k 20)), .ref ((pq k 21)), .ref ((pq k 22)), .int 0], zI t (pq k 20) 8 (fun _ => 0), zI t (pq k 21) 8 (fun _ => 0), zA t 5 (pq k 22) 8 (fun _ => none), zA t 5 (pq k 23) 16 (fun _ => none)] H := hP
      have hD : va_D (fun q : Nat => s.heap.size ≤ q) [zJ t ou 1 (xo ((nI (8 + 3 * k) : Int32).toInt64)), zO 13 ma [.int 0, .int 0, .int 0, .int 0, .int 0, .int 0, .ref nb, .ref wy, .ref hd, .ref tk], zA t 7 nb 7 (fun j => some (pq j 0)), zO 9 (pq k 0) [.int (nI k), .int 1, .int 0, .int 0, .int 0, .int 0, .int (nI (8 + 3 * k)), .int ((-1)), .int 0, .int 0, .ref ((pq k 1)), .ref ((pq k 7)), .ref ((pq k 11)), .ref ((pq k 15)), .ref ((pq k 19)), .ref ((pq k 23)), .int 0], zO 11 (pq k 1) [.int 0, .ref ((pq k 2)), .ref ((pq k 3)), .ref ((pq k 4)), .ref ((pq k 5)), .ref ((pq k 6)), .int 1], zJ t (pq k 2) 32 (fun _ => 1099511627776), zJ t (pq k 3) 8 (fun _ => 0), zI t (pq k 4) 8 (fun _ => 0), zI t (pq k 5) 4 (xm 1), zI t (pq k 6) 4 (xm mk), zO 10 (pq k 7) [.ref ((pq k 8)), .ref ((pq k 9)), .ref ((pq k 10)), .int 0], zI t (pq k 8) 8 (fun _ => 0), zI t (pq k 9) 8 (fun _ => 0), zA t 5 (pq k 10) 8 (fun _ => none), zO 10 (pq k 11) [.ref ((pq k 12)), .ref ((pq k 13)), .ref ((pq k 14)), .int 0], zI t (pq k 12) 8 (fun _ => 0), zI t (pq k 13) 8 (fun _ => 0), zA t 5 (pq k 14) 8 (fun _ => none), zO 10 (pq k 15) [.ref ((pq k 16)), .ref ((pq k 17)), .ref ((pq k 18)), .int 0], zI t (pq k 16) 8 (fun _ => 0), zI t (pq k 17) 8 (fun _ => 0), zA t 5 (pq k 18) 8 (fun _ => none), zO 10 (pq k 19) [.ref ((pq k 20)), .ref ((pq k 21)), .ref ((pq k 22)), .int 0], zI t (pq k 20) 8 (fun _ => 0), zI t (pq k 21) 8 (fun _ => 0), zA t 5 (pq k 22) 8 (fun _ => none), zA t 5 (pq k 23) 16 (fun _ => none)] := hD
      refine xe_calli (wr := [zJ t ou 1 (xo ((nI (8 + 3 * k) : Int32).toInt64))]) (xs_V (As := [.int (nI k), .int 8]) (rest := []) Z (C_P_about_08 l D t ma nb wy hd tk 0 pq mk k hk H.size) m_P_about k_1275 k_1276 k_1277 rfl rfl ⟨Nat.le_of_ble_eq_true rfl, Nat.le_of_ble_eq_true rfl⟩ (va_recv hK.2 hP (ci := 13) (q0 := 1) rfl rfl) (xe_pre hK (hP.sub [1, 2, 3, 4, 5, 6, 7, 8, 9, 10, 11, 12, 13, 14, 15, 16, 17, 18, 19, 20, 21, 22, 23, 24, 25, 26] rfl) (hD.sub [1, 2, 3, 4, 5, 6, 7, 8, 9, 10, 11, 12, 13, 14, 15, 16, 17, 18, 19, 20, 21, 22, 23, 24, 25, 26] (by decide) rfl)) rfl hl.1 rfl (Nat.le_of_ble_eq_true rfl) d_W_law_916 ⟨Nat.le_of_ble_eq_true rfl, Nat.le_of_ble_eq_true rfl⟩) hP hD hS hA [1, 2, 3, 4, 5, 6, 7, 8, 9, 10, 11, 12, 13, 14, 15, 16, 17, 18, 19, 20, 21, 22, 23, 24, 25, 26] [0] rfl rfl (by decide) (by decide) (fun r_39 u_ H locs hw hP hD hS => ?_)
      have hP : va_P D vwCl [zJ t ou 1 (xo ((nI (8 + 3 * k) : Int32).toInt64)), zO 13 ma [.int 0, .int 0, .int 0, .int 0, .int 0, .int 0, .ref nb, .ref wy, .ref hd, .ref tk]] H := hP
      have hD : va_D (fun q : Nat => s.heap.size ≤ q) [zJ t ou 1 (xo ((nI (8 + 3 * k) : Int32).toInt64)), zO 13 ma [.int 0, .int 0, .int 0, .int 0, .int 0, .int 0, .ref nb, .ref wy, .ref hd, .ref tk]] := hD
      obtain rfl := hw.symm
      refine lv_istore (lv' := [(6, .int (nI (8 + 3 * k))), (5, .int 0), (4, .int 1), (3, .ref ou), (2, .ref ma), (1, .ref xa), (0, .ref b)]) hx hb d_W_law_919 hl (by decide) rfl (fun ls hl => ?_)
      refine lv_aload_n hx hb d_W_law_921 rfl (lv_at hl 4 rfl) ?_
      refine xr_call (xs_V (As := []) (rest := []) Z (C_P_thrown l D t ma 0 (.int 0) (.int 0) (.int 0) (.int 0) (.int 0) (.ref nb) (.ref wy) (.ref hd) (.ref tk)) m_P_thrown k_1026 k_1027 k_1028 rfl rfl ⟨Nat.le_of_ble_eq_true rfl, Nat.le_of_ble_eq_true rfl⟩ (va_recv hK.2 hP (ci := 13) (q0 := 1) rfl rfl) (xr_pre hK (hP.sub [1] rfl)) rfl hl.1 rfl (Nat.le_of_ble_eq_true rfl) d_W_law_922 ⟨Nat.le_of_ble_eq_true rfl, Nat.le_of_ble_eq_true rfl⟩) ?_
      refine lv_iload hx hb d_W_law_925 (lv_at hl 1 rfl) ?_
      refine lv_icmp_eq (tgt := 932) hx hb d_W_law_927 (by decide) (fun _ => ?_) (fun c_40 => absurd (rfl) c_40)
      refine lv_iload hx hb d_W_law_932 (lv_at hl 1 rfl) ?_
      refine lv_if_ne (tgt := 949) hx hb d_W_law_934 (by decide) (fun c_41 => absurd c_41 (by decide)) (fun _ => ?_)
      refine lv_aload_n hx hb d_W_law_937 rfl (lv_at hl 3 rfl) ?_
      refine lv_iconst (v := 0) hx hb d_W_law_938 (by decide) ?_
      refine va_lald hx hb hK.2 hP 0 1 rfl rfl (by unfold vp_in; decide) d_W_law_939 ?_
      refine lv_iload hx hb d_W_law_940 (lv_at hl 0 rfl) ?_
      refine lv_i2l (v := (nI (8 + 3 * k) : Int32).toInt64) hx hb d_W_law_942 rfl ?_
      refine xl_lcmpE (x := (nI (8 + 3 * k) : Int32).toInt64) hx hb d_W_law_943 ?_
      refine lv_if_eq (tgt := 949) hx hb d_W_law_944 (by decide) (fun _ => ?_) (fun c_42 => absurd (rfl) c_42)
      refine lv_goto (tgt := 977) hx hb d_W_law_949 (by decide) ?_
      refine W.widen (k := 100000) (n := 1000000) (Nat.le_of_ble_eq_true rfl) (Nat.le_of_ble_eq_true rfl) ?_
      exact back H locs ls hS (lv_sub hl [2, 6] rfl)
    · obtain ⟨hP, hD⟩ := lQ_k hk hP hD
      have hPc : va_P D vwCl [zO 7 xa [.ref nw, .ref na, .int 0], zA t 4 na 7 (fun j => some (qq j 0)), zO 2 nw [.ref rw, .int 0, .int 0, .int 0, .int 0], zA t 3 rw 300 (fun _ => none), zO 3 (qq k 0) [.int (nI k), .ref nw, .int 0, .int 0, .int 0, .ref ((qq k 1)), .ref ((qq k 7)), .ref ((qq k 11)), .int 1, .int 0, .int 0, .int (nI (8 + 3 * k)), .int ((-1)), .int 0, .ref ((qq k 15))], zO 5 (qq k 1) [.ref ((qq k 2)), .ref ((qq k 3)), .ref ((qq k 4)), .ref ((qq k 5)), .ref ((qq k 6)), .int 1], zJ t (qq k 2) 32 (fun _ => 1099511627776), zI t (qq k 3) 8 (fun _ => 0), zJ t (qq k 4) 8 (fun _ => 0), zI t (qq k 5) 4 (xm 1), zI t (qq k 6) 4 (xm mk), zO 4 (qq k 7) [.ref ((qq k 8)), .ref ((qq k 9)), .ref ((qq k 10))], zI t (qq k 8) 32 (fun _ => 0), zI t (qq k 9) 32 (fun _ => 0), zA t 2 (qq k 10) 32 (fun _ => none), zO 4 (qq k 11) [.ref ((qq k 12)), .ref ((qq k 13)), .ref ((qq k 14))], zI t (qq k 12) 64 (fun _ => 0), zI t (qq k 13) 64 (fun _ => 0), zA t 2 (qq k 14) 64 (fun _ => none), zO 0 (qq k 15) [.ref ((no k)), .int 0, .ref ((qq k 16)), .ref ((qq k 20)), .ref ((qq k 24)), .int 0, .int 0, .int 0], zO 4 (qq k 16) [.ref ((qq k 17)), .ref ((qq k 18)), .ref ((qq k 19))], zI t (qq k 17) 32 (fun _ => 0), zI t (qq k 18) 32 (fun _ => 0), zA t 2 (qq k 19) 32 (fun _ => none), zO 4 (qq k 20) [.ref ((qq k 21)), .ref ((qq k 22)), .ref ((qq k 23))], zI t (qq k 21) 4 (fun _ => 0), zI t (qq k 22) 4 (fun _ => 0), zA t 2 (qq k 23) 4 (fun _ => none), zA t 2 (qq k 24) 16 (fun _ => none), zJ t ou 1 (fun _ => 0)] H := xd_P hP (fun q h => List.mem_append_right _ h)
      have hDc : va_D (fun q : Nat => s.heap.size ≤ q) [zO 7 xa [.ref nw, .ref na, .int 0], zA t 4 na 7 (fun j => some (qq j 0)), zO 2 nw [.ref rw, .int 0, .int 0, .int 0, .int 0], zA t 3 rw 300 (fun _ => none), zO 3 (qq k 0) [.int (nI k), .ref nw, .int 0, .int 0, .int 0, .ref ((qq k 1)), .ref ((qq k 7)), .ref ((qq k 11)), .int 1, .int 0, .int 0, .int (nI (8 + 3 * k)), .int ((-1)), .int 0, .ref ((qq k 15))], zO 5 (qq k 1) [.ref ((qq k 2)), .ref ((qq k 3)), .ref ((qq k 4)), .ref ((qq k 5)), .ref ((qq k 6)), .int 1], zJ t (qq k 2) 32 (fun _ => 1099511627776), zI t (qq k 3) 8 (fun _ => 0), zJ t (qq k 4) 8 (fun _ => 0), zI t (qq k 5) 4 (xm 1), zI t (qq k 6) 4 (xm mk), zO 4 (qq k 7) [.ref ((qq k 8)), .ref ((qq k 9)), .ref ((qq k 10))], zI t (qq k 8) 32 (fun _ => 0), zI t (qq k 9) 32 (fun _ => 0), zA t 2 (qq k 10) 32 (fun _ => none), zO 4 (qq k 11) [.ref ((qq k 12)), .ref ((qq k 13)), .ref ((qq k 14))], zI t (qq k 12) 64 (fun _ => 0), zI t (qq k 13) 64 (fun _ => 0), zA t 2 (qq k 14) 64 (fun _ => none), zO 0 (qq k 15) [.ref ((no k)), .int 0, .ref ((qq k 16)), .ref ((qq k 20)), .ref ((qq k 24)), .int 0, .int 0, .int 0], zO 4 (qq k 16) [.ref ((qq k 17)), .ref ((qq k 18)), .ref ((qq k 19))], zI t (qq k 17) 32 (fun _ => 0), zI t (qq k 18) 32 (fun _ => 0), zA t 2 (qq k 19) 32 (fun _ => none), zO 4 (qq k 20) [.ref ((qq k 21)), .ref ((qq k 22)), .ref ((qq k 23))], zI t (qq k 21) 4 (fun _ => 0), zI t (qq k 22) 4 (fun _ => 0), zA t 2 (qq k 23) 4 (fun _ => none), zA t 2 (qq k 24) 16 (fun _ => none), zJ t ou 1 (fun _ => 0)] := xd_R hD
      refine xe_sfxi (wr := lP t ma nb wy hd tk hli hst pq mk) (wc := [zO 7 xa [.ref nw, .ref na, .int 0], zA t 4 na 7 (fun j => some (qq j 0)), zO 2 nw [.ref rw, .int 0, .int 0, .int 0, .int 0], zA t 3 rw 300 (fun _ => none), zO 3 (qq k 0) [.int (nI k), .ref nw, .int 0, .int 0, .int 0, .ref ((qq k 1)), .ref ((qq k 7)), .ref ((qq k 11)), .int 1, .int 0, .int 0, .int (nI (8 + 3 * k)), .int ((-1)), .int 0, .ref ((qq k 15))], zO 5 (qq k 1) [.ref ((qq k 2)), .ref ((qq k 3)), .ref ((qq k 4)), .ref ((qq k 5)), .ref ((qq k 6)), .int 1], zJ t (qq k 2) 32 (fun _ => 1099511627776), zI t (qq k 3) 8 (fun _ => 0), zJ t (qq k 4) 8 (fun _ => 0), zI t (qq k 5) 4 (xm 1), zI t (qq k 6) 4 (xm mk), zO 4 (qq k 7) [.ref ((qq k 8)), .ref ((qq k 9)), .ref ((qq k 10))], zI t (qq k 8) 32 (fun _ => 0), zI t (qq k 9) 32 (fun _ => 0), zA t 2 (qq k 10) 32 (fun _ => none), zO 4 (qq k 11) [.ref ((qq k 12)), .ref ((qq k 13)), .ref ((qq k 14))], zI t (qq k 12) 64 (fun _ => 0), zI t (qq k 13) 64 (fun _ => 0), zA t 2 (qq k 14) 64 (fun _ => none), zO 0 (qq k 15) [.ref ((no k)), .int 0, .ref ((qq k 16)), .ref ((qq k 20)), .ref ((qq k 24)), .int 0, .int 0, .int 0], zO 4 (qq k 16) [.ref ((qq k 17)), .ref ((qq k 18)), .ref ((qq k 19))], zI t (qq k 17) 32 (fun _ => 0), zI t (qq k 18) 32 (fun _ => 0), zA t 2 (qq k 19) 32 (fun _ => none), zO 4 (qq k 20) [.ref ((qq k 21)), .ref ((qq k 22)), .ref ((qq k 23))], zI t (qq k 21) 4 (fun _ => 0), zI t (qq k 22) 4 (fun _ => 0), zA t 2 (qq k 23) 4 (fun _ => none), zA t 2 (qq k 24) 16 (fun _ => none), zJ t ou 1 (fun _ => 0)]) (xh_S (As := [.ref xa, .int (nI k), .int 9, .ref ou]) (rest := []) Z (R9_about l hfl D t xa nw na rw ou qq no mk k hk H.size) h_W_about k_802 k_803 rfl rfl ⟨Nat.le_of_ble_eq_true rfl, Nat.le_of_ble_eq_true rfl⟩ (xh_pre hK hPc hDc hG (fun q hq => hS.2.1 q hq (Nat.not_le.mpr hq))) rfl hl.1 rfl (Nat.le_of_ble_eq_true rfl) d_W_law_898 ⟨Nat.le_of_ble_eq_true rfl, Nat.le_of_ble_eq_true rfl⟩) hP hD hS hA (fun r_ u_ H locs hw hP hD hS => ?_)
      obtain rfl := hw.symm
      refine lv_istore (lv' := [(5, .int 0), (4, .int 1), (3, .ref ou), (2, .ref ma), (1, .ref xa), (0, .ref b)]) hx hb d_W_law_901 hl (by decide) rfl (fun ls hl => ?_)
      refine lv_aload_n hx hb d_W_law_903 rfl (lv_at hl 3 rfl) ?_
      refine lv_aload_n hx hb d_W_law_904 rfl (lv_at hl 5 rfl) ?_
      refine lv_iload hx hb d_W_law_905 (lv_at hl 1 rfl) ?_
      refine lv_iconst (v := 1) hx hb d_W_law_907 (by decide) ?_
      refine lv_iadd hx hb d_W_law_908 ?_
      refine va_sld hx hb hX hbl hbA hS (by unfold vp_in; decide) d_W_law_909 ?_
      refine lv_topi (fun z9 ez9 => ?_)
      obtain rfl : nI k = z9 := ea2.trans ez9.symm
      refine lv_aload_n hx hb d_W_law_910 rfl (lv_at hl 5 rfl) ?_
      refine lv_iload hx hb d_W_law_911 (lv_at hl 1 rfl) ?_
      refine lv_iconst (v := 2) hx hb d_W_law_913 (by decide) ?_
      refine lv_iadd hx hb d_W_law_914 ?_
      refine va_sld hx hb hX hbl hbA hS (by unfold vp_in; decide) d_W_law_915 ?_
      refine lv_topi (fun z9 ez9 => ?_)
      obtain rfl : 9 = z9 := ea3.trans ez9.symm
      obtain ⟨hP, hD⟩ := lP_k hk hP hD
      have hP : va_P D vwCl [zJ t ou 1 (xo ((0 : Int32).toInt64)), zO 13 ma [.int 0, .int 0, .int 0, .int 0, .int 0, .int 0, .ref nb, .ref wy, .ref hd, .ref tk], zA t 7 nb 7 (fun j => some (pq j 0)), zO 9 (pq k 0) [.int (nI k), .int 1, .int 0, .int 0, .int 0, .int 0, .int (nI (8 + 3 * k)), .int ((-1)), .int 0, .int 0, .ref ((pq k 1)), .ref ((pq k 7)), .ref ((pq k 11)), .ref ((pq k 15)), .ref ((pq k 19)), .ref ((pq k 23)), .int 0], zO 11 (pq k 1) [.int 0, .ref ((pq k 2)), .ref ((pq k 3)), .ref ((pq k 4)), .ref ((pq k 5)), .ref ((pq k 6)), .int 1], zJ t (pq k 2) 32 (fun _ => 1099511627776), zJ t (pq k 3) 8 (fun _ => 0), zI t (pq k 4) 8 (fun _ => 0), zI t (pq k 5) 4 (xm 1), zI t (pq k 6) 4 (xm mk), zO 10 (pq k 7) [.ref ((pq k 8)), .ref ((pq k 9)), .ref ((pq k 10)), .int 0], zI t (pq k 8) 8 (fun _ => 0), zI t (pq k 9) 8 (fun _ => 0), zA t 5 (pq k 10) 8 (fun _ => none), zO 10 (pq k 11) [.ref ((pq k 12)), .ref ((pq k 13)), .ref ((pq k 14)), .int 0], zI t (pq k 12) 8 (fun _ => 0), zI t (pq k 13) 8 (fun _ => 0), zA t 5 (pq k 14) 8 (fun _ => none), zO 10 (pq k 15) [.ref ((pq k 16)), .ref ((pq k 17)), .ref ((pq k 18)), .int 0], zI t (pq k 16) 8 (fun _ => 0), zI t (pq k 17) 8 (fun _ => 0), zA t 5 (pq k 18) 8 (fun _ => none), zO 10 (pq k 19) [.ref ((pq k 20)), .ref ((pq k 21)), .ref ((pq k 22)), .int 0], zI t (pq k 20) 8 (fun _ => 0), zI t (pq k 21) 8 (fun _ => 0), zA t 5 (pq k 22) 8 (fun _ => none), zA t 5 (pq k 23) 16 (fun _ => none)] H := hP
      have hD : va_D (fun q : Nat => s.heap.size ≤ q) [zJ t ou 1 (xo ((0 : Int32).toInt64)), zO 13 ma [.int 0, .int 0, .int 0, .int 0, .int 0, .int 0, .ref nb, .ref wy, .ref hd, .ref tk], zA t 7 nb 7 (fun j => some (pq j 0)), zO 9 (pq k 0) [.int (nI k), .int 1, .int 0, .int 0, .int 0, .int 0, .int (nI (8 + 3 * k)), .int ((-1)), .int 0, .int 0, .ref ((pq k 1)), .ref ((pq k 7)), .ref ((pq k 11)), .ref ((pq k 15)), .ref ((pq k 19)), .ref ((pq k 23)), .int 0], zO 11 (pq k 1) [.int 0, .ref ((pq k 2)), .ref ((pq k 3)), .ref ((pq k 4)), .ref ((pq k 5)), .ref ((pq k 6)), .int 1], zJ t (pq k 2) 32 (fun _ => 1099511627776), zJ t (pq k 3) 8 (fun _ => 0), zI t (pq k 4) 8 (fun _ => 0), zI t (pq k 5) 4 (xm 1), zI t (pq k 6) 4 (xm mk), zO 10 (pq k 7) [.ref ((pq k 8)), .ref ((pq k 9)), .ref ((pq k 10)), .int 0], zI t (pq k 8) 8 (fun _ => 0), zI t (pq k 9) 8 (fun _ => 0), zA t 5 (pq k 10) 8 (fun _ => none), zO 10 (pq k 11) [.ref ((pq k 12)), .ref ((pq k 13)), .ref ((pq k 14)), .int 0], zI t (pq k 12) 8 (fun _ => 0), zI t (pq k 13) 8 (fun _ => 0), zA t 5 (pq k 14) 8 (fun _ => none), zO 10 (pq k 15) [.ref ((pq k 16)), .ref ((pq k 17)), .ref ((pq k 18)), .int 0], zI t (pq k 16) 8 (fun _ => 0), zI t (pq k 17) 8 (fun _ => 0), zA t 5 (pq k 18) 8 (fun _ => none), zO 10 (pq k 19) [.ref ((pq k 20)), .ref ((pq k 21)), .ref ((pq k 22)), .int 0], zI t (pq k 20) 8 (fun _ => 0), zI t (pq k 21) 8 (fun _ => 0), zA t 5 (pq k 22) 8 (fun _ => none), zA t 5 (pq k 23) 16 (fun _ => none)] := hD
      refine xe_calli (wr := [zJ t ou 1 (xo ((0 : Int32).toInt64))]) (xs_V (As := [.int (nI k), .int 9]) (rest := []) Z (C_P_about_09 l D t ma nb wy hd tk 0 pq mk k hk H.size) m_P_about k_1275 k_1276 k_1277 rfl rfl ⟨Nat.le_of_ble_eq_true rfl, Nat.le_of_ble_eq_true rfl⟩ (va_recv hK.2 hP (ci := 13) (q0 := 1) rfl rfl) (xe_pre hK (hP.sub [1, 2, 3, 4, 5, 6, 7, 8, 9, 10, 11, 12, 13, 14, 15, 16, 17, 18, 19, 20, 21, 22, 23, 24, 25, 26] rfl) (hD.sub [1, 2, 3, 4, 5, 6, 7, 8, 9, 10, 11, 12, 13, 14, 15, 16, 17, 18, 19, 20, 21, 22, 23, 24, 25, 26] (by decide) rfl)) rfl hl.1 rfl (Nat.le_of_ble_eq_true rfl) d_W_law_916 ⟨Nat.le_of_ble_eq_true rfl, Nat.le_of_ble_eq_true rfl⟩) hP hD hS hA [1, 2, 3, 4, 5, 6, 7, 8, 9, 10, 11, 12, 13, 14, 15, 16, 17, 18, 19, 20, 21, 22, 23, 24, 25, 26] [0] rfl rfl (by decide) (by decide) (fun r_43 u_ H locs hw hP hD hS => ?_)
      have hP : va_P D vwCl [zJ t ou 1 (xo ((0 : Int32).toInt64)), zO 13 ma [.int 0, .int 0, .int 0, .int 0, .int 0, .int 0, .ref nb, .ref wy, .ref hd, .ref tk]] H := hP
      have hD : va_D (fun q : Nat => s.heap.size ≤ q) [zJ t ou 1 (xo ((0 : Int32).toInt64)), zO 13 ma [.int 0, .int 0, .int 0, .int 0, .int 0, .int 0, .ref nb, .ref wy, .ref hd, .ref tk]] := hD
      obtain rfl := hw.symm
      refine lv_istore (lv' := [(6, .int 0), (5, .int 0), (4, .int 1), (3, .ref ou), (2, .ref ma), (1, .ref xa), (0, .ref b)]) hx hb d_W_law_919 hl (by decide) rfl (fun ls hl => ?_)
      refine lv_aload_n hx hb d_W_law_921 rfl (lv_at hl 4 rfl) ?_
      refine xr_call (xs_V (As := []) (rest := []) Z (C_P_thrown l D t ma 0 (.int 0) (.int 0) (.int 0) (.int 0) (.int 0) (.ref nb) (.ref wy) (.ref hd) (.ref tk)) m_P_thrown k_1026 k_1027 k_1028 rfl rfl ⟨Nat.le_of_ble_eq_true rfl, Nat.le_of_ble_eq_true rfl⟩ (va_recv hK.2 hP (ci := 13) (q0 := 1) rfl rfl) (xr_pre hK (hP.sub [1] rfl)) rfl hl.1 rfl (Nat.le_of_ble_eq_true rfl) d_W_law_922 ⟨Nat.le_of_ble_eq_true rfl, Nat.le_of_ble_eq_true rfl⟩) ?_
      refine lv_iload hx hb d_W_law_925 (lv_at hl 1 rfl) ?_
      refine lv_icmp_eq (tgt := 932) hx hb d_W_law_927 (by decide) (fun _ => ?_) (fun c_44 => absurd (rfl) c_44)
      refine lv_iload hx hb d_W_law_932 (lv_at hl 1 rfl) ?_
      refine lv_if_ne (tgt := 949) hx hb d_W_law_934 (by decide) (fun c_45 => absurd c_45 (by decide)) (fun _ => ?_)
      refine lv_aload_n hx hb d_W_law_937 rfl (lv_at hl 3 rfl) ?_
      refine lv_iconst (v := 0) hx hb d_W_law_938 (by decide) ?_
      refine va_lald hx hb hK.2 hP 0 1 rfl rfl (by unfold vp_in; decide) d_W_law_939 ?_
      refine lv_iload hx hb d_W_law_940 (lv_at hl 0 rfl) ?_
      refine lv_i2l (v := (0 : Int32).toInt64) hx hb d_W_law_942 rfl ?_
      refine xl_lcmpE (x := (0 : Int32).toInt64) hx hb d_W_law_943 ?_
      refine lv_if_eq (tgt := 949) hx hb d_W_law_944 (by decide) (fun _ => ?_) (fun c_46 => absurd (rfl) c_46)
      refine lv_goto (tgt := 977) hx hb d_W_law_949 (by decide) ?_
      refine W.widen (k := 100000) (n := 1000000) (Nat.le_of_ble_eq_true rfl) (Nat.le_of_ble_eq_true rfl) ?_
      exact back H locs ls hS (lv_sub hl [2, 6] rfl)
    · obtain ⟨hP, hD⟩ := lQ_k hk hP hD
      have hPc : va_P D vwCl [zO 7 xa [.ref nw, .ref na, .int 0], zA t 4 na 7 (fun j => some (qq j 0)), zO 2 nw [.ref rw, .int 0, .int 0, .int 0, .int 0], zA t 3 rw 300 (fun _ => none), zO 3 (qq k 0) [.int (nI k), .ref nw, .int 0, .int 0, .int 0, .ref ((qq k 1)), .ref ((qq k 7)), .ref ((qq k 11)), .int 1, .int 0, .int 0, .int (nI (8 + 3 * k)), .int ((-1)), .int 0, .ref ((qq k 15))], zO 5 (qq k 1) [.ref ((qq k 2)), .ref ((qq k 3)), .ref ((qq k 4)), .ref ((qq k 5)), .ref ((qq k 6)), .int 1], zJ t (qq k 2) 32 (fun _ => 1099511627776), zI t (qq k 3) 8 (fun _ => 0), zJ t (qq k 4) 8 (fun _ => 0), zI t (qq k 5) 4 (xm 1), zI t (qq k 6) 4 (xm mk), zO 4 (qq k 7) [.ref ((qq k 8)), .ref ((qq k 9)), .ref ((qq k 10))], zI t (qq k 8) 32 (fun _ => 0), zI t (qq k 9) 32 (fun _ => 0), zA t 2 (qq k 10) 32 (fun _ => none), zO 4 (qq k 11) [.ref ((qq k 12)), .ref ((qq k 13)), .ref ((qq k 14))], zI t (qq k 12) 64 (fun _ => 0), zI t (qq k 13) 64 (fun _ => 0), zA t 2 (qq k 14) 64 (fun _ => none), zO 0 (qq k 15) [.ref ((no k)), .int 0, .ref ((qq k 16)), .ref ((qq k 20)), .ref ((qq k 24)), .int 0, .int 0, .int 0], zO 4 (qq k 16) [.ref ((qq k 17)), .ref ((qq k 18)), .ref ((qq k 19))], zI t (qq k 17) 32 (fun _ => 0), zI t (qq k 18) 32 (fun _ => 0), zA t 2 (qq k 19) 32 (fun _ => none), zO 4 (qq k 20) [.ref ((qq k 21)), .ref ((qq k 22)), .ref ((qq k 23))], zI t (qq k 21) 4 (fun _ => 0), zI t (qq k 22) 4 (fun _ => 0), zA t 2 (qq k 23) 4 (fun _ => none), zA t 2 (qq k 24) 16 (fun _ => none), zJ t ou 1 (fun _ => 0)] H := xd_P hP (fun q h => List.mem_append_right _ h)
      have hDc : va_D (fun q : Nat => s.heap.size ≤ q) [zO 7 xa [.ref nw, .ref na, .int 0], zA t 4 na 7 (fun j => some (qq j 0)), zO 2 nw [.ref rw, .int 0, .int 0, .int 0, .int 0], zA t 3 rw 300 (fun _ => none), zO 3 (qq k 0) [.int (nI k), .ref nw, .int 0, .int 0, .int 0, .ref ((qq k 1)), .ref ((qq k 7)), .ref ((qq k 11)), .int 1, .int 0, .int 0, .int (nI (8 + 3 * k)), .int ((-1)), .int 0, .ref ((qq k 15))], zO 5 (qq k 1) [.ref ((qq k 2)), .ref ((qq k 3)), .ref ((qq k 4)), .ref ((qq k 5)), .ref ((qq k 6)), .int 1], zJ t (qq k 2) 32 (fun _ => 1099511627776), zI t (qq k 3) 8 (fun _ => 0), zJ t (qq k 4) 8 (fun _ => 0), zI t (qq k 5) 4 (xm 1), zI t (qq k 6) 4 (xm mk), zO 4 (qq k 7) [.ref ((qq k 8)), .ref ((qq k 9)), .ref ((qq k 10))], zI t (qq k 8) 32 (fun _ => 0), zI t (qq k 9) 32 (fun _ => 0), zA t 2 (qq k 10) 32 (fun _ => none), zO 4 (qq k 11) [.ref ((qq k 12)), .ref ((qq k 13)), .ref ((qq k 14))], zI t (qq k 12) 64 (fun _ => 0), zI t (qq k 13) 64 (fun _ => 0), zA t 2 (qq k 14) 64 (fun _ => none), zO 0 (qq k 15) [.ref ((no k)), .int 0, .ref ((qq k 16)), .ref ((qq k 20)), .ref ((qq k 24)), .int 0, .int 0, .int 0], zO 4 (qq k 16) [.ref ((qq k 17)), .ref ((qq k 18)), .ref ((qq k 19))], zI t (qq k 17) 32 (fun _ => 0), zI t (qq k 18) 32 (fun _ => 0), zA t 2 (qq k 19) 32 (fun _ => none), zO 4 (qq k 20) [.ref ((qq k 21)), .ref ((qq k 22)), .ref ((qq k 23))], zI t (qq k 21) 4 (fun _ => 0), zI t (qq k 22) 4 (fun _ => 0), zA t 2 (qq k 23) 4 (fun _ => none), zA t 2 (qq k 24) 16 (fun _ => none), zJ t ou 1 (fun _ => 0)] := xd_R hD
      refine xe_sfxi (wr := lP t ma nb wy hd tk hli hst pq mk) (wc := [zO 7 xa [.ref nw, .ref na, .int 0], zA t 4 na 7 (fun j => some (qq j 0)), zO 2 nw [.ref rw, .int 0, .int 0, .int 0, .int 0], zA t 3 rw 300 (fun _ => none), zO 3 (qq k 0) [.int (nI k), .ref nw, .int 0, .int 0, .int 0, .ref ((qq k 1)), .ref ((qq k 7)), .ref ((qq k 11)), .int 1, .int 0, .int 0, .int (nI (8 + 3 * k)), .int ((-1)), .int 0, .ref ((qq k 15))], zO 5 (qq k 1) [.ref ((qq k 2)), .ref ((qq k 3)), .ref ((qq k 4)), .ref ((qq k 5)), .ref ((qq k 6)), .int 1], zJ t (qq k 2) 32 (fun _ => 1099511627776), zI t (qq k 3) 8 (fun _ => 0), zJ t (qq k 4) 8 (fun _ => 0), zI t (qq k 5) 4 (xm 1), zI t (qq k 6) 4 (xm mk), zO 4 (qq k 7) [.ref ((qq k 8)), .ref ((qq k 9)), .ref ((qq k 10))], zI t (qq k 8) 32 (fun _ => 0), zI t (qq k 9) 32 (fun _ => 0), zA t 2 (qq k 10) 32 (fun _ => none), zO 4 (qq k 11) [.ref ((qq k 12)), .ref ((qq k 13)), .ref ((qq k 14))], zI t (qq k 12) 64 (fun _ => 0), zI t (qq k 13) 64 (fun _ => 0), zA t 2 (qq k 14) 64 (fun _ => none), zO 0 (qq k 15) [.ref ((no k)), .int 0, .ref ((qq k 16)), .ref ((qq k 20)), .ref ((qq k 24)), .int 0, .int 0, .int 0], zO 4 (qq k 16) [.ref ((qq k 17)), .ref ((qq k 18)), .ref ((qq k 19))], zI t (qq k 17) 32 (fun _ => 0), zI t (qq k 18) 32 (fun _ => 0), zA t 2 (qq k 19) 32 (fun _ => none), zO 4 (qq k 20) [.ref ((qq k 21)), .ref ((qq k 22)), .ref ((qq k 23))], zI t (qq k 21) 4 (fun _ => 0), zI t (qq k 22) 4 (fun _ => 0), zA t 2 (qq k 23) 4 (fun _ => none), zA t 2 (qq k 24) 16 (fun _ => none), zJ t ou 1 (fun _ => 0)]) (xh_S (As := [.ref xa, .int (nI k), .int 10, .ref ou]) (rest := []) Z (R10_about l hfl D t xa nw na rw ou qq no mk k hk H.size) h_W_about k_802 k_803 rfl rfl ⟨Nat.le_of_ble_eq_true rfl, Nat.le_of_ble_eq_true rfl⟩ (xh_pre hK hPc hDc hG (fun q hq => hS.2.1 q hq (Nat.not_le.mpr hq))) rfl hl.1 rfl (Nat.le_of_ble_eq_true rfl) d_W_law_898 ⟨Nat.le_of_ble_eq_true rfl, Nat.le_of_ble_eq_true rfl⟩) hP hD hS hA (fun r_ u_ H locs hw hP hD hS => ?_)
      obtain rfl := hw.symm
      refine lv_istore (lv' := [(5, .int 0), (4, .int 1), (3, .ref ou), (2, .ref ma), (1, .ref xa), (0, .ref b)]) hx hb d_W_law_901 hl (by decide) rfl (fun ls hl => ?_)
      refine lv_aload_n hx hb d_W_law_903 rfl (lv_at hl 3 rfl) ?_
      refine lv_aload_n hx hb d_W_law_904 rfl (lv_at hl 5 rfl) ?_
      refine lv_iload hx hb d_W_law_905 (lv_at hl 1 rfl) ?_
      refine lv_iconst (v := 1) hx hb d_W_law_907 (by decide) ?_
      refine lv_iadd hx hb d_W_law_908 ?_
      refine va_sld hx hb hX hbl hbA hS (by unfold vp_in; decide) d_W_law_909 ?_
      refine lv_topi (fun z9 ez9 => ?_)
      obtain rfl : nI k = z9 := ea2.trans ez9.symm
      refine lv_aload_n hx hb d_W_law_910 rfl (lv_at hl 5 rfl) ?_
      refine lv_iload hx hb d_W_law_911 (lv_at hl 1 rfl) ?_
      refine lv_iconst (v := 2) hx hb d_W_law_913 (by decide) ?_
      refine lv_iadd hx hb d_W_law_914 ?_
      refine va_sld hx hb hX hbl hbA hS (by unfold vp_in; decide) d_W_law_915 ?_
      refine lv_topi (fun z9 ez9 => ?_)
      obtain rfl : 10 = z9 := ea3.trans ez9.symm
      obtain ⟨hP, hD⟩ := lP_k hk hP hD
      have hP : va_P D vwCl [zJ t ou 1 (xo ((0 : Int32).toInt64)), zO 13 ma [.int 0, .int 0, .int 0, .int 0, .int 0, .int 0, .ref nb, .ref wy, .ref hd, .ref tk], zA t 7 nb 7 (fun j => some (pq j 0)), zO 9 (pq k 0) [.int (nI k), .int 1, .int 0, .int 0, .int 0, .int 0, .int (nI (8 + 3 * k)), .int ((-1)), .int 0, .int 0, .ref ((pq k 1)), .ref ((pq k 7)), .ref ((pq k 11)), .ref ((pq k 15)), .ref ((pq k 19)), .ref ((pq k 23)), .int 0], zO 11 (pq k 1) [.int 0, .ref ((pq k 2)), .ref ((pq k 3)), .ref ((pq k 4)), .ref ((pq k 5)), .ref ((pq k 6)), .int 1], zJ t (pq k 2) 32 (fun _ => 1099511627776), zJ t (pq k 3) 8 (fun _ => 0), zI t (pq k 4) 8 (fun _ => 0), zI t (pq k 5) 4 (xm 1), zI t (pq k 6) 4 (xm mk), zO 10 (pq k 7) [.ref ((pq k 8)), .ref ((pq k 9)), .ref ((pq k 10)), .int 0], zI t (pq k 8) 8 (fun _ => 0), zI t (pq k 9) 8 (fun _ => 0), zA t 5 (pq k 10) 8 (fun _ => none), zO 10 (pq k 11) [.ref ((pq k 12)), .ref ((pq k 13)), .ref ((pq k 14)), .int 0], zI t (pq k 12) 8 (fun _ => 0), zI t (pq k 13) 8 (fun _ => 0), zA t 5 (pq k 14) 8 (fun _ => none), zO 10 (pq k 15) [.ref ((pq k 16)), .ref ((pq k 17)), .ref ((pq k 18)), .int 0], zI t (pq k 16) 8 (fun _ => 0), zI t (pq k 17) 8 (fun _ => 0), zA t 5 (pq k 18) 8 (fun _ => none), zO 10 (pq k 19) [.ref ((pq k 20)), .ref ((pq k 21)), .ref ((pq k 22)), .int 0], zI t (pq k 20) 8 (fun _ => 0), zI t (pq k 21) 8 (fun _ => 0), zA t 5 (pq k 22) 8 (fun _ => none), zA t 5 (pq k 23) 16 (fun _ => none)] H := hP
      have hD : va_D (fun q : Nat => s.heap.size ≤ q) [zJ t ou 1 (xo ((0 : Int32).toInt64)), zO 13 ma [.int 0, .int 0, .int 0, .int 0, .int 0, .int 0, .ref nb, .ref wy, .ref hd, .ref tk], zA t 7 nb 7 (fun j => some (pq j 0)), zO 9 (pq k 0) [.int (nI k), .int 1, .int 0, .int 0, .int 0, .int 0, .int (nI (8 + 3 * k)), .int ((-1)), .int 0, .int 0, .ref ((pq k 1)), .ref ((pq k 7)), .ref ((pq k 11)), .ref ((pq k 15)), .ref ((pq k 19)), .ref ((pq k 23)), .int 0], zO 11 (pq k 1) [.int 0, .ref ((pq k 2)), .ref ((pq k 3)), .ref ((pq k 4)), .ref ((pq k 5)), .ref ((pq k 6)), .int 1], zJ t (pq k 2) 32 (fun _ => 1099511627776), zJ t (pq k 3) 8 (fun _ => 0), zI t (pq k 4) 8 (fun _ => 0), zI t (pq k 5) 4 (xm 1), zI t (pq k 6) 4 (xm mk), zO 10 (pq k 7) [.ref ((pq k 8)), .ref ((pq k 9)), .ref ((pq k 10)), .int 0], zI t (pq k 8) 8 (fun _ => 0), zI t (pq k 9) 8 (fun _ => 0), zA t 5 (pq k 10) 8 (fun _ => none), zO 10 (pq k 11) [.ref ((pq k 12)), .ref ((pq k 13)), .ref ((pq k 14)), .int 0], zI t (pq k 12) 8 (fun _ => 0), zI t (pq k 13) 8 (fun _ => 0), zA t 5 (pq k 14) 8 (fun _ => none), zO 10 (pq k 15) [.ref ((pq k 16)), .ref ((pq k 17)), .ref ((pq k 18)), .int 0], zI t (pq k 16) 8 (fun _ => 0), zI t (pq k 17) 8 (fun _ => 0), zA t 5 (pq k 18) 8 (fun _ => none), zO 10 (pq k 19) [.ref ((pq k 20)), .ref ((pq k 21)), .ref ((pq k 22)), .int 0], zI t (pq k 20) 8 (fun _ => 0), zI t (pq k 21) 8 (fun _ => 0), zA t 5 (pq k 22) 8 (fun _ => none), zA t 5 (pq k 23) 16 (fun _ => none)] := hD
      refine xe_calli (wr := [zJ t ou 1 (xo ((0 : Int32).toInt64))]) (xs_V (As := [.int (nI k), .int 10]) (rest := []) Z (C_P_about_010 l D t ma nb wy hd tk 0 pq mk k hk H.size) m_P_about k_1275 k_1276 k_1277 rfl rfl ⟨Nat.le_of_ble_eq_true rfl, Nat.le_of_ble_eq_true rfl⟩ (va_recv hK.2 hP (ci := 13) (q0 := 1) rfl rfl) (xe_pre hK (hP.sub [1, 2, 3, 4, 5, 6, 7, 8, 9, 10, 11, 12, 13, 14, 15, 16, 17, 18, 19, 20, 21, 22, 23, 24, 25, 26] rfl) (hD.sub [1, 2, 3, 4, 5, 6, 7, 8, 9, 10, 11, 12, 13, 14, 15, 16, 17, 18, 19, 20, 21, 22, 23, 24, 25, 26] (by decide) rfl)) rfl hl.1 rfl (Nat.le_of_ble_eq_true rfl) d_W_law_916 ⟨Nat.le_of_ble_eq_true rfl, Nat.le_of_ble_eq_true rfl⟩) hP hD hS hA [1, 2, 3, 4, 5, 6, 7, 8, 9, 10, 11, 12, 13, 14, 15, 16, 17, 18, 19, 20, 21, 22, 23, 24, 25, 26] [0] rfl rfl (by decide) (by decide) (fun r_47 u_ H locs hw hP hD hS => ?_)
      have hP : va_P D vwCl [zJ t ou 1 (xo ((0 : Int32).toInt64)), zO 13 ma [.int 0, .int 0, .int 0, .int 0, .int 0, .int 0, .ref nb, .ref wy, .ref hd, .ref tk]] H := hP
      have hD : va_D (fun q : Nat => s.heap.size ≤ q) [zJ t ou 1 (xo ((0 : Int32).toInt64)), zO 13 ma [.int 0, .int 0, .int 0, .int 0, .int 0, .int 0, .ref nb, .ref wy, .ref hd, .ref tk]] := hD
      obtain rfl := hw.symm
      refine lv_istore (lv' := [(6, .int 0), (5, .int 0), (4, .int 1), (3, .ref ou), (2, .ref ma), (1, .ref xa), (0, .ref b)]) hx hb d_W_law_919 hl (by decide) rfl (fun ls hl => ?_)
      refine lv_aload_n hx hb d_W_law_921 rfl (lv_at hl 4 rfl) ?_
      refine xr_call (xs_V (As := []) (rest := []) Z (C_P_thrown l D t ma 0 (.int 0) (.int 0) (.int 0) (.int 0) (.int 0) (.ref nb) (.ref wy) (.ref hd) (.ref tk)) m_P_thrown k_1026 k_1027 k_1028 rfl rfl ⟨Nat.le_of_ble_eq_true rfl, Nat.le_of_ble_eq_true rfl⟩ (va_recv hK.2 hP (ci := 13) (q0 := 1) rfl rfl) (xr_pre hK (hP.sub [1] rfl)) rfl hl.1 rfl (Nat.le_of_ble_eq_true rfl) d_W_law_922 ⟨Nat.le_of_ble_eq_true rfl, Nat.le_of_ble_eq_true rfl⟩) ?_
      refine lv_iload hx hb d_W_law_925 (lv_at hl 1 rfl) ?_
      refine lv_icmp_eq (tgt := 932) hx hb d_W_law_927 (by decide) (fun _ => ?_) (fun c_48 => absurd (rfl) c_48)
      refine lv_iload hx hb d_W_law_932 (lv_at hl 1 rfl) ?_
      refine lv_if_ne (tgt := 949) hx hb d_W_law_934 (by decide) (fun c_49 => absurd c_49 (by decide)) (fun _ => ?_)
      refine lv_aload_n hx hb d_W_law_937 rfl (lv_at hl 3 rfl) ?_
      refine lv_iconst (v := 0) hx hb d_W_law_938 (by decide) ?_
      refine va_lald hx hb hK.2 hP 0 1 rfl rfl (by unfold vp_in; decide) d_W_law_939 ?_
      refine lv_iload hx hb d_W_law_940 (lv_at hl 0 rfl) ?_
      refine lv_i2l (v := (0 : Int32).toInt64) hx hb d_W_law_942 rfl ?_
      refine xl_lcmpE (x := (0 : Int32).toInt64) hx hb d_W_law_943 ?_
      refine lv_if_eq (tgt := 949) hx hb d_W_law_944 (by decide) (fun _ => ?_) (fun c_50 => absurd (rfl) c_50)
      refine lv_goto (tgt := 977) hx hb d_W_law_949 (by decide) ?_
      refine W.widen (k := 100000) (n := 1000000) (Nat.le_of_ble_eq_true rfl) (Nat.le_of_ble_eq_true rfl) ?_
      exact back H locs ls hS (lv_sub hl [2, 6] rfl)
    · obtain ⟨hP, hD⟩ := lQ_k hk hP hD
      have hPc : va_P D vwCl [zO 7 xa [.ref nw, .ref na, .int 0], zA t 4 na 7 (fun j => some (qq j 0)), zO 2 nw [.ref rw, .int 0, .int 0, .int 0, .int 0], zA t 3 rw 300 (fun _ => none), zO 3 (qq k 0) [.int (nI k), .ref nw, .int 0, .int 0, .int 0, .ref ((qq k 1)), .ref ((qq k 7)), .ref ((qq k 11)), .int 1, .int 0, .int 0, .int (nI (8 + 3 * k)), .int ((-1)), .int 0, .ref ((qq k 15))], zO 5 (qq k 1) [.ref ((qq k 2)), .ref ((qq k 3)), .ref ((qq k 4)), .ref ((qq k 5)), .ref ((qq k 6)), .int 1], zJ t (qq k 2) 32 (fun _ => 1099511627776), zI t (qq k 3) 8 (fun _ => 0), zJ t (qq k 4) 8 (fun _ => 0), zI t (qq k 5) 4 (xm 1), zI t (qq k 6) 4 (xm mk), zO 4 (qq k 7) [.ref ((qq k 8)), .ref ((qq k 9)), .ref ((qq k 10))], zI t (qq k 8) 32 (fun _ => 0), zI t (qq k 9) 32 (fun _ => 0), zA t 2 (qq k 10) 32 (fun _ => none), zO 4 (qq k 11) [.ref ((qq k 12)), .ref ((qq k 13)), .ref ((qq k 14))], zI t (qq k 12) 64 (fun _ => 0), zI t (qq k 13) 64 (fun _ => 0), zA t 2 (qq k 14) 64 (fun _ => none), zO 0 (qq k 15) [.ref ((no k)), .int 0, .ref ((qq k 16)), .ref ((qq k 20)), .ref ((qq k 24)), .int 0, .int 0, .int 0], zO 4 (qq k 16) [.ref ((qq k 17)), .ref ((qq k 18)), .ref ((qq k 19))], zI t (qq k 17) 32 (fun _ => 0), zI t (qq k 18) 32 (fun _ => 0), zA t 2 (qq k 19) 32 (fun _ => none), zO 4 (qq k 20) [.ref ((qq k 21)), .ref ((qq k 22)), .ref ((qq k 23))], zI t (qq k 21) 4 (fun _ => 0), zI t (qq k 22) 4 (fun _ => 0), zA t 2 (qq k 23) 4 (fun _ => none), zA t 2 (qq k 24) 16 (fun _ => none), zJ t ou 1 (fun _ => 0)] H := xd_P hP (fun q h => List.mem_append_right _ h)
      have hDc : va_D (fun q : Nat => s.heap.size ≤ q) [zO 7 xa [.ref nw, .ref na, .int 0], zA t 4 na 7 (fun j => some (qq j 0)), zO 2 nw [.ref rw, .int 0, .int 0, .int 0, .int 0], zA t 3 rw 300 (fun _ => none), zO 3 (qq k 0) [.int (nI k), .ref nw, .int 0, .int 0, .int 0, .ref ((qq k 1)), .ref ((qq k 7)), .ref ((qq k 11)), .int 1, .int 0, .int 0, .int (nI (8 + 3 * k)), .int ((-1)), .int 0, .ref ((qq k 15))], zO 5 (qq k 1) [.ref ((qq k 2)), .ref ((qq k 3)), .ref ((qq k 4)), .ref ((qq k 5)), .ref ((qq k 6)), .int 1], zJ t (qq k 2) 32 (fun _ => 1099511627776), zI t (qq k 3) 8 (fun _ => 0), zJ t (qq k 4) 8 (fun _ => 0), zI t (qq k 5) 4 (xm 1), zI t (qq k 6) 4 (xm mk), zO 4 (qq k 7) [.ref ((qq k 8)), .ref ((qq k 9)), .ref ((qq k 10))], zI t (qq k 8) 32 (fun _ => 0), zI t (qq k 9) 32 (fun _ => 0), zA t 2 (qq k 10) 32 (fun _ => none), zO 4 (qq k 11) [.ref ((qq k 12)), .ref ((qq k 13)), .ref ((qq k 14))], zI t (qq k 12) 64 (fun _ => 0), zI t (qq k 13) 64 (fun _ => 0), zA t 2 (qq k 14) 64 (fun _ => none), zO 0 (qq k 15) [.ref ((no k)), .int 0, .ref ((qq k 16)), .ref ((qq k 20)), .ref ((qq k 24)), .int 0, .int 0, .int 0], zO 4 (qq k 16) [.ref ((qq k 17)), .ref ((qq k 18)), .ref ((qq k 19))], zI t (qq k 17) 32 (fun _ => 0), zI t (qq k 18) 32 (fun _ => 0), zA t 2 (qq k 19) 32 (fun _ => none), zO 4 (qq k 20) [.ref ((qq k 21)), .ref ((qq k 22)), .ref ((qq k 23))], zI t (qq k 21) 4 (fun _ => 0), zI t (qq k 22) 4 (fun _ => 0), zA t 2 (qq k 23) 4 (fun _ => none), zA t 2 (qq k 24) 16 (fun _ => none), zJ t ou 1 (fun _ => 0)] := xd_R hD
      refine xe_sfxi (wr := lP t ma nb wy hd tk hli hst pq mk) (wc := [zO 7 xa [.ref nw, .ref na, .int 0], zA t 4 na 7 (fun j => some (qq j 0)), zO 2 nw [.ref rw, .int 0, .int 0, .int 0, .int 0], zA t 3 rw 300 (fun _ => none), zO 3 (qq k 0) [.int (nI k), .ref nw, .int 0, .int 0, .int 0, .ref ((qq k 1)), .ref ((qq k 7)), .ref ((qq k 11)), .int 1, .int 0, .int 0, .int (nI (8 + 3 * k)), .int ((-1)), .int 0, .ref ((qq k 15))], zO 5 (qq k 1) [.ref ((qq k 2)), .ref ((qq k 3)), .ref ((qq k 4)), .ref ((qq k 5)), .ref ((qq k 6)), .int 1], zJ t (qq k 2) 32 (fun _ => 1099511627776), zI t (qq k 3) 8 (fun _ => 0), zJ t (qq k 4) 8 (fun _ => 0), zI t (qq k 5) 4 (xm 1), zI t (qq k 6) 4 (xm mk), zO 4 (qq k 7) [.ref ((qq k 8)), .ref ((qq k 9)), .ref ((qq k 10))], zI t (qq k 8) 32 (fun _ => 0), zI t (qq k 9) 32 (fun _ => 0), zA t 2 (qq k 10) 32 (fun _ => none), zO 4 (qq k 11) [.ref ((qq k 12)), .ref ((qq k 13)), .ref ((qq k 14))], zI t (qq k 12) 64 (fun _ => 0), zI t (qq k 13) 64 (fun _ => 0), zA t 2 (qq k 14) 64 (fun _ => none), zO 0 (qq k 15) [.ref ((no k)), .int 0, .ref ((qq k 16)), .ref ((qq k 20)), .ref ((qq k 24)), .int 0, .int 0, .int 0], zO 4 (qq k 16) [.ref ((qq k 17)), .ref ((qq k 18)), .ref ((qq k 19))], zI t (qq k 17) 32 (fun _ => 0), zI t (qq k 18) 32 (fun _ => 0), zA t 2 (qq k 19) 32 (fun _ => none), zO 4 (qq k 20) [.ref ((qq k 21)), .ref ((qq k 22)), .ref ((qq k 23))], zI t (qq k 21) 4 (fun _ => 0), zI t (qq k 22) 4 (fun _ => 0), zA t 2 (qq k 23) 4 (fun _ => none), zA t 2 (qq k 24) 16 (fun _ => none), zJ t ou 1 (fun _ => 0)]) (xh_S (As := [.ref xa, .int (nI k), .int 11, .ref ou]) (rest := []) Z (R11_about l hfl D t xa nw na rw ou qq no mk k hk H.size) h_W_about k_802 k_803 rfl rfl ⟨Nat.le_of_ble_eq_true rfl, Nat.le_of_ble_eq_true rfl⟩ (xh_pre hK hPc hDc hG (fun q hq => hS.2.1 q hq (Nat.not_le.mpr hq))) rfl hl.1 rfl (Nat.le_of_ble_eq_true rfl) d_W_law_898 ⟨Nat.le_of_ble_eq_true rfl, Nat.le_of_ble_eq_true rfl⟩) hP hD hS hA (fun r_ u_ H locs hw hP hD hS => ?_)
      obtain rfl := hw.symm
      refine lv_istore (lv' := [(5, .int 0), (4, .int 1), (3, .ref ou), (2, .ref ma), (1, .ref xa), (0, .ref b)]) hx hb d_W_law_901 hl (by decide) rfl (fun ls hl => ?_)
      refine lv_aload_n hx hb d_W_law_903 rfl (lv_at hl 3 rfl) ?_
      refine lv_aload_n hx hb d_W_law_904 rfl (lv_at hl 5 rfl) ?_
      refine lv_iload hx hb d_W_law_905 (lv_at hl 1 rfl) ?_
      refine lv_iconst (v := 1) hx hb d_W_law_907 (by decide) ?_
      refine lv_iadd hx hb d_W_law_908 ?_
      refine va_sld hx hb hX hbl hbA hS (by unfold vp_in; decide) d_W_law_909 ?_
      refine lv_topi (fun z9 ez9 => ?_)
      obtain rfl : nI k = z9 := ea2.trans ez9.symm
      refine lv_aload_n hx hb d_W_law_910 rfl (lv_at hl 5 rfl) ?_
      refine lv_iload hx hb d_W_law_911 (lv_at hl 1 rfl) ?_
      refine lv_iconst (v := 2) hx hb d_W_law_913 (by decide) ?_
      refine lv_iadd hx hb d_W_law_914 ?_
      refine va_sld hx hb hX hbl hbA hS (by unfold vp_in; decide) d_W_law_915 ?_
      refine lv_topi (fun z9 ez9 => ?_)
      obtain rfl : 11 = z9 := ea3.trans ez9.symm
      obtain ⟨hP, hD⟩ := lP_k hk hP hD
      have hP : va_P D vwCl [zJ t ou 1 (xo ((0 : Int32).toInt64)), zO 13 ma [.int 0, .int 0, .int 0, .int 0, .int 0, .int 0, .ref nb, .ref wy, .ref hd, .ref tk], zA t 7 nb 7 (fun j => some (pq j 0)), zO 9 (pq k 0) [.int (nI k), .int 1, .int 0, .int 0, .int 0, .int 0, .int (nI (8 + 3 * k)), .int ((-1)), .int 0, .int 0, .ref ((pq k 1)), .ref ((pq k 7)), .ref ((pq k 11)), .ref ((pq k 15)), .ref ((pq k 19)), .ref ((pq k 23)), .int 0], zO 11 (pq k 1) [.int 0, .ref ((pq k 2)), .ref ((pq k 3)), .ref ((pq k 4)), .ref ((pq k 5)), .ref ((pq k 6)), .int 1], zJ t (pq k 2) 32 (fun _ => 1099511627776), zJ t (pq k 3) 8 (fun _ => 0), zI t (pq k 4) 8 (fun _ => 0), zI t (pq k 5) 4 (xm 1), zI t (pq k 6) 4 (xm mk), zO 10 (pq k 7) [.ref ((pq k 8)), .ref ((pq k 9)), .ref ((pq k 10)), .int 0], zI t (pq k 8) 8 (fun _ => 0), zI t (pq k 9) 8 (fun _ => 0), zA t 5 (pq k 10) 8 (fun _ => none), zO 10 (pq k 11) [.ref ((pq k 12)), .ref ((pq k 13)), .ref ((pq k 14)), .int 0], zI t (pq k 12) 8 (fun _ => 0), zI t (pq k 13) 8 (fun _ => 0), zA t 5 (pq k 14) 8 (fun _ => none), zO 10 (pq k 15) [.ref ((pq k 16)), .ref ((pq k 17)), .ref ((pq k 18)), .int 0], zI t (pq k 16) 8 (fun _ => 0), zI t (pq k 17) 8 (fun _ => 0), zA t 5 (pq k 18) 8 (fun _ => none), zO 10 (pq k 19) [.ref ((pq k 20)), .ref ((pq k 21)), .ref ((pq k 22)), .int 0], zI t (pq k 20) 8 (fun _ => 0), zI t (pq k 21) 8 (fun _ => 0), zA t 5 (pq k 22) 8 (fun _ => none), zA t 5 (pq k 23) 16 (fun _ => none)] H := hP
      have hD : va_D (fun q : Nat => s.heap.size ≤ q) [zJ t ou 1 (xo ((0 : Int32).toInt64)), zO 13 ma [.int 0, .int 0, .int 0, .int 0, .int 0, .int 0, .ref nb, .ref wy, .ref hd, .ref tk], zA t 7 nb 7 (fun j => some (pq j 0)), zO 9 (pq k 0) [.int (nI k), .int 1, .int 0, .int 0, .int 0, .int 0, .int (nI (8 + 3 * k)), .int ((-1)), .int 0, .int 0, .ref ((pq k 1)), .ref ((pq k 7)), .ref ((pq k 11)), .ref ((pq k 15)), .ref ((pq k 19)), .ref ((pq k 23)), .int 0], zO 11 (pq k 1) [.int 0, .ref ((pq k 2)), .ref ((pq k 3)), .ref ((pq k 4)), .ref ((pq k 5)), .ref ((pq k 6)), .int 1], zJ t (pq k 2) 32 (fun _ => 1099511627776), zJ t (pq k 3) 8 (fun _ => 0), zI t (pq k 4) 8 (fun _ => 0), zI t (pq k 5) 4 (xm 1), zI t (pq k 6) 4 (xm mk), zO 10 (pq k 7) [.ref ((pq k 8)), .ref ((pq k 9)), .ref ((pq k 10)), .int 0], zI t (pq k 8) 8 (fun _ => 0), zI t (pq k 9) 8 (fun _ => 0), zA t 5 (pq k 10) 8 (fun _ => none), zO 10 (pq k 11) [.ref ((pq k 12)), .ref ((pq k 13)), .ref ((pq k 14)), .int 0], zI t (pq k 12) 8 (fun _ => 0), zI t (pq k 13) 8 (fun _ => 0), zA t 5 (pq k 14) 8 (fun _ => none), zO 10 (pq k 15) [.ref ((pq k 16)), .ref ((pq k 17)), .ref ((pq k 18)), .int 0], zI t (pq k 16) 8 (fun _ => 0), zI t (pq k 17) 8 (fun _ => 0), zA t 5 (pq k 18) 8 (fun _ => none), zO 10 (pq k 19) [.ref ((pq k 20)), .ref ((pq k 21)), .ref ((pq k 22)), .int 0], zI t (pq k 20) 8 (fun _ => 0), zI t (pq k 21) 8 (fun _ => 0), zA t 5 (pq k 22) 8 (fun _ => none), zA t 5 (pq k 23) 16 (fun _ => none)] := hD
      refine xe_calli (wr := [zJ t ou 1 (xo ((0 : Int32).toInt64))]) (xs_V (As := [.int (nI k), .int 11]) (rest := []) Z (C_P_about_011 l D t ma nb wy hd tk 0 pq mk k hk H.size) m_P_about k_1275 k_1276 k_1277 rfl rfl ⟨Nat.le_of_ble_eq_true rfl, Nat.le_of_ble_eq_true rfl⟩ (va_recv hK.2 hP (ci := 13) (q0 := 1) rfl rfl) (xe_pre hK (hP.sub [1, 2, 3, 4, 5, 6, 7, 8, 9, 10, 11, 12, 13, 14, 15, 16, 17, 18, 19, 20, 21, 22, 23, 24, 25, 26] rfl) (hD.sub [1, 2, 3, 4, 5, 6, 7, 8, 9, 10, 11, 12, 13, 14, 15, 16, 17, 18, 19, 20, 21, 22, 23, 24, 25, 26] (by decide) rfl)) rfl hl.1 rfl (Nat.le_of_ble_eq_true rfl) d_W_law_916 ⟨Nat.le_of_ble_eq_true rfl, Nat.le_of_ble_eq_true rfl⟩) hP hD hS hA [1, 2, 3, 4, 5, 6, 7, 8, 9, 10, 11, 12, 13, 14, 15, 16, 17, 18, 19, 20, 21, 22, 23, 24, 25, 26] [0] rfl rfl (by decide) (by decide) (fun r_51 u_ H locs hw hP hD hS => ?_)
      have hP : va_P D vwCl [zJ t ou 1 (xo ((0 : Int32).toInt64)), zO 13 ma [.int 0, .int 0, .int 0, .int 0, .int 0, .int 0, .ref nb, .ref wy, .ref hd, .ref tk]] H := hP
      have hD : va_D (fun q : Nat => s.heap.size ≤ q) [zJ t ou 1 (xo ((0 : Int32).toInt64)), zO 13 ma [.int 0, .int 0, .int 0, .int 0, .int 0, .int 0, .ref nb, .ref wy, .ref hd, .ref tk]] := hD
      obtain rfl := hw.symm
      refine lv_istore (lv' := [(6, .int 0), (5, .int 0), (4, .int 1), (3, .ref ou), (2, .ref ma), (1, .ref xa), (0, .ref b)]) hx hb d_W_law_919 hl (by decide) rfl (fun ls hl => ?_)
      refine lv_aload_n hx hb d_W_law_921 rfl (lv_at hl 4 rfl) ?_
      refine xr_call (xs_V (As := []) (rest := []) Z (C_P_thrown l D t ma 0 (.int 0) (.int 0) (.int 0) (.int 0) (.int 0) (.ref nb) (.ref wy) (.ref hd) (.ref tk)) m_P_thrown k_1026 k_1027 k_1028 rfl rfl ⟨Nat.le_of_ble_eq_true rfl, Nat.le_of_ble_eq_true rfl⟩ (va_recv hK.2 hP (ci := 13) (q0 := 1) rfl rfl) (xr_pre hK (hP.sub [1] rfl)) rfl hl.1 rfl (Nat.le_of_ble_eq_true rfl) d_W_law_922 ⟨Nat.le_of_ble_eq_true rfl, Nat.le_of_ble_eq_true rfl⟩) ?_
      refine lv_iload hx hb d_W_law_925 (lv_at hl 1 rfl) ?_
      refine lv_icmp_eq (tgt := 932) hx hb d_W_law_927 (by decide) (fun _ => ?_) (fun c_52 => absurd (rfl) c_52)
      refine lv_iload hx hb d_W_law_932 (lv_at hl 1 rfl) ?_
      refine lv_if_ne (tgt := 949) hx hb d_W_law_934 (by decide) (fun c_53 => absurd c_53 (by decide)) (fun _ => ?_)
      refine lv_aload_n hx hb d_W_law_937 rfl (lv_at hl 3 rfl) ?_
      refine lv_iconst (v := 0) hx hb d_W_law_938 (by decide) ?_
      refine va_lald hx hb hK.2 hP 0 1 rfl rfl (by unfold vp_in; decide) d_W_law_939 ?_
      refine lv_iload hx hb d_W_law_940 (lv_at hl 0 rfl) ?_
      refine lv_i2l (v := (0 : Int32).toInt64) hx hb d_W_law_942 rfl ?_
      refine xl_lcmpE (x := (0 : Int32).toInt64) hx hb d_W_law_943 ?_
      refine lv_if_eq (tgt := 949) hx hb d_W_law_944 (by decide) (fun _ => ?_) (fun c_54 => absurd (rfl) c_54)
      refine lv_goto (tgt := 977) hx hb d_W_law_949 (by decide) ?_
      refine W.widen (k := 100000) (n := 1000000) (Nat.le_of_ble_eq_true rfl) (Nat.le_of_ble_eq_true rfl) ?_
      exact back H locs ls hS (lv_sub hl [2, 6] rfl)
    · obtain ⟨hP, hD⟩ := lQ_k hk hP hD
      have hPc : va_P D vwCl [zO 7 xa [.ref nw, .ref na, .int 0], zA t 4 na 7 (fun j => some (qq j 0)), zO 2 nw [.ref rw, .int 0, .int 0, .int 0, .int 0], zA t 3 rw 300 (fun _ => none), zO 3 (qq k 0) [.int (nI k), .ref nw, .int 0, .int 0, .int 0, .ref ((qq k 1)), .ref ((qq k 7)), .ref ((qq k 11)), .int 1, .int 0, .int 0, .int (nI (8 + 3 * k)), .int ((-1)), .int 0, .ref ((qq k 15))], zO 5 (qq k 1) [.ref ((qq k 2)), .ref ((qq k 3)), .ref ((qq k 4)), .ref ((qq k 5)), .ref ((qq k 6)), .int 1], zJ t (qq k 2) 32 (fun _ => 1099511627776), zI t (qq k 3) 8 (fun _ => 0), zJ t (qq k 4) 8 (fun _ => 0), zI t (qq k 5) 4 (xm 1), zI t (qq k 6) 4 (xm mk), zO 4 (qq k 7) [.ref ((qq k 8)), .ref ((qq k 9)), .ref ((qq k 10))], zI t (qq k 8) 32 (fun _ => 0), zI t (qq k 9) 32 (fun _ => 0), zA t 2 (qq k 10) 32 (fun _ => none), zO 4 (qq k 11) [.ref ((qq k 12)), .ref ((qq k 13)), .ref ((qq k 14))], zI t (qq k 12) 64 (fun _ => 0), zI t (qq k 13) 64 (fun _ => 0), zA t 2 (qq k 14) 64 (fun _ => none), zO 0 (qq k 15) [.ref ((no k)), .int 0, .ref ((qq k 16)), .ref ((qq k 20)), .ref ((qq k 24)), .int 0, .int 0, .int 0], zO 4 (qq k 16) [.ref ((qq k 17)), .ref ((qq k 18)), .ref ((qq k 19))], zI t (qq k 17) 32 (fun _ => 0), zI t (qq k 18) 32 (fun _ => 0), zA t 2 (qq k 19) 32 (fun _ => none), zO 4 (qq k 20) [.ref ((qq k 21)), .ref ((qq k 22)), .ref ((qq k 23))], zI t (qq k 21) 4 (fun _ => 0), zI t (qq k 22) 4 (fun _ => 0), zA t 2 (qq k 23) 4 (fun _ => none), zA t 2 (qq k 24) 16 (fun _ => none), zJ t ou 1 (fun _ => 0)] H := xd_P hP (fun q h => List.mem_append_right _ h)
      have hDc : va_D (fun q : Nat => s.heap.size ≤ q) [zO 7 xa [.ref nw, .ref na, .int 0], zA t 4 na 7 (fun j => some (qq j 0)), zO 2 nw [.ref rw, .int 0, .int 0, .int 0, .int 0], zA t 3 rw 300 (fun _ => none), zO 3 (qq k 0) [.int (nI k), .ref nw, .int 0, .int 0, .int 0, .ref ((qq k 1)), .ref ((qq k 7)), .ref ((qq k 11)), .int 1, .int 0, .int 0, .int (nI (8 + 3 * k)), .int ((-1)), .int 0, .ref ((qq k 15))], zO 5 (qq k 1) [.ref ((qq k 2)), .ref ((qq k 3)), .ref ((qq k 4)), .ref ((qq k 5)), .ref ((qq k 6)), .int 1], zJ t (qq k 2) 32 (fun _ => 1099511627776), zI t (qq k 3) 8 (fun _ => 0), zJ t (qq k 4) 8 (fun _ => 0), zI t (qq k 5) 4 (xm 1), zI t (qq k 6) 4 (xm mk), zO 4 (qq k 7) [.ref ((qq k 8)), .ref ((qq k 9)), .ref ((qq k 10))], zI t (qq k 8) 32 (fun _ => 0), zI t (qq k 9) 32 (fun _ => 0), zA t 2 (qq k 10) 32 (fun _ => none), zO 4 (qq k 11) [.ref ((qq k 12)), .ref ((qq k 13)), .ref ((qq k 14))], zI t (qq k 12) 64 (fun _ => 0), zI t (qq k 13) 64 (fun _ => 0), zA t 2 (qq k 14) 64 (fun _ => none), zO 0 (qq k 15) [.ref ((no k)), .int 0, .ref ((qq k 16)), .ref ((qq k 20)), .ref ((qq k 24)), .int 0, .int 0, .int 0], zO 4 (qq k 16) [.ref ((qq k 17)), .ref ((qq k 18)), .ref ((qq k 19))], zI t (qq k 17) 32 (fun _ => 0), zI t (qq k 18) 32 (fun _ => 0), zA t 2 (qq k 19) 32 (fun _ => none), zO 4 (qq k 20) [.ref ((qq k 21)), .ref ((qq k 22)), .ref ((qq k 23))], zI t (qq k 21) 4 (fun _ => 0), zI t (qq k 22) 4 (fun _ => 0), zA t 2 (qq k 23) 4 (fun _ => none), zA t 2 (qq k 24) 16 (fun _ => none), zJ t ou 1 (fun _ => 0)] := xd_R hD
      refine xe_sfxi (wr := lP t ma nb wy hd tk hli hst pq mk) (wc := [zO 7 xa [.ref nw, .ref na, .int 0], zA t 4 na 7 (fun j => some (qq j 0)), zO 2 nw [.ref rw, .int 0, .int 0, .int 0, .int 0], zA t 3 rw 300 (fun _ => none), zO 3 (qq k 0) [.int (nI k), .ref nw, .int 0, .int 0, .int 0, .ref ((qq k 1)), .ref ((qq k 7)), .ref ((qq k 11)), .int 1, .int 0, .int 0, .int (nI (8 + 3 * k)), .int ((-1)), .int 0, .ref ((qq k 15))], zO 5 (qq k 1) [.ref ((qq k 2)), .ref ((qq k 3)), .ref ((qq k 4)), .ref ((qq k 5)), .ref ((qq k 6)), .int 1], zJ t (qq k 2) 32 (fun _ => 1099511627776), zI t (qq k 3) 8 (fun _ => 0), zJ t (qq k 4) 8 (fun _ => 0), zI t (qq k 5) 4 (xm 1), zI t (qq k 6) 4 (xm mk), zO 4 (qq k 7) [.ref ((qq k 8)), .ref ((qq k 9)), .ref ((qq k 10))], zI t (qq k 8) 32 (fun _ => 0), zI t (qq k 9) 32 (fun _ => 0), zA t 2 (qq k 10) 32 (fun _ => none), zO 4 (qq k 11) [.ref ((qq k 12)), .ref ((qq k 13)), .ref ((qq k 14))], zI t (qq k 12) 64 (fun _ => 0), zI t (qq k 13) 64 (fun _ => 0), zA t 2 (qq k 14) 64 (fun _ => none), zO 0 (qq k 15) [.ref ((no k)), .int 0, .ref ((qq k 16)), .ref ((qq k 20)), .ref ((qq k 24)), .int 0, .int 0, .int 0], zO 4 (qq k 16) [.ref ((qq k 17)), .ref ((qq k 18)), .ref ((qq k 19))], zI t (qq k 17) 32 (fun _ => 0), zI t (qq k 18) 32 (fun _ => 0), zA t 2 (qq k 19) 32 (fun _ => none), zO 4 (qq k 20) [.ref ((qq k 21)), .ref ((qq k 22)), .ref ((qq k 23))], zI t (qq k 21) 4 (fun _ => 0), zI t (qq k 22) 4 (fun _ => 0), zA t 2 (qq k 23) 4 (fun _ => none), zA t 2 (qq k 24) 16 (fun _ => none), zJ t ou 1 (fun _ => 0)]) (xh_S (As := [.ref xa, .int (nI k), .int 12, .ref ou]) (rest := []) Z (R12_about l hfl D t xa nw na rw ou qq no mk k hk H.size) h_W_about k_802 k_803 rfl rfl ⟨Nat.le_of_ble_eq_true rfl, Nat.le_of_ble_eq_true rfl⟩ (xh_pre hK hPc hDc hG (fun q hq => hS.2.1 q hq (Nat.not_le.mpr hq))) rfl hl.1 rfl (Nat.le_of_ble_eq_true rfl) d_W_law_898 ⟨Nat.le_of_ble_eq_true rfl, Nat.le_of_ble_eq_true rfl⟩) hP hD hS hA (fun r_ u_ H locs hw hP hD hS => ?_)
      obtain rfl := hw.symm
      refine lv_istore (lv' := [(5, .int 0), (4, .int 1), (3, .ref ou), (2, .ref ma), (1, .ref xa), (0, .ref b)]) hx hb d_W_law_901 hl (by decide) rfl (fun ls hl => ?_)
      refine lv_aload_n hx hb d_W_law_903 rfl (lv_at hl 3 rfl) ?_
      refine lv_aload_n hx hb d_W_law_904 rfl (lv_at hl 5 rfl) ?_
      refine lv_iload hx hb d_W_law_905 (lv_at hl 1 rfl) ?_
      refine lv_iconst (v := 1) hx hb d_W_law_907 (by decide) ?_
      refine lv_iadd hx hb d_W_law_908 ?_
      refine va_sld hx hb hX hbl hbA hS (by unfold vp_in; decide) d_W_law_909 ?_
      refine lv_topi (fun z9 ez9 => ?_)
      obtain rfl : nI k = z9 := ea2.trans ez9.symm
      refine lv_aload_n hx hb d_W_law_910 rfl (lv_at hl 5 rfl) ?_
      refine lv_iload hx hb d_W_law_911 (lv_at hl 1 rfl) ?_
      refine lv_iconst (v := 2) hx hb d_W_law_913 (by decide) ?_
      refine lv_iadd hx hb d_W_law_914 ?_
      refine va_sld hx hb hX hbl hbA hS (by unfold vp_in; decide) d_W_law_915 ?_
      refine lv_topi (fun z9 ez9 => ?_)
      obtain rfl : 12 = z9 := ea3.trans ez9.symm
      obtain ⟨hP, hD⟩ := lP_k hk hP hD
      have hP : va_P D vwCl [zJ t ou 1 (xo ((0 : Int32).toInt64)), zO 13 ma [.int 0, .int 0, .int 0, .int 0, .int 0, .int 0, .ref nb, .ref wy, .ref hd, .ref tk], zA t 7 nb 7 (fun j => some (pq j 0)), zO 9 (pq k 0) [.int (nI k), .int 1, .int 0, .int 0, .int 0, .int 0, .int (nI (8 + 3 * k)), .int ((-1)), .int 0, .int 0, .ref ((pq k 1)), .ref ((pq k 7)), .ref ((pq k 11)), .ref ((pq k 15)), .ref ((pq k 19)), .ref ((pq k 23)), .int 0], zO 11 (pq k 1) [.int 0, .ref ((pq k 2)), .ref ((pq k 3)), .ref ((pq k 4)), .ref ((pq k 5)), .ref ((pq k 6)), .int 1], zJ t (pq k 2) 32 (fun _ => 1099511627776), zJ t (pq k 3) 8 (fun _ => 0), zI t (pq k 4) 8 (fun _ => 0), zI t (pq k 5) 4 (xm 1), zI t (pq k 6) 4 (xm mk), zO 10 (pq k 7) [.ref ((pq k 8)), .ref ((pq k 9)), .ref ((pq k 10)), .int 0], zI t (pq k 8) 8 (fun _ => 0), zI t (pq k 9) 8 (fun _ => 0), zA t 5 (pq k 10) 8 (fun _ => none), zO 10 (pq k 11) [.ref ((pq k 12)), .ref ((pq k 13)), .ref ((pq k 14)), .int 0], zI t (pq k 12) 8 (fun _ => 0), zI t (pq k 13) 8 (fun _ => 0), zA t 5 (pq k 14) 8 (fun _ => none), zO 10 (pq k 15) [.ref ((pq k 16)), .ref ((pq k 17)), .ref ((pq k 18)), .int 0], zI t (pq k 16) 8 (fun _ => 0), zI t (pq k 17) 8 (fun _ => 0), zA t 5 (pq k 18) 8 (fun _ => none), zO 10 (pq k 19) [.ref ((pq k 20)), .ref ((pq k 21)), .ref ((pq k 22)), .int 0], zI t (pq k 20) 8 (fun _ => 0), zI t (pq k 21) 8 (fun _ => 0), zA t 5 (pq k 22) 8 (fun _ => none), zA t 5 (pq k 23) 16 (fun _ => none)] H := hP
      have hD : va_D (fun q : Nat => s.heap.size ≤ q) [zJ t ou 1 (xo ((0 : Int32).toInt64)), zO 13 ma [.int 0, .int 0, .int 0, .int 0, .int 0, .int 0, .ref nb, .ref wy, .ref hd, .ref tk], zA t 7 nb 7 (fun j => some (pq j 0)), zO 9 (pq k 0) [.int (nI k), .int 1, .int 0, .int 0, .int 0, .int 0, .int (nI (8 + 3 * k)), .int ((-1)), .int 0, .int 0, .ref ((pq k 1)), .ref ((pq k 7)), .ref ((pq k 11)), .ref ((pq k 15)), .ref ((pq k 19)), .ref ((pq k 23)), .int 0], zO 11 (pq k 1) [.int 0, .ref ((pq k 2)), .ref ((pq k 3)), .ref ((pq k 4)), .ref ((pq k 5)), .ref ((pq k 6)), .int 1], zJ t (pq k 2) 32 (fun _ => 1099511627776), zJ t (pq k 3) 8 (fun _ => 0), zI t (pq k 4) 8 (fun _ => 0), zI t (pq k 5) 4 (xm 1), zI t (pq k 6) 4 (xm mk), zO 10 (pq k 7) [.ref ((pq k 8)), .ref ((pq k 9)), .ref ((pq k 10)), .int 0], zI t (pq k 8) 8 (fun _ => 0), zI t (pq k 9) 8 (fun _ => 0), zA t 5 (pq k 10) 8 (fun _ => none), zO 10 (pq k 11) [.ref ((pq k 12)), .ref ((pq k 13)), .ref ((pq k 14)), .int 0], zI t (pq k 12) 8 (fun _ => 0), zI t (pq k 13) 8 (fun _ => 0), zA t 5 (pq k 14) 8 (fun _ => none), zO 10 (pq k 15) [.ref ((pq k 16)), .ref ((pq k 17)), .ref ((pq k 18)), .int 0], zI t (pq k 16) 8 (fun _ => 0), zI t (pq k 17) 8 (fun _ => 0), zA t 5 (pq k 18) 8 (fun _ => none), zO 10 (pq k 19) [.ref ((pq k 20)), .ref ((pq k 21)), .ref ((pq k 22)), .int 0], zI t (pq k 20) 8 (fun _ => 0), zI t (pq k 21) 8 (fun _ => 0), zA t 5 (pq k 22) 8 (fun _ => none), zA t 5 (pq k 23) 16 (fun _ => none)] := hD
      refine xe_calli (wr := [zJ t ou 1 (xo ((0 : Int32).toInt64))]) (xs_V (As := [.int (nI k), .int 12]) (rest := []) Z (C_P_about_012 l D t ma nb wy hd tk 0 pq mk k hk H.size) m_P_about k_1275 k_1276 k_1277 rfl rfl ⟨Nat.le_of_ble_eq_true rfl, Nat.le_of_ble_eq_true rfl⟩ (va_recv hK.2 hP (ci := 13) (q0 := 1) rfl rfl) (xe_pre hK (hP.sub [1, 2, 3, 4, 5, 6, 7, 8, 9, 10, 11, 12, 13, 14, 15, 16, 17, 18, 19, 20, 21, 22, 23, 24, 25, 26] rfl) (hD.sub [1, 2, 3, 4, 5, 6, 7, 8, 9, 10, 11, 12, 13, 14, 15, 16, 17, 18, 19, 20, 21, 22, 23, 24, 25, 26] (by decide) rfl)) rfl hl.1 rfl (Nat.le_of_ble_eq_true rfl) d_W_law_916 ⟨Nat.le_of_ble_eq_true rfl, Nat.le_of_ble_eq_true rfl⟩) hP hD hS hA [1, 2, 3, 4, 5, 6, 7, 8, 9, 10, 11, 12, 13, 14, 15, 16, 17, 18, 19, 20, 21, 22, 23, 24, 25, 26] [0] rfl rfl (by decide) (by decide) (fun r_55 u_ H locs hw hP hD hS => ?_)
      have hP : va_P D vwCl [zJ t ou 1 (xo ((0 : Int32).toInt64)), zO 13 ma [.int 0, .int 0, .int 0, .int 0, .int 0, .int 0, .ref nb, .ref wy, .ref hd, .ref tk]] H := hP
      have hD : va_D (fun q : Nat => s.heap.size ≤ q) [zJ t ou 1 (xo ((0 : Int32).toInt64)), zO 13 ma [.int 0, .int 0, .int 0, .int 0, .int 0, .int 0, .ref nb, .ref wy, .ref hd, .ref tk]] := hD
      obtain rfl := hw.symm
      refine lv_istore (lv' := [(6, .int 0), (5, .int 0), (4, .int 1), (3, .ref ou), (2, .ref ma), (1, .ref xa), (0, .ref b)]) hx hb d_W_law_919 hl (by decide) rfl (fun ls hl => ?_)
      refine lv_aload_n hx hb d_W_law_921 rfl (lv_at hl 4 rfl) ?_
      refine xr_call (xs_V (As := []) (rest := []) Z (C_P_thrown l D t ma 0 (.int 0) (.int 0) (.int 0) (.int 0) (.int 0) (.ref nb) (.ref wy) (.ref hd) (.ref tk)) m_P_thrown k_1026 k_1027 k_1028 rfl rfl ⟨Nat.le_of_ble_eq_true rfl, Nat.le_of_ble_eq_true rfl⟩ (va_recv hK.2 hP (ci := 13) (q0 := 1) rfl rfl) (xr_pre hK (hP.sub [1] rfl)) rfl hl.1 rfl (Nat.le_of_ble_eq_true rfl) d_W_law_922 ⟨Nat.le_of_ble_eq_true rfl, Nat.le_of_ble_eq_true rfl⟩) ?_
      refine lv_iload hx hb d_W_law_925 (lv_at hl 1 rfl) ?_
      refine lv_icmp_eq (tgt := 932) hx hb d_W_law_927 (by decide) (fun _ => ?_) (fun c_56 => absurd (rfl) c_56)
      refine lv_iload hx hb d_W_law_932 (lv_at hl 1 rfl) ?_
      refine lv_if_ne (tgt := 949) hx hb d_W_law_934 (by decide) (fun c_57 => absurd c_57 (by decide)) (fun _ => ?_)
      refine lv_aload_n hx hb d_W_law_937 rfl (lv_at hl 3 rfl) ?_
      refine lv_iconst (v := 0) hx hb d_W_law_938 (by decide) ?_
      refine va_lald hx hb hK.2 hP 0 1 rfl rfl (by unfold vp_in; decide) d_W_law_939 ?_
      refine lv_iload hx hb d_W_law_940 (lv_at hl 0 rfl) ?_
      refine lv_i2l (v := (0 : Int32).toInt64) hx hb d_W_law_942 rfl ?_
      refine xl_lcmpE (x := (0 : Int32).toInt64) hx hb d_W_law_943 ?_
      refine lv_if_eq (tgt := 949) hx hb d_W_law_944 (by decide) (fun _ => ?_) (fun c_58 => absurd (rfl) c_58)
      refine lv_goto (tgt := 977) hx hb d_W_law_949 (by decide) ?_
      refine W.widen (k := 100000) (n := 1000000) (Nat.le_of_ble_eq_true rfl) (Nat.le_of_ble_eq_true rfl) ?_
      exact back H locs ls hS (lv_sub hl [2, 6] rfl)
    · obtain ⟨hP, hD⟩ := lQ_k hk hP hD
      have hPc : va_P D vwCl [zO 7 xa [.ref nw, .ref na, .int 0], zA t 4 na 7 (fun j => some (qq j 0)), zO 2 nw [.ref rw, .int 0, .int 0, .int 0, .int 0], zA t 3 rw 300 (fun _ => none), zO 3 (qq k 0) [.int (nI k), .ref nw, .int 0, .int 0, .int 0, .ref ((qq k 1)), .ref ((qq k 7)), .ref ((qq k 11)), .int 1, .int 0, .int 0, .int (nI (8 + 3 * k)), .int ((-1)), .int 0, .ref ((qq k 15))], zO 5 (qq k 1) [.ref ((qq k 2)), .ref ((qq k 3)), .ref ((qq k 4)), .ref ((qq k 5)), .ref ((qq k 6)), .int 1], zJ t (qq k 2) 32 (fun _ => 1099511627776), zI t (qq k 3) 8 (fun _ => 0), zJ t (qq k 4) 8 (fun _ => 0), zI t (qq k 5) 4 (xm 1), zI t (qq k 6) 4 (xm mk), zO 4 (qq k 7) [.ref ((qq k 8)), .ref ((qq k 9)), .ref ((qq k 10))], zI t (qq k 8) 32 (fun _ => 0), zI t (qq k 9) 32 (fun _ => 0), zA t 2 (qq k 10) 32 (fun _ => none), zO 4 (qq k 11) [.ref ((qq k 12)), .ref ((qq k 13)), .ref ((qq k 14))], zI t (qq k 12) 64 (fun _ => 0), zI t (qq k 13) 64 (fun _ => 0), zA t 2 (qq k 14) 64 (fun _ => none), zO 0 (qq k 15) [.ref ((no k)), .int 0, .ref ((qq k 16)), .ref ((qq k 20)), .ref ((qq k 24)), .int 0, .int 0, .int 0], zO 4 (qq k 16) [.ref ((qq k 17)), .ref ((qq k 18)), .ref ((qq k 19))], zI t (qq k 17) 32 (fun _ => 0), zI t (qq k 18) 32 (fun _ => 0), zA t 2 (qq k 19) 32 (fun _ => none), zO 4 (qq k 20) [.ref ((qq k 21)), .ref ((qq k 22)), .ref ((qq k 23))], zI t (qq k 21) 4 (fun _ => 0), zI t (qq k 22) 4 (fun _ => 0), zA t 2 (qq k 23) 4 (fun _ => none), zA t 2 (qq k 24) 16 (fun _ => none), zJ t ou 1 (fun _ => 0)] H := xd_P hP (fun q h => List.mem_append_right _ h)
      have hDc : va_D (fun q : Nat => s.heap.size ≤ q) [zO 7 xa [.ref nw, .ref na, .int 0], zA t 4 na 7 (fun j => some (qq j 0)), zO 2 nw [.ref rw, .int 0, .int 0, .int 0, .int 0], zA t 3 rw 300 (fun _ => none), zO 3 (qq k 0) [.int (nI k), .ref nw, .int 0, .int 0, .int 0, .ref ((qq k 1)), .ref ((qq k 7)), .ref ((qq k 11)), .int 1, .int 0, .int 0, .int (nI (8 + 3 * k)), .int ((-1)), .int 0, .ref ((qq k 15))], zO 5 (qq k 1) [.ref ((qq k 2)), .ref ((qq k 3)), .ref ((qq k 4)), .ref ((qq k 5)), .ref ((qq k 6)), .int 1], zJ t (qq k 2) 32 (fun _ => 1099511627776), zI t (qq k 3) 8 (fun _ => 0), zJ t (qq k 4) 8 (fun _ => 0), zI t (qq k 5) 4 (xm 1), zI t (qq k 6) 4 (xm mk), zO 4 (qq k 7) [.ref ((qq k 8)), .ref ((qq k 9)), .ref ((qq k 10))], zI t (qq k 8) 32 (fun _ => 0), zI t (qq k 9) 32 (fun _ => 0), zA t 2 (qq k 10) 32 (fun _ => none), zO 4 (qq k 11) [.ref ((qq k 12)), .ref ((qq k 13)), .ref ((qq k 14))], zI t (qq k 12) 64 (fun _ => 0), zI t (qq k 13) 64 (fun _ => 0), zA t 2 (qq k 14) 64 (fun _ => none), zO 0 (qq k 15) [.ref ((no k)), .int 0, .ref ((qq k 16)), .ref ((qq k 20)), .ref ((qq k 24)), .int 0, .int 0, .int 0], zO 4 (qq k 16) [.ref ((qq k 17)), .ref ((qq k 18)), .ref ((qq k 19))], zI t (qq k 17) 32 (fun _ => 0), zI t (qq k 18) 32 (fun _ => 0), zA t 2 (qq k 19) 32 (fun _ => none), zO 4 (qq k 20) [.ref ((qq k 21)), .ref ((qq k 22)), .ref ((qq k 23))], zI t (qq k 21) 4 (fun _ => 0), zI t (qq k 22) 4 (fun _ => 0), zA t 2 (qq k 23) 4 (fun _ => none), zA t 2 (qq k 24) 16 (fun _ => none), zJ t ou 1 (fun _ => 0)] := xd_R hD
      refine xe_sfxi (wr := lP t ma nb wy hd tk hli hst pq mk) (wc := [zO 7 xa [.ref nw, .ref na, .int 0], zA t 4 na 7 (fun j => some (qq j 0)), zO 2 nw [.ref rw, .int 0, .int 0, .int 0, .int 0], zA t 3 rw 300 (fun _ => none), zO 3 (qq k 0) [.int (nI k), .ref nw, .int 0, .int 0, .int 0, .ref ((qq k 1)), .ref ((qq k 7)), .ref ((qq k 11)), .int 1, .int 0, .int 0, .int (nI (8 + 3 * k)), .int ((-1)), .int 0, .ref ((qq k 15))], zO 5 (qq k 1) [.ref ((qq k 2)), .ref ((qq k 3)), .ref ((qq k 4)), .ref ((qq k 5)), .ref ((qq k 6)), .int 1], zJ t (qq k 2) 32 (fun _ => 1099511627776), zI t (qq k 3) 8 (fun _ => 0), zJ t (qq k 4) 8 (fun _ => 0), zI t (qq k 5) 4 (xm 1), zI t (qq k 6) 4 (xm mk), zO 4 (qq k 7) [.ref ((qq k 8)), .ref ((qq k 9)), .ref ((qq k 10))], zI t (qq k 8) 32 (fun _ => 0), zI t (qq k 9) 32 (fun _ => 0), zA t 2 (qq k 10) 32 (fun _ => none), zO 4 (qq k 11) [.ref ((qq k 12)), .ref ((qq k 13)), .ref ((qq k 14))], zI t (qq k 12) 64 (fun _ => 0), zI t (qq k 13) 64 (fun _ => 0), zA t 2 (qq k 14) 64 (fun _ => none), zO 0 (qq k 15) [.ref ((no k)), .int 0, .ref ((qq k 16)), .ref ((qq k 20)), .ref ((qq k 24)), .int 0, .int 0, .int 0], zO 4 (qq k 16) [.ref ((qq k 17)), .ref ((qq k 18)), .ref ((qq k 19))], zI t (qq k 17) 32 (fun _ => 0), zI t (qq k 18) 32 (fun _ => 0), zA t 2 (qq k 19) 32 (fun _ => none), zO 4 (qq k 20) [.ref ((qq k 21)), .ref ((qq k 22)), .ref ((qq k 23))], zI t (qq k 21) 4 (fun _ => 0), zI t (qq k 22) 4 (fun _ => 0), zA t 2 (qq k 23) 4 (fun _ => none), zA t 2 (qq k 24) 16 (fun _ => none), zJ t ou 1 (fun _ => 0)]) (xh_S (As := [.ref xa, .int (nI k), .int 13, .ref ou]) (rest := []) Z (R13_about l hfl D t xa nw na rw ou qq no mk k hk H.size) h_W_about k_802 k_803 rfl rfl ⟨Nat.le_of_ble_eq_true rfl, Nat.le_of_ble_eq_true rfl⟩ (xh_pre hK hPc hDc hG (fun q hq => hS.2.1 q hq (Nat.not_le.mpr hq))) rfl hl.1 rfl (Nat.le_of_ble_eq_true rfl) d_W_law_898 ⟨Nat.le_of_ble_eq_true rfl, Nat.le_of_ble_eq_true rfl⟩) hP hD hS hA (fun r_ u_ H locs hw hP hD hS => ?_)
      obtain rfl := hw.symm
      refine lv_istore (lv' := [(5, .int 0), (4, .int 1), (3, .ref ou), (2, .ref ma), (1, .ref xa), (0, .ref b)]) hx hb d_W_law_901 hl (by decide) rfl (fun ls hl => ?_)
      refine lv_aload_n hx hb d_W_law_903 rfl (lv_at hl 3 rfl) ?_
      refine lv_aload_n hx hb d_W_law_904 rfl (lv_at hl 5 rfl) ?_
      refine lv_iload hx hb d_W_law_905 (lv_at hl 1 rfl) ?_
      refine lv_iconst (v := 1) hx hb d_W_law_907 (by decide) ?_
      refine lv_iadd hx hb d_W_law_908 ?_
      refine va_sld hx hb hX hbl hbA hS (by unfold vp_in; decide) d_W_law_909 ?_
      refine lv_topi (fun z9 ez9 => ?_)
      obtain rfl : nI k = z9 := ea2.trans ez9.symm
      refine lv_aload_n hx hb d_W_law_910 rfl (lv_at hl 5 rfl) ?_
      refine lv_iload hx hb d_W_law_911 (lv_at hl 1 rfl) ?_
      refine lv_iconst (v := 2) hx hb d_W_law_913 (by decide) ?_
      refine lv_iadd hx hb d_W_law_914 ?_
      refine va_sld hx hb hX hbl hbA hS (by unfold vp_in; decide) d_W_law_915 ?_
      refine lv_topi (fun z9 ez9 => ?_)
      obtain rfl : 13 = z9 := ea3.trans ez9.symm
      obtain ⟨hP, hD⟩ := lP_k hk hP hD
      have hP : va_P D vwCl [zJ t ou 1 (xo ((1 : Int32).toInt64)), zO 13 ma [.int 0, .int 0, .int 0, .int 0, .int 0, .int 0, .ref nb, .ref wy, .ref hd, .ref tk], zA t 7 nb 7 (fun j => some (pq j 0)), zO 9 (pq k 0) [.int (nI k), .int 1, .int 0, .int 0, .int 0, .int 0, .int (nI (8 + 3 * k)), .int ((-1)), .int 0, .int 0, .ref ((pq k 1)), .ref ((pq k 7)), .ref ((pq k 11)), .ref ((pq k 15)), .ref ((pq k 19)), .ref ((pq k 23)), .int 0], zO 11 (pq k 1) [.int 0, .ref ((pq k 2)), .ref ((pq k 3)), .ref ((pq k 4)), .ref ((pq k 5)), .ref ((pq k 6)), .int 1], zJ t (pq k 2) 32 (fun _ => 1099511627776), zJ t (pq k 3) 8 (fun _ => 0), zI t (pq k 4) 8 (fun _ => 0), zI t (pq k 5) 4 (xm 1), zI t (pq k 6) 4 (xm mk), zO 10 (pq k 7) [.ref ((pq k 8)), .ref ((pq k 9)), .ref ((pq k 10)), .int 0], zI t (pq k 8) 8 (fun _ => 0), zI t (pq k 9) 8 (fun _ => 0), zA t 5 (pq k 10) 8 (fun _ => none), zO 10 (pq k 11) [.ref ((pq k 12)), .ref ((pq k 13)), .ref ((pq k 14)), .int 0], zI t (pq k 12) 8 (fun _ => 0), zI t (pq k 13) 8 (fun _ => 0), zA t 5 (pq k 14) 8 (fun _ => none), zO 10 (pq k 15) [.ref ((pq k 16)), .ref ((pq k 17)), .ref ((pq k 18)), .int 0], zI t (pq k 16) 8 (fun _ => 0), zI t (pq k 17) 8 (fun _ => 0), zA t 5 (pq k 18) 8 (fun _ => none), zO 10 (pq k 19) [.ref ((pq k 20)), .ref ((pq k 21)), .ref ((pq k 22)), .int 0], zI t (pq k 20) 8 (fun _ => 0), zI t (pq k 21) 8 (fun _ => 0), zA t 5 (pq k 22) 8 (fun _ => none), zA t 5 (pq k 23) 16 (fun _ => none)] H := hP
      have hD : va_D (fun q : Nat => s.heap.size ≤ q) [zJ t ou 1 (xo ((1 : Int32).toInt64)), zO 13 ma [.int 0, .int 0, .int 0, .int 0, .int 0, .int 0, .ref nb, .ref wy, .ref hd, .ref tk], zA t 7 nb 7 (fun j => some (pq j 0)), zO 9 (pq k 0) [.int (nI k), .int 1, .int 0, .int 0, .int 0, .int 0, .int (nI (8 + 3 * k)), .int ((-1)), .int 0, .int 0, .ref ((pq k 1)), .ref ((pq k 7)), .ref ((pq k 11)), .ref ((pq k 15)), .ref ((pq k 19)), .ref ((pq k 23)), .int 0], zO 11 (pq k 1) [.int 0, .ref ((pq k 2)), .ref ((pq k 3)), .ref ((pq k 4)), .ref ((pq k 5)), .ref ((pq k 6)), .int 1], zJ t (pq k 2) 32 (fun _ => 1099511627776), zJ t (pq k 3) 8 (fun _ => 0), zI t (pq k 4) 8 (fun _ => 0), zI t (pq k 5) 4 (xm 1), zI t (pq k 6) 4 (xm mk), zO 10 (pq k 7) [.ref ((pq k 8)), .ref ((pq k 9)), .ref ((pq k 10)), .int 0], zI t (pq k 8) 8 (fun _ => 0), zI t (pq k 9) 8 (fun _ => 0), zA t 5 (pq k 10) 8 (fun _ => none), zO 10 (pq k 11) [.ref ((pq k 12)), .ref ((pq k 13)), .ref ((pq k 14)), .int 0], zI t (pq k 12) 8 (fun _ => 0), zI t (pq k 13) 8 (fun _ => 0), zA t 5 (pq k 14) 8 (fun _ => none), zO 10 (pq k 15) [.ref ((pq k 16)), .ref ((pq k 17)), .ref ((pq k 18)), .int 0], zI t (pq k 16) 8 (fun _ => 0), zI t (pq k 17) 8 (fun _ => 0), zA t 5 (pq k 18) 8 (fun _ => none), zO 10 (pq k 19) [.ref ((pq k 20)), .ref ((pq k 21)), .ref ((pq k 22)), .int 0], zI t (pq k 20) 8 (fun _ => 0), zI t (pq k 21) 8 (fun _ => 0), zA t 5 (pq k 22) 8 (fun _ => none), zA t 5 (pq k 23) 16 (fun _ => none)] := hD
      refine xe_calli (wr := [zJ t ou 1 (xo ((1 : Int32).toInt64))]) (xs_V (As := [.int (nI k), .int 13]) (rest := []) Z (C_P_about_013 l D t ma nb wy hd tk 0 pq mk k hk H.size) m_P_about k_1275 k_1276 k_1277 rfl rfl ⟨Nat.le_of_ble_eq_true rfl, Nat.le_of_ble_eq_true rfl⟩ (va_recv hK.2 hP (ci := 13) (q0 := 1) rfl rfl) (xe_pre hK (hP.sub [1, 2, 3, 4, 5, 6, 7, 8, 9, 10, 11, 12, 13, 14, 15, 16, 17, 18, 19, 20, 21, 22, 23, 24, 25, 26] rfl) (hD.sub [1, 2, 3, 4, 5, 6, 7, 8, 9, 10, 11, 12, 13, 14, 15, 16, 17, 18, 19, 20, 21, 22, 23, 24, 25, 26] (by decide) rfl)) rfl hl.1 rfl (Nat.le_of_ble_eq_true rfl) d_W_law_916 ⟨Nat.le_of_ble_eq_true rfl, Nat.le_of_ble_eq_true rfl⟩) hP hD hS hA [1, 2, 3, 4, 5, 6, 7, 8, 9, 10, 11, 12, 13, 14, 15, 16, 17, 18, 19, 20, 21, 22, 23, 24, 25, 26] [0] rfl rfl (by decide) (by decide) (fun r_59 u_ H locs hw hP hD hS => ?_)
      have hP : va_P D vwCl [zJ t ou 1 (xo ((1 : Int32).toInt64)), zO 13 ma [.int 0, .int 0, .int 0, .int 0, .int 0, .int 0, .ref nb, .ref wy, .ref hd, .ref tk]] H := hP
      have hD : va_D (fun q : Nat => s.heap.size ≤ q) [zJ t ou 1 (xo ((1 : Int32).toInt64)), zO 13 ma [.int 0, .int 0, .int 0, .int 0, .int 0, .int 0, .ref nb, .ref wy, .ref hd, .ref tk]] := hD
      obtain rfl := hw.symm
      refine lv_istore (lv' := [(6, .int 1), (5, .int 0), (4, .int 1), (3, .ref ou), (2, .ref ma), (1, .ref xa), (0, .ref b)]) hx hb d_W_law_919 hl (by decide) rfl (fun ls hl => ?_)
      refine lv_aload_n hx hb d_W_law_921 rfl (lv_at hl 4 rfl) ?_
      refine xr_call (xs_V (As := []) (rest := []) Z (C_P_thrown l D t ma 0 (.int 0) (.int 0) (.int 0) (.int 0) (.int 0) (.ref nb) (.ref wy) (.ref hd) (.ref tk)) m_P_thrown k_1026 k_1027 k_1028 rfl rfl ⟨Nat.le_of_ble_eq_true rfl, Nat.le_of_ble_eq_true rfl⟩ (va_recv hK.2 hP (ci := 13) (q0 := 1) rfl rfl) (xr_pre hK (hP.sub [1] rfl)) rfl hl.1 rfl (Nat.le_of_ble_eq_true rfl) d_W_law_922 ⟨Nat.le_of_ble_eq_true rfl, Nat.le_of_ble_eq_true rfl⟩) ?_
      refine lv_iload hx hb d_W_law_925 (lv_at hl 1 rfl) ?_
      refine lv_icmp_eq (tgt := 932) hx hb d_W_law_927 (by decide) (fun _ => ?_) (fun c_60 => absurd (rfl) c_60)
      refine lv_iload hx hb d_W_law_932 (lv_at hl 1 rfl) ?_
      refine lv_if_ne (tgt := 949) hx hb d_W_law_934 (by decide) (fun c_61 => absurd c_61 (by decide)) (fun _ => ?_)
      refine lv_aload_n hx hb d_W_law_937 rfl (lv_at hl 3 rfl) ?_
      refine lv_iconst (v := 0) hx hb d_W_law_938 (by decide) ?_
      refine va_lald hx hb hK.2 hP 0 1 rfl rfl (by unfold vp_in; decide) d_W_law_939 ?_
      refine lv_iload hx hb d_W_law_940 (lv_at hl 0 rfl) ?_
      refine lv_i2l (v := (1 : Int32).toInt64) hx hb d_W_law_942 rfl ?_
      refine xl_lcmpE (x := (1 : Int32).toInt64) hx hb d_W_law_943 ?_
      refine lv_if_eq (tgt := 949) hx hb d_W_law_944 (by decide) (fun _ => ?_) (fun c_62 => absurd (rfl) c_62)
      refine lv_goto (tgt := 977) hx hb d_W_law_949 (by decide) ?_
      refine W.widen (k := 100000) (n := 1000000) (Nat.le_of_ble_eq_true rfl) (Nat.le_of_ble_eq_true rfl) ?_
      exact back H locs ls hS (lv_sub hl [2, 6] rfl)
theorem d_W_law_952 : decode c_W_law 952 = .ok (.aload_n 1, 1) := by decide +kernel
theorem d_W_law_953 : decode c_W_law 953 = .ok (.aload_n 0, 1) := by decide +kernel
theorem d_W_law_954 : decode c_W_law 954 = .ok (.iload 4, 2) := by decide +kernel
theorem d_W_law_956 : decode c_W_law 956 = .ok (.iconst 1, 1) := by decide +kernel
theorem d_W_law_957 : decode c_W_law 957 = .ok (.iadd, 1) := by decide +kernel
theorem d_W_law_958 : decode c_W_law 958 = .ok (.iaload, 1) := by decide +kernel
theorem d_W_law_959 : decode c_W_law 959 = .ok (.invokevirtual 120, 3) := by decide +kernel
theorem d_W_law_962 : decode c_W_law 962 = .ok (.aload_n 2, 1) := by decide +kernel
theorem d_W_law_963 : decode c_W_law 963 = .ok (.aload_n 0, 1) := by decide +kernel
theorem d_W_law_964 : decode c_W_law 964 = .ok (.iload 4, 2) := by decide +kernel
theorem d_W_law_966 : decode c_W_law 966 = .ok (.iconst 1, 1) := by decide +kernel
theorem d_W_law_967 : decode c_W_law 967 = .ok (.iadd, 1) := by decide +kernel
theorem d_W_law_968 : decode c_W_law 968 = .ok (.iaload, 1) := by decide +kernel
theorem d_W_law_969 : decode c_W_law 969 = .ok (.invokevirtual 123, 3) := by decide +kernel
theorem d_W_law_972 : decode c_W_law 972 = .ok (.if_icmp .eq 5, 3) := by decide +kernel
set_option maxHeartbeats 4000000 in
set_option maxRecDepth 100000 in
/-- count -/
theorem LW_count {p : Program} {e : Env} {s : State} {m : MethodId} {below : List Frame} {meth : Method} {c : Code} (l : Launch) (hfl : l.flags = pinnedFlags ++ [noTraceFlag]) {b : Nat} {xs : Nat → Int32} (D : va_G) (t : Nat → ClassId) (Z : xF p m c code 8 s "QuorumStoreLaw" D vwCl (xTY t)) (hG : xg s) (hX : va_X b 8 xs s s.heap) (hbl : b < s.heap.size) (xa nw na rw ou ma nb wy hd tk hli hst : Nat) (qq pq : Nat → Nat → Nat) (no : Nat → Nat) (mk : Int32) {H : Heap} {locs : List Loc} {ls : Array Slot} (hP : va_P D vwCl (lP t ma nb wy hd tk hli hst pq mk ++ (lQ t xa nw na rw qq no mk ++ [zJ t ou 1 (fun _ => 0)])) H) (hD : va_D (fun q : Nat => s.heap.size ≤ q) (lP t ma nb wy hd tk hli hst pq mk ++ (lQ t xa nw na rw qq no mk ++ [zJ t ou 1 (fun _ => 0)]))) (hS : va_S (fun q : Nat => s.heap.size ≤ q) s.heap H locs) (hl : lv_has ls 8 [(4, .int 1), (3, .ref ou), (2, .ref ma), (1, .ref xa), (0, .ref b)])
    (back : ∀ (H : Heap) (locs : List Loc) (ls : Array Slot), va_S (fun q : Nat => s.heap.size ≤ q) s.heap H locs → lv_has ls 8 [(4, .int 1), (0, .ref b)] → W p l e room_1 s m #[Value.ref b] below meth c H locs 100000 1000000 (lw_Z below #[Value.ref b] s) (F0 m 977 ls [])) : W p l e room_1 s m #[Value.ref b] below meth c H locs 380 5892 (lw_Z below #[Value.ref b] s) (F0 m 952 ls []) := by
  obtain ⟨hx, hb, hml, hown, hK⟩ := id Z
  have hts := hK.1.at (args := #[Value.ref b])
  have hA : ∀ q : Nat, s.heap.size ≤ q → (fun q : Nat => s.heap.size ≤ q) q := fun _ h => h
  have hbA : ¬ (fun q : Nat => s.heap.size ≤ q) b := Nat.not_le.mpr hbl
  refine lv_aload_n hx hb d_W_law_952 rfl (lv_at hl 3 rfl) ?_
  refine lv_aload_n hx hb d_W_law_953 rfl (lv_at hl 4 rfl) ?_
  refine lv_iload hx hb d_W_law_954 (lv_at hl 0 rfl) ?_
  refine lv_iconst (v := 1) hx hb d_W_law_956 (by decide) ?_
  refine lv_iadd hx hb d_W_law_957 ?_
  refine va_sld hx hb hX hbl hbA hS (by unfold vp_in; decide) d_W_law_958 ?_
  refine lv_topi (fun a2 ea2 => ?_)
  rcases xq_3 a2 with hw9 | rfl | rfl | rfl | rfl
  · obtain ⟨hP, hD⟩ := lQ_0 hP hD
    have hPc : va_P D vwCl [zO 7 xa [.ref nw, .ref na, .int 0], zA t 4 na 7 (fun j => some (qq j 0)), zO 2 nw [.ref rw, .int 0, .int 0, .int 0, .int 0], zA t 3 rw 300 (fun _ => none), zJ t ou 1 (fun _ => 0)] H := xd_P hP (fun q h => List.mem_append_right _ h)
    refine xr_call (xs_V (As := [.int a2]) (rest := []) Z (C_Q_count_no l D t xa nw na rw qq no mk a2 hw9) m_Q_count k_265 k_266 k_267 rfl rfl ⟨Nat.le_of_ble_eq_true rfl, Nat.le_of_ble_eq_true rfl⟩ (va_recv hK.2 hPc (ci := 7) (q0 := 0) rfl rfl) (xr_pre hK (hPc.sub [0, 1, 2, 3] rfl)) rfl hl.1 rfl (Nat.le_of_ble_eq_true rfl) d_W_law_959 ⟨Nat.le_of_ble_eq_true rfl, Nat.le_of_ble_eq_true rfl⟩) ?_
    refine lv_aload_n hx hb d_W_law_962 rfl (lv_at hl 2 rfl) ?_
    refine lv_aload_n hx hb d_W_law_963 rfl (lv_at hl 4 rfl) ?_
    refine lv_iload hx hb d_W_law_964 (lv_at hl 0 rfl) ?_
    refine lv_iconst (v := 1) hx hb d_W_law_966 (by decide) ?_
    refine lv_iadd hx hb d_W_law_967 ?_
    refine va_sld hx hb hX hbl hbA hS (by unfold vp_in; decide) d_W_law_968 ?_
    refine lv_topi (fun z9 ez9 => ?_)
    obtain rfl : a2 = z9 := ea2.trans ez9.symm
    obtain ⟨hP, hD⟩ := lP_0 (wr := [zO 7 xa [.ref nw, .ref na, .int 0], zA t 4 na 7 (fun j => some (qq j 0)), zO 2 nw [.ref rw, .int 0, .int 0, .int 0, .int 0], zA t 3 rw 300 (fun _ => none), zJ t ou 1 (fun _ => 0)]) hP hD
    have hP : va_P D vwCl [zO 7 xa [.ref nw, .ref na, .int 0], zA t 4 na 7 (fun j => some (qq j 0)), zO 2 nw [.ref rw, .int 0, .int 0, .int 0, .int 0], zA t 3 rw 300 (fun _ => none), zJ t ou 1 (fun _ => 0), zO 13 ma [.int 0, .int 0, .int 0, .int 0, .int 0, .int 0, .ref nb, .ref wy, .ref hd, .ref tk]] H := hP
    have hD : va_D (fun q : Nat => s.heap.size ≤ q) [zO 7 xa [.ref nw, .ref na, .int 0], zA t 4 na 7 (fun j => some (qq j 0)), zO 2 nw [.ref rw, .int 0, .int 0, .int 0, .int 0], zA t 3 rw 300 (fun _ => none), zJ t ou 1 (fun _ => 0), zO 13 ma [.int 0, .int 0, .int 0, .int 0, .int 0, .int 0, .ref nb, .ref wy, .ref hd, .ref tk]] := hD
    refine xe_calli (wr := [zO 7 xa [.ref nw, .ref na, .int 0], zA t 4 na 7 (fun j => some (qq j 0)), zO 2 nw [.ref rw, .int 0, .int 0, .int 0, .int 0], zA t 3 rw 300 (fun _ => none), zJ t ou 1 (fun _ => 0)]) (xs_V (As := [.int a2]) (rest := [.int ((-1))]) Z (C_P_count_no l D t ma nb wy hd tk 0 a2 hw9 H.size) m_P_count k_1279 k_1280 k_1281 rfl rfl ⟨Nat.le_of_ble_eq_true rfl, Nat.le_of_ble_eq_true rfl⟩ (va_recv hK.2 hP (ci := 13) (q0 := 5) rfl rfl) (xe_pre hK (hP.sub [5] rfl) (hD.sub [5] (by decide) rfl)) rfl hl.1 rfl (Nat.le_of_ble_eq_true rfl) d_W_law_969 ⟨Nat.le_of_ble_eq_true rfl, Nat.le_of_ble_eq_true rfl⟩) hP hD hS hA [5] [0, 1, 2, 3, 4] rfl rfl (by decide) (by decide) (fun r_1 u_ H locs hw hP hD hS => ?_)
    have hP : va_P D vwCl [zO 7 xa [.ref nw, .ref na, .int 0], zA t 4 na 7 (fun j => some (qq j 0)), zO 2 nw [.ref rw, .int 0, .int 0, .int 0, .int 0], zA t 3 rw 300 (fun _ => none), zJ t ou 1 (fun _ => 0), zO 13 ma [.int 0, .int 0, .int 0, .int 0, .int 0, .int 0, .ref nb, .ref wy, .ref hd, .ref tk]] H := hP
    have hD : va_D (fun q : Nat => s.heap.size ≤ q) [zO 7 xa [.ref nw, .ref na, .int 0], zA t 4 na 7 (fun j => some (qq j 0)), zO 2 nw [.ref rw, .int 0, .int 0, .int 0, .int 0], zA t 3 rw 300 (fun _ => none), zJ t ou 1 (fun _ => 0), zO 13 ma [.int 0, .int 0, .int 0, .int 0, .int 0, .int 0, .ref nb, .ref wy, .ref hd, .ref tk]] := hD
    obtain rfl := hw.symm
    refine lv_icmp_eq (tgt := 977) hx hb d_W_law_972 (by decide) (fun _ => ?_) (fun c_2 => absurd (rfl) c_2)
    refine W.widen (k := 100000) (n := 1000000) (Nat.le_of_ble_eq_true rfl) (Nat.le_of_ble_eq_true rfl) ?_
    exact back H locs ls hS (lv_sub hl [0, 4] rfl)
  · obtain ⟨hP, hD⟩ := lQ_0 hP hD
    have hPc : va_P D vwCl [zO 7 xa [.ref nw, .ref na, .int 0], zA t 4 na 7 (fun j => some (qq j 0)), zO 2 nw [.ref rw, .int 0, .int 0, .int 0, .int 0], zA t 3 rw 300 (fun _ => none), zJ t ou 1 (fun _ => 0)] H := xd_P hP (fun q h => List.mem_append_right _ h)
    refine xr_call (xs_V (As := [.int 0]) (rest := []) Z (C_Q_count_0 l D t xa nw na rw qq no mk) m_Q_count k_265 k_266 k_267 rfl rfl ⟨Nat.le_of_ble_eq_true rfl, Nat.le_of_ble_eq_true rfl⟩ (va_recv hK.2 hPc (ci := 7) (q0 := 0) rfl rfl) (xr_pre hK (hPc.sub [0, 1, 2, 3] rfl)) rfl hl.1 rfl (Nat.le_of_ble_eq_true rfl) d_W_law_959 ⟨Nat.le_of_ble_eq_true rfl, Nat.le_of_ble_eq_true rfl⟩) ?_
    refine lv_aload_n hx hb d_W_law_962 rfl (lv_at hl 2 rfl) ?_
    refine lv_aload_n hx hb d_W_law_963 rfl (lv_at hl 4 rfl) ?_
    refine lv_iload hx hb d_W_law_964 (lv_at hl 0 rfl) ?_
    refine lv_iconst (v := 1) hx hb d_W_law_966 (by decide) ?_
    refine lv_iadd hx hb d_W_law_967 ?_
    refine va_sld hx hb hX hbl hbA hS (by unfold vp_in; decide) d_W_law_968 ?_
    refine lv_topi (fun z9 ez9 => ?_)
    obtain rfl : 0 = z9 := ea2.trans ez9.symm
    obtain ⟨hP, hD⟩ := lP_0 (wr := [zO 7 xa [.ref nw, .ref na, .int 0], zA t 4 na 7 (fun j => some (qq j 0)), zO 2 nw [.ref rw, .int 0, .int 0, .int 0, .int 0], zA t 3 rw 300 (fun _ => none), zJ t ou 1 (fun _ => 0)]) hP hD
    have hP : va_P D vwCl [zO 7 xa [.ref nw, .ref na, .int 0], zA t 4 na 7 (fun j => some (qq j 0)), zO 2 nw [.ref rw, .int 0, .int 0, .int 0, .int 0], zA t 3 rw 300 (fun _ => none), zJ t ou 1 (fun _ => 0), zO 13 ma [.int 0, .int 0, .int 0, .int 0, .int 0, .int 0, .ref nb, .ref wy, .ref hd, .ref tk]] H := hP
    have hD : va_D (fun q : Nat => s.heap.size ≤ q) [zO 7 xa [.ref nw, .ref na, .int 0], zA t 4 na 7 (fun j => some (qq j 0)), zO 2 nw [.ref rw, .int 0, .int 0, .int 0, .int 0], zA t 3 rw 300 (fun _ => none), zJ t ou 1 (fun _ => 0), zO 13 ma [.int 0, .int 0, .int 0, .int 0, .int 0, .int 0, .ref nb, .ref wy, .ref hd, .ref tk]] := hD
    refine xe_calli (wr := [zO 7 xa [.ref nw, .ref na, .int 0], zA t 4 na 7 (fun j => some (qq j 0)), zO 2 nw [.ref rw, .int 0, .int 0, .int 0, .int 0], zA t 3 rw 300 (fun _ => none), zJ t ou 1 (fun _ => 0)]) (xs_V (As := [.int 0]) (rest := [.int 0]) Z (C_P_count_00 l D t ma nb wy hd tk 0 H.size) m_P_count k_1279 k_1280 k_1281 rfl rfl ⟨Nat.le_of_ble_eq_true rfl, Nat.le_of_ble_eq_true rfl⟩ (va_recv hK.2 hP (ci := 13) (q0 := 5) rfl rfl) (xe_pre hK (hP.sub [5] rfl) (hD.sub [5] (by decide) rfl)) rfl hl.1 rfl (Nat.le_of_ble_eq_true rfl) d_W_law_969 ⟨Nat.le_of_ble_eq_true rfl, Nat.le_of_ble_eq_true rfl⟩) hP hD hS hA [5] [0, 1, 2, 3, 4] rfl rfl (by decide) (by decide) (fun r_3 u_ H locs hw hP hD hS => ?_)
    have hP : va_P D vwCl [zO 7 xa [.ref nw, .ref na, .int 0], zA t 4 na 7 (fun j => some (qq j 0)), zO 2 nw [.ref rw, .int 0, .int 0, .int 0, .int 0], zA t 3 rw 300 (fun _ => none), zJ t ou 1 (fun _ => 0), zO 13 ma [.int 0, .int 0, .int 0, .int 0, .int 0, .int 0, .ref nb, .ref wy, .ref hd, .ref tk]] H := hP
    have hD : va_D (fun q : Nat => s.heap.size ≤ q) [zO 7 xa [.ref nw, .ref na, .int 0], zA t 4 na 7 (fun j => some (qq j 0)), zO 2 nw [.ref rw, .int 0, .int 0, .int 0, .int 0], zA t 3 rw 300 (fun _ => none), zJ t ou 1 (fun _ => 0), zO 13 ma [.int 0, .int 0, .int 0, .int 0, .int 0, .int 0, .ref nb, .ref wy, .ref hd, .ref tk]] := hD
    obtain rfl := hw.symm
    refine lv_icmp_eq (tgt := 977) hx hb d_W_law_972 (by decide) (fun _ => ?_) (fun c_4 => absurd (rfl) c_4)
    refine W.widen (k := 100000) (n := 1000000) (Nat.le_of_ble_eq_true rfl) (Nat.le_of_ble_eq_true rfl) ?_
    exact back H locs ls hS (lv_sub hl [0, 4] rfl)
  · obtain ⟨hP, hD⟩ := lQ_0 hP hD
    have hPc : va_P D vwCl [zO 7 xa [.ref nw, .ref na, .int 0], zA t 4 na 7 (fun j => some (qq j 0)), zO 2 nw [.ref rw, .int 0, .int 0, .int 0, .int 0], zA t 3 rw 300 (fun _ => none), zJ t ou 1 (fun _ => 0)] H := xd_P hP (fun q h => List.mem_append_right _ h)
    refine xr_call (xs_V (As := [.int 1]) (rest := []) Z (C_Q_count_1 l D t xa nw na rw qq no mk) m_Q_count k_265 k_266 k_267 rfl rfl ⟨Nat.le_of_ble_eq_true rfl, Nat.le_of_ble_eq_true rfl⟩ (va_recv hK.2 hPc (ci := 7) (q0 := 0) rfl rfl) (xr_pre hK (hPc.sub [0, 1, 2, 3] rfl)) rfl hl.1 rfl (Nat.le_of_ble_eq_true rfl) d_W_law_959 ⟨Nat.le_of_ble_eq_true rfl, Nat.le_of_ble_eq_true rfl⟩) ?_
    refine lv_aload_n hx hb d_W_law_962 rfl (lv_at hl 2 rfl) ?_
    refine lv_aload_n hx hb d_W_law_963 rfl (lv_at hl 4 rfl) ?_
    refine lv_iload hx hb d_W_law_964 (lv_at hl 0 rfl) ?_
    refine lv_iconst (v := 1) hx hb d_W_law_966 (by decide) ?_
    refine lv_iadd hx hb d_W_law_967 ?_
    refine va_sld hx hb hX hbl hbA hS (by unfold vp_in; decide) d_W_law_968 ?_
    refine lv_topi (fun z9 ez9 => ?_)
    obtain rfl : 1 = z9 := ea2.trans ez9.symm
    obtain ⟨hP, hD⟩ := lP_0 (wr := [zO 7 xa [.ref nw, .ref na, .int 0], zA t 4 na 7 (fun j => some (qq j 0)), zO 2 nw [.ref rw, .int 0, .int 0, .int 0, .int 0], zA t 3 rw 300 (fun _ => none), zJ t ou 1 (fun _ => 0)]) hP hD
    have hP : va_P D vwCl [zO 7 xa [.ref nw, .ref na, .int 0], zA t 4 na 7 (fun j => some (qq j 0)), zO 2 nw [.ref rw, .int 0, .int 0, .int 0, .int 0], zA t 3 rw 300 (fun _ => none), zJ t ou 1 (fun _ => 0), zO 13 ma [.int 0, .int 0, .int 0, .int 0, .int 0, .int 0, .ref nb, .ref wy, .ref hd, .ref tk]] H := hP
    have hD : va_D (fun q : Nat => s.heap.size ≤ q) [zO 7 xa [.ref nw, .ref na, .int 0], zA t 4 na 7 (fun j => some (qq j 0)), zO 2 nw [.ref rw, .int 0, .int 0, .int 0, .int 0], zA t 3 rw 300 (fun _ => none), zJ t ou 1 (fun _ => 0), zO 13 ma [.int 0, .int 0, .int 0, .int 0, .int 0, .int 0, .ref nb, .ref wy, .ref hd, .ref tk]] := hD
    refine xe_calli (wr := [zO 7 xa [.ref nw, .ref na, .int 0], zA t 4 na 7 (fun j => some (qq j 0)), zO 2 nw [.ref rw, .int 0, .int 0, .int 0, .int 0], zA t 3 rw 300 (fun _ => none), zJ t ou 1 (fun _ => 0)]) (xs_V (As := [.int 1]) (rest := [.int 0]) Z (C_P_count_01 l D t ma nb wy hd tk 0 H.size) m_P_count k_1279 k_1280 k_1281 rfl rfl ⟨Nat.le_of_ble_eq_true rfl, Nat.le_of_ble_eq_true rfl⟩ (va_recv hK.2 hP (ci := 13) (q0 := 5) rfl rfl) (xe_pre hK (hP.sub [5] rfl) (hD.sub [5] (by decide) rfl)) rfl hl.1 rfl (Nat.le_of_ble_eq_true rfl) d_W_law_969 ⟨Nat.le_of_ble_eq_true rfl, Nat.le_of_ble_eq_true rfl⟩) hP hD hS hA [5] [0, 1, 2, 3, 4] rfl rfl (by decide) (by decide) (fun r_5 u_ H locs hw hP hD hS => ?_)
    have hP : va_P D vwCl [zO 7 xa [.ref nw, .ref na, .int 0], zA t 4 na 7 (fun j => some (qq j 0)), zO 2 nw [.ref rw, .int 0, .int 0, .int 0, .int 0], zA t 3 rw 300 (fun _ => none), zJ t ou 1 (fun _ => 0), zO 13 ma [.int 0, .int 0, .int 0, .int 0, .int 0, .int 0, .ref nb, .ref wy, .ref hd, .ref tk]] H := hP
    have hD : va_D (fun q : Nat => s.heap.size ≤ q) [zO 7 xa [.ref nw, .ref na, .int 0], zA t 4 na 7 (fun j => some (qq j 0)), zO 2 nw [.ref rw, .int 0, .int 0, .int 0, .int 0], zA t 3 rw 300 (fun _ => none), zJ t ou 1 (fun _ => 0), zO 13 ma [.int 0, .int 0, .int 0, .int 0, .int 0, .int 0, .ref nb, .ref wy, .ref hd, .ref tk]] := hD
    obtain rfl := hw.symm
    refine lv_icmp_eq (tgt := 977) hx hb d_W_law_972 (by decide) (fun _ => ?_) (fun c_6 => absurd (rfl) c_6)
    refine W.widen (k := 100000) (n := 1000000) (Nat.le_of_ble_eq_true rfl) (Nat.le_of_ble_eq_true rfl) ?_
    exact back H locs ls hS (lv_sub hl [0, 4] rfl)
  · obtain ⟨hP, hD⟩ := lQ_0 hP hD
    have hPc : va_P D vwCl [zO 7 xa [.ref nw, .ref na, .int 0], zA t 4 na 7 (fun j => some (qq j 0)), zO 2 nw [.ref rw, .int 0, .int 0, .int 0, .int 0], zA t 3 rw 300 (fun _ => none), zJ t ou 1 (fun _ => 0)] H := xd_P hP (fun q h => List.mem_append_right _ h)
    refine xr_call (xs_V (As := [.int 2]) (rest := []) Z (C_Q_count_2 l D t xa nw na rw qq no mk) m_Q_count k_265 k_266 k_267 rfl rfl ⟨Nat.le_of_ble_eq_true rfl, Nat.le_of_ble_eq_true rfl⟩ (va_recv hK.2 hPc (ci := 7) (q0 := 0) rfl rfl) (xr_pre hK (hPc.sub [0, 1, 2, 3] rfl)) rfl hl.1 rfl (Nat.le_of_ble_eq_true rfl) d_W_law_959 ⟨Nat.le_of_ble_eq_true rfl, Nat.le_of_ble_eq_true rfl⟩) ?_
    refine lv_aload_n hx hb d_W_law_962 rfl (lv_at hl 2 rfl) ?_
    refine lv_aload_n hx hb d_W_law_963 rfl (lv_at hl 4 rfl) ?_
    refine lv_iload hx hb d_W_law_964 (lv_at hl 0 rfl) ?_
    refine lv_iconst (v := 1) hx hb d_W_law_966 (by decide) ?_
    refine lv_iadd hx hb d_W_law_967 ?_
    refine va_sld hx hb hX hbl hbA hS (by unfold vp_in; decide) d_W_law_968 ?_
    refine lv_topi (fun z9 ez9 => ?_)
    obtain rfl : 2 = z9 := ea2.trans ez9.symm
    obtain ⟨hP, hD⟩ := lP_0 (wr := [zO 7 xa [.ref nw, .ref na, .int 0], zA t 4 na 7 (fun j => some (qq j 0)), zO 2 nw [.ref rw, .int 0, .int 0, .int 0, .int 0], zA t 3 rw 300 (fun _ => none), zJ t ou 1 (fun _ => 0)]) hP hD
    have hP : va_P D vwCl [zO 7 xa [.ref nw, .ref na, .int 0], zA t 4 na 7 (fun j => some (qq j 0)), zO 2 nw [.ref rw, .int 0, .int 0, .int 0, .int 0], zA t 3 rw 300 (fun _ => none), zJ t ou 1 (fun _ => 0), zO 13 ma [.int 0, .int 0, .int 0, .int 0, .int 0, .int 0, .ref nb, .ref wy, .ref hd, .ref tk]] H := hP
    have hD : va_D (fun q : Nat => s.heap.size ≤ q) [zO 7 xa [.ref nw, .ref na, .int 0], zA t 4 na 7 (fun j => some (qq j 0)), zO 2 nw [.ref rw, .int 0, .int 0, .int 0, .int 0], zA t 3 rw 300 (fun _ => none), zJ t ou 1 (fun _ => 0), zO 13 ma [.int 0, .int 0, .int 0, .int 0, .int 0, .int 0, .ref nb, .ref wy, .ref hd, .ref tk]] := hD
    refine xe_calli (wr := [zO 7 xa [.ref nw, .ref na, .int 0], zA t 4 na 7 (fun j => some (qq j 0)), zO 2 nw [.ref rw, .int 0, .int 0, .int 0, .int 0], zA t 3 rw 300 (fun _ => none), zJ t ou 1 (fun _ => 0)]) (xs_V (As := [.int 2]) (rest := [.int 0]) Z (C_P_count_02 l D t ma nb wy hd tk 0 H.size) m_P_count k_1279 k_1280 k_1281 rfl rfl ⟨Nat.le_of_ble_eq_true rfl, Nat.le_of_ble_eq_true rfl⟩ (va_recv hK.2 hP (ci := 13) (q0 := 5) rfl rfl) (xe_pre hK (hP.sub [5] rfl) (hD.sub [5] (by decide) rfl)) rfl hl.1 rfl (Nat.le_of_ble_eq_true rfl) d_W_law_969 ⟨Nat.le_of_ble_eq_true rfl, Nat.le_of_ble_eq_true rfl⟩) hP hD hS hA [5] [0, 1, 2, 3, 4] rfl rfl (by decide) (by decide) (fun r_7 u_ H locs hw hP hD hS => ?_)
    have hP : va_P D vwCl [zO 7 xa [.ref nw, .ref na, .int 0], zA t 4 na 7 (fun j => some (qq j 0)), zO 2 nw [.ref rw, .int 0, .int 0, .int 0, .int 0], zA t 3 rw 300 (fun _ => none), zJ t ou 1 (fun _ => 0), zO 13 ma [.int 0, .int 0, .int 0, .int 0, .int 0, .int 0, .ref nb, .ref wy, .ref hd, .ref tk]] H := hP
    have hD : va_D (fun q : Nat => s.heap.size ≤ q) [zO 7 xa [.ref nw, .ref na, .int 0], zA t 4 na 7 (fun j => some (qq j 0)), zO 2 nw [.ref rw, .int 0, .int 0, .int 0, .int 0], zA t 3 rw 300 (fun _ => none), zJ t ou 1 (fun _ => 0), zO 13 ma [.int 0, .int 0, .int 0, .int 0, .int 0, .int 0, .ref nb, .ref wy, .ref hd, .ref tk]] := hD
    obtain rfl := hw.symm
    refine lv_icmp_eq (tgt := 977) hx hb d_W_law_972 (by decide) (fun _ => ?_) (fun c_8 => absurd (rfl) c_8)
    refine W.widen (k := 100000) (n := 1000000) (Nat.le_of_ble_eq_true rfl) (Nat.le_of_ble_eq_true rfl) ?_
    exact back H locs ls hS (lv_sub hl [0, 4] rfl)
  · obtain ⟨hP, hD⟩ := lQ_0 hP hD
    have hPc : va_P D vwCl [zO 7 xa [.ref nw, .ref na, .int 0], zA t 4 na 7 (fun j => some (qq j 0)), zO 2 nw [.ref rw, .int 0, .int 0, .int 0, .int 0], zA t 3 rw 300 (fun _ => none), zJ t ou 1 (fun _ => 0)] H := xd_P hP (fun q h => List.mem_append_right _ h)
    refine xr_call (xs_V (As := [.int 3]) (rest := []) Z (C_Q_count_3 l D t xa nw na rw qq no mk) m_Q_count k_265 k_266 k_267 rfl rfl ⟨Nat.le_of_ble_eq_true rfl, Nat.le_of_ble_eq_true rfl⟩ (va_recv hK.2 hPc (ci := 7) (q0 := 0) rfl rfl) (xr_pre hK (hPc.sub [0, 1, 2, 3] rfl)) rfl hl.1 rfl (Nat.le_of_ble_eq_true rfl) d_W_law_959 ⟨Nat.le_of_ble_eq_true rfl, Nat.le_of_ble_eq_true rfl⟩) ?_
    refine lv_aload_n hx hb d_W_law_962 rfl (lv_at hl 2 rfl) ?_
    refine lv_aload_n hx hb d_W_law_963 rfl (lv_at hl 4 rfl) ?_
    refine lv_iload hx hb d_W_law_964 (lv_at hl 0 rfl) ?_
    refine lv_iconst (v := 1) hx hb d_W_law_966 (by decide) ?_
    refine lv_iadd hx hb d_W_law_967 ?_
    refine va_sld hx hb hX hbl hbA hS (by unfold vp_in; decide) d_W_law_968 ?_
    refine lv_topi (fun z9 ez9 => ?_)
    obtain rfl : 3 = z9 := ea2.trans ez9.symm
    obtain ⟨hP, hD⟩ := lP_0 (wr := [zO 7 xa [.ref nw, .ref na, .int 0], zA t 4 na 7 (fun j => some (qq j 0)), zO 2 nw [.ref rw, .int 0, .int 0, .int 0, .int 0], zA t 3 rw 300 (fun _ => none), zJ t ou 1 (fun _ => 0)]) hP hD
    have hP : va_P D vwCl [zO 7 xa [.ref nw, .ref na, .int 0], zA t 4 na 7 (fun j => some (qq j 0)), zO 2 nw [.ref rw, .int 0, .int 0, .int 0, .int 0], zA t 3 rw 300 (fun _ => none), zJ t ou 1 (fun _ => 0), zO 13 ma [.int 0, .int 0, .int 0, .int 0, .int 0, .int 0, .ref nb, .ref wy, .ref hd, .ref tk]] H := hP
    have hD : va_D (fun q : Nat => s.heap.size ≤ q) [zO 7 xa [.ref nw, .ref na, .int 0], zA t 4 na 7 (fun j => some (qq j 0)), zO 2 nw [.ref rw, .int 0, .int 0, .int 0, .int 0], zA t 3 rw 300 (fun _ => none), zJ t ou 1 (fun _ => 0), zO 13 ma [.int 0, .int 0, .int 0, .int 0, .int 0, .int 0, .ref nb, .ref wy, .ref hd, .ref tk]] := hD
    refine xe_calli (wr := [zO 7 xa [.ref nw, .ref na, .int 0], zA t 4 na 7 (fun j => some (qq j 0)), zO 2 nw [.ref rw, .int 0, .int 0, .int 0, .int 0], zA t 3 rw 300 (fun _ => none), zJ t ou 1 (fun _ => 0)]) (xs_V (As := [.int 3]) (rest := [.int 0]) Z (C_P_count_03 l D t ma nb wy hd tk 0 H.size) m_P_count k_1279 k_1280 k_1281 rfl rfl ⟨Nat.le_of_ble_eq_true rfl, Nat.le_of_ble_eq_true rfl⟩ (va_recv hK.2 hP (ci := 13) (q0 := 5) rfl rfl) (xe_pre hK (hP.sub [5] rfl) (hD.sub [5] (by decide) rfl)) rfl hl.1 rfl (Nat.le_of_ble_eq_true rfl) d_W_law_969 ⟨Nat.le_of_ble_eq_true rfl, Nat.le_of_ble_eq_true rfl⟩) hP hD hS hA [5] [0, 1, 2, 3, 4] rfl rfl (by decide) (by decide) (fun r_9 u_ H locs hw hP hD hS => ?_)
    have hP : va_P D vwCl [zO 7 xa [.ref nw, .ref na, .int 0], zA t 4 na 7 (fun j => some (qq j 0)), zO 2 nw [.ref rw, .int 0, .int 0, .int 0, .int 0], zA t 3 rw 300 (fun _ => none), zJ t ou 1 (fun _ => 0), zO 13 ma [.int 0, .int 0, .int 0, .int 0, .int 0, .int 0, .ref nb, .ref wy, .ref hd, .ref tk]] H := hP
    have hD : va_D (fun q : Nat => s.heap.size ≤ q) [zO 7 xa [.ref nw, .ref na, .int 0], zA t 4 na 7 (fun j => some (qq j 0)), zO 2 nw [.ref rw, .int 0, .int 0, .int 0, .int 0], zA t 3 rw 300 (fun _ => none), zJ t ou 1 (fun _ => 0), zO 13 ma [.int 0, .int 0, .int 0, .int 0, .int 0, .int 0, .ref nb, .ref wy, .ref hd, .ref tk]] := hD
    obtain rfl := hw.symm
    refine lv_icmp_eq (tgt := 977) hx hb d_W_law_972 (by decide) (fun _ => ?_) (fun c_10 => absurd (rfl) c_10)
    refine W.widen (k := 100000) (n := 1000000) (Nat.le_of_ble_eq_true rfl) (Nat.le_of_ble_eq_true rfl) ?_
    exact back H locs ls hS (lv_sub hl [0, 4] rfl)
