/-! A node's share of a tick, where nothing was ever delivered. -/
/-- how many of the first j bits are there -/
def xn (m : Int32) : Nat → Nat
  | 0 => 0
  | j + 1 => xn m j + (if xb m (nI j) = 0 then 0 else 1)
theorem xn_0 {m : Int32} {j : Nat} (h : xb m (nI j) = 0) : xn m (j + 1) = xn m j := by
  show xn m j + (if xb m (nI j) = 0 then 0 else 1) = xn m j
  rw [if_pos h, Nat.add_zero]
theorem xn_1 {m : Int32} {j : Nat} (h : ¬ xb m (nI j) = 0) : xn m (j + 1) = xn m j + 1 := by
  show xn m j + (if xb m (nI j) = 0 then 0 else 1) = xn m j + 1
  rw [if_neg h]
theorem xp_and (m k : Int32) : xp m k &&& (((1 : Int32) <<< (k &&& 31)) ^^^ (-1)) = xp m k := by
  unfold xp
  rw [Int32.and_assoc, Int32.and_self]
theorem d_D_rest_0 : decode c_D_rest 0 = .ok (.aload_n 0, 1) := by decide +kernel
theorem d_D_rest_1 : decode c_D_rest 1 = .ok (.bipush 8, 2) := by decide +kernel
theorem d_D_rest_3 : decode c_D_rest 3 = .ok (.iconst 3, 1) := by decide +kernel
theorem d_D_rest_4 : decode c_D_rest 4 = .ok (.aload_n 0, 1) := by decide +kernel
theorem d_D_rest_5 : decode c_D_rest 5 = .ok (.getfield 30, 3) := by decide +kernel
theorem d_D_rest_8 : decode c_D_rest 8 = .ok (.imul, 1) := by decide +kernel
theorem d_D_rest_9 : decode c_D_rest 9 = .ok (.iadd, 1) := by decide +kernel
theorem d_D_rest_10 : decode c_D_rest 10 = .ok (.putfield 52, 3) := by decide +kernel
theorem d_D_rest_13 : decode c_D_rest 13 = .ok (.return_, 1) := by decide +kernel
set_option maxHeartbeats 4000000 in
set_option maxRecDepth 100000 in
/-- rest -/
theorem C_D_rest (l : Launch) (D : va_G) (t : Nat → ClassId) (q : Nat → Nat) (nw no : Nat) (i : Nat) (pr lz bl tm le gr sp mk : Int32) : xe_C l D vwCl (xTY t) y_D_rest c_D_rest 1 (Option.none : Option FieldType) ({ frames := 0, cells := 0, slots := 0, locals := 0 }) [.ref ((q 0))] [zO 3 (q 0) [.int (nI i), .ref nw, .int pr, .int 0, .int 0, .ref ((q 1)), .ref ((q 7)), .ref ((q 11)), .int 1, .int lz, .int bl, .int tm, .int le, .int 0, .ref ((q 15))]] (xe_v D vwCl (fun _ : Unit => True) (fun _ => [zO 3 (q 0) [.int (nI i), .ref nw, .int pr, .int 0, .int 0, .ref ((q 1)), .ref ((q 7)), .ref ((q 11)), .int 1, .int lz, .int bl, .int (nI (8 + 3 * i)), .int le, .int 0, .ref ((q 15))]])) 0 0 := by
  refine xe_of (by decide) (Nat.le_of_ble_eq_true rfl) ?_
  intro p e s m below meth c ls A Z hr hlocks hin hA hP hD hS hl
  obtain ⟨hx, hb, hml, hown, hK⟩ := id Z
  have hown : s.vm.findClass "QuorumStore$Node" = some m.cls := hown
  have hts := hK.1.at (args := ([.ref ((q 0))] : List Value).toArray)
  have hl : lv_has ls 1 [(0, .ref ((q 0)))] := hl
  refine lv_aload_n hx hb d_D_rest_0 rfl (lv_at hl 0 rfl) ?_
  refine lv_bipush (v := 8) hx hb d_D_rest_1 (by decide) ?_
  refine lv_iconst (v := 3) hx hb d_D_rest_3 (by decide) ?_
  refine lv_aload_n hx hb d_D_rest_4 rfl (lv_at hl 0 rfl) ?_
  refine va_get (ci := 3) (C := "QuorumStore$Node") (T := TX3) (N := 15) hx hb hts inX3 hown hK.2 hP 0 rfl rfl 0 (by decide) (hts _ k_197) (fun _ h9 => h9) rfl d_D_rest_5 ?_
  refine lv_imul hx hb d_D_rest_8 ?_
  refine lv_iadd hx hb d_D_rest_9 ?_
  refine va_put (ci := 3) (v := .int ((8) + ((3) * (nI i)))) (ty := tyX3 11) (C := "QuorumStore$Node") (T := TX3) (N := 15) hx hb hts inX3 tyX3 okX3 nmX3 hown hK.2 hP hD hS 0 rfl rfl 11 (by decide) (hts _ k_217) (fun _ h9 => h9) rfl (by decide +kernel) rfl rfl (Nat.le_of_ble_eq_true rfl) d_D_rest_10 (fun H locs hP hD hS => ?_)
  have hP : va_P D vwCl [zO 3 (q 0) [.int (nI i), .ref nw, .int pr, .int 0, .int 0, .ref ((q 1)), .ref ((q 7)), .ref ((q 11)), .int 1, .int lz, .int bl, .int ((8) + ((3) * (nI i))), .int le, .int 0, .ref ((q 15))]] H := hP
  have hD : va_D A [zO 3 (q 0) [.int (nI i), .ref nw, .int pr, .int 0, .int 0, .ref ((q 1)), .ref ((q 7)), .ref ((q 11)), .int 1, .int lz, .int bl, .int ((8) + ((3) * (nI i))), .int le, .int 0, .ref ((q 15))]] := hD
  have e8 : (8 : Int32) + 3 * nI i = nI (8 + 3 * i) := by rw [show (3 : Int32) = nI 3 from rfl, show (8 : Int32) = nI 8 from rfl, pk_mul, nI_add]
  have hP : va_P D vwCl [zO 3 (q 0) [.int (nI i), .ref nw, .int pr, .int 0, .int 0, .ref ((q 1)), .ref ((q 7)), .ref ((q 11)), .int 1, .int lz, .int bl, .int (nI (8 + 3 * i)), .int le, .int 0, .ref ((q 15))]] H := e8 ▸ hP
  have hD : va_D A [zO 3 (q 0) [.int (nI i), .ref nw, .int pr, .int 0, .int 0, .ref ((q 1)), .ref ((q 7)), .ref ((q 11)), .int 1, .int lz, .int bl, .int (nI (8 + 3 * i)), .int le, .int 0, .ref ((q 15))]] := e8 ▸ hD
  exact W.vret hx hb hr (fun t ht hW => ⟨⟨(), rfl, trivial, by rw [ht]; exact hP, hD⟩, hS.F ht⟩) hS.2.2 d_D_rest_13
theorem d_D_sendEach_0 : decode c_D_sendEach 0 = .ok (.iconst 0, 1) := by decide +kernel
theorem d_D_sendEach_1 : decode c_D_sendEach 1 = .ok (.istore 6, 2) := by decide +kernel
theorem d_D_sendEach_3 : decode c_D_sendEach 3 = .ok (.iload 6, 2) := by decide +kernel
theorem d_D_sendEach_5 : decode c_D_sendEach 5 = .ok (.bipush 7, 2) := by decide +kernel
theorem d_D_sendEach_7 : decode c_D_sendEach 7 = .ok (.if_icmp .ge 37, 3) := by decide +kernel
theorem d_D_sendEach_10 : decode c_D_sendEach 10 = .ok (.iload_n 1, 1) := by decide +kernel
theorem d_D_sendEach_11 : decode c_D_sendEach 11 = .ok (.iload 6, 2) := by decide +kernel
theorem d_D_sendEach_13 : decode c_D_sendEach 13 = .ok (.invokestatic 77, 3) := by decide +kernel
theorem d_D_sendEach_16 : decode c_D_sendEach 16 = .ok (.ifCond .eq 22, 3) := by decide +kernel
theorem d_D_sendEach_19 : decode c_D_sendEach 19 = .ok (.aload_n 0, 1) := by decide +kernel
theorem d_D_sendEach_20 : decode c_D_sendEach 20 = .ok (.getfield 34, 3) := by decide +kernel
theorem d_D_sendEach_23 : decode c_D_sendEach 23 = .ok (.iload_n 2, 1) := by decide +kernel
theorem d_D_sendEach_24 : decode c_D_sendEach 24 = .ok (.aload_n 0, 1) := by decide +kernel
theorem d_D_sendEach_25 : decode c_D_sendEach 25 = .ok (.getfield 30, 3) := by decide +kernel
theorem d_D_sendEach_28 : decode c_D_sendEach 28 = .ok (.iload 6, 2) := by decide +kernel
theorem d_D_sendEach_30 : decode c_D_sendEach 30 = .ok (.iload_n 3, 1) := by decide +kernel
theorem d_D_sendEach_31 : decode c_D_sendEach 31 = .ok (.iload 4, 2) := by decide +kernel
theorem d_D_sendEach_33 : decode c_D_sendEach 33 = .ok (.aload 5, 2) := by decide +kernel
theorem d_D_sendEach_35 : decode c_D_sendEach 35 = .ok (.invokevirtual 81, 3) := by decide +kernel
theorem d_D_sendEach_38 : decode c_D_sendEach 38 = .ok (.iinc 6 1, 3) := by decide +kernel
theorem d_D_sendEach_41 : decode c_D_sendEach 41 = .ok (.goto (-38), 3) := by decide +kernel
theorem d_D_sendEach_44 : decode c_D_sendEach 44 = .ok (.return_, 1) := by decide +kernel
set_option maxHeartbeats 4000000 in
set_option maxRecDepth 100000 in
/-- sendEach without a value -/
theorem C_D_sendEach (l : Launch) (D : va_G) (t : Nat → ClassId) (q : Nat → Nat) (nw no : Nat) (i : Nat) (pr lz bl tm le gr sp mk : Int32) (rw : Nat) (z : Nat) (hz : z ≤ 300) (x y : Int32) (g : Nat → Option Nat) (mask kd bt sl : Int32) : xe_C l D vwCl (xTY t) y_D_sendEach c_D_sendEach 7 (Option.none : Option FieldType) ({ frames := 3, cells := 7, slots := 56, locals := 72 }) [.ref ((q 0)), .int mask, .int kd, .int bt, .int sl, .null] [zO 3 (q 0) [.int (nI i), .ref nw, .int pr, .int 0, .int 0, .ref ((q 1)), .ref ((q 7)), .ref ((q 11)), .int 1, .int lz, .int bl, .int tm, .int le, .int 0, .ref ((q 15))], zO 2 nw [.ref rw, .int (nI z), .int x, .int y, .int 0], zA t 3 rw 300 g] (xe_v D vwCl (fun _ : Int32 × Int32 × (Nat → Option Nat) => True) (fun u => [zO 3 (q 0) [.int (nI i), .ref nw, .int pr, .int 0, .int 0, .ref ((q 1)), .ref ((q 7)), .ref ((q 11)), .int 1, .int lz, .int bl, .int tm, .int le, .int 0, .ref ((q 15))], zO 2 nw [.ref rw, .int (nI (min 300 (z + xn mask 7))), .int u.1, .int u.2.1, .int 0], zA t 3 rw 300 u.2.2])) 7 56 := by
  refine xe_of (by decide) (Nat.le_of_ble_eq_true rfl) ?_
  intro p e s m below meth c ls A Z hr hlocks hin hA hP hD hS hl
  obtain ⟨hx, hb, hml, hown, hK⟩ := id Z
  have hown : s.vm.findClass "QuorumStore$Node" = some m.cls := hown
  have hts := hK.1.at (args := ([.ref ((q 0)), .int mask, .int kd, .int bt, .int sl, .null] : List Value).toArray)
  have hl : lv_has ls 7 [(0, .ref ((q 0))), (1, .int mask), (2, .int kd), (3, .int bt), (4, .int sl), (5, .null)] := hl
  refine lv_iconst (v := 0) hx hb d_D_sendEach_0 (by decide) ?_
  refine lv_istore (lv' := [(6, .int 0), (0, .ref ((q 0))), (1, .int mask), (2, .int kd), (3, .int bt), (4, .int sl), (5, .null)]) hx hb d_D_sendEach_1 hl (by decide) rfl (fun ls hl => ?_)
  have loop : ∀ (n : Nat) (j : Nat) (x y : Int32) (g : Nat → Option Nat), j + n = 7 → ∀ (H : Heap) (locs : List Loc), va_P D vwCl [zO 3 (q 0) [.int (nI i), .ref nw, .int pr, .int 0, .int 0, .ref ((q 1)), .ref ((q 7)), .ref ((q 11)), .int 1, .int lz, .int bl, .int tm, .int le, .int 0, .ref ((q 15))], zO 2 nw [.ref rw, .int (nI (min 300 (z + xn mask j))), .int x, .int y, .int 0], zA t 3 rw 300 g] H → va_D A [zO 3 (q 0) [.int (nI i), .ref nw, .int pr, .int 0, .int 0, .ref ((q 1)), .ref ((q 7)), .ref ((q 11)), .int 1, .int lz, .int bl, .int tm, .int le, .int 0, .ref ((q 15))], zO 2 nw [.ref rw, .int (nI (min 300 (z + xn mask j))), .int x, .int y, .int 0], zA t 3 rw 300 g] → va_S A s.heap H locs → ∀ (ls : Array Slot), lv_has ls 7 [(6, .int (nI j)), (0, .ref ((q 0))), (1, .int mask), (2, .int kd), (3, .int bt), (4, .int sl), (5, .null)] → W p l e ({ frames := 3, cells := 7, slots := 56, locals := 72 } : Room) s m ([.ref ((q 0)), .int mask, .int kd, .int bt, .int sl, .null] : List Value).toArray below meth c H locs j (8 * j) (MQ below ((xe_v D vwCl (fun _ : Int32 × Int32 × (Nat → Option Nat) => True) (fun u => [zO 3 (q 0) [.int (nI i), .ref nw, .int pr, .int 0, .int 0, .ref ((q 1)), .ref ((q 7)), .ref ((q 11)), .int 1, .int lz, .int bl, .int tm, .int le, .int 0, .ref ((q 15))], zO 2 nw [.ref rw, .int (nI (min 300 (z + xn mask 7))), .int u.1, .int u.2.1, .int 0], zA t 3 rw 300 u.2.2])) A) ([.ref ((q 0)), .int mask, .int kd, .int bt, .int sl, .null] : List Value).toArray s 7 56 A) (F0 m 3 ls []) := by
    intro n
    induction n with
    | zero =>
      intro j x y g hi H locs hP hD hS ls hl
      refine lv_iload hx hb d_D_sendEach_3 (lv_at hl 0 rfl) ?_
      refine lv_bipush (v := 7) hx hb d_D_sendEach_5 (by decide) ?_
      refine lv_icmp_ge (tgt := 44) hx hb d_D_sendEach_7 (by decide) (fun _ => ?_) (fun c_1 => absurd (nI_le (b := j) (a := 7) (by omega) (by omega)) c_1)
      obtain rfl : j = 7 := by omega
      refine W.widen (k := 7) (n := 56) (by omega) (by omega) ?_
      exact W.vret hx hb hr (fun t ht hW => ⟨⟨(x, y, g), rfl, trivial, by rw [ht]; exact hP, hD⟩, hS.F ht⟩) hS.2.2 d_D_sendEach_44
    | succ n ih =>
      intro j x y g hi H locs hP hD hS ls hl
      refine lv_iload hx hb d_D_sendEach_3 (lv_at hl 0 rfl) ?_
      refine lv_bipush (v := 7) hx hb d_D_sendEach_5 (by decide) ?_
      refine lv_icmp_ge (tgt := 44) hx hb d_D_sendEach_7 (by decide) (fun c_2 => absurd c_2 (nI_ge (a := j) (b := 7) (by omega) (by omega))) (fun _ => ?_)
      refine lv_iload_n hx hb d_D_sendEach_10 rfl (lv_at hl 2 rfl) ?_
      refine lv_iload hx hb d_D_sendEach_11 (lv_at hl 0 rfl) ?_
      refine xr_call (xs_SN (As := [.int mask, .int (nI j)]) (rest := []) Z (C_Q_isIn l D t _ _) m_Q_isIn k_368 k_369 rfl rfl ⟨Nat.le_of_ble_eq_true rfl, Nat.le_of_ble_eq_true rfl⟩ (xr_pre hK (hP.sub [] rfl)) rfl hl.1 rfl (Nat.le_of_ble_eq_true rfl) d_D_sendEach_13 ⟨show j + 0 ≤ 7 by omega, show 8 * j + 0 ≤ 56 by omega⟩) ?_
      refine lv_if_eq (tgt := 38) hx hb d_D_sendEach_16 (by decide) (fun c_3 => ?_) (fun c_3 => ?_)
      · refine lv_iinc (v := nI (j + 1)) (lv' := [(6, .int (nI (j + 1))), (0, .ref ((q 0))), (1, .int mask), (2, .int kd), (3, .int bt), (4, .int sl), (5, .null)]) hx hb d_D_sendEach_38 hl (k := 0) rfl (nI_1 j) (by decide) rfl (fun ls hl => ?_)
        refine lv_goto (tgt := 3) hx hb d_D_sendEach_41 (by decide) ?_
        refine W.widen (k := j + 1) (n := 8 * (j + 1)) (by omega) (by omega) ?_
        have e9 : xn mask (j + 1) = xn mask j := xn_0 c_3
        exact ih (j + 1) x y g (by omega) H locs (by rw [e9]; exact hP) (by rw [e9]; exact hD) hS ls (lv_sub hl [0, 1, 2, 3, 4, 5, 6] rfl)
      · refine lv_aload_n hx hb d_D_sendEach_19 rfl (lv_at hl 1 rfl) ?_
        refine va_get (ci := 3) (C := "QuorumStore$Node") (T := TX3) (N := 15) hx hb hts inX3 hown hK.2 hP 0 rfl rfl 1 (by decide) (hts _ k_198) (fun _ h9 => h9) rfl d_D_sendEach_20 ?_
        refine lv_iload_n hx hb d_D_sendEach_23 rfl (lv_at hl 3 rfl) ?_
        refine lv_aload_n hx hb d_D_sendEach_24 rfl (lv_at hl 1 rfl) ?_
        refine va_get (ci := 3) (C := "QuorumStore$Node") (T := TX3) (N := 15) hx hb hts inX3 hown hK.2 hP 0 rfl rfl 0 (by decide) (hts _ k_197) (fun _ h9 => h9) rfl d_D_sendEach_25 ?_
        refine lv_iload hx hb d_D_sendEach_28 (lv_at hl 0 rfl) ?_
        refine lv_iload_n hx hb d_D_sendEach_30 rfl (lv_at hl 4 rfl) ?_
        refine lv_iload hx hb d_D_sendEach_31 (lv_at hl 5 rfl) ?_
        refine lv_aloadN hx hb d_D_sendEach_33 (lv_at hl 6 rfl) ?_
        refine xe_callv (wr := [zO 3 (q 0) [.int (nI i), .ref nw, .int pr, .int 0, .int 0, .ref ((q 1)), .ref ((q 7)), .ref ((q 11)), .int 1, .int lz, .int bl, .int tm, .int le, .int 0, .ref ((q 15))]]) (xs_V (As := [.int kd, .int (nI i), .int (nI j), .int bt, .int sl, .null]) (rest := []) Z (C_N_sendPlain l D t nw rw (min 300 (z + xn mask j)) (by omega) x y g _ _ _ _ _ H.size) m_N_sendPlain k_371 k_372 k_373 rfl rfl ⟨Nat.le_of_ble_eq_true rfl, Nat.le_of_ble_eq_true rfl⟩ (va_recv hK.2 hP (ci := 2) (q0 := 1) rfl rfl) (xe_pre hK (hP.sub [1, 2] rfl) (hD.sub [1, 2] (by decide) rfl)) rfl hl.1 rfl (Nat.le_of_ble_eq_true rfl) d_D_sendEach_35 ⟨show j + 1 ≤ 7 by omega, show 8 * j + 8 ≤ 56 by omega⟩) hP hD hS hA [1, 2] [0] rfl rfl (by decide) (by decide) (fun u_ H locs _ hP hD hS => ?_)
        obtain ⟨x2, y2, g2⟩ := u_
        have hP : va_P D vwCl [zO 3 (q 0) [.int (nI i), .ref nw, .int pr, .int 0, .int 0, .ref ((q 1)), .ref ((q 7)), .ref ((q 11)), .int 1, .int lz, .int bl, .int tm, .int le, .int 0, .ref ((q 15))], zO 2 nw [.ref rw, .int (nI (min 300 (min 300 (z + xn mask j) + 1))), .int x2, .int y2, .int 0], zA t 3 rw 300 g2] H := hP
        have hD : va_D A [zO 3 (q 0) [.int (nI i), .ref nw, .int pr, .int 0, .int 0, .ref ((q 1)), .ref ((q 7)), .ref ((q 11)), .int 1, .int lz, .int bl, .int tm, .int le, .int 0, .ref ((q 15))], zO 2 nw [.ref rw, .int (nI (min 300 (min 300 (z + xn mask j) + 1))), .int x2, .int y2, .int 0], zA t 3 rw 300 g2] := hD
        refine lv_iinc (v := nI (j + 1)) (lv' := [(6, .int (nI (j + 1))), (0, .ref ((q 0))), (1, .int mask), (2, .int kd), (3, .int bt), (4, .int sl), (5, .null)]) hx hb d_D_sendEach_38 hl (k := 0) rfl (nI_1 j) (by decide) rfl (fun ls hl => ?_)
        refine lv_goto (tgt := 3) hx hb d_D_sendEach_41 (by decide) ?_
        refine W.widen (k := j + 1) (n := 8 * (j + 1)) (by omega) (by omega) ?_
        have e9 : min 300 (z + xn mask (j + 1)) = min 300 (min 300 (z + xn mask j) + 1) := by rw [xn_1 c_3]; omega
        exact ih (j + 1) x2 y2 g2 (by omega) H locs (by rw [e9]; exact hP) (by rw [e9]; exact hD) hS ls (lv_sub hl [0, 1, 2, 3, 4, 5, 6] rfl)
  exact loop 7 0 x y g (by omega) _ _ (by rw [show min 300 (z + xn mask 0) = z from by show min 300 (z + 0) = z; omega]; exact hP) (by rw [show min 300 (z + xn mask 0) = z from by show min 300 (z + 0) = z; omega]; exact hD) hS ls (lv_sub hl [0, 1, 2, 3, 4, 5, 6] rfl)
theorem d_D_beat_0 : decode c_D_beat 0 = .ok (.aload_n 0, 1) := by decide +kernel
theorem d_D_beat_1 : decode c_D_beat 1 = .ok (.invokevirtual 99, 3) := by decide +kernel
theorem d_D_beat_4 : decode c_D_beat 4 = .ok (.istore_n 1, 1) := by decide +kernel
theorem d_D_beat_5 : decode c_D_beat 5 = .ok (.iconst 0, 1) := by decide +kernel
theorem d_D_beat_6 : decode c_D_beat 6 = .ok (.istore_n 2, 1) := by decide +kernel
theorem d_D_beat_7 : decode c_D_beat 7 = .ok (.iload_n 2, 1) := by decide +kernel
theorem d_D_beat_8 : decode c_D_beat 8 = .ok (.bipush 7, 2) := by decide +kernel
theorem d_D_beat_10 : decode c_D_beat 10 = .ok (.if_icmp .ge 77, 3) := by decide +kernel
theorem d_D_beat_13 : decode c_D_beat 13 = .ok (.iload_n 1, 1) := by decide +kernel
theorem d_D_beat_14 : decode c_D_beat 14 = .ok (.iload_n 2, 1) := by decide +kernel
theorem d_D_beat_15 : decode c_D_beat 15 = .ok (.invokestatic 77, 3) := by decide +kernel
theorem d_D_beat_18 : decode c_D_beat 18 = .ok (.ifCond .eq 26, 3) := by decide +kernel
theorem d_D_beat_21 : decode c_D_beat 21 = .ok (.aload_n 0, 1) := by decide +kernel
theorem d_D_beat_22 : decode c_D_beat 22 = .ok (.getfield 34, 3) := by decide +kernel
theorem d_D_beat_25 : decode c_D_beat 25 = .ok (.bipush 6, 2) := by decide +kernel
theorem d_D_beat_27 : decode c_D_beat 27 = .ok (.aload_n 0, 1) := by decide +kernel
theorem d_D_beat_28 : decode c_D_beat 28 = .ok (.getfield 30, 3) := by decide +kernel
theorem d_D_beat_31 : decode c_D_beat 31 = .ok (.iload_n 2, 1) := by decide +kernel
theorem d_D_beat_32 : decode c_D_beat 32 = .ok (.aload_n 0, 1) := by decide +kernel
theorem d_D_beat_33 : decode c_D_beat 33 = .ok (.getfield 61, 3) := by decide +kernel
theorem d_D_beat_36 : decode c_D_beat 36 = .ok (.aload_n 0, 1) := by decide +kernel
theorem d_D_beat_37 : decode c_D_beat 37 = .ok (.getfield 70, 3) := by decide +kernel
theorem d_D_beat_40 : decode c_D_beat 40 = .ok (.aconst_null, 1) := by decide +kernel
theorem d_D_beat_41 : decode c_D_beat 41 = .ok (.invokevirtual 81, 3) := by decide +kernel
theorem d_D_beat_44 : decode c_D_beat 44 = .ok (.iload_n 1, 1) := by decide +kernel
theorem d_D_beat_45 : decode c_D_beat 45 = .ok (.aload_n 0, 1) := by decide +kernel
theorem d_D_beat_46 : decode c_D_beat 46 = .ok (.getfield 26, 3) := by decide +kernel
theorem d_D_beat_49 : decode c_D_beat 49 = .ok (.getfield 103, 3) := by decide +kernel
theorem d_D_beat_52 : decode c_D_beat 52 = .ok (.iconst (-1), 1) := by decide +kernel
theorem d_D_beat_53 : decode c_D_beat 53 = .ok (.ixor, 1) := by decide +kernel
theorem d_D_beat_54 : decode c_D_beat 54 = .ok (.iand, 1) := by decide +kernel
theorem d_D_beat_55 : decode c_D_beat 55 = .ok (.iload_n 2, 1) := by decide +kernel
theorem d_D_beat_56 : decode c_D_beat 56 = .ok (.invokestatic 77, 3) := by decide +kernel
theorem d_D_beat_59 : decode c_D_beat 59 = .ok (.ifCond .eq 22, 3) := by decide +kernel
theorem d_D_beat_62 : decode c_D_beat 62 = .ok (.aload_n 0, 1) := by decide +kernel
theorem d_D_beat_63 : decode c_D_beat 63 = .ok (.getfield 34, 3) := by decide +kernel
theorem d_D_beat_66 : decode c_D_beat 66 = .ok (.iconst 1, 1) := by decide +kernel
theorem d_D_beat_67 : decode c_D_beat 67 = .ok (.aload_n 0, 1) := by decide +kernel
theorem d_D_beat_68 : decode c_D_beat 68 = .ok (.getfield 30, 3) := by decide +kernel
theorem d_D_beat_71 : decode c_D_beat 71 = .ok (.iload_n 2, 1) := by decide +kernel
theorem d_D_beat_72 : decode c_D_beat 72 = .ok (.aload_n 0, 1) := by decide +kernel
theorem d_D_beat_73 : decode c_D_beat 73 = .ok (.getfield 61, 3) := by decide +kernel
theorem d_D_beat_76 : decode c_D_beat 76 = .ok (.iconst 0, 1) := by decide +kernel
theorem d_D_beat_77 : decode c_D_beat 77 = .ok (.aconst_null, 1) := by decide +kernel
theorem d_D_beat_78 : decode c_D_beat 78 = .ok (.invokevirtual 81, 3) := by decide +kernel
theorem d_D_beat_81 : decode c_D_beat 81 = .ok (.iinc 2 1, 3) := by decide +kernel
theorem d_D_beat_84 : decode c_D_beat 84 = .ok (.goto (-77), 3) := by decide +kernel
theorem d_D_beat_87 : decode c_D_beat 87 = .ok (.aload_n 0, 1) := by decide +kernel
theorem d_D_beat_88 : decode c_D_beat 88 = .ok (.getfield 70, 3) := by decide +kernel
theorem d_D_beat_91 : decode c_D_beat 91 = .ok (.iconst 1, 1) := by decide +kernel
theorem d_D_beat_92 : decode c_D_beat 92 = .ok (.iadd, 1) := by decide +kernel
theorem d_D_beat_93 : decode c_D_beat 93 = .ok (.istore_n 2, 1) := by decide +kernel
theorem d_D_beat_94 : decode c_D_beat 94 = .ok (.iload_n 2, 1) := by decide +kernel
theorem d_D_beat_95 : decode c_D_beat 95 = .ok (.aload_n 0, 1) := by decide +kernel
theorem d_D_beat_96 : decode c_D_beat 96 = .ok (.getfield 70, 3) := by decide +kernel
theorem d_D_beat_99 : decode c_D_beat 99 = .ok (.iconst 4, 1) := by decide +kernel
theorem d_D_beat_100 : decode c_D_beat 100 = .ok (.iadd, 1) := by decide +kernel
theorem d_D_beat_101 : decode c_D_beat 101 = .ok (.if_icmp .gt 71, 3) := by decide +kernel
theorem d_D_beat_104 : decode c_D_beat 104 = .ok (.aload_n 0, 1) := by decide +kernel
theorem d_D_beat_105 : decode c_D_beat 105 = .ok (.getfield 26, 3) := by decide +kernel
theorem d_D_beat_108 : decode c_D_beat 108 = .ok (.getfield 106, 3) := by decide +kernel
theorem d_D_beat_111 : decode c_D_beat 111 = .ok (.iload_n 2, 1) := by decide +kernel
theorem d_D_beat_112 : decode c_D_beat 112 = .ok (.invokevirtual 109, 3) := by decide +kernel
theorem d_D_beat_115 : decode c_D_beat 115 = .ok (.astore_n 3, 1) := by decide +kernel
theorem d_D_beat_116 : decode c_D_beat 116 = .ok (.aload_n 3, 1) := by decide +kernel
theorem d_D_beat_117 : decode c_D_beat 117 = .ok (.ifnull 49, 3) := by decide +kernel
theorem d_D_beat_166 : decode c_D_beat 166 = .ok (.iinc 2 1, 3) := by decide +kernel
theorem d_D_beat_169 : decode c_D_beat 169 = .ok (.goto (-75), 3) := by decide +kernel
theorem d_D_beat_172 : decode c_D_beat 172 = .ok (.return_, 1) := by decide +kernel
set_option maxHeartbeats 4000000 in
set_option maxRecDepth 100000 in
/-- beat: two messages to each peer -/
theorem C_D_beat (l : Launch) (D : va_G) (t : Nat → ClassId) (q : Nat → Nat) (nw no : Nat) (i : Nat) (pr lz bl tm le gr sp mk : Int32) (hgr : gr = (1 : Int32) <<< (nI i &&& 31)) (rw : Nat) (z : Nat) (hz : z ≤ 300) (x y : Int32) (g : Nat → Option Nat) : xe_C l D vwCl (xTY t) y_D_beat c_D_beat 5 (Option.none : Option FieldType) ({ frames := 3, cells := 14, slots := 112, locals := 72 }) [.ref ((q 0))] [zO 3 (q 0) [.int (nI i), .ref nw, .int pr, .int 0, .int 0, .ref ((q 1)), .ref ((q 7)), .ref ((q 11)), .int 1, .int lz, .int bl, .int tm, .int le, .int 0, .ref ((q 15))], zO 5 (q 1) [.ref ((q 2)), .ref ((q 3)), .ref ((q 4)), .ref ((q 5)), .ref ((q 6)), .int 1], zJ t (q 2) 32 (fun _ => 1099511627776), zI t (q 3) 8 (fun _ => 0), zJ t (q 4) 8 (fun _ => 0), zI t (q 5) 4 (xm 1), zI t (q 6) 4 (xm mk), zO 4 (q 7) [.ref ((q 8)), .ref ((q 9)), .ref ((q 10))], zI t (q 8) 32 (fun _ => 0), zI t (q 9) 32 (fun _ => 0), zA t 2 (q 10) 32 (fun _ => none), zO 4 (q 11) [.ref ((q 12)), .ref ((q 13)), .ref ((q 14))], zI t (q 12) 64 (fun _ => 0), zI t (q 13) 64 (fun _ => 0), zA t 2 (q 14) 64 (fun _ => none), zO 0 (q 15) [.ref no, .int gr, .ref ((q 16)), .ref ((q 20)), .ref ((q 24)), .int 0, .int 0, .int sp], zO 4 (q 16) [.ref ((q 17)), .ref ((q 18)), .ref ((q 19))], zI t (q 17) 32 (fun _ => 0), zI t (q 18) 32 (fun _ => 0), zA t 2 (q 19) 32 (fun _ => none), zO 4 (q 20) [.ref ((q 21)), .ref ((q 22)), .ref ((q 23))], zI t (q 21) 4 (fun _ => 0), zI t (q 22) 4 (fun _ => 0), zA t 2 (q 23) 4 (fun _ => none), zA t 2 (q 24) 16 (fun _ => none), zO 2 nw [.ref rw, .int (nI z), .int x, .int y, .int 0], zA t 3 rw 300 g] (xe_v D vwCl (fun _ : Int32 × Int32 × (Nat → Option Nat) => True) (fun u => [zO 3 (q 0) [.int (nI i), .ref nw, .int pr, .int 0, .int 0, .ref ((q 1)), .ref ((q 7)), .ref ((q 11)), .int 1, .int lz, .int bl, .int tm, .int le, .int 0, .ref ((q 15))], zO 5 (q 1) [.ref ((q 2)), .ref ((q 3)), .ref ((q 4)), .ref ((q 5)), .ref ((q 6)), .int 1], zJ t (q 2) 32 (fun _ => 1099511627776), zI t (q 3) 8 (fun _ => 0), zJ t (q 4) 8 (fun _ => 0), zI t (q 5) 4 (xm 1), zI t (q 6) 4 (xm mk), zO 4 (q 7) [.ref ((q 8)), .ref ((q 9)), .ref ((q 10))], zI t (q 8) 32 (fun _ => 0), zI t (q 9) 32 (fun _ => 0), zA t 2 (q 10) 32 (fun _ => none), zO 4 (q 11) [.ref ((q 12)), .ref ((q 13)), .ref ((q 14))], zI t (q 12) 64 (fun _ => 0), zI t (q 13) 64 (fun _ => 0), zA t 2 (q 14) 64 (fun _ => none), zO 0 (q 15) [.ref no, .int gr, .ref ((q 16)), .ref ((q 20)), .ref ((q 24)), .int 0, .int 0, .int sp], zO 4 (q 16) [.ref ((q 17)), .ref ((q 18)), .ref ((q 19))], zI t (q 17) 32 (fun _ => 0), zI t (q 18) 32 (fun _ => 0), zA t 2 (q 19) 32 (fun _ => none), zO 4 (q 20) [.ref ((q 21)), .ref ((q 22)), .ref ((q 23))], zI t (q 21) 4 (fun _ => 0), zI t (q 22) 4 (fun _ => 0), zA t 2 (q 23) 4 (fun _ => none), zA t 2 (q 24) 16 (fun _ => none), zO 2 nw [.ref rw, .int (nI (min 300 (z + 2 * xn (xp mk (nI i)) 7))), .int u.1, .int u.2.1, .int 0], zA t 3 rw 300 u.2.2])) 14 112 := by
  refine xe_of (by decide) (Nat.le_of_ble_eq_true rfl) ?_
  intro p e s m below meth c ls A Z hr hlocks hin hA hP hD hS hl
  obtain ⟨hx, hb, hml, hown, hK⟩ := id Z
  have hown : s.vm.findClass "QuorumStore$Node" = some m.cls := hown
  have hts := hK.1.at (args := ([.ref ((q 0))] : List Value).toArray)
  have hl : lv_has ls 5 [(0, .ref ((q 0)))] := hl
  refine lv_aload_n hx hb d_D_beat_0 rfl (lv_at hl 0 rfl) ?_
  refine xr_call (xs_V (As := []) (rest := []) Z (C_D_peers l D t q nw no (nI i) pr lz bl tm le gr sp mk) m_D_peers k_356 k_358 ks_2 rfl rfl ⟨Nat.le_of_ble_eq_true rfl, Nat.le_of_ble_eq_true rfl⟩ (va_recv hK.2 hP (ci := 3) (q0 := 0) rfl rfl) (xr_pre hK (hP.sub [0, 1, 2, 3, 4, 5, 6, 7, 8, 9, 10, 11, 12, 13, 14, 15, 16, 17, 18, 19, 20, 21, 22, 23, 24] rfl)) rfl hl.1 rfl (Nat.le_of_ble_eq_true rfl) d_D_beat_1 ⟨Nat.le_of_ble_eq_true rfl, Nat.le_of_ble_eq_true rfl⟩) ?_
  refine lv_istore_n (lv' := [(1, .int (xp mk (nI i))), (0, .ref ((q 0)))]) hx hb d_D_beat_4 rfl hl (by decide) rfl (fun ls hl => ?_)
  refine lv_iconst (v := 0) hx hb d_D_beat_5 (by decide) ?_
  refine lv_istore_n (lv' := [(2, .int 0), (1, .int (xp mk (nI i))), (0, .ref ((q 0)))]) hx hb d_D_beat_6 rfl hl (by decide) rfl (fun ls hl => ?_)
  have loop : ∀ (n : Nat) (j : Nat) (x y : Int32) (g : Nat → Option Nat), j + n = 7 → ∀ (H : Heap) (locs : List Loc), va_P D vwCl [zO 3 (q 0) [.int (nI i), .ref nw, .int pr, .int 0, .int 0, .ref ((q 1)), .ref ((q 7)), .ref ((q 11)), .int 1, .int lz, .int bl, .int tm, .int le, .int 0, .ref ((q 15))], zO 5 (q 1) [.ref ((q 2)), .ref ((q 3)), .ref ((q 4)), .ref ((q 5)), .ref ((q 6)), .int 1], zJ t (q 2) 32 (fun _ => 1099511627776), zI t (q 3) 8 (fun _ => 0), zJ t (q 4) 8 (fun _ => 0), zI t (q 5) 4 (xm 1), zI t (q 6) 4 (xm mk), zO 4 (q 7) [.ref ((q 8)), .ref ((q 9)), .ref ((q 10))], zI t (q 8) 32 (fun _ => 0), zI t (q 9) 32 (fun _ => 0), zA t 2 (q 10) 32 (fun _ => none), zO 4 (q 11) [.ref ((q 12)), .ref ((q 13)), .ref ((q 14))], zI t (q 12) 64 (fun _ => 0), zI t (q 13) 64 (fun _ => 0), zA t 2 (q 14) 64 (fun _ => none), zO 0 (q 15) [.ref no, .int gr, .ref ((q 16)), .ref ((q 20)), .ref ((q 24)), .int 0, .int 0, .int sp], zO 4 (q 16) [.ref ((q 17)), .ref ((q 18)), .ref ((q 19))], zI t (q 17) 32 (fun _ => 0), zI t (q 18) 32 (fun _ => 0), zA t 2 (q 19) 32 (fun _ => none), zO 4 (q 20) [.ref ((q 21)), .ref ((q 22)), .ref ((q 23))], zI t (q 21) 4 (fun _ => 0), zI t (q 22) 4 (fun _ => 0), zA t 2 (q 23) 4 (fun _ => none), zA t 2 (q 24) 16 (fun _ => none), zO 2 nw [.ref rw, .int (nI (min 300 (z + 2 * xn (xp mk (nI i)) j))), .int x, .int y, .int 0], zA t 3 rw 300 g] H → va_D A [zO 3 (q 0) [.int (nI i), .ref nw, .int pr, .int 0, .int 0, .ref ((q 1)), .ref ((q 7)), .ref ((q 11)), .int 1, .int lz, .int bl, .int tm, .int le, .int 0, .ref ((q 15))], zO 5 (q 1) [.ref ((q 2)), .ref ((q 3)), .ref ((q 4)), .ref ((q 5)), .ref ((q 6)), .int 1], zJ t (q 2) 32 (fun _ => 1099511627776), zI t (q 3) 8 (fun _ => 0), zJ t (q 4) 8 (fun _ => 0), zI t (q 5) 4 (xm 1), zI t (q 6) 4 (xm mk), zO 4 (q 7) [.ref ((q 8)), .ref ((q 9)), .ref ((q 10))], zI t (q 8) 32 (fun _ => 0), zI t (q 9) 32 (fun _ => 0), zA t 2 (q 10) 32 (fun _ => none), zO 4 (q 11) [.ref ((q 12)), .ref ((q 13)), .ref ((q 14))], zI t (q 12) 64 (fun _ => 0), zI t (q 13) 64 (fun _ => 0), zA t 2 (q 14) 64 (fun _ => none), zO 0 (q 15) [.ref no, .int gr, .ref ((q 16)), .ref ((q 20)), .ref ((q 24)), .int 0, .int 0, .int sp], zO 4 (q 16) [.ref ((q 17)), .ref ((q 18)), .ref ((q 19))], zI t (q 17) 32 (fun _ => 0), zI t (q 18) 32 (fun _ => 0), zA t 2 (q 19) 32 (fun _ => none), zO 4 (q 20) [.ref ((q 21)), .ref ((q 22)), .ref ((q 23))], zI t (q 21) 4 (fun _ => 0), zI t (q 22) 4 (fun _ => 0), zA t 2 (q 23) 4 (fun _ => none), zA t 2 (q 24) 16 (fun _ => none), zO 2 nw [.ref rw, .int (nI (min 300 (z + 2 * xn (xp mk (nI i)) j))), .int x, .int y, .int 0], zA t 3 rw 300 g] → va_S A s.heap H locs → ∀ (ls : Array Slot), lv_has ls 5 [(2, .int (nI j)), (1, .int (xp mk (nI i))), (0, .ref ((q 0)))] → W p l e ({ frames := 3, cells := 14, slots := 112, locals := 72 } : Room) s m ([.ref ((q 0))] : List Value).toArray below meth c H locs (2 * j) (16 * j) (MQ below ((xe_v D vwCl (fun _ : Int32 × Int32 × (Nat → Option Nat) => True) (fun u => [zO 3 (q 0) [.int (nI i), .ref nw, .int pr, .int 0, .int 0, .ref ((q 1)), .ref ((q 7)), .ref ((q 11)), .int 1, .int lz, .int bl, .int tm, .int le, .int 0, .ref ((q 15))], zO 5 (q 1) [.ref ((q 2)), .ref ((q 3)), .ref ((q 4)), .ref ((q 5)), .ref ((q 6)), .int 1], zJ t (q 2) 32 (fun _ => 1099511627776), zI t (q 3) 8 (fun _ => 0), zJ t (q 4) 8 (fun _ => 0), zI t (q 5) 4 (xm 1), zI t (q 6) 4 (xm mk), zO 4 (q 7) [.ref ((q 8)), .ref ((q 9)), .ref ((q 10))], zI t (q 8) 32 (fun _ => 0), zI t (q 9) 32 (fun _ => 0), zA t 2 (q 10) 32 (fun _ => none), zO 4 (q 11) [.ref ((q 12)), .ref ((q 13)), .ref ((q 14))], zI t (q 12) 64 (fun _ => 0), zI t (q 13) 64 (fun _ => 0), zA t 2 (q 14) 64 (fun _ => none), zO 0 (q 15) [.ref no, .int gr, .ref ((q 16)), .ref ((q 20)), .ref ((q 24)), .int 0, .int 0, .int sp], zO 4 (q 16) [.ref ((q 17)), .ref ((q 18)), .ref ((q 19))], zI t (q 17) 32 (fun _ => 0), zI t (q 18) 32 (fun _ => 0), zA t 2 (q 19) 32 (fun _ => none), zO 4 (q 20) [.ref ((q 21)), .ref ((q 22)), .ref ((q 23))], zI t (q 21) 4 (fun _ => 0), zI t (q 22) 4 (fun _ => 0), zA t 2 (q 23) 4 (fun _ => none), zA t 2 (q 24) 16 (fun _ => none), zO 2 nw [.ref rw, .int (nI (min 300 (z + 2 * xn (xp mk (nI i)) 7))), .int u.1, .int u.2.1, .int 0], zA t 3 rw 300 u.2.2])) A) ([.ref ((q 0))] : List Value).toArray s 14 112 A) (F0 m 7 ls []) := by
    intro n
    induction n with
    | zero =>
      intro j x y g hi H locs hP hD hS ls hl
      refine lv_iload_n hx hb d_D_beat_7 rfl (lv_at hl 0 rfl) ?_
      refine lv_bipush (v := 7) hx hb d_D_beat_8 (by decide) ?_
      refine lv_icmp_ge (tgt := 87) hx hb d_D_beat_10 (by decide) (fun _ => ?_) (fun c_1 => absurd (nI_le (b := j) (a := 7) (by omega) (by omega)) c_1)
      obtain rfl : j = 7 := by omega
      refine lv_aload_n hx hb d_D_beat_87 rfl (lv_at hl 2 rfl) ?_
      refine va_get (ci := 3) (C := "QuorumStore$Node") (T := TX3) (N := 15) hx hb hts inX3 hown hK.2 hP 0 rfl rfl 3 (by decide) (hts _ k_201) (fun _ h9 => h9) rfl d_D_beat_88 ?_
      refine lv_iconst (v := 1) hx hb d_D_beat_91 (by decide) ?_
      refine lv_iadd hx hb d_D_beat_92 ?_
      refine lv_istore_n (lv' := [(2, .int ((0) + (1))), (1, .int (xp mk (nI i))), (0, .ref ((q 0)))]) hx hb d_D_beat_93 rfl hl (by decide) rfl (fun ls hl => ?_)
      refine lv_iload_n hx hb d_D_beat_94 rfl (lv_at hl 0 rfl) ?_
      refine lv_aload_n hx hb d_D_beat_95 rfl (lv_at hl 2 rfl) ?_
      refine va_get (ci := 3) (C := "QuorumStore$Node") (T := TX3) (N := 15) hx hb hts inX3 hown hK.2 hP 0 rfl rfl 3 (by decide) (hts _ k_201) (fun _ h9 => h9) rfl d_D_beat_96 ?_
      refine lv_iconst (v := 4) hx hb d_D_beat_99 (by decide) ?_
      refine lv_iadd hx hb d_D_beat_100 ?_
      refine lv_icmp_gt (tgt := 172) hx hb d_D_beat_101 (by decide) (fun c_2 => absurd c_2 (by decide)) (fun _ => ?_)
      refine lv_aload_n hx hb d_D_beat_104 rfl (lv_at hl 2 rfl) ?_
      refine va_get (ci := 3) (C := "QuorumStore$Node") (T := TX3) (N := 15) hx hb hts inX3 hown hK.2 hP 0 rfl rfl 14 (by decide) (hts _ k_222) (fun _ h9 => h9) rfl d_D_beat_105 ?_
      refine va_get (ci := 0) (C := "QuorumStore$Lead") (T := TX0) (N := 8) hx hb hts inX0 hown hK.2 hP 15 rfl rfl 3 (by decide) (hts _ k_141) (fun _ h9 => h9) rfl d_D_beat_108 ?_
      refine lv_iload_n hx hb d_D_beat_111 rfl (lv_at hl 0 rfl) ?_
      refine xr_call (xs_V (As := [.int ((0) + (1))]) (rest := []) Z (C_R_valueAt l D t (q 20) (q 21) (q 22) (q 23) 4 (by decide) _) m_R_valueAt k_420 k_421 k_422 rfl rfl ⟨Nat.le_of_ble_eq_true rfl, Nat.le_of_ble_eq_true rfl⟩ (va_recv hK.2 hP (ci := 4) (q0 := 20) rfl rfl) (xr_pre hK (hP.sub [20, 21, 22, 23] rfl)) rfl hl.1 rfl (Nat.le_of_ble_eq_true rfl) d_D_beat_112 ⟨Nat.le_of_ble_eq_true rfl, Nat.le_of_ble_eq_true rfl⟩) ?_
      refine lv_astore_nN (lv' := [(3, .null), (2, .int ((0) + (1))), (1, .int (xp mk (nI i))), (0, .ref ((q 0)))]) hx hb d_D_beat_115 rfl hl (by decide) rfl (fun ls hl => ?_)
      refine lv_aload_nN hx hb d_D_beat_116 rfl (lv_at hl 0 rfl) ?_
      refine lv_ifnullN (tgt := 166) hx hb d_D_beat_117 (by decide) ?_
      refine lv_iinc (v := ((0) + (1)) + 1) (lv' := [(2, .int (((0) + (1)) + 1)), (3, .null), (1, .int (xp mk (nI i))), (0, .ref ((q 0)))]) hx hb d_D_beat_166 hl (k := 1) rfl rfl (by decide) rfl (fun ls hl => ?_)
      refine lv_goto (tgt := 94) hx hb d_D_beat_169 (by decide) ?_
      refine lv_iload_n hx hb d_D_beat_94 rfl (lv_at hl 0 rfl) ?_
      refine lv_aload_n hx hb d_D_beat_95 rfl (lv_at hl 3 rfl) ?_
      refine va_get (ci := 3) (C := "QuorumStore$Node") (T := TX3) (N := 15) hx hb hts inX3 hown hK.2 hP 0 rfl rfl 3 (by decide) (hts _ k_201) (fun _ h9 => h9) rfl d_D_beat_96 ?_
      refine lv_iconst (v := 4) hx hb d_D_beat_99 (by decide) ?_
      refine lv_iadd hx hb d_D_beat_100 ?_
      refine lv_icmp_gt (tgt := 172) hx hb d_D_beat_101 (by decide) (fun c_4 => absurd c_4 (by decide)) (fun _ => ?_)
      refine lv_aload_n hx hb d_D_beat_104 rfl (lv_at hl 3 rfl) ?_
      refine va_get (ci := 3) (C := "QuorumStore$Node") (T := TX3) (N := 15) hx hb hts inX3 hown hK.2 hP 0 rfl rfl 14 (by decide) (hts _ k_222) (fun _ h9 => h9) rfl d_D_beat_105 ?_
      refine va_get (ci := 0) (C := "QuorumStore$Lead") (T := TX0) (N := 8) hx hb hts inX0 hown hK.2 hP 15 rfl rfl 3 (by decide) (hts _ k_141) (fun _ h9 => h9) rfl d_D_beat_108 ?_
      refine lv_iload_n hx hb d_D_beat_111 rfl (lv_at hl 0 rfl) ?_
      refine xr_call (xs_V (As := [.int (((0) + (1)) + 1)]) (rest := []) Z (C_R_valueAt l D t (q 20) (q 21) (q 22) (q 23) 4 (by decide) _) m_R_valueAt k_420 k_421 k_422 rfl rfl ⟨Nat.le_of_ble_eq_true rfl, Nat.le_of_ble_eq_true rfl⟩ (va_recv hK.2 hP (ci := 4) (q0 := 20) rfl rfl) (xr_pre hK (hP.sub [20, 21, 22, 23] rfl)) rfl hl.1 rfl (Nat.le_of_ble_eq_true rfl) d_D_beat_112 ⟨Nat.le_of_ble_eq_true rfl, Nat.le_of_ble_eq_true rfl⟩) ?_
      refine lv_astore_nN (lv' := [(3, .null), (2, .int (((0) + (1)) + 1)), (1, .int (xp mk (nI i))), (0, .ref ((q 0)))]) hx hb d_D_beat_115 rfl hl (by decide) rfl (fun ls hl => ?_)
      refine lv_aload_nN hx hb d_D_beat_116 rfl (lv_at hl 0 rfl) ?_
      refine lv_ifnullN (tgt := 166) hx hb d_D_beat_117 (by decide) ?_
      refine lv_iinc (v := (((0) + (1)) + 1) + 1) (lv' := [(2, .int ((((0) + (1)) + 1) + 1)), (3, .null), (1, .int (xp mk (nI i))), (0, .ref ((q 0)))]) hx hb d_D_beat_166 hl (k := 1) rfl rfl (by decide) rfl (fun ls hl => ?_)
      refine lv_goto (tgt := 94) hx hb d_D_beat_169 (by decide) ?_
      refine lv_iload_n hx hb d_D_beat_94 rfl (lv_at hl 0 rfl) ?_
      refine lv_aload_n hx hb d_D_beat_95 rfl (lv_at hl 3 rfl) ?_
      refine va_get (ci := 3) (C := "QuorumStore$Node") (T := TX3) (N := 15) hx hb hts inX3 hown hK.2 hP 0 rfl rfl 3 (by decide) (hts _ k_201) (fun _ h9 => h9) rfl d_D_beat_96 ?_
      refine lv_iconst (v := 4) hx hb d_D_beat_99 (by decide) ?_
      refine lv_iadd hx hb d_D_beat_100 ?_
      refine lv_icmp_gt (tgt := 172) hx hb d_D_beat_101 (by decide) (fun c_6 => absurd c_6 (by decide)) (fun _ => ?_)
      refine lv_aload_n hx hb d_D_beat_104 rfl (lv_at hl 3 rfl) ?_
      refine va_get (ci := 3) (C := "QuorumStore$Node") (T := TX3) (N := 15) hx hb hts inX3 hown hK.2 hP 0 rfl rfl 14 (by decide) (hts _ k_222) (fun _ h9 => h9) rfl d_D_beat_105 ?_
      refine va_get (ci := 0) (C := "QuorumStore$Lead") (T := TX0) (N := 8) hx hb hts inX0 hown hK.2 hP 15 rfl rfl 3 (by decide) (hts _ k_141) (fun _ h9 => h9) rfl d_D_beat_108 ?_
      refine lv_iload_n hx hb d_D_beat_111 rfl (lv_at hl 0 rfl) ?_
      refine xr_call (xs_V (As := [.int ((((0) + (1)) + 1) + 1)]) (rest := []) Z (C_R_valueAt l D t (q 20) (q 21) (q 22) (q 23) 4 (by decide) _) m_R_valueAt k_420 k_421 k_422 rfl rfl ⟨Nat.le_of_ble_eq_true rfl, Nat.le_of_ble_eq_true rfl⟩ (va_recv hK.2 hP (ci := 4) (q0 := 20) rfl rfl) (xr_pre hK (hP.sub [20, 21, 22, 23] rfl)) rfl hl.1 rfl (Nat.le_of_ble_eq_true rfl) d_D_beat_112 ⟨Nat.le_of_ble_eq_true rfl, Nat.le_of_ble_eq_true rfl⟩) ?_
      refine lv_astore_nN (lv' := [(3, .null), (2, .int ((((0) + (1)) + 1) + 1)), (1, .int (xp mk (nI i))), (0, .ref ((q 0)))]) hx hb d_D_beat_115 rfl hl (by decide) rfl (fun ls hl => ?_)
      refine lv_aload_nN hx hb d_D_beat_116 rfl (lv_at hl 0 rfl) ?_
      refine lv_ifnullN (tgt := 166) hx hb d_D_beat_117 (by decide) ?_
      refine lv_iinc (v := ((((0) + (1)) + 1) + 1) + 1) (lv' := [(2, .int (((((0) + (1)) + 1) + 1) + 1)), (3, .null), (1, .int (xp mk (nI i))), (0, .ref ((q 0)))]) hx hb d_D_beat_166 hl (k := 1) rfl rfl (by decide) rfl (fun ls hl => ?_)
      refine lv_goto (tgt := 94) hx hb d_D_beat_169 (by decide) ?_
      refine lv_iload_n hx hb d_D_beat_94 rfl (lv_at hl 0 rfl) ?_
      refine lv_aload_n hx hb d_D_beat_95 rfl (lv_at hl 3 rfl) ?_
      refine va_get (ci := 3) (C := "QuorumStore$Node") (T := TX3) (N := 15) hx hb hts inX3 hown hK.2 hP 0 rfl rfl 3 (by decide) (hts _ k_201) (fun _ h9 => h9) rfl d_D_beat_96 ?_
      refine lv_iconst (v := 4) hx hb d_D_beat_99 (by decide) ?_
      refine lv_iadd hx hb d_D_beat_100 ?_
      refine lv_icmp_gt (tgt := 172) hx hb d_D_beat_101 (by decide) (fun c_8 => absurd c_8 (by decide)) (fun _ => ?_)
      refine lv_aload_n hx hb d_D_beat_104 rfl (lv_at hl 3 rfl) ?_
      refine va_get (ci := 3) (C := "QuorumStore$Node") (T := TX3) (N := 15) hx hb hts inX3 hown hK.2 hP 0 rfl rfl 14 (by decide) (hts _ k_222) (fun _ h9 => h9) rfl d_D_beat_105 ?_
      refine va_get (ci := 0) (C := "QuorumStore$Lead") (T := TX0) (N := 8) hx hb hts inX0 hown hK.2 hP 15 rfl rfl 3 (by decide) (hts _ k_141) (fun _ h9 => h9) rfl d_D_beat_108 ?_
      refine lv_iload_n hx hb d_D_beat_111 rfl (lv_at hl 0 rfl) ?_
      refine xr_call (xs_V (As := [.int (((((0) + (1)) + 1) + 1) + 1)]) (rest := []) Z (C_R_valueAt l D t (q 20) (q 21) (q 22) (q 23) 4 (by decide) _) m_R_valueAt k_420 k_421 k_422 rfl rfl ⟨Nat.le_of_ble_eq_true rfl, Nat.le_of_ble_eq_true rfl⟩ (va_recv hK.2 hP (ci := 4) (q0 := 20) rfl rfl) (xr_pre hK (hP.sub [20, 21, 22, 23] rfl)) rfl hl.1 rfl (Nat.le_of_ble_eq_true rfl) d_D_beat_112 ⟨Nat.le_of_ble_eq_true rfl, Nat.le_of_ble_eq_true rfl⟩) ?_
      refine lv_astore_nN (lv' := [(3, .null), (2, .int (((((0) + (1)) + 1) + 1) + 1)), (1, .int (xp mk (nI i))), (0, .ref ((q 0)))]) hx hb d_D_beat_115 rfl hl (by decide) rfl (fun ls hl => ?_)
      refine lv_aload_nN hx hb d_D_beat_116 rfl (lv_at hl 0 rfl) ?_
      refine lv_ifnullN (tgt := 166) hx hb d_D_beat_117 (by decide) ?_
      refine lv_iinc (v := (((((0) + (1)) + 1) + 1) + 1) + 1) (lv' := [(2, .int ((((((0) + (1)) + 1) + 1) + 1) + 1)), (3, .null), (1, .int (xp mk (nI i))), (0, .ref ((q 0)))]) hx hb d_D_beat_166 hl (k := 1) rfl rfl (by decide) rfl (fun ls hl => ?_)
      refine lv_goto (tgt := 94) hx hb d_D_beat_169 (by decide) ?_
      refine lv_iload_n hx hb d_D_beat_94 rfl (lv_at hl 0 rfl) ?_
      refine lv_aload_n hx hb d_D_beat_95 rfl (lv_at hl 3 rfl) ?_
      refine va_get (ci := 3) (C := "QuorumStore$Node") (T := TX3) (N := 15) hx hb hts inX3 hown hK.2 hP 0 rfl rfl 3 (by decide) (hts _ k_201) (fun _ h9 => h9) rfl d_D_beat_96 ?_
      refine lv_iconst (v := 4) hx hb d_D_beat_99 (by decide) ?_
      refine lv_iadd hx hb d_D_beat_100 ?_
      refine lv_icmp_gt (tgt := 172) hx hb d_D_beat_101 (by decide) (fun _ => ?_) (fun c_10 => absurd (by decide) c_10)
      refine W.widen (k := 14) (n := 112) (by omega) (by omega) ?_
      exact W.vret hx hb hr (fun t ht hW => ⟨⟨(x, y, g), rfl, trivial, by rw [ht]; exact hP, hD⟩, hS.F ht⟩) hS.2.2 d_D_beat_172
    | succ n ih =>
      intro j x y g hi H locs hP hD hS ls hl
      refine lv_iload_n hx hb d_D_beat_7 rfl (lv_at hl 0 rfl) ?_
      refine lv_bipush (v := 7) hx hb d_D_beat_8 (by decide) ?_
      refine lv_icmp_ge (tgt := 87) hx hb d_D_beat_10 (by decide) (fun c_11 => absurd c_11 (nI_ge (a := j) (b := 7) (by omega) (by omega))) (fun _ => ?_)
      refine lv_iload_n hx hb d_D_beat_13 rfl (lv_at hl 1 rfl) ?_
      refine lv_iload_n hx hb d_D_beat_14 rfl (lv_at hl 0 rfl) ?_
      refine xr_call (xs_SN (As := [.int (xp mk (nI i)), .int (nI j)]) (rest := []) Z (C_Q_isIn l D t _ _) m_Q_isIn k_368 k_369 rfl rfl ⟨Nat.le_of_ble_eq_true rfl, Nat.le_of_ble_eq_true rfl⟩ (xr_pre hK (hP.sub [] rfl)) rfl hl.1 rfl (Nat.le_of_ble_eq_true rfl) d_D_beat_15 ⟨show 2 * j + 0 ≤ 14 by omega, show 16 * j + 0 ≤ 112 by omega⟩) ?_
      refine lv_if_eq (tgt := 44) hx hb d_D_beat_18 (by decide) (fun c_12 => ?_) (fun c_12 => ?_)
      · refine lv_iload_n hx hb d_D_beat_44 rfl (lv_at hl 1 rfl) ?_
        refine lv_aload_n hx hb d_D_beat_45 rfl (lv_at hl 2 rfl) ?_
        refine va_get (ci := 3) (C := "QuorumStore$Node") (T := TX3) (N := 15) hx hb hts inX3 hown hK.2 hP 0 rfl rfl 14 (by decide) (hts _ k_222) (fun _ h9 => h9) rfl d_D_beat_46 ?_
        refine va_get (ci := 0) (C := "QuorumStore$Lead") (T := TX0) (N := 8) hx hb hts inX0 hown hK.2 hP 15 rfl rfl 1 (by decide) (hts _ k_136) (fun _ h9 => h9) rfl d_D_beat_49 ?_
        refine lv_iconst (v := (-1)) hx hb d_D_beat_52 (by decide) ?_
        refine lv_ixor hx hb d_D_beat_53 ?_
        refine lv_iand hx hb d_D_beat_54 ?_
        refine lv_iload_n hx hb d_D_beat_55 rfl (lv_at hl 0 rfl) ?_
        refine xr_call (xs_SN (As := [.int ((xp mk (nI i)) &&& ((gr) ^^^ ((-1)))), .int (nI j)]) (rest := []) Z (C_Q_isIn l D t _ _) m_Q_isIn k_368 k_369 rfl rfl ⟨Nat.le_of_ble_eq_true rfl, Nat.le_of_ble_eq_true rfl⟩ (xr_pre hK (hP.sub [] rfl)) rfl hl.1 rfl (Nat.le_of_ble_eq_true rfl) d_D_beat_56 ⟨show 2 * j + 0 ≤ 14 by omega, show 16 * j + 0 ≤ 112 by omega⟩) ?_
        refine lv_if_eq (tgt := 81) hx hb d_D_beat_59 (by decide) (fun _ => ?_) (fun c_13 => absurd ((show xb (xp mk (nI i) &&& (gr ^^^ (-1))) (nI j) = xb (xp mk (nI i)) (nI j) from by rw [hgr, xp_and]).trans c_12) c_13)
        refine lv_iinc (v := nI (j + 1)) (lv' := [(2, .int (nI (j + 1))), (1, .int (xp mk (nI i))), (0, .ref ((q 0)))]) hx hb d_D_beat_81 hl (k := 0) rfl (nI_1 j) (by decide) rfl (fun ls hl => ?_)
        refine lv_goto (tgt := 7) hx hb d_D_beat_84 (by decide) ?_
        refine W.widen (k := 2 * (j + 1)) (n := 16 * (j + 1)) (by omega) (by omega) ?_
        have e9 : xn (xp mk (nI i)) (j + 1) = xn (xp mk (nI i)) j := xn_0 c_12
        exact ih (j + 1) x y g (by omega) H locs (by rw [e9]; exact hP) (by rw [e9]; exact hD) hS ls (lv_sub hl [0, 1, 2] rfl)
      · refine lv_aload_n hx hb d_D_beat_21 rfl (lv_at hl 2 rfl) ?_
        refine va_get (ci := 3) (C := "QuorumStore$Node") (T := TX3) (N := 15) hx hb hts inX3 hown hK.2 hP 0 rfl rfl 1 (by decide) (hts _ k_198) (fun _ h9 => h9) rfl d_D_beat_22 ?_
        refine lv_bipush (v := 6) hx hb d_D_beat_25 (by decide) ?_
        refine lv_aload_n hx hb d_D_beat_27 rfl (lv_at hl 2 rfl) ?_
        refine va_get (ci := 3) (C := "QuorumStore$Node") (T := TX3) (N := 15) hx hb hts inX3 hown hK.2 hP 0 rfl rfl 0 (by decide) (hts _ k_197) (fun _ h9 => h9) rfl d_D_beat_28 ?_
        refine lv_iload_n hx hb d_D_beat_31 rfl (lv_at hl 0 rfl) ?_
        refine lv_aload_n hx hb d_D_beat_32 rfl (lv_at hl 2 rfl) ?_
        refine va_get (ci := 3) (C := "QuorumStore$Node") (T := TX3) (N := 15) hx hb hts inX3 hown hK.2 hP 0 rfl rfl 10 (by decide) (hts _ k_215) (fun _ h9 => h9) rfl d_D_beat_33 ?_
        refine lv_aload_n hx hb d_D_beat_36 rfl (lv_at hl 2 rfl) ?_
        refine va_get (ci := 3) (C := "QuorumStore$Node") (T := TX3) (N := 15) hx hb hts inX3 hown hK.2 hP 0 rfl rfl 3 (by decide) (hts _ k_201) (fun _ h9 => h9) rfl d_D_beat_37 ?_
        refine lv_null hx hb d_D_beat_40 ?_
        refine xe_callv (wr := [zO 3 (q 0) [.int (nI i), .ref nw, .int pr, .int 0, .int 0, .ref ((q 1)), .ref ((q 7)), .ref ((q 11)), .int 1, .int lz, .int bl, .int tm, .int le, .int 0, .ref ((q 15))], zO 5 (q 1) [.ref ((q 2)), .ref ((q 3)), .ref ((q 4)), .ref ((q 5)), .ref ((q 6)), .int 1], zJ t (q 2) 32 (fun _ => 1099511627776), zI t (q 3) 8 (fun _ => 0), zJ t (q 4) 8 (fun _ => 0), zI t (q 5) 4 (xm 1), zI t (q 6) 4 (xm mk), zO 4 (q 7) [.ref ((q 8)), .ref ((q 9)), .ref ((q 10))], zI t (q 8) 32 (fun _ => 0), zI t (q 9) 32 (fun _ => 0), zA t 2 (q 10) 32 (fun _ => none), zO 4 (q 11) [.ref ((q 12)), .ref ((q 13)), .ref ((q 14))], zI t (q 12) 64 (fun _ => 0), zI t (q 13) 64 (fun _ => 0), zA t 2 (q 14) 64 (fun _ => none), zO 0 (q 15) [.ref no, .int gr, .ref ((q 16)), .ref ((q 20)), .ref ((q 24)), .int 0, .int 0, .int sp], zO 4 (q 16) [.ref ((q 17)), .ref ((q 18)), .ref ((q 19))], zI t (q 17) 32 (fun _ => 0), zI t (q 18) 32 (fun _ => 0), zA t 2 (q 19) 32 (fun _ => none), zO 4 (q 20) [.ref ((q 21)), .ref ((q 22)), .ref ((q 23))], zI t (q 21) 4 (fun _ => 0), zI t (q 22) 4 (fun _ => 0), zA t 2 (q 23) 4 (fun _ => none), zA t 2 (q 24) 16 (fun _ => none)]) (xs_V (As := [.int 6, .int (nI i), .int (nI j), .int bl, .int 0, .null]) (rest := []) Z (C_N_sendPlain l D t nw rw (min 300 (z + 2 * xn (xp mk (nI i)) j)) (by omega) x y g _ _ _ _ _ H.size) m_N_sendPlain k_371 k_372 k_373 rfl rfl ⟨Nat.le_of_ble_eq_true rfl, Nat.le_of_ble_eq_true rfl⟩ (va_recv hK.2 hP (ci := 2) (q0 := 25) rfl rfl) (xe_pre hK (hP.sub [25, 26] rfl) (hD.sub [25, 26] (by decide) rfl)) rfl hl.1 rfl (Nat.le_of_ble_eq_true rfl) d_D_beat_41 ⟨show 2 * j + 1 ≤ 14 by omega, show 16 * j + 8 ≤ 112 by omega⟩) hP hD hS hA [25, 26] [0, 1, 2, 3, 4, 5, 6, 7, 8, 9, 10, 11, 12, 13, 14, 15, 16, 17, 18, 19, 20, 21, 22, 23, 24] rfl rfl (by decide) (by decide) (fun u_ H locs _ hP hD hS => ?_)
        obtain ⟨x2, y2, g2⟩ := u_
        have hP : va_P D vwCl [zO 3 (q 0) [.int (nI i), .ref nw, .int pr, .int 0, .int 0, .ref ((q 1)), .ref ((q 7)), .ref ((q 11)), .int 1, .int lz, .int bl, .int tm, .int le, .int 0, .ref ((q 15))], zO 5 (q 1) [.ref ((q 2)), .ref ((q 3)), .ref ((q 4)), .ref ((q 5)), .ref ((q 6)), .int 1], zJ t (q 2) 32 (fun _ => 1099511627776), zI t (q 3) 8 (fun _ => 0), zJ t (q 4) 8 (fun _ => 0), zI t (q 5) 4 (xm 1), zI t (q 6) 4 (xm mk), zO 4 (q 7) [.ref ((q 8)), .ref ((q 9)), .ref ((q 10))], zI t (q 8) 32 (fun _ => 0), zI t (q 9) 32 (fun _ => 0), zA t 2 (q 10) 32 (fun _ => none), zO 4 (q 11) [.ref ((q 12)), .ref ((q 13)), .ref ((q 14))], zI t (q 12) 64 (fun _ => 0), zI t (q 13) 64 (fun _ => 0), zA t 2 (q 14) 64 (fun _ => none), zO 0 (q 15) [.ref no, .int gr, .ref ((q 16)), .ref ((q 20)), .ref ((q 24)), .int 0, .int 0, .int sp], zO 4 (q 16) [.ref ((q 17)), .ref ((q 18)), .ref ((q 19))], zI t (q 17) 32 (fun _ => 0), zI t (q 18) 32 (fun _ => 0), zA t 2 (q 19) 32 (fun _ => none), zO 4 (q 20) [.ref ((q 21)), .ref ((q 22)), .ref ((q 23))], zI t (q 21) 4 (fun _ => 0), zI t (q 22) 4 (fun _ => 0), zA t 2 (q 23) 4 (fun _ => none), zA t 2 (q 24) 16 (fun _ => none), zO 2 nw [.ref rw, .int (nI (min 300 (min 300 (z + 2 * xn (xp mk (nI i)) j) + 1))), .int x2, .int y2, .int 0], zA t 3 rw 300 g2] H := hP
        have hD : va_D A [zO 3 (q 0) [.int (nI i), .ref nw, .int pr, .int 0, .int 0, .ref ((q 1)), .ref ((q 7)), .ref ((q 11)), .int 1, .int lz, .int bl, .int tm, .int le, .int 0, .ref ((q 15))], zO 5 (q 1) [.ref ((q 2)), .ref ((q 3)), .ref ((q 4)), .ref ((q 5)), .ref ((q 6)), .int 1], zJ t (q 2) 32 (fun _ => 1099511627776), zI t (q 3) 8 (fun _ => 0), zJ t (q 4) 8 (fun _ => 0), zI t (q 5) 4 (xm 1), zI t (q 6) 4 (xm mk), zO 4 (q 7) [.ref ((q 8)), .ref ((q 9)), .ref ((q 10))], zI t (q 8) 32 (fun _ => 0), zI t (q 9) 32 (fun _ => 0), zA t 2 (q 10) 32 (fun _ => none), zO 4 (q 11) [.ref ((q 12)), .ref ((q 13)), .ref ((q 14))], zI t (q 12) 64 (fun _ => 0), zI t (q 13) 64 (fun _ => 0), zA t 2 (q 14) 64 (fun _ => none), zO 0 (q 15) [.ref no, .int gr, .ref ((q 16)), .ref ((q 20)), .ref ((q 24)), .int 0, .int 0, .int sp], zO 4 (q 16) [.ref ((q 17)), .ref ((q 18)), .ref ((q 19))], zI t (q 17) 32 (fun _ => 0), zI t (q 18) 32 (fun _ => 0), zA t 2 (q 19) 32 (fun _ => none), zO 4 (q 20) [.ref ((q 21)), .ref ((q 22)), .ref ((q 23))], zI t (q 21) 4 (fun _ => 0), zI t (q 22) 4 (fun _ => 0), zA t 2 (q 23) 4 (fun _ => none), zA t 2 (q 24) 16 (fun _ => none), zO 2 nw [.ref rw, .int (nI (min 300 (min 300 (z + 2 * xn (xp mk (nI i)) j) + 1))), .int x2, .int y2, .int 0], zA t 3 rw 300 g2] := hD
        refine lv_iload_n hx hb d_D_beat_44 rfl (lv_at hl 1 rfl) ?_
        refine lv_aload_n hx hb d_D_beat_45 rfl (lv_at hl 2 rfl) ?_
        refine va_get (ci := 3) (C := "QuorumStore$Node") (T := TX3) (N := 15) hx hb hts inX3 hown hK.2 hP 0 rfl rfl 14 (by decide) (hts _ k_222) (fun _ h9 => h9) rfl d_D_beat_46 ?_
        refine va_get (ci := 0) (C := "QuorumStore$Lead") (T := TX0) (N := 8) hx hb hts inX0 hown hK.2 hP 15 rfl rfl 1 (by decide) (hts _ k_136) (fun _ h9 => h9) rfl d_D_beat_49 ?_
        refine lv_iconst (v := (-1)) hx hb d_D_beat_52 (by decide) ?_
        refine lv_ixor hx hb d_D_beat_53 ?_
        refine lv_iand hx hb d_D_beat_54 ?_
        refine lv_iload_n hx hb d_D_beat_55 rfl (lv_at hl 0 rfl) ?_
        refine xr_call (xs_SN (As := [.int ((xp mk (nI i)) &&& ((gr) ^^^ ((-1)))), .int (nI j)]) (rest := []) Z (C_Q_isIn l D t _ _) m_Q_isIn k_368 k_369 rfl rfl ⟨Nat.le_of_ble_eq_true rfl, Nat.le_of_ble_eq_true rfl⟩ (xr_pre hK (hP.sub [] rfl)) rfl hl.1 rfl (Nat.le_of_ble_eq_true rfl) d_D_beat_56 ⟨show 2 * j + 1 + 0 ≤ 14 by omega, show 16 * j + 8 + 0 ≤ 112 by omega⟩) ?_
        refine lv_if_eq (tgt := 81) hx hb d_D_beat_59 (by decide) (fun c_14 => absurd c_14 (fun h9 => c_12 ((show xb (xp mk (nI i) &&& (gr ^^^ (-1))) (nI j) = xb (xp mk (nI i)) (nI j) from by rw [hgr, xp_and]).symm.trans h9))) (fun _ => ?_)
        refine lv_aload_n hx hb d_D_beat_62 rfl (lv_at hl 2 rfl) ?_
        refine va_get (ci := 3) (C := "QuorumStore$Node") (T := TX3) (N := 15) hx hb hts inX3 hown hK.2 hP 0 rfl rfl 1 (by decide) (hts _ k_198) (fun _ h9 => h9) rfl d_D_beat_63 ?_
        refine lv_iconst (v := 1) hx hb d_D_beat_66 (by decide) ?_
        refine lv_aload_n hx hb d_D_beat_67 rfl (lv_at hl 2 rfl) ?_
        refine va_get (ci := 3) (C := "QuorumStore$Node") (T := TX3) (N := 15) hx hb hts inX3 hown hK.2 hP 0 rfl rfl 0 (by decide) (hts _ k_197) (fun _ h9 => h9) rfl d_D_beat_68 ?_
        refine lv_iload_n hx hb d_D_beat_71 rfl (lv_at hl 0 rfl) ?_
        refine lv_aload_n hx hb d_D_beat_72 rfl (lv_at hl 2 rfl) ?_
        refine va_get (ci := 3) (C := "QuorumStore$Node") (T := TX3) (N := 15) hx hb hts inX3 hown hK.2 hP 0 rfl rfl 10 (by decide) (hts _ k_215) (fun _ h9 => h9) rfl d_D_beat_73 ?_
        refine lv_iconst (v := 0) hx hb d_D_beat_76 (by decide) ?_
        refine lv_null hx hb d_D_beat_77 ?_
        refine xe_callv (wr := [zO 3 (q 0) [.int (nI i), .ref nw, .int pr, .int 0, .int 0, .ref ((q 1)), .ref ((q 7)), .ref ((q 11)), .int 1, .int lz, .int bl, .int tm, .int le, .int 0, .ref ((q 15))], zO 5 (q 1) [.ref ((q 2)), .ref ((q 3)), .ref ((q 4)), .ref ((q 5)), .ref ((q 6)), .int 1], zJ t (q 2) 32 (fun _ => 1099511627776), zI t (q 3) 8 (fun _ => 0), zJ t (q 4) 8 (fun _ => 0), zI t (q 5) 4 (xm 1), zI t (q 6) 4 (xm mk), zO 4 (q 7) [.ref ((q 8)), .ref ((q 9)), .ref ((q 10))], zI t (q 8) 32 (fun _ => 0), zI t (q 9) 32 (fun _ => 0), zA t 2 (q 10) 32 (fun _ => none), zO 4 (q 11) [.ref ((q 12)), .ref ((q 13)), .ref ((q 14))], zI t (q 12) 64 (fun _ => 0), zI t (q 13) 64 (fun _ => 0), zA t 2 (q 14) 64 (fun _ => none), zO 0 (q 15) [.ref no, .int gr, .ref ((q 16)), .ref ((q 20)), .ref ((q 24)), .int 0, .int 0, .int sp], zO 4 (q 16) [.ref ((q 17)), .ref ((q 18)), .ref ((q 19))], zI t (q 17) 32 (fun _ => 0), zI t (q 18) 32 (fun _ => 0), zA t 2 (q 19) 32 (fun _ => none), zO 4 (q 20) [.ref ((q 21)), .ref ((q 22)), .ref ((q 23))], zI t (q 21) 4 (fun _ => 0), zI t (q 22) 4 (fun _ => 0), zA t 2 (q 23) 4 (fun _ => none), zA t 2 (q 24) 16 (fun _ => none)]) (xs_V (As := [.int 1, .int (nI i), .int (nI j), .int bl, .int 0, .null]) (rest := []) Z (C_N_sendPlain l D t nw rw (min 300 (min 300 (z + 2 * xn (xp mk (nI i)) j) + 1)) (by omega) x2 y2 g2 _ _ _ _ _ H.size) m_N_sendPlain k_371 k_372 k_373 rfl rfl ⟨Nat.le_of_ble_eq_true rfl, Nat.le_of_ble_eq_true rfl⟩ (va_recv hK.2 hP (ci := 2) (q0 := 25) rfl rfl) (xe_pre hK (hP.sub [25, 26] rfl) (hD.sub [25, 26] (by decide) rfl)) rfl hl.1 rfl (Nat.le_of_ble_eq_true rfl) d_D_beat_78 ⟨show 2 * j + 1 + 1 ≤ 14 by omega, show 16 * j + 8 + 8 ≤ 112 by omega⟩) hP hD hS hA [25, 26] [0, 1, 2, 3, 4, 5, 6, 7, 8, 9, 10, 11, 12, 13, 14, 15, 16, 17, 18, 19, 20, 21, 22, 23, 24] rfl rfl (by decide) (by decide) (fun u_ H locs _ hP hD hS => ?_)
        obtain ⟨x3, y3, g3⟩ := u_
        have hP : va_P D vwCl [zO 3 (q 0) [.int (nI i), .ref nw, .int pr, .int 0, .int 0, .ref ((q 1)), .ref ((q 7)), .ref ((q 11)), .int 1, .int lz, .int bl, .int tm, .int le, .int 0, .ref ((q 15))], zO 5 (q 1) [.ref ((q 2)), .ref ((q 3)), .ref ((q 4)), .ref ((q 5)), .ref ((q 6)), .int 1], zJ t (q 2) 32 (fun _ => 1099511627776), zI t (q 3) 8 (fun _ => 0), zJ t (q 4) 8 (fun _ => 0), zI t (q 5) 4 (xm 1), zI t (q 6) 4 (xm mk), zO 4 (q 7) [.ref ((q 8)), .ref ((q 9)), .ref ((q 10))], zI t (q 8) 32 (fun _ => 0), zI t (q 9) 32 (fun _ => 0), zA t 2 (q 10) 32 (fun _ => none), zO 4 (q 11) [.ref ((q 12)), .ref ((q 13)), .ref ((q 14))], zI t (q 12) 64 (fun _ => 0), zI t (q 13) 64 (fun _ => 0), zA t 2 (q 14) 64 (fun _ => none), zO 0 (q 15) [.ref no, .int gr, .ref ((q 16)), .ref ((q 20)), .ref ((q 24)), .int 0, .int 0, .int sp], zO 4 (q 16) [.ref ((q 17)), .ref ((q 18)), .ref ((q 19))], zI t (q 17) 32 (fun _ => 0), zI t (q 18) 32 (fun _ => 0), zA t 2 (q 19) 32 (fun _ => none), zO 4 (q 20) [.ref ((q 21)), .ref ((q 22)), .ref ((q 23))], zI t (q 21) 4 (fun _ => 0), zI t (q 22) 4 (fun _ => 0), zA t 2 (q 23) 4 (fun _ => none), zA t 2 (q 24) 16 (fun _ => none), zO 2 nw [.ref rw, .int (nI (min 300 (min 300 (min 300 (z + 2 * xn (xp mk (nI i)) j) + 1) + 1))), .int x3, .int y3, .int 0], zA t 3 rw 300 g3] H := hP
        have hD : va_D A [zO 3 (q 0) [.int (nI i), .ref nw, .int pr, .int 0, .int 0, .ref ((q 1)), .ref ((q 7)), .ref ((q 11)), .int 1, .int lz, .int bl, .int tm, .int le, .int 0, .ref ((q 15))], zO 5 (q 1) [.ref ((q 2)), .ref ((q 3)), .ref ((q 4)), .ref ((q 5)), .ref ((q 6)), .int 1], zJ t (q 2) 32 (fun _ => 1099511627776), zI t (q 3) 8 (fun _ => 0), zJ t (q 4) 8 (fun _ => 0), zI t (q 5) 4 (xm 1), zI t (q 6) 4 (xm mk), zO 4 (q 7) [.ref ((q 8)), .ref ((q 9)), .ref ((q 10))], zI t (q 8) 32 (fun _ => 0), zI t (q 9) 32 (fun _ => 0), zA t 2 (q 10) 32 (fun _ => none), zO 4 (q 11) [.ref ((q 12)), .ref ((q 13)), .ref ((q 14))], zI t (q 12) 64 (fun _ => 0), zI t (q 13) 64 (fun _ => 0), zA t 2 (q 14) 64 (fun _ => none), zO 0 (q 15) [.ref no, .int gr, .ref ((q 16)), .ref ((q 20)), .ref ((q 24)), .int 0, .int 0, .int sp], zO 4 (q 16) [.ref ((q 17)), .ref ((q 18)), .ref ((q 19))], zI t (q 17) 32 (fun _ => 0), zI t (q 18) 32 (fun _ => 0), zA t 2 (q 19) 32 (fun _ => none), zO 4 (q 20) [.ref ((q 21)), .ref ((q 22)), .ref ((q 23))], zI t (q 21) 4 (fun _ => 0), zI t (q 22) 4 (fun _ => 0), zA t 2 (q 23) 4 (fun _ => none), zA t 2 (q 24) 16 (fun _ => none), zO 2 nw [.ref rw, .int (nI (min 300 (min 300 (min 300 (z + 2 * xn (xp mk (nI i)) j) + 1) + 1))), .int x3, .int y3, .int 0], zA t 3 rw 300 g3] := hD
        refine lv_iinc (v := nI (j + 1)) (lv' := [(2, .int (nI (j + 1))), (1, .int (xp mk (nI i))), (0, .ref ((q 0)))]) hx hb d_D_beat_81 hl (k := 0) rfl (nI_1 j) (by decide) rfl (fun ls hl => ?_)
        refine lv_goto (tgt := 7) hx hb d_D_beat_84 (by decide) ?_
        refine W.widen (k := 2 * (j + 1)) (n := 16 * (j + 1)) (by omega) (by omega) ?_
        have e9 : min 300 (z + 2 * xn (xp mk (nI i)) (j + 1)) = min 300 (min 300 (min 300 (z + 2 * xn (xp mk (nI i)) j) + 1) + 1) := by rw [xn_1 c_12]; omega
        exact ih (j + 1) x3 y3 g3 (by omega) H locs (by rw [e9]; exact hP) (by rw [e9]; exact hD) hS ls (lv_sub hl [0, 1, 2] rfl)
  exact loop 7 0 x y g (by omega) _ _ (by rw [show min 300 (z + 2 * xn (xp mk (nI i)) 0) = z from by show min 300 (z + 2 * 0) = z; omega]; exact hP) (by rw [show min 300 (z + 2 * xn (xp mk (nI i)) 0) = z from by show min 300 (z + 2 * 0) = z; omega]; exact hD) hS ls (lv_sub hl [0, 1, 2] rfl)
theorem d_D_beginToLead_0 : decode c_D_beginToLead 0 = .ok (.aload_n 0, 1) := by decide +kernel
theorem d_D_beginToLead_1 : decode c_D_beginToLead 1 = .ok (.getfield 120, 3) := by decide +kernel
theorem d_D_beginToLead_4 : decode c_D_beginToLead 4 = .ok (.aload_n 0, 1) := by decide +kernel
theorem d_D_beginToLead_5 : decode c_D_beginToLead 5 = .ok (.getfield 61, 3) := by decide +kernel
theorem d_D_beginToLead_8 : decode c_D_beginToLead 8 = .ok (.aload_n 0, 1) := by decide +kernel
theorem d_D_beginToLead_9 : decode c_D_beginToLead 9 = .ok (.getfield 64, 3) := by decide +kernel
theorem d_D_beginToLead_12 : decode c_D_beginToLead 12 = .ok (.invokestatic 123, 3) := by decide +kernel
theorem d_D_beginToLead_15 : decode c_D_beginToLead 15 = .ok (.invokestatic 123, 3) := by decide +kernel
theorem d_D_beginToLead_18 : decode c_D_beginToLead 18 = .ok (.istore_n 1, 1) := by decide +kernel
theorem d_D_beginToLead_19 : decode c_D_beginToLead 19 = .ok (.aload_n 0, 1) := by decide +kernel
theorem d_D_beginToLead_20 : decode c_D_beginToLead 20 = .ok (.bipush 8, 2) := by decide +kernel
theorem d_D_beginToLead_22 : decode c_D_beginToLead 22 = .ok (.iload_n 1, 1) := by decide +kernel
theorem d_D_beginToLead_23 : decode c_D_beginToLead 23 = .ok (.bipush 8, 2) := by decide +kernel
theorem d_D_beginToLead_25 : decode c_D_beginToLead 25 = .ok (.idiv, 1) := by decide +kernel
theorem d_D_beginToLead_26 : decode c_D_beginToLead 26 = .ok (.iconst 1, 1) := by decide +kernel
theorem d_D_beginToLead_27 : decode c_D_beginToLead 27 = .ok (.iadd, 1) := by decide +kernel
theorem d_D_beginToLead_28 : decode c_D_beginToLead 28 = .ok (.imul, 1) := by decide +kernel
theorem d_D_beginToLead_29 : decode c_D_beginToLead 29 = .ok (.aload_n 0, 1) := by decide +kernel
theorem d_D_beginToLead_30 : decode c_D_beginToLead 30 = .ok (.getfield 30, 3) := by decide +kernel
theorem d_D_beginToLead_33 : decode c_D_beginToLead 33 = .ok (.iadd, 1) := by decide +kernel
theorem d_D_beginToLead_34 : decode c_D_beginToLead 34 = .ok (.putfield 61, 3) := by decide +kernel
theorem d_D_beginToLead_37 : decode c_D_beginToLead 37 = .ok (.aload_n 0, 1) := by decide +kernel
theorem d_D_beginToLead_38 : decode c_D_beginToLead 38 = .ok (.getfield 26, 3) := by decide +kernel
theorem d_D_beginToLead_41 : decode c_D_beginToLead 41 = .ok (.invokevirtual 67, 3) := by decide +kernel
theorem d_D_beginToLead_44 : decode c_D_beginToLead 44 = .ok (.aload_n 0, 1) := by decide +kernel
theorem d_D_beginToLead_45 : decode c_D_beginToLead 45 = .ok (.iconst 1, 1) := by decide +kernel
theorem d_D_beginToLead_46 : decode c_D_beginToLead 46 = .ok (.putfield 58, 3) := by decide +kernel
theorem d_D_beginToLead_49 : decode c_D_beginToLead 49 = .ok (.aload_n 0, 1) := by decide +kernel
theorem d_D_beginToLead_50 : decode c_D_beginToLead 50 = .ok (.aload_n 0, 1) := by decide +kernel
theorem d_D_beginToLead_51 : decode c_D_beginToLead 51 = .ok (.getfield 30, 3) := by decide +kernel
theorem d_D_beginToLead_54 : decode c_D_beginToLead 54 = .ok (.putfield 49, 3) := by decide +kernel
theorem d_D_beginToLead_57 : decode c_D_beginToLead 57 = .ok (.aload_n 0, 1) := by decide +kernel
theorem d_D_beginToLead_58 : decode c_D_beginToLead 58 = .ok (.iconst 3, 1) := by decide +kernel
theorem d_D_beginToLead_59 : decode c_D_beginToLead 59 = .ok (.putfield 52, 3) := by decide +kernel
theorem d_D_beginToLead_62 : decode c_D_beginToLead 62 = .ok (.aload_n 0, 1) := by decide +kernel
theorem d_D_beginToLead_63 : decode c_D_beginToLead 63 = .ok (.aload_n 0, 1) := by decide +kernel
theorem d_D_beginToLead_64 : decode c_D_beginToLead 64 = .ok (.getfield 61, 3) := by decide +kernel
theorem d_D_beginToLead_67 : decode c_D_beginToLead 67 = .ok (.putfield 120, 3) := by decide +kernel
theorem d_D_beginToLead_70 : decode c_D_beginToLead 70 = .ok (.aload_n 0, 1) := by decide +kernel
theorem d_D_beginToLead_71 : decode c_D_beginToLead 71 = .ok (.getfield 26, 3) := by decide +kernel
theorem d_D_beginToLead_74 : decode c_D_beginToLead 74 = .ok (.iconst 1, 1) := by decide +kernel
theorem d_D_beginToLead_75 : decode c_D_beginToLead 75 = .ok (.aload_n 0, 1) := by decide +kernel
theorem d_D_beginToLead_76 : decode c_D_beginToLead 76 = .ok (.getfield 30, 3) := by decide +kernel
theorem d_D_beginToLead_79 : decode c_D_beginToLead 79 = .ok (.ishl, 1) := by decide +kernel
theorem d_D_beginToLead_80 : decode c_D_beginToLead 80 = .ok (.putfield 103, 3) := by decide +kernel
theorem d_D_beginToLead_83 : decode c_D_beginToLead 83 = .ok (.aload_n 0, 1) := by decide +kernel
theorem d_D_beginToLead_84 : decode c_D_beginToLead 84 = .ok (.getfield 26, 3) := by decide +kernel
theorem d_D_beginToLead_87 : decode c_D_beginToLead 87 = .ok (.aload_n 0, 1) := by decide +kernel
theorem d_D_beginToLead_88 : decode c_D_beginToLead 88 = .ok (.getfield 14, 3) := by decide +kernel
theorem d_D_beginToLead_91 : decode c_D_beginToLead 91 = .ok (.aload_n 0, 1) := by decide +kernel
theorem d_D_beginToLead_92 : decode c_D_beginToLead 92 = .ok (.getfield 70, 3) := by decide +kernel
theorem d_D_beginToLead_95 : decode c_D_beginToLead 95 = .ok (.invokevirtual 129, 3) := by decide +kernel
theorem d_D_beginToLead_98 : decode c_D_beginToLead 98 = .ok (.aload_n 0, 1) := by decide +kernel
theorem d_D_beginToLead_99 : decode c_D_beginToLead 99 = .ok (.getfield 26, 3) := by decide +kernel
theorem d_D_beginToLead_102 : decode c_D_beginToLead 102 = .ok (.aload_n 0, 1) := by decide +kernel
theorem d_D_beginToLead_103 : decode c_D_beginToLead 103 = .ok (.getfield 70, 3) := by decide +kernel
theorem d_D_beginToLead_106 : decode c_D_beginToLead 106 = .ok (.putfield 133, 3) := by decide +kernel
theorem d_D_beginToLead_109 : decode c_D_beginToLead 109 = .ok (.aload_n 0, 1) := by decide +kernel
theorem d_D_beginToLead_110 : decode c_D_beginToLead 110 = .ok (.getfield 26, 3) := by decide +kernel
theorem d_D_beginToLead_113 : decode c_D_beginToLead 113 = .ok (.aload_n 0, 1) := by decide +kernel
theorem d_D_beginToLead_114 : decode c_D_beginToLead 114 = .ok (.invokevirtual 99, 3) := by decide +kernel
theorem d_D_beginToLead_117 : decode c_D_beginToLead 117 = .ok (.putfield 136, 3) := by decide +kernel
theorem d_D_beginToLead_120 : decode c_D_beginToLead 120 = .ok (.aload_n 0, 1) := by decide +kernel
theorem d_D_beginToLead_121 : decode c_D_beginToLead 121 = .ok (.aload_n 0, 1) := by decide +kernel
theorem d_D_beginToLead_122 : decode c_D_beginToLead 122 = .ok (.getfield 26, 3) := by decide +kernel
theorem d_D_beginToLead_125 : decode c_D_beginToLead 125 = .ok (.getfield 136, 3) := by decide +kernel
theorem d_D_beginToLead_128 : decode c_D_beginToLead 128 = .ok (.iconst 1, 1) := by decide +kernel
theorem d_D_beginToLead_129 : decode c_D_beginToLead 129 = .ok (.aload_n 0, 1) := by decide +kernel
theorem d_D_beginToLead_130 : decode c_D_beginToLead 130 = .ok (.getfield 61, 3) := by decide +kernel
theorem d_D_beginToLead_133 : decode c_D_beginToLead 133 = .ok (.iconst 0, 1) := by decide +kernel
theorem d_D_beginToLead_134 : decode c_D_beginToLead 134 = .ok (.aconst_null, 1) := by decide +kernel
theorem d_D_beginToLead_135 : decode c_D_beginToLead 135 = .ok (.invokevirtual 116, 3) := by decide +kernel
theorem d_D_beginToLead_138 : decode c_D_beginToLead 138 = .ok (.return_, 1) := by decide +kernel
set_option maxHeartbeats 4000000 in
set_option maxRecDepth 100000 in
/-- beginToLead -/
theorem C_D_beginToLead (l : Launch) (D : va_G) (t : Nat → ClassId) (q : Nat → Nat) (nw no : Nat) (i : Nat) (pr lz bl tm le gr sp mk : Int32) (rw : Nat) (z : Nat) (hz : z ≤ 300) (x y : Int32) (g : Nat → Option Nat) : xe_C l D vwCl (xTY t) y_D_beginToLead c_D_beginToLead 2 (Option.none : Option FieldType) ({ frames := 4, cells := 7, slots := 56, locals := 98 }) [.ref ((q 0))] [zO 3 (q 0) [.int (nI i), .ref nw, .int pr, .int 0, .int 0, .ref ((q 1)), .ref ((q 7)), .ref ((q 11)), .int 1, .int lz, .int bl, .int tm, .int le, .int 0, .ref ((q 15))], zO 5 (q 1) [.ref ((q 2)), .ref ((q 3)), .ref ((q 4)), .ref ((q 5)), .ref ((q 6)), .int 1], zJ t (q 2) 32 (fun _ => 1099511627776), zI t (q 3) 8 (fun _ => 0), zJ t (q 4) 8 (fun _ => 0), zI t (q 5) 4 (xm 1), zI t (q 6) 4 (xm mk), zO 4 (q 7) [.ref ((q 8)), .ref ((q 9)), .ref ((q 10))], zI t (q 8) 32 (fun _ => 0), zI t (q 9) 32 (fun _ => 0), zA t 2 (q 10) 32 (fun _ => none), zO 4 (q 11) [.ref ((q 12)), .ref ((q 13)), .ref ((q 14))], zI t (q 12) 64 (fun _ => 0), zI t (q 13) 64 (fun _ => 0), zA t 2 (q 14) 64 (fun _ => none), zO 0 (q 15) [.ref no, .int gr, .ref ((q 16)), .ref ((q 20)), .ref ((q 24)), .int 0, .int 0, .int sp], zO 4 (q 16) [.ref ((q 17)), .ref ((q 18)), .ref ((q 19))], zI t (q 17) 32 (fun _ => 0), zI t (q 18) 32 (fun _ => 0), zA t 2 (q 19) 32 (fun _ => none), zO 4 (q 20) [.ref ((q 21)), .ref ((q 22)), .ref ((q 23))], zI t (q 21) 4 (fun _ => 0), zI t (q 22) 4 (fun _ => 0), zA t 2 (q 23) 4 (fun _ => none), zA t 2 (q 24) 16 (fun _ => none), zO 2 nw [.ref rw, .int (nI z), .int x, .int y, .int 0], zA t 3 rw 300 g] (xe_v D vwCl (fun _ : Int32 × Int32 × Int32 × Int32 × Int32 × (Nat → Option Nat) => True) (fun u => [zO 3 (q 0) [.int (nI i), .ref nw, .int u.1, .int 0, .int 0, .ref ((q 1)), .ref ((q 7)), .ref ((q 11)), .int 1, .int 1, .int u.2.1, .int 3, .int (nI i), .int 0, .ref ((q 15))], zO 5 (q 1) [.ref ((q 2)), .ref ((q 3)), .ref ((q 4)), .ref ((q 5)), .ref ((q 6)), .int 1], zJ t (q 2) 32 (fun _ => 1099511627776), zI t (q 3) 8 (fun _ => 0), zJ t (q 4) 8 (fun _ => 0), zI t (q 5) 4 (xm 1), zI t (q 6) 4 (xm mk), zO 4 (q 7) [.ref ((q 8)), .ref ((q 9)), .ref ((q 10))], zI t (q 8) 32 (fun _ => 0), zI t (q 9) 32 (fun _ => 0), zA t 2 (q 10) 32 (fun _ => none), zO 4 (q 11) [.ref ((q 12)), .ref ((q 13)), .ref ((q 14))], zI t (q 12) 64 (fun _ => 0), zI t (q 13) 64 (fun _ => 0), zA t 2 (q 14) 64 (fun _ => none), zO 0 (q 15) [.ref no, .int ((1 : Int32) <<< (nI i &&& 31)), .ref ((q 16)), .ref ((q 20)), .ref ((q 24)), .int 0, .int 0, .int u.2.2.1], zO 4 (q 16) [.ref ((q 17)), .ref ((q 18)), .ref ((q 19))], zI t (q 17) 32 (fun _ => 0), zI t (q 18) 32 (fun _ => 0), zA t 2 (q 19) 32 (fun _ => none), zO 4 (q 20) [.ref ((q 21)), .ref ((q 22)), .ref ((q 23))], zI t (q 21) 4 (fun _ => 0), zI t (q 22) 4 (fun _ => 0), zA t 2 (q 23) 4 (fun _ => none), zA t 2 (q 24) 16 (fun _ => none), zO 2 nw [.ref rw, .int (nI (min 300 (z + xn (xp mk (nI i)) 7))), .int u.2.2.2.1, .int u.2.2.2.2.1, .int 0], zA t 3 rw 300 u.2.2.2.2.2])) 7 56 := by
  refine xe_of (by decide) (Nat.le_of_ble_eq_true rfl) ?_
  intro p e s m below meth c ls A Z hr hlocks hin hA hP hD hS hl
  obtain ⟨hx, hb, hml, hown, hK⟩ := id Z
  have hown : s.vm.findClass "QuorumStore$Node" = some m.cls := hown
  have hts := hK.1.at (args := ([.ref ((q 0))] : List Value).toArray)
  have hl : lv_has ls 2 [(0, .ref ((q 0)))] := hl
  refine lv_aload_n hx hb d_D_beginToLead_0 rfl (lv_at hl 0 rfl) ?_
  refine va_get (ci := 3) (C := "QuorumStore$Node") (T := TX3) (N := 15) hx hb hts inX3 hown hK.2 hP 0 rfl rfl 2 (by decide) (hts _ k_199) (fun _ h9 => h9) rfl d_D_beginToLead_1 ?_
  refine lv_aload_n hx hb d_D_beginToLead_4 rfl (lv_at hl 0 rfl) ?_
  refine va_get (ci := 3) (C := "QuorumStore$Node") (T := TX3) (N := 15) hx hb hts inX3 hown hK.2 hP 0 rfl rfl 10 (by decide) (hts _ k_215) (fun _ h9 => h9) rfl d_D_beginToLead_5 ?_
  refine lv_aload_n hx hb d_D_beginToLead_8 rfl (lv_at hl 0 rfl) ?_
  refine va_get (ci := 3) (C := "QuorumStore$Node") (T := TX3) (N := 15) hx hb hts inX3 hown hK.2 hP 0 rfl rfl 13 (by decide) (hts _ k_221) (fun _ h9 => h9) rfl d_D_beginToLead_9 ?_
  refine va_mmax hx hb (hml.trans hl.1.symm) hown (hts _ k_441) (hts _ k_442) (hts _ k_18) (hts _ k_443) (Nat.le_of_ble_eq_true rfl) (Nat.le_of_ble_eq_true rfl) (Nat.zero_le _) (Nat.zero_le _) d_D_beginToLead_12 ?_
  refine lv_topi (fun m_1 em_1 => ?_)
  refine va_mmax hx hb (hml.trans hl.1.symm) hown (hts _ k_441) (hts _ k_442) (hts _ k_18) (hts _ k_443) (Nat.le_of_ble_eq_true rfl) (Nat.le_of_ble_eq_true rfl) (Nat.zero_le _) (Nat.zero_le _) d_D_beginToLead_15 ?_
  refine lv_topi (fun m_2 em_2 => ?_)
  refine lv_istore_n (lv' := [(1, .int m_2), (0, .ref ((q 0)))]) hx hb d_D_beginToLead_18 rfl hl (by decide) rfl (fun ls hl => ?_)
  refine lv_aload_n hx hb d_D_beginToLead_19 rfl (lv_at hl 1 rfl) ?_
  refine lv_bipush (v := 8) hx hb d_D_beginToLead_20 (by decide) ?_
  refine lv_iload_n hx hb d_D_beginToLead_22 rfl (lv_at hl 0 rfl) ?_
  refine lv_bipush (v := 8) hx hb d_D_beginToLead_23 (by decide) ?_
  refine lv_idiv hx hb d_D_beginToLead_25 (by decide) ?_
  refine lv_iconst (v := 1) hx hb d_D_beginToLead_26 (by decide) ?_
  refine lv_iadd hx hb d_D_beginToLead_27 ?_
  refine lv_imul hx hb d_D_beginToLead_28 ?_
  refine lv_aload_n hx hb d_D_beginToLead_29 rfl (lv_at hl 1 rfl) ?_
  refine va_get (ci := 3) (C := "QuorumStore$Node") (T := TX3) (N := 15) hx hb hts inX3 hown hK.2 hP 0 rfl rfl 0 (by decide) (hts _ k_197) (fun _ h9 => h9) rfl d_D_beginToLead_30 ?_
  refine lv_iadd hx hb d_D_beginToLead_33 ?_
  refine lv_topi (fun f_3 ef_3 => ?_)
  refine va_put (ci := 3) (v := .int f_3) (ty := tyX3 10) (C := "QuorumStore$Node") (T := TX3) (N := 15) hx hb hts inX3 tyX3 okX3 nmX3 hown hK.2 hP hD hS 0 rfl rfl 10 (by decide) (hts _ k_215) (fun _ h9 => h9) rfl (by decide +kernel) rfl rfl (Nat.le_of_ble_eq_true rfl) d_D_beginToLead_34 (fun H locs hP hD hS => ?_)
  have hP : va_P D vwCl [zO 3 (q 0) [.int (nI i), .ref nw, .int pr, .int 0, .int 0, .ref ((q 1)), .ref ((q 7)), .ref ((q 11)), .int 1, .int lz, .int f_3, .int tm, .int le, .int 0, .ref ((q 15))], zO 5 (q 1) [.ref ((q 2)), .ref ((q 3)), .ref ((q 4)), .ref ((q 5)), .ref ((q 6)), .int 1], zJ t (q 2) 32 (fun _ => 1099511627776), zI t (q 3) 8 (fun _ => 0), zJ t (q 4) 8 (fun _ => 0), zI t (q 5) 4 (xm 1), zI t (q 6) 4 (xm mk), zO 4 (q 7) [.ref ((q 8)), .ref ((q 9)), .ref ((q 10))], zI t (q 8) 32 (fun _ => 0), zI t (q 9) 32 (fun _ => 0), zA t 2 (q 10) 32 (fun _ => none), zO 4 (q 11) [.ref ((q 12)), .ref ((q 13)), .ref ((q 14))], zI t (q 12) 64 (fun _ => 0), zI t (q 13) 64 (fun _ => 0), zA t 2 (q 14) 64 (fun _ => none), zO 0 (q 15) [.ref no, .int gr, .ref ((q 16)), .ref ((q 20)), .ref ((q 24)), .int 0, .int 0, .int sp], zO 4 (q 16) [.ref ((q 17)), .ref ((q 18)), .ref ((q 19))], zI t (q 17) 32 (fun _ => 0), zI t (q 18) 32 (fun _ => 0), zA t 2 (q 19) 32 (fun _ => none), zO 4 (q 20) [.ref ((q 21)), .ref ((q 22)), .ref ((q 23))], zI t (q 21) 4 (fun _ => 0), zI t (q 22) 4 (fun _ => 0), zA t 2 (q 23) 4 (fun _ => none), zA t 2 (q 24) 16 (fun _ => none), zO 2 nw [.ref rw, .int (nI z), .int x, .int y, .int 0], zA t 3 rw 300 g] H := hP
  have hD : va_D A [zO 3 (q 0) [.int (nI i), .ref nw, .int pr, .int 0, .int 0, .ref ((q 1)), .ref ((q 7)), .ref ((q 11)), .int 1, .int lz, .int f_3, .int tm, .int le, .int 0, .ref ((q 15))], zO 5 (q 1) [.ref ((q 2)), .ref ((q 3)), .ref ((q 4)), .ref ((q 5)), .ref ((q 6)), .int 1], zJ t (q 2) 32 (fun _ => 1099511627776), zI t (q 3) 8 (fun _ => 0), zJ t (q 4) 8 (fun _ => 0), zI t (q 5) 4 (xm 1), zI t (q 6) 4 (xm mk), zO 4 (q 7) [.ref ((q 8)), .ref ((q 9)), .ref ((q 10))], zI t (q 8) 32 (fun _ => 0), zI t (q 9) 32 (fun _ => 0), zA t 2 (q 10) 32 (fun _ => none), zO 4 (q 11) [.ref ((q 12)), .ref ((q 13)), .ref ((q 14))], zI t (q 12) 64 (fun _ => 0), zI t (q 13) 64 (fun _ => 0), zA t 2 (q 14) 64 (fun _ => none), zO 0 (q 15) [.ref no, .int gr, .ref ((q 16)), .ref ((q 20)), .ref ((q 24)), .int 0, .int 0, .int sp], zO 4 (q 16) [.ref ((q 17)), .ref ((q 18)), .ref ((q 19))], zI t (q 17) 32 (fun _ => 0), zI t (q 18) 32 (fun _ => 0), zA t 2 (q 19) 32 (fun _ => none), zO 4 (q 20) [.ref ((q 21)), .ref ((q 22)), .ref ((q 23))], zI t (q 21) 4 (fun _ => 0), zI t (q 22) 4 (fun _ => 0), zA t 2 (q 23) 4 (fun _ => none), zA t 2 (q 24) 16 (fun _ => none), zO 2 nw [.ref rw, .int (nI z), .int x, .int y, .int 0], zA t 3 rw 300 g] := hD
  refine lv_aload_n hx hb d_D_beginToLead_37 rfl (lv_at hl 1 rfl) ?_
  refine va_get (ci := 3) (C := "QuorumStore$Node") (T := TX3) (N := 15) hx hb hts inX3 hown hK.2 hP 0 rfl rfl 14 (by decide) (hts _ k_222) (fun _ h9 => h9) rfl d_D_beginToLead_38 ?_
  refine xe_callv (wr := [zO 3 (q 0) [.int (nI i), .ref nw, .int pr, .int 0, .int 0, .ref ((q 1)), .ref ((q 7)), .ref ((q 11)), .int 1, .int lz, .int f_3, .int tm, .int le, .int 0, .ref ((q 15))], zO 5 (q 1) [.ref ((q 2)), .ref ((q 3)), .ref ((q 4)), .ref ((q 5)), .ref ((q 6)), .int 1], zJ t (q 2) 32 (fun _ => 1099511627776), zI t (q 3) 8 (fun _ => 0), zJ t (q 4) 8 (fun _ => 0), zI t (q 5) 4 (xm 1), zI t (q 6) 4 (xm mk), zO 4 (q 7) [.ref ((q 8)), .ref ((q 9)), .ref ((q 10))], zI t (q 8) 32 (fun _ => 0), zI t (q 9) 32 (fun _ => 0), zA t 2 (q 10) 32 (fun _ => none), zO 4 (q 11) [.ref ((q 12)), .ref ((q 13)), .ref ((q 14))], zI t (q 12) 64 (fun _ => 0), zI t (q 13) 64 (fun _ => 0), zA t 2 (q 14) 64 (fun _ => none), zO 2 nw [.ref rw, .int (nI z), .int x, .int y, .int 0], zA t 3 rw 300 g]) (xs_V (As := []) (rest := []) Z (C_L_clear l D t q no gr sp H.size) m_L_clear k_444 k_445 k_446 rfl rfl ⟨Nat.le_of_ble_eq_true rfl, Nat.le_of_ble_eq_true rfl⟩ (va_recv hK.2 hP (ci := 0) (q0 := 15) rfl rfl) (xe_pre hK (hP.sub [15, 16, 17, 18, 19, 20, 21, 22, 23, 24] rfl) (hD.sub [15, 16, 17, 18, 19, 20, 21, 22, 23, 24] (by decide) rfl)) rfl hl.1 rfl (Nat.le_of_ble_eq_true rfl) d_D_beginToLead_41 ⟨Nat.le_of_ble_eq_true rfl, Nat.le_of_ble_eq_true rfl⟩) hP hD hS hA [15, 16, 17, 18, 19, 20, 21, 22, 23, 24] [0, 1, 2, 3, 4, 5, 6, 7, 8, 9, 10, 11, 12, 13, 14, 25, 26] rfl rfl (by decide) (by decide) (fun u_ H locs _ hP hD hS => ?_)
  have hP : va_P D vwCl [zO 3 (q 0) [.int (nI i), .ref nw, .int pr, .int 0, .int 0, .ref ((q 1)), .ref ((q 7)), .ref ((q 11)), .int 1, .int lz, .int f_3, .int tm, .int le, .int 0, .ref ((q 15))], zO 5 (q 1) [.ref ((q 2)), .ref ((q 3)), .ref ((q 4)), .ref ((q 5)), .ref ((q 6)), .int 1], zJ t (q 2) 32 (fun _ => 1099511627776), zI t (q 3) 8 (fun _ => 0), zJ t (q 4) 8 (fun _ => 0), zI t (q 5) 4 (xm 1), zI t (q 6) 4 (xm mk), zO 4 (q 7) [.ref ((q 8)), .ref ((q 9)), .ref ((q 10))], zI t (q 8) 32 (fun _ => 0), zI t (q 9) 32 (fun _ => 0), zA t 2 (q 10) 32 (fun _ => none), zO 4 (q 11) [.ref ((q 12)), .ref ((q 13)), .ref ((q 14))], zI t (q 12) 64 (fun _ => 0), zI t (q 13) 64 (fun _ => 0), zA t 2 (q 14) 64 (fun _ => none), zO 2 nw [.ref rw, .int (nI z), .int x, .int y, .int 0], zA t 3 rw 300 g, zO 0 (q 15) [.ref no, .int 0, .ref ((q 16)), .ref ((q 20)), .ref ((q 24)), .int 0, .int 0, .int sp], zO 4 (q 16) [.ref ((q 17)), .ref ((q 18)), .ref ((q 19))], zI t (q 17) 32 (fun _ => 0), zI t (q 18) 32 (fun _ => 0), zA t 2 (q 19) 32 (fun _ => none), zO 4 (q 20) [.ref ((q 21)), .ref ((q 22)), .ref ((q 23))], zI t (q 21) 4 (fun _ => 0), zI t (q 22) 4 (fun _ => 0), zA t 2 (q 23) 4 (fun _ => none), zA t 2 (q 24) 16 (fun _ => none)] H := hP
  have hD : va_D A [zO 3 (q 0) [.int (nI i), .ref nw, .int pr, .int 0, .int 0, .ref ((q 1)), .ref ((q 7)), .ref ((q 11)), .int 1, .int lz, .int f_3, .int tm, .int le, .int 0, .ref ((q 15))], zO 5 (q 1) [.ref ((q 2)), .ref ((q 3)), .ref ((q 4)), .ref ((q 5)), .ref ((q 6)), .int 1], zJ t (q 2) 32 (fun _ => 1099511627776), zI t (q 3) 8 (fun _ => 0), zJ t (q 4) 8 (fun _ => 0), zI t (q 5) 4 (xm 1), zI t (q 6) 4 (xm mk), zO 4 (q 7) [.ref ((q 8)), .ref ((q 9)), .ref ((q 10))], zI t (q 8) 32 (fun _ => 0), zI t (q 9) 32 (fun _ => 0), zA t 2 (q 10) 32 (fun _ => none), zO 4 (q 11) [.ref ((q 12)), .ref ((q 13)), .ref ((q 14))], zI t (q 12) 64 (fun _ => 0), zI t (q 13) 64 (fun _ => 0), zA t 2 (q 14) 64 (fun _ => none), zO 2 nw [.ref rw, .int (nI z), .int x, .int y, .int 0], zA t 3 rw 300 g, zO 0 (q 15) [.ref no, .int 0, .ref ((q 16)), .ref ((q 20)), .ref ((q 24)), .int 0, .int 0, .int sp], zO 4 (q 16) [.ref ((q 17)), .ref ((q 18)), .ref ((q 19))], zI t (q 17) 32 (fun _ => 0), zI t (q 18) 32 (fun _ => 0), zA t 2 (q 19) 32 (fun _ => none), zO 4 (q 20) [.ref ((q 21)), .ref ((q 22)), .ref ((q 23))], zI t (q 21) 4 (fun _ => 0), zI t (q 22) 4 (fun _ => 0), zA t 2 (q 23) 4 (fun _ => none), zA t 2 (q 24) 16 (fun _ => none)] := hD
  refine lv_aload_n hx hb d_D_beginToLead_44 rfl (lv_at hl 1 rfl) ?_
  refine lv_iconst (v := 1) hx hb d_D_beginToLead_45 (by decide) ?_
  refine va_put (ci := 3) (v := .int 1) (ty := tyX3 9) (C := "QuorumStore$Node") (T := TX3) (N := 15) hx hb hts inX3 tyX3 okX3 nmX3 hown hK.2 hP hD hS 0 rfl rfl 9 (by decide) (hts _ k_213) (fun _ h9 => h9) rfl (by decide +kernel) (by decide) (by decide) (Nat.le_of_ble_eq_true rfl) d_D_beginToLead_46 (fun H locs hP hD hS => ?_)
  have hP : va_P D vwCl [zO 3 (q 0) [.int (nI i), .ref nw, .int pr, .int 0, .int 0, .ref ((q 1)), .ref ((q 7)), .ref ((q 11)), .int 1, .int 1, .int f_3, .int tm, .int le, .int 0, .ref ((q 15))], zO 5 (q 1) [.ref ((q 2)), .ref ((q 3)), .ref ((q 4)), .ref ((q 5)), .ref ((q 6)), .int 1], zJ t (q 2) 32 (fun _ => 1099511627776), zI t (q 3) 8 (fun _ => 0), zJ t (q 4) 8 (fun _ => 0), zI t (q 5) 4 (xm 1), zI t (q 6) 4 (xm mk), zO 4 (q 7) [.ref ((q 8)), .ref ((q 9)), .ref ((q 10))], zI t (q 8) 32 (fun _ => 0), zI t (q 9) 32 (fun _ => 0), zA t 2 (q 10) 32 (fun _ => none), zO 4 (q 11) [.ref ((q 12)), .ref ((q 13)), .ref ((q 14))], zI t (q 12) 64 (fun _ => 0), zI t (q 13) 64 (fun _ => 0), zA t 2 (q 14) 64 (fun _ => none), zO 2 nw [.ref rw, .int (nI z), .int x, .int y, .int 0], zA t 3 rw 300 g, zO 0 (q 15) [.ref no, .int 0, .ref ((q 16)), .ref ((q 20)), .ref ((q 24)), .int 0, .int 0, .int sp], zO 4 (q 16) [.ref ((q 17)), .ref ((q 18)), .ref ((q 19))], zI t (q 17) 32 (fun _ => 0), zI t (q 18) 32 (fun _ => 0), zA t 2 (q 19) 32 (fun _ => none), zO 4 (q 20) [.ref ((q 21)), .ref ((q 22)), .ref ((q 23))], zI t (q 21) 4 (fun _ => 0), zI t (q 22) 4 (fun _ => 0), zA t 2 (q 23) 4 (fun _ => none), zA t 2 (q 24) 16 (fun _ => none)] H := hP
  have hD : va_D A [zO 3 (q 0) [.int (nI i), .ref nw, .int pr, .int 0, .int 0, .ref ((q 1)), .ref ((q 7)), .ref ((q 11)), .int 1, .int 1, .int f_3, .int tm, .int le, .int 0, .ref ((q 15))], zO 5 (q 1) [.ref ((q 2)), .ref ((q 3)), .ref ((q 4)), .ref ((q 5)), .ref ((q 6)), .int 1], zJ t (q 2) 32 (fun _ => 1099511627776), zI t (q 3) 8 (fun _ => 0), zJ t (q 4) 8 (fun _ => 0), zI t (q 5) 4 (xm 1), zI t (q 6) 4 (xm mk), zO 4 (q 7) [.ref ((q 8)), .ref ((q 9)), .ref ((q 10))], zI t (q 8) 32 (fun _ => 0), zI t (q 9) 32 (fun _ => 0), zA t 2 (q 10) 32 (fun _ => none), zO 4 (q 11) [.ref ((q 12)), .ref ((q 13)), .ref ((q 14))], zI t (q 12) 64 (fun _ => 0), zI t (q 13) 64 (fun _ => 0), zA t 2 (q 14) 64 (fun _ => none), zO 2 nw [.ref rw, .int (nI z), .int x, .int y, .int 0], zA t 3 rw 300 g, zO 0 (q 15) [.ref no, .int 0, .ref ((q 16)), .ref ((q 20)), .ref ((q 24)), .int 0, .int 0, .int sp], zO 4 (q 16) [.ref ((q 17)), .ref ((q 18)), .ref ((q 19))], zI t (q 17) 32 (fun _ => 0), zI t (q 18) 32 (fun _ => 0), zA t 2 (q 19) 32 (fun _ => none), zO 4 (q 20) [.ref ((q 21)), .ref ((q 22)), .ref ((q 23))], zI t (q 21) 4 (fun _ => 0), zI t (q 22) 4 (fun _ => 0), zA t 2 (q 23) 4 (fun _ => none), zA t 2 (q 24) 16 (fun _ => none)] := hD
  refine lv_aload_n hx hb d_D_beginToLead_49 rfl (lv_at hl 1 rfl) ?_
  refine lv_aload_n hx hb d_D_beginToLead_50 rfl (lv_at hl 1 rfl) ?_
  refine va_get (ci := 3) (C := "QuorumStore$Node") (T := TX3) (N := 15) hx hb hts inX3 hown hK.2 hP 0 rfl rfl 0 (by decide) (hts _ k_197) (fun _ h9 => h9) rfl d_D_beginToLead_51 ?_
  refine lv_topi (fun f_4 ef_4 => ?_)
  refine va_put (ci := 3) (v := .int f_4) (ty := tyX3 12) (C := "QuorumStore$Node") (T := TX3) (N := 15) hx hb hts inX3 tyX3 okX3 nmX3 hown hK.2 hP hD hS 0 rfl rfl 12 (by decide) (hts _ k_219) (fun _ h9 => h9) rfl (by decide +kernel) rfl rfl (Nat.le_of_ble_eq_true rfl) d_D_beginToLead_54 (fun H locs hP hD hS => ?_)
  have hP : va_P D vwCl [zO 3 (q 0) [.int (nI i), .ref nw, .int pr, .int 0, .int 0, .ref ((q 1)), .ref ((q 7)), .ref ((q 11)), .int 1, .int 1, .int f_3, .int tm, .int f_4, .int 0, .ref ((q 15))], zO 5 (q 1) [.ref ((q 2)), .ref ((q 3)), .ref ((q 4)), .ref ((q 5)), .ref ((q 6)), .int 1], zJ t (q 2) 32 (fun _ => 1099511627776), zI t (q 3) 8 (fun _ => 0), zJ t (q 4) 8 (fun _ => 0), zI t (q 5) 4 (xm 1), zI t (q 6) 4 (xm mk), zO 4 (q 7) [.ref ((q 8)), .ref ((q 9)), .ref ((q 10))], zI t (q 8) 32 (fun _ => 0), zI t (q 9) 32 (fun _ => 0), zA t 2 (q 10) 32 (fun _ => none), zO 4 (q 11) [.ref ((q 12)), .ref ((q 13)), .ref ((q 14))], zI t (q 12) 64 (fun _ => 0), zI t (q 13) 64 (fun _ => 0), zA t 2 (q 14) 64 (fun _ => none), zO 2 nw [.ref rw, .int (nI z), .int x, .int y, .int 0], zA t 3 rw 300 g, zO 0 (q 15) [.ref no, .int 0, .ref ((q 16)), .ref ((q 20)), .ref ((q 24)), .int 0, .int 0, .int sp], zO 4 (q 16) [.ref ((q 17)), .ref ((q 18)), .ref ((q 19))], zI t (q 17) 32 (fun _ => 0), zI t (q 18) 32 (fun _ => 0), zA t 2 (q 19) 32 (fun _ => none), zO 4 (q 20) [.ref ((q 21)), .ref ((q 22)), .ref ((q 23))], zI t (q 21) 4 (fun _ => 0), zI t (q 22) 4 (fun _ => 0), zA t 2 (q 23) 4 (fun _ => none), zA t 2 (q 24) 16 (fun _ => none)] H := hP
  have hD : va_D A [zO 3 (q 0) [.int (nI i), .ref nw, .int pr, .int 0, .int 0, .ref ((q 1)), .ref ((q 7)), .ref ((q 11)), .int 1, .int 1, .int f_3, .int tm, .int f_4, .int 0, .ref ((q 15))], zO 5 (q 1) [.ref ((q 2)), .ref ((q 3)), .ref ((q 4)), .ref ((q 5)), .ref ((q 6)), .int 1], zJ t (q 2) 32 (fun _ => 1099511627776), zI t (q 3) 8 (fun _ => 0), zJ t (q 4) 8 (fun _ => 0), zI t (q 5) 4 (xm 1), zI t (q 6) 4 (xm mk), zO 4 (q 7) [.ref ((q 8)), .ref ((q 9)), .ref ((q 10))], zI t (q 8) 32 (fun _ => 0), zI t (q 9) 32 (fun _ => 0), zA t 2 (q 10) 32 (fun _ => none), zO 4 (q 11) [.ref ((q 12)), .ref ((q 13)), .ref ((q 14))], zI t (q 12) 64 (fun _ => 0), zI t (q 13) 64 (fun _ => 0), zA t 2 (q 14) 64 (fun _ => none), zO 2 nw [.ref rw, .int (nI z), .int x, .int y, .int 0], zA t 3 rw 300 g, zO 0 (q 15) [.ref no, .int 0, .ref ((q 16)), .ref ((q 20)), .ref ((q 24)), .int 0, .int 0, .int sp], zO 4 (q 16) [.ref ((q 17)), .ref ((q 18)), .ref ((q 19))], zI t (q 17) 32 (fun _ => 0), zI t (q 18) 32 (fun _ => 0), zA t 2 (q 19) 32 (fun _ => none), zO 4 (q 20) [.ref ((q 21)), .ref ((q 22)), .ref ((q 23))], zI t (q 21) 4 (fun _ => 0), zI t (q 22) 4 (fun _ => 0), zA t 2 (q 23) 4 (fun _ => none), zA t 2 (q 24) 16 (fun _ => none)] := hD
  refine lv_aload_n hx hb d_D_beginToLead_57 rfl (lv_at hl 1 rfl) ?_
  refine lv_iconst (v := 3) hx hb d_D_beginToLead_58 (by decide) ?_
  refine va_put (ci := 3) (v := .int 3) (ty := tyX3 11) (C := "QuorumStore$Node") (T := TX3) (N := 15) hx hb hts inX3 tyX3 okX3 nmX3 hown hK.2 hP hD hS 0 rfl rfl 11 (by decide) (hts _ k_217) (fun _ h9 => h9) rfl (by decide +kernel) rfl rfl (Nat.le_of_ble_eq_true rfl) d_D_beginToLead_59 (fun H locs hP hD hS => ?_)
  have hP : va_P D vwCl [zO 3 (q 0) [.int (nI i), .ref nw, .int pr, .int 0, .int 0, .ref ((q 1)), .ref ((q 7)), .ref ((q 11)), .int 1, .int 1, .int f_3, .int 3, .int f_4, .int 0, .ref ((q 15))], zO 5 (q 1) [.ref ((q 2)), .ref ((q 3)), .ref ((q 4)), .ref ((q 5)), .ref ((q 6)), .int 1], zJ t (q 2) 32 (fun _ => 1099511627776), zI t (q 3) 8 (fun _ => 0), zJ t (q 4) 8 (fun _ => 0), zI t (q 5) 4 (xm 1), zI t (q 6) 4 (xm mk), zO 4 (q 7) [.ref ((q 8)), .ref ((q 9)), .ref ((q 10))], zI t (q 8) 32 (fun _ => 0), zI t (q 9) 32 (fun _ => 0), zA t 2 (q 10) 32 (fun _ => none), zO 4 (q 11) [.ref ((q 12)), .ref ((q 13)), .ref ((q 14))], zI t (q 12) 64 (fun _ => 0), zI t (q 13) 64 (fun _ => 0), zA t 2 (q 14) 64 (fun _ => none), zO 2 nw [.ref rw, .int (nI z), .int x, .int y, .int 0], zA t 3 rw 300 g, zO 0 (q 15) [.ref no, .int 0, .ref ((q 16)), .ref ((q 20)), .ref ((q 24)), .int 0, .int 0, .int sp], zO 4 (q 16) [.ref ((q 17)), .ref ((q 18)), .ref ((q 19))], zI t (q 17) 32 (fun _ => 0), zI t (q 18) 32 (fun _ => 0), zA t 2 (q 19) 32 (fun _ => none), zO 4 (q 20) [.ref ((q 21)), .ref ((q 22)), .ref ((q 23))], zI t (q 21) 4 (fun _ => 0), zI t (q 22) 4 (fun _ => 0), zA t 2 (q 23) 4 (fun _ => none), zA t 2 (q 24) 16 (fun _ => none)] H := hP
  have hD : va_D A [zO 3 (q 0) [.int (nI i), .ref nw, .int pr, .int 0, .int 0, .ref ((q 1)), .ref ((q 7)), .ref ((q 11)), .int 1, .int 1, .int f_3, .int 3, .int f_4, .int 0, .ref ((q 15))], zO 5 (q 1) [.ref ((q 2)), .ref ((q 3)), .ref ((q 4)), .ref ((q 5)), .ref ((q 6)), .int 1], zJ t (q 2) 32 (fun _ => 1099511627776), zI t (q 3) 8 (fun _ => 0), zJ t (q 4) 8 (fun _ => 0), zI t (q 5) 4 (xm 1), zI t (q 6) 4 (xm mk), zO 4 (q 7) [.ref ((q 8)), .ref ((q 9)), .ref ((q 10))], zI t (q 8) 32 (fun _ => 0), zI t (q 9) 32 (fun _ => 0), zA t 2 (q 10) 32 (fun _ => none), zO 4 (q 11) [.ref ((q 12)), .ref ((q 13)), .ref ((q 14))], zI t (q 12) 64 (fun _ => 0), zI t (q 13) 64 (fun _ => 0), zA t 2 (q 14) 64 (fun _ => none), zO 2 nw [.ref rw, .int (nI z), .int x, .int y, .int 0], zA t 3 rw 300 g, zO 0 (q 15) [.ref no, .int 0, .ref ((q 16)), .ref ((q 20)), .ref ((q 24)), .int 0, .int 0, .int sp], zO 4 (q 16) [.ref ((q 17)), .ref ((q 18)), .ref ((q 19))], zI t (q 17) 32 (fun _ => 0), zI t (q 18) 32 (fun _ => 0), zA t 2 (q 19) 32 (fun _ => none), zO 4 (q 20) [.ref ((q 21)), .ref ((q 22)), .ref ((q 23))], zI t (q 21) 4 (fun _ => 0), zI t (q 22) 4 (fun _ => 0), zA t 2 (q 23) 4 (fun _ => none), zA t 2 (q 24) 16 (fun _ => none)] := hD
  refine lv_aload_n hx hb d_D_beginToLead_62 rfl (lv_at hl 1 rfl) ?_
  refine lv_aload_n hx hb d_D_beginToLead_63 rfl (lv_at hl 1 rfl) ?_
  refine va_get (ci := 3) (C := "QuorumStore$Node") (T := TX3) (N := 15) hx hb hts inX3 hown hK.2 hP 0 rfl rfl 10 (by decide) (hts _ k_215) (fun _ h9 => h9) rfl d_D_beginToLead_64 ?_
  refine va_put (ci := 3) (v := .int f_3) (ty := tyX3 2) (C := "QuorumStore$Node") (T := TX3) (N := 15) hx hb hts inX3 tyX3 okX3 nmX3 hown hK.2 hP hD hS 0 rfl rfl 2 (by decide) (hts _ k_199) (fun _ h9 => h9) rfl (by decide +kernel) rfl rfl (Nat.le_of_ble_eq_true rfl) d_D_beginToLead_67 (fun H locs hP hD hS => ?_)
  have hP : va_P D vwCl [zO 3 (q 0) [.int (nI i), .ref nw, .int f_3, .int 0, .int 0, .ref ((q 1)), .ref ((q 7)), .ref ((q 11)), .int 1, .int 1, .int f_3, .int 3, .int f_4, .int 0, .ref ((q 15))], zO 5 (q 1) [.ref ((q 2)), .ref ((q 3)), .ref ((q 4)), .ref ((q 5)), .ref ((q 6)), .int 1], zJ t (q 2) 32 (fun _ => 1099511627776), zI t (q 3) 8 (fun _ => 0), zJ t (q 4) 8 (fun _ => 0), zI t (q 5) 4 (xm 1), zI t (q 6) 4 (xm mk), zO 4 (q 7) [.ref ((q 8)), .ref ((q 9)), .ref ((q 10))], zI t (q 8) 32 (fun _ => 0), zI t (q 9) 32 (fun _ => 0), zA t 2 (q 10) 32 (fun _ => none), zO 4 (q 11) [.ref ((q 12)), .ref ((q 13)), .ref ((q 14))], zI t (q 12) 64 (fun _ => 0), zI t (q 13) 64 (fun _ => 0), zA t 2 (q 14) 64 (fun _ => none), zO 2 nw [.ref rw, .int (nI z), .int x, .int y, .int 0], zA t 3 rw 300 g, zO 0 (q 15) [.ref no, .int 0, .ref ((q 16)), .ref ((q 20)), .ref ((q 24)), .int 0, .int 0, .int sp], zO 4 (q 16) [.ref ((q 17)), .ref ((q 18)), .ref ((q 19))], zI t (q 17) 32 (fun _ => 0), zI t (q 18) 32 (fun _ => 0), zA t 2 (q 19) 32 (fun _ => none), zO 4 (q 20) [.ref ((q 21)), .ref ((q 22)), .ref ((q 23))], zI t (q 21) 4 (fun _ => 0), zI t (q 22) 4 (fun _ => 0), zA t 2 (q 23) 4 (fun _ => none), zA t 2 (q 24) 16 (fun _ => none)] H := hP
  have hD : va_D A [zO 3 (q 0) [.int (nI i), .ref nw, .int f_3, .int 0, .int 0, .ref ((q 1)), .ref ((q 7)), .ref ((q 11)), .int 1, .int 1, .int f_3, .int 3, .int f_4, .int 0, .ref ((q 15))], zO 5 (q 1) [.ref ((q 2)), .ref ((q 3)), .ref ((q 4)), .ref ((q 5)), .ref ((q 6)), .int 1], zJ t (q 2) 32 (fun _ => 1099511627776), zI t (q 3) 8 (fun _ => 0), zJ t (q 4) 8 (fun _ => 0), zI t (q 5) 4 (xm 1), zI t (q 6) 4 (xm mk), zO 4 (q 7) [.ref ((q 8)), .ref ((q 9)), .ref ((q 10))], zI t (q 8) 32 (fun _ => 0), zI t (q 9) 32 (fun _ => 0), zA t 2 (q 10) 32 (fun _ => none), zO 4 (q 11) [.ref ((q 12)), .ref ((q 13)), .ref ((q 14))], zI t (q 12) 64 (fun _ => 0), zI t (q 13) 64 (fun _ => 0), zA t 2 (q 14) 64 (fun _ => none), zO 2 nw [.ref rw, .int (nI z), .int x, .int y, .int 0], zA t 3 rw 300 g, zO 0 (q 15) [.ref no, .int 0, .ref ((q 16)), .ref ((q 20)), .ref ((q 24)), .int 0, .int 0, .int sp], zO 4 (q 16) [.ref ((q 17)), .ref ((q 18)), .ref ((q 19))], zI t (q 17) 32 (fun _ => 0), zI t (q 18) 32 (fun _ => 0), zA t 2 (q 19) 32 (fun _ => none), zO 4 (q 20) [.ref ((q 21)), .ref ((q 22)), .ref ((q 23))], zI t (q 21) 4 (fun _ => 0), zI t (q 22) 4 (fun _ => 0), zA t 2 (q 23) 4 (fun _ => none), zA t 2 (q 24) 16 (fun _ => none)] := hD
  refine lv_aload_n hx hb d_D_beginToLead_70 rfl (lv_at hl 1 rfl) ?_
  refine va_get (ci := 3) (C := "QuorumStore$Node") (T := TX3) (N := 15) hx hb hts inX3 hown hK.2 hP 0 rfl rfl 14 (by decide) (hts _ k_222) (fun _ h9 => h9) rfl d_D_beginToLead_71 ?_
  refine lv_iconst (v := 1) hx hb d_D_beginToLead_74 (by decide) ?_
  refine lv_aload_n hx hb d_D_beginToLead_75 rfl (lv_at hl 1 rfl) ?_
  refine va_get (ci := 3) (C := "QuorumStore$Node") (T := TX3) (N := 15) hx hb hts inX3 hown hK.2 hP 0 rfl rfl 0 (by decide) (hts _ k_197) (fun _ h9 => h9) rfl d_D_beginToLead_76 ?_
  refine lv_ishl hx hb d_D_beginToLead_79 ?_
  refine lv_topi (fun f_5 ef_5 => ?_)
  refine va_put (ci := 0) (v := .int f_5) (ty := tyX0 1) (C := "QuorumStore$Lead") (T := TX0) (N := 8) hx hb hts inX0 tyX0 okX0 nmX0 hown hK.2 hP hD hS 17 rfl rfl 1 (by decide) (hts _ k_136) (fun _ h9 => h9) rfl (by decide +kernel) rfl rfl (Nat.le_of_ble_eq_true rfl) d_D_beginToLead_80 (fun H locs hP hD hS => ?_)
  have hP : va_P D vwCl [zO 3 (q 0) [.int (nI i), .ref nw, .int f_3, .int 0, .int 0, .ref ((q 1)), .ref ((q 7)), .ref ((q 11)), .int 1, .int 1, .int f_3, .int 3, .int f_4, .int 0, .ref ((q 15))], zO 5 (q 1) [.ref ((q 2)), .ref ((q 3)), .ref ((q 4)), .ref ((q 5)), .ref ((q 6)), .int 1], zJ t (q 2) 32 (fun _ => 1099511627776), zI t (q 3) 8 (fun _ => 0), zJ t (q 4) 8 (fun _ => 0), zI t (q 5) 4 (xm 1), zI t (q 6) 4 (xm mk), zO 4 (q 7) [.ref ((q 8)), .ref ((q 9)), .ref ((q 10))], zI t (q 8) 32 (fun _ => 0), zI t (q 9) 32 (fun _ => 0), zA t 2 (q 10) 32 (fun _ => none), zO 4 (q 11) [.ref ((q 12)), .ref ((q 13)), .ref ((q 14))], zI t (q 12) 64 (fun _ => 0), zI t (q 13) 64 (fun _ => 0), zA t 2 (q 14) 64 (fun _ => none), zO 2 nw [.ref rw, .int (nI z), .int x, .int y, .int 0], zA t 3 rw 300 g, zO 0 (q 15) [.ref no, .int f_5, .ref ((q 16)), .ref ((q 20)), .ref ((q 24)), .int 0, .int 0, .int sp], zO 4 (q 16) [.ref ((q 17)), .ref ((q 18)), .ref ((q 19))], zI t (q 17) 32 (fun _ => 0), zI t (q 18) 32 (fun _ => 0), zA t 2 (q 19) 32 (fun _ => none), zO 4 (q 20) [.ref ((q 21)), .ref ((q 22)), .ref ((q 23))], zI t (q 21) 4 (fun _ => 0), zI t (q 22) 4 (fun _ => 0), zA t 2 (q 23) 4 (fun _ => none), zA t 2 (q 24) 16 (fun _ => none)] H := hP
  have hD : va_D A [zO 3 (q 0) [.int (nI i), .ref nw, .int f_3, .int 0, .int 0, .ref ((q 1)), .ref ((q 7)), .ref ((q 11)), .int 1, .int 1, .int f_3, .int 3, .int f_4, .int 0, .ref ((q 15))], zO 5 (q 1) [.ref ((q 2)), .ref ((q 3)), .ref ((q 4)), .ref ((q 5)), .ref ((q 6)), .int 1], zJ t (q 2) 32 (fun _ => 1099511627776), zI t (q 3) 8 (fun _ => 0), zJ t (q 4) 8 (fun _ => 0), zI t (q 5) 4 (xm 1), zI t (q 6) 4 (xm mk), zO 4 (q 7) [.ref ((q 8)), .ref ((q 9)), .ref ((q 10))], zI t (q 8) 32 (fun _ => 0), zI t (q 9) 32 (fun _ => 0), zA t 2 (q 10) 32 (fun _ => none), zO 4 (q 11) [.ref ((q 12)), .ref ((q 13)), .ref ((q 14))], zI t (q 12) 64 (fun _ => 0), zI t (q 13) 64 (fun _ => 0), zA t 2 (q 14) 64 (fun _ => none), zO 2 nw [.ref rw, .int (nI z), .int x, .int y, .int 0], zA t 3 rw 300 g, zO 0 (q 15) [.ref no, .int f_5, .ref ((q 16)), .ref ((q 20)), .ref ((q 24)), .int 0, .int 0, .int sp], zO 4 (q 16) [.ref ((q 17)), .ref ((q 18)), .ref ((q 19))], zI t (q 17) 32 (fun _ => 0), zI t (q 18) 32 (fun _ => 0), zA t 2 (q 19) 32 (fun _ => none), zO 4 (q 20) [.ref ((q 21)), .ref ((q 22)), .ref ((q 23))], zI t (q 21) 4 (fun _ => 0), zI t (q 22) 4 (fun _ => 0), zA t 2 (q 23) 4 (fun _ => none), zA t 2 (q 24) 16 (fun _ => none)] := hD
  refine lv_aload_n hx hb d_D_beginToLead_83 rfl (lv_at hl 1 rfl) ?_
  refine va_get (ci := 3) (C := "QuorumStore$Node") (T := TX3) (N := 15) hx hb hts inX3 hown hK.2 hP 0 rfl rfl 14 (by decide) (hts _ k_222) (fun _ h9 => h9) rfl d_D_beginToLead_84 ?_
  refine lv_aload_n hx hb d_D_beginToLead_87 rfl (lv_at hl 1 rfl) ?_
  refine va_get (ci := 3) (C := "QuorumStore$Node") (T := TX3) (N := 15) hx hb hts inX3 hown hK.2 hP 0 rfl rfl 6 (by decide) (hts _ k_207) (fun _ h9 => h9) rfl d_D_beginToLead_88 ?_
  refine lv_aload_n hx hb d_D_beginToLead_91 rfl (lv_at hl 1 rfl) ?_
  refine va_get (ci := 3) (C := "QuorumStore$Node") (T := TX3) (N := 15) hx hb hts inX3 hown hK.2 hP 0 rfl rfl 3 (by decide) (hts _ k_201) (fun _ h9 => h9) rfl d_D_beginToLead_92 ?_
  refine xr_call (xs_V (As := [.ref ((q 7)), .int 0]) (rest := []) Z (C_L_lookAt l D t q no f_5 sp) m_L_lookAt k_456 k_457 k_458 rfl rfl ⟨Nat.le_of_ble_eq_true rfl, Nat.le_of_ble_eq_true rfl⟩ (va_recv hK.2 hP (ci := 0) (q0 := 17) rfl rfl) (xr_pre hK (hP.sub [17, 18, 19, 20, 21, 7, 8, 9, 10] rfl)) rfl hl.1 rfl (Nat.le_of_ble_eq_true rfl) d_D_beginToLead_95 ⟨Nat.le_of_ble_eq_true rfl, Nat.le_of_ble_eq_true rfl⟩) ?_
  refine lv_aload_n hx hb d_D_beginToLead_98 rfl (lv_at hl 1 rfl) ?_
  refine va_get (ci := 3) (C := "QuorumStore$Node") (T := TX3) (N := 15) hx hb hts inX3 hown hK.2 hP 0 rfl rfl 14 (by decide) (hts _ k_222) (fun _ h9 => h9) rfl d_D_beginToLead_99 ?_
  refine lv_aload_n hx hb d_D_beginToLead_102 rfl (lv_at hl 1 rfl) ?_
  refine va_get (ci := 3) (C := "QuorumStore$Node") (T := TX3) (N := 15) hx hb hts inX3 hown hK.2 hP 0 rfl rfl 3 (by decide) (hts _ k_201) (fun _ h9 => h9) rfl d_D_beginToLead_103 ?_
  refine va_put (ci := 0) (v := .int 0) (ty := tyX0 6) (C := "QuorumStore$Lead") (T := TX0) (N := 8) hx hb hts inX0 tyX0 okX0 nmX0 hown hK.2 hP hD hS 17 rfl rfl 6 (by decide) (hts _ k_146) (fun _ h9 => h9) rfl (by decide +kernel) rfl rfl (Nat.le_of_ble_eq_true rfl) d_D_beginToLead_106 (fun H locs hP hD hS => ?_)
  have hP : va_P D vwCl [zO 3 (q 0) [.int (nI i), .ref nw, .int f_3, .int 0, .int 0, .ref ((q 1)), .ref ((q 7)), .ref ((q 11)), .int 1, .int 1, .int f_3, .int 3, .int f_4, .int 0, .ref ((q 15))], zO 5 (q 1) [.ref ((q 2)), .ref ((q 3)), .ref ((q 4)), .ref ((q 5)), .ref ((q 6)), .int 1], zJ t (q 2) 32 (fun _ => 1099511627776), zI t (q 3) 8 (fun _ => 0), zJ t (q 4) 8 (fun _ => 0), zI t (q 5) 4 (xm 1), zI t (q 6) 4 (xm mk), zO 4 (q 7) [.ref ((q 8)), .ref ((q 9)), .ref ((q 10))], zI t (q 8) 32 (fun _ => 0), zI t (q 9) 32 (fun _ => 0), zA t 2 (q 10) 32 (fun _ => none), zO 4 (q 11) [.ref ((q 12)), .ref ((q 13)), .ref ((q 14))], zI t (q 12) 64 (fun _ => 0), zI t (q 13) 64 (fun _ => 0), zA t 2 (q 14) 64 (fun _ => none), zO 2 nw [.ref rw, .int (nI z), .int x, .int y, .int 0], zA t 3 rw 300 g, zO 0 (q 15) [.ref no, .int f_5, .ref ((q 16)), .ref ((q 20)), .ref ((q 24)), .int 0, .int 0, .int sp], zO 4 (q 16) [.ref ((q 17)), .ref ((q 18)), .ref ((q 19))], zI t (q 17) 32 (fun _ => 0), zI t (q 18) 32 (fun _ => 0), zA t 2 (q 19) 32 (fun _ => none), zO 4 (q 20) [.ref ((q 21)), .ref ((q 22)), .ref ((q 23))], zI t (q 21) 4 (fun _ => 0), zI t (q 22) 4 (fun _ => 0), zA t 2 (q 23) 4 (fun _ => none), zA t 2 (q 24) 16 (fun _ => none)] H := hP
  have hD : va_D A [zO 3 (q 0) [.int (nI i), .ref nw, .int f_3, .int 0, .int 0, .ref ((q 1)), .ref ((q 7)), .ref ((q 11)), .int 1, .int 1, .int f_3, .int 3, .int f_4, .int 0, .ref ((q 15))], zO 5 (q 1) [.ref ((q 2)), .ref ((q 3)), .ref ((q 4)), .ref ((q 5)), .ref ((q 6)), .int 1], zJ t (q 2) 32 (fun _ => 1099511627776), zI t (q 3) 8 (fun _ => 0), zJ t (q 4) 8 (fun _ => 0), zI t (q 5) 4 (xm 1), zI t (q 6) 4 (xm mk), zO 4 (q 7) [.ref ((q 8)), .ref ((q 9)), .ref ((q 10))], zI t (q 8) 32 (fun _ => 0), zI t (q 9) 32 (fun _ => 0), zA t 2 (q 10) 32 (fun _ => none), zO 4 (q 11) [.ref ((q 12)), .ref ((q 13)), .ref ((q 14))], zI t (q 12) 64 (fun _ => 0), zI t (q 13) 64 (fun _ => 0), zA t 2 (q 14) 64 (fun _ => none), zO 2 nw [.ref rw, .int (nI z), .int x, .int y, .int 0], zA t 3 rw 300 g, zO 0 (q 15) [.ref no, .int f_5, .ref ((q 16)), .ref ((q 20)), .ref ((q 24)), .int 0, .int 0, .int sp], zO 4 (q 16) [.ref ((q 17)), .ref ((q 18)), .ref ((q 19))], zI t (q 17) 32 (fun _ => 0), zI t (q 18) 32 (fun _ => 0), zA t 2 (q 19) 32 (fun _ => none), zO 4 (q 20) [.ref ((q 21)), .ref ((q 22)), .ref ((q 23))], zI t (q 21) 4 (fun _ => 0), zI t (q 22) 4 (fun _ => 0), zA t 2 (q 23) 4 (fun _ => none), zA t 2 (q 24) 16 (fun _ => none)] := hD
  refine lv_aload_n hx hb d_D_beginToLead_109 rfl (lv_at hl 1 rfl) ?_
  refine va_get (ci := 3) (C := "QuorumStore$Node") (T := TX3) (N := 15) hx hb hts inX3 hown hK.2 hP 0 rfl rfl 14 (by decide) (hts _ k_222) (fun _ h9 => h9) rfl d_D_beginToLead_110 ?_
  refine lv_aload_n hx hb d_D_beginToLead_113 rfl (lv_at hl 1 rfl) ?_
  refine xr_call (xs_V (As := []) (rest := [.ref ((q 15))]) Z (C_D_peers l D t q nw no (nI i) f_3 1 f_3 3 f_4 f_5 sp mk) m_D_peers k_356 k_358 ks_2 rfl rfl ⟨Nat.le_of_ble_eq_true rfl, Nat.le_of_ble_eq_true rfl⟩ (va_recv hK.2 hP (ci := 3) (q0 := 0) rfl rfl) (xr_pre hK (hP.sub [0, 1, 2, 3, 4, 5, 6, 7, 8, 9, 10, 11, 12, 13, 14, 17, 18, 19, 20, 21, 22, 23, 24, 25, 26] rfl)) rfl hl.1 rfl (Nat.le_of_ble_eq_true rfl) d_D_beginToLead_114 ⟨Nat.le_of_ble_eq_true rfl, Nat.le_of_ble_eq_true rfl⟩) ?_
  refine lv_topi (fun f_6 ef_6 => ?_)
  refine va_put (ci := 0) (v := .int f_6) (ty := tyX0 7) (C := "QuorumStore$Lead") (T := TX0) (N := 8) hx hb hts inX0 tyX0 okX0 nmX0 hown hK.2 hP hD hS 17 rfl rfl 7 (by decide) (hts _ k_147) (fun _ h9 => h9) rfl (by decide +kernel) rfl rfl (Nat.le_of_ble_eq_true rfl) d_D_beginToLead_117 (fun H locs hP hD hS => ?_)
  have hP : va_P D vwCl [zO 3 (q 0) [.int (nI i), .ref nw, .int f_3, .int 0, .int 0, .ref ((q 1)), .ref ((q 7)), .ref ((q 11)), .int 1, .int 1, .int f_3, .int 3, .int f_4, .int 0, .ref ((q 15))], zO 5 (q 1) [.ref ((q 2)), .ref ((q 3)), .ref ((q 4)), .ref ((q 5)), .ref ((q 6)), .int 1], zJ t (q 2) 32 (fun _ => 1099511627776), zI t (q 3) 8 (fun _ => 0), zJ t (q 4) 8 (fun _ => 0), zI t (q 5) 4 (xm 1), zI t (q 6) 4 (xm mk), zO 4 (q 7) [.ref ((q 8)), .ref ((q 9)), .ref ((q 10))], zI t (q 8) 32 (fun _ => 0), zI t (q 9) 32 (fun _ => 0), zA t 2 (q 10) 32 (fun _ => none), zO 4 (q 11) [.ref ((q 12)), .ref ((q 13)), .ref ((q 14))], zI t (q 12) 64 (fun _ => 0), zI t (q 13) 64 (fun _ => 0), zA t 2 (q 14) 64 (fun _ => none), zO 2 nw [.ref rw, .int (nI z), .int x, .int y, .int 0], zA t 3 rw 300 g, zO 0 (q 15) [.ref no, .int f_5, .ref ((q 16)), .ref ((q 20)), .ref ((q 24)), .int 0, .int 0, .int f_6], zO 4 (q 16) [.ref ((q 17)), .ref ((q 18)), .ref ((q 19))], zI t (q 17) 32 (fun _ => 0), zI t (q 18) 32 (fun _ => 0), zA t 2 (q 19) 32 (fun _ => none), zO 4 (q 20) [.ref ((q 21)), .ref ((q 22)), .ref ((q 23))], zI t (q 21) 4 (fun _ => 0), zI t (q 22) 4 (fun _ => 0), zA t 2 (q 23) 4 (fun _ => none), zA t 2 (q 24) 16 (fun _ => none)] H := hP
  have hD : va_D A [zO 3 (q 0) [.int (nI i), .ref nw, .int f_3, .int 0, .int 0, .ref ((q 1)), .ref ((q 7)), .ref ((q 11)), .int 1, .int 1, .int f_3, .int 3, .int f_4, .int 0, .ref ((q 15))], zO 5 (q 1) [.ref ((q 2)), .ref ((q 3)), .ref ((q 4)), .ref ((q 5)), .ref ((q 6)), .int 1], zJ t (q 2) 32 (fun _ => 1099511627776), zI t (q 3) 8 (fun _ => 0), zJ t (q 4) 8 (fun _ => 0), zI t (q 5) 4 (xm 1), zI t (q 6) 4 (xm mk), zO 4 (q 7) [.ref ((q 8)), .ref ((q 9)), .ref ((q 10))], zI t (q 8) 32 (fun _ => 0), zI t (q 9) 32 (fun _ => 0), zA t 2 (q 10) 32 (fun _ => none), zO 4 (q 11) [.ref ((q 12)), .ref ((q 13)), .ref ((q 14))], zI t (q 12) 64 (fun _ => 0), zI t (q 13) 64 (fun _ => 0), zA t 2 (q 14) 64 (fun _ => none), zO 2 nw [.ref rw, .int (nI z), .int x, .int y, .int 0], zA t 3 rw 300 g, zO 0 (q 15) [.ref no, .int f_5, .ref ((q 16)), .ref ((q 20)), .ref ((q 24)), .int 0, .int 0, .int f_6], zO 4 (q 16) [.ref ((q 17)), .ref ((q 18)), .ref ((q 19))], zI t (q 17) 32 (fun _ => 0), zI t (q 18) 32 (fun _ => 0), zA t 2 (q 19) 32 (fun _ => none), zO 4 (q 20) [.ref ((q 21)), .ref ((q 22)), .ref ((q 23))], zI t (q 21) 4 (fun _ => 0), zI t (q 22) 4 (fun _ => 0), zA t 2 (q 23) 4 (fun _ => none), zA t 2 (q 24) 16 (fun _ => none)] := hD
  refine lv_aload_n hx hb d_D_beginToLead_120 rfl (lv_at hl 1 rfl) ?_
  refine lv_aload_n hx hb d_D_beginToLead_121 rfl (lv_at hl 1 rfl) ?_
  refine va_get (ci := 3) (C := "QuorumStore$Node") (T := TX3) (N := 15) hx hb hts inX3 hown hK.2 hP 0 rfl rfl 14 (by decide) (hts _ k_222) (fun _ h9 => h9) rfl d_D_beginToLead_122 ?_
  refine va_get (ci := 0) (C := "QuorumStore$Lead") (T := TX0) (N := 8) hx hb hts inX0 hown hK.2 hP 17 rfl rfl 7 (by decide) (hts _ k_147) (fun _ h9 => h9) rfl d_D_beginToLead_125 ?_
  refine lv_iconst (v := 1) hx hb d_D_beginToLead_128 (by decide) ?_
  refine lv_aload_n hx hb d_D_beginToLead_129 rfl (lv_at hl 1 rfl) ?_
  refine va_get (ci := 3) (C := "QuorumStore$Node") (T := TX3) (N := 15) hx hb hts inX3 hown hK.2 hP 0 rfl rfl 10 (by decide) (hts _ k_215) (fun _ h9 => h9) rfl d_D_beginToLead_130 ?_
  refine lv_iconst (v := 0) hx hb d_D_beginToLead_133 (by decide) ?_
  refine lv_null hx hb d_D_beginToLead_134 ?_
  refine xe_callv (wr := [zO 5 (q 1) [.ref ((q 2)), .ref ((q 3)), .ref ((q 4)), .ref ((q 5)), .ref ((q 6)), .int 1], zJ t (q 2) 32 (fun _ => 1099511627776), zI t (q 3) 8 (fun _ => 0), zJ t (q 4) 8 (fun _ => 0), zI t (q 5) 4 (xm 1), zI t (q 6) 4 (xm mk), zO 4 (q 7) [.ref ((q 8)), .ref ((q 9)), .ref ((q 10))], zI t (q 8) 32 (fun _ => 0), zI t (q 9) 32 (fun _ => 0), zA t 2 (q 10) 32 (fun _ => none), zO 4 (q 11) [.ref ((q 12)), .ref ((q 13)), .ref ((q 14))], zI t (q 12) 64 (fun _ => 0), zI t (q 13) 64 (fun _ => 0), zA t 2 (q 14) 64 (fun _ => none), zO 0 (q 15) [.ref no, .int f_5, .ref ((q 16)), .ref ((q 20)), .ref ((q 24)), .int 0, .int 0, .int f_6], zO 4 (q 16) [.ref ((q 17)), .ref ((q 18)), .ref ((q 19))], zI t (q 17) 32 (fun _ => 0), zI t (q 18) 32 (fun _ => 0), zA t 2 (q 19) 32 (fun _ => none), zO 4 (q 20) [.ref ((q 21)), .ref ((q 22)), .ref ((q 23))], zI t (q 21) 4 (fun _ => 0), zI t (q 22) 4 (fun _ => 0), zA t 2 (q 23) 4 (fun _ => none), zA t 2 (q 24) 16 (fun _ => none)]) (xs_V (As := [.int f_6, .int 1, .int f_3, .int 0, .null]) (rest := []) Z (C_D_sendEach l D t q nw no i f_3 1 f_3 3 f_4 gr sp mk rw z hz x y g _ _ _ _ H.size) m_D_sendEach k_429 k_431 ks_3 rfl rfl ⟨Nat.le_of_ble_eq_true rfl, Nat.le_of_ble_eq_true rfl⟩ (va_recv hK.2 hP (ci := 3) (q0 := 0) rfl rfl) (xe_pre hK (hP.sub [0, 15, 16] rfl) (hD.sub [0, 15, 16] (by decide) rfl)) rfl hl.1 rfl (Nat.le_of_ble_eq_true rfl) d_D_beginToLead_135 ⟨Nat.le_of_ble_eq_true rfl, Nat.le_of_ble_eq_true rfl⟩) hP hD hS hA [0, 15, 16] [1, 2, 3, 4, 5, 6, 7, 8, 9, 10, 11, 12, 13, 14, 17, 18, 19, 20, 21, 22, 23, 24, 25, 26] rfl rfl (by decide) (by decide) (fun u_ H locs _ hP hD hS => ?_)
  obtain ⟨x2, y2, g2⟩ := u_
  have hP : va_P D vwCl [zO 5 (q 1) [.ref ((q 2)), .ref ((q 3)), .ref ((q 4)), .ref ((q 5)), .ref ((q 6)), .int 1], zJ t (q 2) 32 (fun _ => 1099511627776), zI t (q 3) 8 (fun _ => 0), zJ t (q 4) 8 (fun _ => 0), zI t (q 5) 4 (xm 1), zI t (q 6) 4 (xm mk), zO 4 (q 7) [.ref ((q 8)), .ref ((q 9)), .ref ((q 10))], zI t (q 8) 32 (fun _ => 0), zI t (q 9) 32 (fun _ => 0), zA t 2 (q 10) 32 (fun _ => none), zO 4 (q 11) [.ref ((q 12)), .ref ((q 13)), .ref ((q 14))], zI t (q 12) 64 (fun _ => 0), zI t (q 13) 64 (fun _ => 0), zA t 2 (q 14) 64 (fun _ => none), zO 0 (q 15) [.ref no, .int f_5, .ref ((q 16)), .ref ((q 20)), .ref ((q 24)), .int 0, .int 0, .int f_6], zO 4 (q 16) [.ref ((q 17)), .ref ((q 18)), .ref ((q 19))], zI t (q 17) 32 (fun _ => 0), zI t (q 18) 32 (fun _ => 0), zA t 2 (q 19) 32 (fun _ => none), zO 4 (q 20) [.ref ((q 21)), .ref ((q 22)), .ref ((q 23))], zI t (q 21) 4 (fun _ => 0), zI t (q 22) 4 (fun _ => 0), zA t 2 (q 23) 4 (fun _ => none), zA t 2 (q 24) 16 (fun _ => none), zO 3 (q 0) [.int (nI i), .ref nw, .int f_3, .int 0, .int 0, .ref ((q 1)), .ref ((q 7)), .ref ((q 11)), .int 1, .int 1, .int f_3, .int 3, .int f_4, .int 0, .ref ((q 15))], zO 2 nw [.ref rw, .int (nI (min 300 (z + xn f_6 7))), .int x2, .int y2, .int 0], zA t 3 rw 300 g2] H := hP
  have hD : va_D A [zO 5 (q 1) [.ref ((q 2)), .ref ((q 3)), .ref ((q 4)), .ref ((q 5)), .ref ((q 6)), .int 1], zJ t (q 2) 32 (fun _ => 1099511627776), zI t (q 3) 8 (fun _ => 0), zJ t (q 4) 8 (fun _ => 0), zI t (q 5) 4 (xm 1), zI t (q 6) 4 (xm mk), zO 4 (q 7) [.ref ((q 8)), .ref ((q 9)), .ref ((q 10))], zI t (q 8) 32 (fun _ => 0), zI t (q 9) 32 (fun _ => 0), zA t 2 (q 10) 32 (fun _ => none), zO 4 (q 11) [.ref ((q 12)), .ref ((q 13)), .ref ((q 14))], zI t (q 12) 64 (fun _ => 0), zI t (q 13) 64 (fun _ => 0), zA t 2 (q 14) 64 (fun _ => none), zO 0 (q 15) [.ref no, .int f_5, .ref ((q 16)), .ref ((q 20)), .ref ((q 24)), .int 0, .int 0, .int f_6], zO 4 (q 16) [.ref ((q 17)), .ref ((q 18)), .ref ((q 19))], zI t (q 17) 32 (fun _ => 0), zI t (q 18) 32 (fun _ => 0), zA t 2 (q 19) 32 (fun _ => none), zO 4 (q 20) [.ref ((q 21)), .ref ((q 22)), .ref ((q 23))], zI t (q 21) 4 (fun _ => 0), zI t (q 22) 4 (fun _ => 0), zA t 2 (q 23) 4 (fun _ => none), zA t 2 (q 24) 16 (fun _ => none), zO 3 (q 0) [.int (nI i), .ref nw, .int f_3, .int 0, .int 0, .ref ((q 1)), .ref ((q 7)), .ref ((q 11)), .int 1, .int 1, .int f_3, .int 3, .int f_4, .int 0, .ref ((q 15))], zO 2 nw [.ref rw, .int (nI (min 300 (z + xn f_6 7))), .int x2, .int y2, .int 0], zA t 3 rw 300 g2] := hD
  subst ef_5
  subst ef_4
  subst ef_6
  have hP : va_P D vwCl [zO 5 (q 1) [.ref ((q 2)), .ref ((q 3)), .ref ((q 4)), .ref ((q 5)), .ref ((q 6)), .int 1], zJ t (q 2) 32 (fun _ => 1099511627776), zI t (q 3) 8 (fun _ => 0), zJ t (q 4) 8 (fun _ => 0), zI t (q 5) 4 (xm 1), zI t (q 6) 4 (xm mk), zO 4 (q 7) [.ref ((q 8)), .ref ((q 9)), .ref ((q 10))], zI t (q 8) 32 (fun _ => 0), zI t (q 9) 32 (fun _ => 0), zA t 2 (q 10) 32 (fun _ => none), zO 4 (q 11) [.ref ((q 12)), .ref ((q 13)), .ref ((q 14))], zI t (q 12) 64 (fun _ => 0), zI t (q 13) 64 (fun _ => 0), zA t 2 (q 14) 64 (fun _ => none), zO 0 (q 15) [.ref no, .int ((1 : Int32) <<< ((nI i) &&& 31)), .ref ((q 16)), .ref ((q 20)), .ref ((q 24)), .int 0, .int 0, .int (xp mk (nI i))], zO 4 (q 16) [.ref ((q 17)), .ref ((q 18)), .ref ((q 19))], zI t (q 17) 32 (fun _ => 0), zI t (q 18) 32 (fun _ => 0), zA t 2 (q 19) 32 (fun _ => none), zO 4 (q 20) [.ref ((q 21)), .ref ((q 22)), .ref ((q 23))], zI t (q 21) 4 (fun _ => 0), zI t (q 22) 4 (fun _ => 0), zA t 2 (q 23) 4 (fun _ => none), zA t 2 (q 24) 16 (fun _ => none), zO 3 (q 0) [.int (nI i), .ref nw, .int f_3, .int 0, .int 0, .ref ((q 1)), .ref ((q 7)), .ref ((q 11)), .int 1, .int 1, .int f_3, .int 3, .int (nI i), .int 0, .ref ((q 15))], zO 2 nw [.ref rw, .int (nI (min 300 (z + xn (xp mk (nI i)) 7))), .int x2, .int y2, .int 0], zA t 3 rw 300 g2] H := hP
  have hD : va_D A [zO 5 (q 1) [.ref ((q 2)), .ref ((q 3)), .ref ((q 4)), .ref ((q 5)), .ref ((q 6)), .int 1], zJ t (q 2) 32 (fun _ => 1099511627776), zI t (q 3) 8 (fun _ => 0), zJ t (q 4) 8 (fun _ => 0), zI t (q 5) 4 (xm 1), zI t (q 6) 4 (xm mk), zO 4 (q 7) [.ref ((q 8)), .ref ((q 9)), .ref ((q 10))], zI t (q 8) 32 (fun _ => 0), zI t (q 9) 32 (fun _ => 0), zA t 2 (q 10) 32 (fun _ => none), zO 4 (q 11) [.ref ((q 12)), .ref ((q 13)), .ref ((q 14))], zI t (q 12) 64 (fun _ => 0), zI t (q 13) 64 (fun _ => 0), zA t 2 (q 14) 64 (fun _ => none), zO 0 (q 15) [.ref no, .int ((1 : Int32) <<< ((nI i) &&& 31)), .ref ((q 16)), .ref ((q 20)), .ref ((q 24)), .int 0, .int 0, .int (xp mk (nI i))], zO 4 (q 16) [.ref ((q 17)), .ref ((q 18)), .ref ((q 19))], zI t (q 17) 32 (fun _ => 0), zI t (q 18) 32 (fun _ => 0), zA t 2 (q 19) 32 (fun _ => none), zO 4 (q 20) [.ref ((q 21)), .ref ((q 22)), .ref ((q 23))], zI t (q 21) 4 (fun _ => 0), zI t (q 22) 4 (fun _ => 0), zA t 2 (q 23) 4 (fun _ => none), zA t 2 (q 24) 16 (fun _ => none), zO 3 (q 0) [.int (nI i), .ref nw, .int f_3, .int 0, .int 0, .ref ((q 1)), .ref ((q 7)), .ref ((q 11)), .int 1, .int 1, .int f_3, .int 3, .int (nI i), .int 0, .ref ((q 15))], zO 2 nw [.ref rw, .int (nI (min 300 (z + xn (xp mk (nI i)) 7))), .int x2, .int y2, .int 0], zA t 3 rw 300 g2] := hD
  have hP := hP.sub (ws' := [zO 3 (q 0) [.int (nI i), .ref nw, .int f_3, .int 0, .int 0, .ref ((q 1)), .ref ((q 7)), .ref ((q 11)), .int 1, .int 1, .int f_3, .int 3, .int (nI i), .int 0, .ref ((q 15))], zO 5 (q 1) [.ref ((q 2)), .ref ((q 3)), .ref ((q 4)), .ref ((q 5)), .ref ((q 6)), .int 1], zJ t (q 2) 32 (fun _ => 1099511627776), zI t (q 3) 8 (fun _ => 0), zJ t (q 4) 8 (fun _ => 0), zI t (q 5) 4 (xm 1), zI t (q 6) 4 (xm mk), zO 4 (q 7) [.ref ((q 8)), .ref ((q 9)), .ref ((q 10))], zI t (q 8) 32 (fun _ => 0), zI t (q 9) 32 (fun _ => 0), zA t 2 (q 10) 32 (fun _ => none), zO 4 (q 11) [.ref ((q 12)), .ref ((q 13)), .ref ((q 14))], zI t (q 12) 64 (fun _ => 0), zI t (q 13) 64 (fun _ => 0), zA t 2 (q 14) 64 (fun _ => none), zO 0 (q 15) [.ref no, .int ((1 : Int32) <<< ((nI i) &&& 31)), .ref ((q 16)), .ref ((q 20)), .ref ((q 24)), .int 0, .int 0, .int (xp mk (nI i))], zO 4 (q 16) [.ref ((q 17)), .ref ((q 18)), .ref ((q 19))], zI t (q 17) 32 (fun _ => 0), zI t (q 18) 32 (fun _ => 0), zA t 2 (q 19) 32 (fun _ => none), zO 4 (q 20) [.ref ((q 21)), .ref ((q 22)), .ref ((q 23))], zI t (q 21) 4 (fun _ => 0), zI t (q 22) 4 (fun _ => 0), zA t 2 (q 23) 4 (fun _ => none), zA t 2 (q 24) 16 (fun _ => none), zO 2 nw [.ref rw, .int (nI (min 300 (z + xn (xp mk (nI i)) 7))), .int x2, .int y2, .int 0], zA t 3 rw 300 g2]) [24, 0, 1, 2, 3, 4, 5, 6, 7, 8, 9, 10, 11, 12, 13, 14, 15, 16, 17, 18, 19, 20, 21, 22, 23, 25, 26] rfl
  have hD := hD.sub (ws' := [zO 3 (q 0) [.int (nI i), .ref nw, .int f_3, .int 0, .int 0, .ref ((q 1)), .ref ((q 7)), .ref ((q 11)), .int 1, .int 1, .int f_3, .int 3, .int (nI i), .int 0, .ref ((q 15))], zO 5 (q 1) [.ref ((q 2)), .ref ((q 3)), .ref ((q 4)), .ref ((q 5)), .ref ((q 6)), .int 1], zJ t (q 2) 32 (fun _ => 1099511627776), zI t (q 3) 8 (fun _ => 0), zJ t (q 4) 8 (fun _ => 0), zI t (q 5) 4 (xm 1), zI t (q 6) 4 (xm mk), zO 4 (q 7) [.ref ((q 8)), .ref ((q 9)), .ref ((q 10))], zI t (q 8) 32 (fun _ => 0), zI t (q 9) 32 (fun _ => 0), zA t 2 (q 10) 32 (fun _ => none), zO 4 (q 11) [.ref ((q 12)), .ref ((q 13)), .ref ((q 14))], zI t (q 12) 64 (fun _ => 0), zI t (q 13) 64 (fun _ => 0), zA t 2 (q 14) 64 (fun _ => none), zO 0 (q 15) [.ref no, .int ((1 : Int32) <<< ((nI i) &&& 31)), .ref ((q 16)), .ref ((q 20)), .ref ((q 24)), .int 0, .int 0, .int (xp mk (nI i))], zO 4 (q 16) [.ref ((q 17)), .ref ((q 18)), .ref ((q 19))], zI t (q 17) 32 (fun _ => 0), zI t (q 18) 32 (fun _ => 0), zA t 2 (q 19) 32 (fun _ => none), zO 4 (q 20) [.ref ((q 21)), .ref ((q 22)), .ref ((q 23))], zI t (q 21) 4 (fun _ => 0), zI t (q 22) 4 (fun _ => 0), zA t 2 (q 23) 4 (fun _ => none), zA t 2 (q 24) 16 (fun _ => none), zO 2 nw [.ref rw, .int (nI (min 300 (z + xn (xp mk (nI i)) 7))), .int x2, .int y2, .int 0], zA t 3 rw 300 g2]) [24, 0, 1, 2, 3, 4, 5, 6, 7, 8, 9, 10, 11, 12, 13, 14, 15, 16, 17, 18, 19, 20, 21, 22, 23, 25, 26] (by decide) rfl
  exact W.vret hx hb hr (fun t ht hW => ⟨⟨(_, _, _, _, _, _), rfl, trivial, by rw [ht]; exact hP, hD⟩, hS.F ht⟩) hS.2.2 d_D_beginToLead_138
