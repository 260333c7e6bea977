/-! The reference: what only reads, and its constructors but its own. -/
theorem xb_01 (x : Int32) : x &&& 1 = 0 ∨ x &&& 1 = 1 := by
  have h := vp_in_iff.mp (pk_andIn x (m := 1) 1 (by decide) (by decide))
  have h2 : (x &&& 1).toInt = 0 ∨ (x &&& 1).toInt = 1 := by
    have := h.1
    have := h.2
    omega
  exact h2.imp (fun h9 => Int32.toInt_inj.mp h9) (fun h9 => Int32.toInt_inj.mp h9)
/-- an answer that is a long, that is a cell known before -/
def xe_l {S : Type} (D : va_G) (cl : List vw_C) (post : Int64 → S → Prop) (w1 : S → va_W) (A : Nat → Prop) : Array Value → State → Outcome → State → Prop := va_Ql post (fun u t => va_P D cl (w1 u) t.heap ∧ va_D A (w1 u)) A
def xe_r {S : Type} (D : va_G) (cl : List vw_C) (ra : Nat) (post : S → Prop) (w1 : S → va_W) (A : Nat → Prop) : Array Value → State → Outcome → State → Prop := va_Qr post (fun u a t => a = ra ∧ va_P D cl (w1 u) t.heap ∧ va_D A (w1 u)) A
section XU
variable {p : Program} {l : Launch} {e : Env} {R : Room} {s : State} {m : MethodId} {args : Array Value} {below : List Frame} {meth : Method} {c : Code} {H H0 : Heap} {locs : List Loc} {cells slots : Nat} {Q : State → Prop}
variable {D : va_G} {cl : List vw_C} {wc ws : va_W} {mc ms : Nat} {rest : List Value} {pc : Nat} {ls : Array Slot} {st0 : List Value} {A : Nat → Prop}
theorem xe_calll {S : Type} {post : Int64 → S → Prop} {w1 : S → va_W} {wr : va_W} {a : Array Value} (hr : va_Run p l e R s m args below meth c H locs cells slots mc ms (F0 m pc ls st0) rest (xe_l D cl post w1 (va_A wc H.size) a) (va_A wc H.size))
    (hP : va_P D cl ws H) (hD : va_D A ws) (hS : va_S A H0 H locs) (hA : ∀ q, H0.size ≤ q → A q) (isC isR : List Nat) (hC : isC.map (fun i => ws[i]?) = wc.map some) (hR : isR.map (fun i => ws[i]?) = wr.map some) (hn : va_nd isR = true) (hdis : ∀ i ∈ isR, i ∉ isC)
    (kk : ∀ (r : Int64) (u : S) (H1 : Heap) (locs1 : List Loc), post r u → va_P D cl (wr ++ w1 u) H1 → va_D A (wr ++ w1 u) → va_S A H0 H1 locs1 → W p l e R s m args below meth c H1 locs1 (cells + mc) (slots + ms) Q (F0 m (pc + 3) ls (.long r :: rest))) : W p l e R s m args below meth c H locs cells slots Q (F0 m pc ls st0) := by
  have hF := va_free (wc := wc) hD hS hA isC hC
  refine va_calll hr hS (fun q _ h => hF q h) hF (fun r u t H1 locs1 ht hvm hw hB hz1 hk1 hS1 => ?_)
  obtain ⟨hP1, hD1⟩ := hB
  rw [ht] at hP1
  obtain ⟨hP2, hD2⟩ := va_join hP hD isC isR hC hR hn hdis hk1 hF hP1 hD1
  exact kk r u H1 locs1 hw hP2 hD2 hS1
theorem xe_callr {S : Type} {ra : Nat} {post : S → Prop} {w1 : S → va_W} {wr : va_W} {a : Array Value} (hr : va_Run p l e R s m args below meth c H locs cells slots mc ms (F0 m pc ls st0) rest (xe_r D cl ra post w1 (va_A wc H.size) a) (va_A wc H.size))
    (hP : va_P D cl ws H) (hD : va_D A ws) (hS : va_S A H0 H locs) (hA : ∀ q, H0.size ≤ q → A q) (isC isR : List Nat) (hC : isC.map (fun i => ws[i]?) = wc.map some) (hR : isR.map (fun i => ws[i]?) = wr.map some) (hn : va_nd isR = true) (hdis : ∀ i ∈ isR, i ∉ isC)
    (kk : ∀ (u : S) (H1 : Heap) (locs1 : List Loc), post u → va_P D cl (wr ++ w1 u) H1 → va_D A (wr ++ w1 u) → va_S A H0 H1 locs1 → W p l e R s m args below meth c H1 locs1 (cells + mc) (slots + ms) Q (F0 m (pc + 3) ls (.ref ra :: rest))) : W p l e R s m args below meth c H locs cells slots Q (F0 m pc ls st0) := by
  have hF := va_free (wc := wc) hD hS hA isC hC
  refine va_callr hr hS (fun q _ h => hF q h) hF (fun u r t H1 locs1 ht hvm hw hB hz1 hk1 hS1 => ?_)
  obtain ⟨rfl, hP1, hD1⟩ := hB
  rw [ht] at hP1
  obtain ⟨hP2, hD2⟩ := va_join hP hD isC isR hC hR hn hdis hk1 hF hP1 hD1
  exact kk u H1 locs1 hw hP2 hD2 hS1
end XU
theorem d_P_in_0 : decode c_P_in 0 = .ok (.iload_n 0, 1) := by decide +kernel
theorem d_P_in_1 : decode c_P_in 1 = .ok (.iload_n 1, 1) := by decide +kernel
theorem d_P_in_2 : decode c_P_in 2 = .ok (.ishr, 1) := by decide +kernel
theorem d_P_in_3 : decode c_P_in 3 = .ok (.iconst 1, 1) := by decide +kernel
theorem d_P_in_4 : decode c_P_in 4 = .ok (.iand, 1) := by decide +kernel
theorem d_P_in_5 : decode c_P_in 5 = .ok (.iconst 1, 1) := by decide +kernel
theorem d_P_in_6 : decode c_P_in 6 = .ok (.if_icmp .ne 7, 3) := by decide +kernel
theorem d_P_in_9 : decode c_P_in 9 = .ok (.iconst 1, 1) := by decide +kernel
theorem d_P_in_10 : decode c_P_in 10 = .ok (.goto 4, 3) := by decide +kernel
theorem d_P_in_13 : decode c_P_in 13 = .ok (.iconst 0, 1) := by decide +kernel
theorem d_P_in_14 : decode c_P_in 14 = .ok (.ireturn, 1) := by decide +kernel
set_option maxHeartbeats 4000000 in
set_option maxRecDepth 100000 in
/-- in -/
theorem C_P_in (l : Launch) (D : va_G) (t : Nat → ClassId) (a b : Int32) : xr_C l D vwCl (xTY t) y_P_in c_P_in 2 (Option.some FieldType.boolean) ({ frames := 0, cells := 0, slots := 0, locals := 0 }) [.int a, .int b] [] (xr_Q (some (.int (xb a b)))) := by
  refine xr_of (by decide) (Nat.le_of_ble_eq_true rfl) ?_
  intro p e s m below meth c ls Z hr hlocks hP hl
  obtain ⟨hx, hb, hml, hown, hK⟩ := id Z
  have hown : s.vm.findClass "QuorumStoreModel" = some m.cls := hown
  have hts := hK.1.at (args := ([.int a, .int b] : List Value).toArray)
  have hl : lv_has ls 2 [(0, .int a), (1, .int b)] := hl
  refine lv_iload_n hx hb d_P_in_0 rfl (lv_at hl 0 rfl) ?_
  refine lv_iload_n hx hb d_P_in_1 rfl (lv_at hl 1 rfl) ?_
  refine lv_ishr hx hb d_P_in_2 ?_
  refine lv_iconst (v := 1) hx hb d_P_in_3 (by decide) ?_
  refine lv_iand hx hb d_P_in_4 ?_
  refine lv_iconst (v := 1) hx hb d_P_in_5 (by decide) ?_
  refine lv_icmp_ne (tgt := 13) hx hb d_P_in_6 (by decide) (fun c_1 => ?_) (fun c_1 => ?_)
  · refine lv_iconst (v := 0) hx hb d_P_in_13 (by decide) ?_
    exact W.zret hx hb hr (by decide) (fun t ht _ => ⟨by rw [show xb a b = 0 from if_pos ((xb_01 _).resolve_right c_1)], ht⟩) (fun q h => by cases h) d_P_in_14
  · refine lv_iconst (v := 1) hx hb d_P_in_9 (by decide) ?_
    refine lv_goto (tgt := 14) hx hb d_P_in_10 (by decide) ?_
    exact W.zret hx hb hr (by decide) (fun t ht _ => ⟨by rw [show xb a b = 1 from if_neg (fun h9 => absurd (h9.symm.trans c_1) (by decide))], ht⟩) (fun q h => by cases h) d_P_in_14
theorem d_P_majority_0 : decode c_P_majority 0 = .ok (.iconst 0, 1) := by decide +kernel
theorem d_P_majority_1 : decode c_P_majority 1 = .ok (.istore_n 2, 1) := by decide +kernel
theorem d_P_majority_2 : decode c_P_majority 2 = .ok (.iconst 0, 1) := by decide +kernel
theorem d_P_majority_3 : decode c_P_majority 3 = .ok (.istore_n 3, 1) := by decide +kernel
theorem d_P_majority_4 : decode c_P_majority 4 = .ok (.iconst 0, 1) := by decide +kernel
theorem d_P_majority_5 : decode c_P_majority 5 = .ok (.istore 4, 2) := by decide +kernel
theorem d_P_majority_7 : decode c_P_majority 7 = .ok (.iload 4, 2) := by decide +kernel
theorem d_P_majority_9 : decode c_P_majority 9 = .ok (.bipush 7, 2) := by decide +kernel
theorem d_P_majority_11 : decode c_P_majority 11 = .ok (.if_icmp .ge 36, 3) := by decide +kernel
theorem d_P_majority_14 : decode c_P_majority 14 = .ok (.iload_n 0, 1) := by decide +kernel
theorem d_P_majority_15 : decode c_P_majority 15 = .ok (.iload 4, 2) := by decide +kernel
theorem d_P_majority_17 : decode c_P_majority 17 = .ok (.invokestatic 88, 3) := by decide +kernel
theorem d_P_majority_20 : decode c_P_majority 20 = .ok (.ifCond .ne 6, 3) := by decide +kernel
theorem d_P_majority_23 : decode c_P_majority 23 = .ok (.goto 18, 3) := by decide +kernel
theorem d_P_majority_26 : decode c_P_majority 26 = .ok (.iinc 2 1, 3) := by decide +kernel
theorem d_P_majority_29 : decode c_P_majority 29 = .ok (.iload_n 1, 1) := by decide +kernel
theorem d_P_majority_30 : decode c_P_majority 30 = .ok (.iload 4, 2) := by decide +kernel
theorem d_P_majority_32 : decode c_P_majority 32 = .ok (.invokestatic 88, 3) := by decide +kernel
theorem d_P_majority_35 : decode c_P_majority 35 = .ok (.ifCond .eq 6, 3) := by decide +kernel
theorem d_P_majority_38 : decode c_P_majority 38 = .ok (.iinc 3 1, 3) := by decide +kernel
theorem d_P_majority_41 : decode c_P_majority 41 = .ok (.iinc 4 1, 3) := by decide +kernel
theorem d_P_majority_44 : decode c_P_majority 44 = .ok (.goto (-37), 3) := by decide +kernel
theorem d_P_majority_47 : decode c_P_majority 47 = .ok (.iconst 2, 1) := by decide +kernel
theorem d_P_majority_48 : decode c_P_majority 48 = .ok (.iload_n 3, 1) := by decide +kernel
theorem d_P_majority_49 : decode c_P_majority 49 = .ok (.imul, 1) := by decide +kernel
theorem d_P_majority_50 : decode c_P_majority 50 = .ok (.iload_n 2, 1) := by decide +kernel
theorem d_P_majority_51 : decode c_P_majority 51 = .ok (.if_icmp .le 7, 3) := by decide +kernel
theorem d_P_majority_54 : decode c_P_majority 54 = .ok (.iconst 1, 1) := by decide +kernel
theorem d_P_majority_55 : decode c_P_majority 55 = .ok (.goto 4, 3) := by decide +kernel
theorem d_P_majority_58 : decode c_P_majority 58 = .ok (.iconst 0, 1) := by decide +kernel
theorem d_P_majority_59 : decode c_P_majority 59 = .ok (.ireturn, 1) := by decide +kernel
set_option maxHeartbeats 4000000 in
set_option maxRecDepth 100000 in
/-- majority: 0 or 1 -/
theorem C_P_majority (l : Launch) (D : va_G) (t : Nat → ClassId) (a b : Int32) : xr_C l D vwCl (xTY t) y_P_majority c_P_majority 5 (Option.some FieldType.boolean) ({ frames := 1, cells := 0, slots := 0, locals := 21 }) [.int a, .int b] [] (xr_P (fun v => ∃ b : Int32, v = some (.int b) ∧ (b = 0 ∨ b = 1))) := by
  refine xr_of (by decide) (Nat.le_of_ble_eq_true rfl) ?_
  intro p e s m below meth c ls Z hr hlocks hP hl
  obtain ⟨hx, hb, hml, hown, hK⟩ := id Z
  have hown : s.vm.findClass "QuorumStoreModel" = some m.cls := hown
  have hts := hK.1.at (args := ([.int a, .int b] : List Value).toArray)
  have hl : lv_has ls 5 [(0, .int a), (1, .int b)] := hl
  refine lv_iconst (v := 0) hx hb d_P_majority_0 (by decide) ?_
  refine lv_istore_n (lv' := [(2, .int 0), (0, .int a), (1, .int b)]) hx hb d_P_majority_1 rfl hl (by decide) rfl (fun ls hl => ?_)
  refine lv_iconst (v := 0) hx hb d_P_majority_2 (by decide) ?_
  refine lv_istore_n (lv' := [(3, .int 0), (2, .int 0), (0, .int a), (1, .int b)]) hx hb d_P_majority_3 rfl hl (by decide) rfl (fun ls hl => ?_)
  refine lv_iconst (v := 0) hx hb d_P_majority_4 (by decide) ?_
  refine lv_istore (lv' := [(4, .int 0), (3, .int 0), (2, .int 0), (0, .int a), (1, .int b)]) hx hb d_P_majority_5 hl (by decide) rfl (fun ls hl => ?_)
  have loop : ∀ (n i : Nat) (al hv : Int32), i + n = 7 → ∀ (ls : Array Slot), lv_has ls 5 [(4, .int (nI i)), (3, .int hv), (2, .int al), (0, .int a), (1, .int b)] → W p l e ({ frames := 1, cells := 0, slots := 0, locals := 21 } : Room) s m ([.int a, .int b] : List Value).toArray below meth c s.heap [] 0 0 (MQ below (xr_P (fun v => ∃ b : Int32, v = some (.int b) ∧ (b = 0 ∨ b = 1))) ([.int a, .int b] : List Value).toArray s 0 0 (fun _ => False)) (F0 m 7 ls []) := by
    intro n
    induction n with
    | zero =>
      intro i al hv hi ls hl
      refine lv_iload hx hb d_P_majority_7 (lv_at hl 0 rfl) ?_
      refine lv_bipush (v := 7) hx hb d_P_majority_9 (by decide) ?_
      refine lv_icmp_ge (tgt := 47) hx hb d_P_majority_11 (by decide) (fun _ => ?_) (fun c_1 => absurd (nI_le (b := i) (a := 7) (by omega) (by omega)) c_1)
      refine lv_iconst (v := 2) hx hb d_P_majority_47 (by decide) ?_
      refine lv_iload_n hx hb d_P_majority_48 rfl (lv_at hl 1 rfl) ?_
      refine lv_imul hx hb d_P_majority_49 ?_
      refine lv_iload_n hx hb d_P_majority_50 rfl (lv_at hl 2 rfl) ?_
      refine lv_icmp_le (tgt := 58) hx hb d_P_majority_51 (by decide) (fun c_2 => ?_) (fun c_2 => ?_)
      · refine lv_iconst (v := 0) hx hb d_P_majority_58 (by decide) ?_
        exact W.zret hx hb hr (by decide) (fun t ht _ => ⟨⟨_, rfl, ⟨0, rfl, Or.inl rfl⟩⟩, ht⟩) (fun q h => by cases h) d_P_majority_59
      · refine lv_iconst (v := 1) hx hb d_P_majority_54 (by decide) ?_
        refine lv_goto (tgt := 59) hx hb d_P_majority_55 (by decide) ?_
        exact W.zret hx hb hr (by decide) (fun t ht _ => ⟨⟨_, rfl, ⟨1, rfl, Or.inr rfl⟩⟩, ht⟩) (fun q h => by cases h) d_P_majority_59
    | succ n ih =>
      intro i al hv hi ls hl
      refine lv_iload hx hb d_P_majority_7 (lv_at hl 0 rfl) ?_
      refine lv_bipush (v := 7) hx hb d_P_majority_9 (by decide) ?_
      refine lv_icmp_ge (tgt := 47) hx hb d_P_majority_11 (by decide) (fun c_3 => absurd c_3 (nI_ge (a := i) (b := 7) (by omega) (by omega))) (fun _ => ?_)
      refine lv_iload_n hx hb d_P_majority_14 rfl (lv_at hl 3 rfl) ?_
      refine lv_iload hx hb d_P_majority_15 (lv_at hl 0 rfl) ?_
      refine xr_call (xs_S (As := [.int a, .int (nI i)]) (rest := []) Z (C_P_in l D t _ _) m_P_in k_1046 k_1047 rfl rfl ⟨Nat.le_of_ble_eq_true rfl, Nat.le_of_ble_eq_true rfl⟩ (xr_pre hK (hP.sub [] rfl)) rfl hl.1 rfl (Nat.le_of_ble_eq_true rfl) d_P_majority_17 ⟨Nat.le_of_ble_eq_true rfl, Nat.le_of_ble_eq_true rfl⟩) ?_
      refine lv_if_ne (tgt := 26) hx hb d_P_majority_20 (by decide) (fun c_4 => ?_) (fun c_4 => ?_)
      · refine lv_iinc (v := (al) + 1) (lv' := [(2, .int ((al) + 1)), (4, .int (nI i)), (3, .int hv), (0, .int a), (1, .int b)]) hx hb d_P_majority_26 hl (k := 2) rfl rfl (by decide) rfl (fun ls hl => ?_)
        refine lv_iload_n hx hb d_P_majority_29 rfl (lv_at hl 4 rfl) ?_
        refine lv_iload hx hb d_P_majority_30 (lv_at hl 1 rfl) ?_
        refine xr_call (xs_S (As := [.int b, .int (nI i)]) (rest := []) Z (C_P_in l D t _ _) m_P_in k_1046 k_1047 rfl rfl ⟨Nat.le_of_ble_eq_true rfl, Nat.le_of_ble_eq_true rfl⟩ (xr_pre hK (hP.sub [] rfl)) rfl hl.1 rfl (Nat.le_of_ble_eq_true rfl) d_P_majority_32 ⟨Nat.le_of_ble_eq_true rfl, Nat.le_of_ble_eq_true rfl⟩) ?_
        refine lv_if_eq (tgt := 41) hx hb d_P_majority_35 (by decide) (fun c_5 => ?_) (fun c_5 => ?_)
        · refine lv_iinc (v := nI (i + 1)) (lv' := [(4, .int (nI (i + 1))), (2, .int ((al) + 1)), (3, .int hv), (0, .int a), (1, .int b)]) hx hb d_P_majority_41 hl (k := 1) rfl (nI_1 i) (by decide) rfl (fun ls hl => ?_)
          refine lv_goto (tgt := 7) hx hb d_P_majority_44 (by decide) ?_
          exact ih (i + 1) ((al) + 1) (hv) (by omega) ls (lv_sub hl [0, 2, 1, 3, 4] rfl)
        · refine lv_iinc (v := (hv) + 1) (lv' := [(3, .int ((hv) + 1)), (2, .int ((al) + 1)), (4, .int (nI i)), (0, .int a), (1, .int b)]) hx hb d_P_majority_38 hl (k := 2) rfl rfl (by decide) rfl (fun ls hl => ?_)
          refine lv_iinc (v := nI (i + 1)) (lv' := [(4, .int (nI (i + 1))), (3, .int ((hv) + 1)), (2, .int ((al) + 1)), (0, .int a), (1, .int b)]) hx hb d_P_majority_41 hl (k := 2) rfl (nI_1 i) (by decide) rfl (fun ls hl => ?_)
          refine lv_goto (tgt := 7) hx hb d_P_majority_44 (by decide) ?_
          exact ih (i + 1) ((al) + 1) ((hv) + 1) (by omega) ls (lv_sub hl [0, 1, 2, 3, 4] rfl)
      · refine lv_goto (tgt := 41) hx hb d_P_majority_23 (by decide) ?_
        refine lv_iinc (v := nI (i + 1)) (lv' := [(4, .int (nI (i + 1))), (3, .int hv), (2, .int al), (0, .int a), (1, .int b)]) hx hb d_P_majority_41 hl (k := 0) rfl (nI_1 i) (by decide) rfl (fun ls hl => ?_)
        refine lv_goto (tgt := 7) hx hb d_P_majority_44 (by decide) ?_
        exact ih (i + 1) (al) (hv) (by omega) ls (lv_sub hl [0, 1, 2, 3, 4] rfl)
  exact loop 7 0 0 0 (by omega) ls (lv_sub hl [0, 1, 2, 3, 4] rfl)
theorem d_PS_config_I_0 : decode c_PS_config_I 0 = .ok (.aload_n 0, 1) := by decide +kernel
theorem d_PS_config_I_1 : decode c_PS_config_I 1 = .ok (.getfield 25, 3) := by decide +kernel
theorem d_PS_config_I_4 : decode c_PS_config_I 4 = .ok (.iconst 0, 1) := by decide +kernel
theorem d_PS_config_I_5 : decode c_PS_config_I 5 = .ok (.iaload, 1) := by decide +kernel
theorem d_PS_config_I_6 : decode c_PS_config_I 6 = .ok (.istore_n 2, 1) := by decide +kernel
theorem d_PS_config_I_7 : decode c_PS_config_I 7 = .ok (.iconst 0, 1) := by decide +kernel
theorem d_PS_config_I_8 : decode c_PS_config_I 8 = .ok (.istore_n 3, 1) := by decide +kernel
theorem d_PS_config_I_9 : decode c_PS_config_I 9 = .ok (.iload_n 3, 1) := by decide +kernel
theorem d_PS_config_I_10 : decode c_PS_config_I 10 = .ok (.aload_n 0, 1) := by decide +kernel
theorem d_PS_config_I_11 : decode c_PS_config_I 11 = .ok (.getfield 34, 3) := by decide +kernel
theorem d_PS_config_I_14 : decode c_PS_config_I 14 = .ok (.if_icmp .ge 26, 3) := by decide +kernel
theorem d_PS_config_I_17 : decode c_PS_config_I 17 = .ok (.aload_n 0, 1) := by decide +kernel
theorem d_PS_config_I_18 : decode c_PS_config_I 18 = .ok (.getfield 22, 3) := by decide +kernel
theorem d_PS_config_I_21 : decode c_PS_config_I 21 = .ok (.iload_n 3, 1) := by decide +kernel
theorem d_PS_config_I_22 : decode c_PS_config_I 22 = .ok (.iaload, 1) := by decide +kernel
theorem d_PS_config_I_23 : decode c_PS_config_I 23 = .ok (.iload_n 1, 1) := by decide +kernel
theorem d_PS_config_I_24 : decode c_PS_config_I 24 = .ok (.if_icmp .gt 10, 3) := by decide +kernel
theorem d_PS_config_I_27 : decode c_PS_config_I 27 = .ok (.aload_n 0, 1) := by decide +kernel
theorem d_PS_config_I_28 : decode c_PS_config_I 28 = .ok (.getfield 25, 3) := by decide +kernel
theorem d_PS_config_I_31 : decode c_PS_config_I 31 = .ok (.iload_n 3, 1) := by decide +kernel
theorem d_PS_config_I_32 : decode c_PS_config_I 32 = .ok (.iaload, 1) := by decide +kernel
theorem d_PS_config_I_33 : decode c_PS_config_I 33 = .ok (.istore_n 2, 1) := by decide +kernel
theorem d_PS_config_I_34 : decode c_PS_config_I 34 = .ok (.iinc 3 1, 3) := by decide +kernel
theorem d_PS_config_I_37 : decode c_PS_config_I 37 = .ok (.goto (-28), 3) := by decide +kernel
theorem d_PS_config_I_40 : decode c_PS_config_I 40 = .ok (.iload_n 2, 1) := by decide +kernel
theorem d_PS_config_I_41 : decode c_PS_config_I 41 = .ok (.ireturn, 1) := by decide +kernel
set_option maxHeartbeats 4000000 in
set_option maxRecDepth 100000 in
/-- config(t) where one pair counts -/
theorem C_PS_config_I (l : Launch) (D : va_G) (t : Nat → ClassId) (h n r sq fr ms : Nat) (fn frs : Nat → Int64) (fs f1 f2 : Nat → Int32) (slot : Int32) : xr_C l D vwCl (xTY t) y_PS_config_I c_PS_config_I 4 (Option.some FieldType.int) ({ frames := 0, cells := 0, slots := 0, locals := 0 }) [.ref h, .int slot] [zO 11 h [.int 0, .ref n, .ref r, .ref sq, .ref fr, .ref ms, .int 1], zJ t n 32 fn, zJ t r 8 frs, zI t sq 8 fs, zI t fr 4 f1, zI t ms 4 f2] (xr_Q (some (.int (f2 0)))) := by
  refine xr_of (by decide) (Nat.le_of_ble_eq_true rfl) ?_
  intro p e s m below meth c ls Z hr hlocks hP hl
  obtain ⟨hx, hb, hml, hown, hK⟩ := id Z
  have hown : s.vm.findClass "QuorumStoreModel$State" = some m.cls := hown
  have hts := hK.1.at (args := ([.ref h, .int slot] : List Value).toArray)
  have hl : lv_has ls 4 [(0, .ref h), (1, .int slot)] := hl
  refine lv_aload_n hx hb d_PS_config_I_0 rfl (lv_at hl 0 rfl) ?_
  refine va_get (ci := 11) (C := "QuorumStoreModel$State") (T := TX11) (N := 7) hx hb hts inX11 hown hK.2 hP 0 rfl rfl 5 (by decide) (hts _ k_868) (fun _ h9 => h9) rfl d_PS_config_I_1 ?_
  refine lv_iconst (v := 0) hx hb d_PS_config_I_4 (by decide) ?_
  refine va_iald hx hb hK.2 hP 5 0 rfl rfl (by unfold vp_in; decide) d_PS_config_I_5 ?_
  refine lv_istore_n (lv' := [(2, .int (f2 0)), (0, .ref h), (1, .int slot)]) hx hb d_PS_config_I_6 rfl hl (by decide) rfl (fun ls hl => ?_)
  refine lv_iconst (v := 0) hx hb d_PS_config_I_7 (by decide) ?_
  refine lv_istore_n (lv' := [(3, .int 0), (2, .int (f2 0)), (0, .ref h), (1, .int slot)]) hx hb d_PS_config_I_8 rfl hl (by decide) rfl (fun ls hl => ?_)
  refine lv_iload_n hx hb d_PS_config_I_9 rfl (lv_at hl 0 rfl) ?_
  refine lv_aload_n hx hb d_PS_config_I_10 rfl (lv_at hl 2 rfl) ?_
  refine va_get (ci := 11) (C := "QuorumStoreModel$State") (T := TX11) (N := 7) hx hb hts inX11 hown hK.2 hP 0 rfl rfl 6 (by decide) (hts _ k_869) (fun _ h9 => h9) rfl d_PS_config_I_11 ?_
  refine lv_icmp_ge (tgt := 40) hx hb d_PS_config_I_14 (by decide) (fun c_1 => absurd c_1 (by decide)) (fun _ => ?_)
  refine lv_aload_n hx hb d_PS_config_I_17 rfl (lv_at hl 2 rfl) ?_
  refine va_get (ci := 11) (C := "QuorumStoreModel$State") (T := TX11) (N := 7) hx hb hts inX11 hown hK.2 hP 0 rfl rfl 4 (by decide) (hts _ k_867) (fun _ h9 => h9) rfl d_PS_config_I_18 ?_
  refine lv_iload_n hx hb d_PS_config_I_21 rfl (lv_at hl 0 rfl) ?_
  refine va_iald hx hb hK.2 hP 4 0 rfl rfl (by unfold vp_in; decide) d_PS_config_I_22 ?_
  refine lv_iload_n hx hb d_PS_config_I_23 rfl (lv_at hl 3 rfl) ?_
  refine lv_icmp_gt (tgt := 34) hx hb d_PS_config_I_24 (by decide) (fun c_2 => ?_) (fun c_2 => ?_)
  · refine lv_iinc (v := 1) (lv' := [(3, .int 1), (2, .int (f2 0)), (0, .ref h), (1, .int slot)]) hx hb d_PS_config_I_34 hl (k := 0) rfl rfl (by decide) rfl (fun ls hl => ?_)
    refine lv_goto (tgt := 9) hx hb d_PS_config_I_37 (by decide) ?_
    refine lv_iload_n hx hb d_PS_config_I_9 rfl (lv_at hl 0 rfl) ?_
    refine lv_aload_n hx hb d_PS_config_I_10 rfl (lv_at hl 2 rfl) ?_
    refine va_get (ci := 11) (C := "QuorumStoreModel$State") (T := TX11) (N := 7) hx hb hts inX11 hown hK.2 hP 0 rfl rfl 6 (by decide) (hts _ k_869) (fun _ h9 => h9) rfl d_PS_config_I_11 ?_
    refine lv_icmp_ge (tgt := 40) hx hb d_PS_config_I_14 (by decide) (fun _ => ?_) (fun c_3 => absurd (by decide) c_3)
    refine lv_iload_n hx hb d_PS_config_I_40 rfl (lv_at hl 1 rfl) ?_
    exact W.iret hx hb hr (fun t ht _ => ⟨rfl, ht⟩) (fun q h => by cases h) d_PS_config_I_41
  · refine lv_aload_n hx hb d_PS_config_I_27 rfl (lv_at hl 2 rfl) ?_
    refine va_get (ci := 11) (C := "QuorumStoreModel$State") (T := TX11) (N := 7) hx hb hts inX11 hown hK.2 hP 0 rfl rfl 5 (by decide) (hts _ k_868) (fun _ h9 => h9) rfl d_PS_config_I_28 ?_
    refine lv_iload_n hx hb d_PS_config_I_31 rfl (lv_at hl 0 rfl) ?_
    refine va_iald hx hb hK.2 hP 5 0 rfl rfl (by unfold vp_in; decide) d_PS_config_I_32 ?_
    refine lv_istore_n (lv' := [(2, .int (f2 0)), (3, .int 0), (0, .ref h), (1, .int slot)]) hx hb d_PS_config_I_33 rfl hl (by decide) rfl (fun ls hl => ?_)
    refine lv_iinc (v := 1) (lv' := [(3, .int 1), (2, .int (f2 0)), (0, .ref h), (1, .int slot)]) hx hb d_PS_config_I_34 hl (k := 1) rfl rfl (by decide) rfl (fun ls hl => ?_)
    refine lv_goto (tgt := 9) hx hb d_PS_config_I_37 (by decide) ?_
    refine lv_iload_n hx hb d_PS_config_I_9 rfl (lv_at hl 0 rfl) ?_
    refine lv_aload_n hx hb d_PS_config_I_10 rfl (lv_at hl 2 rfl) ?_
    refine va_get (ci := 11) (C := "QuorumStoreModel$State") (T := TX11) (N := 7) hx hb hts inX11 hown hK.2 hP 0 rfl rfl 6 (by decide) (hts _ k_869) (fun _ h9 => h9) rfl d_PS_config_I_11 ?_
    refine lv_icmp_ge (tgt := 40) hx hb d_PS_config_I_14 (by decide) (fun _ => ?_) (fun c_4 => absurd (by decide) c_4)
    refine lv_iload_n hx hb d_PS_config_I_40 rfl (lv_at hl 1 rfl) ?_
    exact W.iret hx hb hr (fun t ht _ => ⟨rfl, ht⟩) (fun q h => by cases h) d_PS_config_I_41
theorem d_PR_find_0 : decode c_PR_find 0 = .ok (.iconst 0, 1) := by decide +kernel
theorem d_PR_find_1 : decode c_PR_find 1 = .ok (.istore_n 2, 1) := by decide +kernel
theorem d_PR_find_2 : decode c_PR_find 2 = .ok (.iload_n 2, 1) := by decide +kernel
theorem d_PR_find_3 : decode c_PR_find 3 = .ok (.aload_n 0, 1) := by decide +kernel
theorem d_PR_find_4 : decode c_PR_find 4 = .ok (.getfield 24, 3) := by decide +kernel
theorem d_PR_find_7 : decode c_PR_find 7 = .ok (.if_icmp .ge 21, 3) := by decide +kernel
theorem d_PR_find_28 : decode c_PR_find 28 = .ok (.iconst (-1), 1) := by decide +kernel
theorem d_PR_find_29 : decode c_PR_find 29 = .ok (.ireturn, 1) := by decide +kernel
set_option maxHeartbeats 4000000 in
set_option maxRecDepth 100000 in
/-- find in an empty list -/
theorem C_PR_find (l : Launch) (D : va_G) (t : Nat → ClassId) (h a b c : Nat) (x : Int32) : xr_C l D vwCl (xTY t) y_PR_find c_PR_find 3 (Option.some FieldType.int) ({ frames := 0, cells := 0, slots := 0, locals := 0 }) [.ref h, .int x] [zO 10 h [.ref a, .ref b, .ref c, .int 0]] (xr_Q (some (.int (-1)))) := by
  refine xr_of (by decide) (Nat.le_of_ble_eq_true rfl) ?_
  intro p e s m below meth c ls Z hr hlocks hP hl
  obtain ⟨hx, hb, hml, hown, hK⟩ := id Z
  have hown : s.vm.findClass "QuorumStoreModel$Slots" = some m.cls := hown
  have hts := hK.1.at (args := ([.ref h, .int x] : List Value).toArray)
  have hl : lv_has ls 3 [(0, .ref h), (1, .int x)] := hl
  refine lv_iconst (v := 0) hx hb d_PR_find_0 (by decide) ?_
  refine lv_istore_n (lv' := [(2, .int 0), (0, .ref h), (1, .int x)]) hx hb d_PR_find_1 rfl hl (by decide) rfl (fun ls hl => ?_)
  refine lv_iload_n hx hb d_PR_find_2 rfl (lv_at hl 0 rfl) ?_
  refine lv_aload_n hx hb d_PR_find_3 rfl (lv_at hl 1 rfl) ?_
  refine va_get (ci := 10) (C := "QuorumStoreModel$Slots") (T := TX10) (N := 4) hx hb hts inX10 hown hK.2 hP 0 rfl rfl 3 (by decide) (hts _ k_840) (fun _ h9 => h9) rfl d_PR_find_4 ?_
  refine lv_icmp_ge (tgt := 28) hx hb d_PR_find_7 (by decide) (fun _ => ?_) (fun c_1 => absurd (by decide) c_1)
  refine lv_iconst (v := (-1)) hx hb d_PR_find_28 (by decide) ?_
  exact W.iret hx hb hr (fun t ht _ => ⟨rfl, ht⟩) (fun q h => by cases h) d_PR_find_29
theorem d_P_greater_0 : decode c_P_greater 0 = .ok (.aload_n 0, 1) := by decide +kernel
theorem d_P_greater_1 : decode c_P_greater 1 = .ok (.getfield 210, 3) := by decide +kernel
theorem d_P_greater_4 : decode c_P_greater 4 = .ok (.ifCond .le 22, 3) := by decide +kernel
theorem d_P_greater_26 : decode c_P_greater 26 = .ok (.iconst 0, 1) := by decide +kernel
theorem d_P_greater_27 : decode c_P_greater 27 = .ok (.ireturn, 1) := by decide +kernel
set_option maxHeartbeats 4000000 in
set_option maxRecDepth 100000 in
/-- greater of an empty list -/
theorem C_P_greater (l : Launch) (D : va_G) (t : Nat → ClassId) (h a b c : Nat) (x : Int32) : xr_C l D vwCl (xTY t) y_P_greater c_P_greater 2 (Option.some FieldType.boolean) ({ frames := 0, cells := 0, slots := 0, locals := 0 }) [.ref h, .int x] [zO 10 h [.ref a, .ref b, .ref c, .int 0]] (xr_Q (some (.int 0))) := by
  refine xr_of (by decide) (Nat.le_of_ble_eq_true rfl) ?_
  intro p e s m below meth c ls Z hr hlocks hP hl
  obtain ⟨hx, hb, hml, hown, hK⟩ := id Z
  have hown : s.vm.findClass "QuorumStoreModel" = some m.cls := hown
  have hts := hK.1.at (args := ([.ref h, .int x] : List Value).toArray)
  have hl : lv_has ls 2 [(0, .ref h), (1, .int x)] := hl
  refine lv_aload_n hx hb d_P_greater_0 rfl (lv_at hl 0 rfl) ?_
  refine va_get (ci := 10) (C := "QuorumStoreModel$Slots") (T := TX10) (N := 4) hx hb hts inX10 hown hK.2 hP 0 rfl rfl 3 (by decide) (hts _ k_842) (fun _ h9 => h9) rfl d_P_greater_1 ?_
  refine lv_if_le (tgt := 26) hx hb d_P_greater_4 (by decide) (fun _ => ?_) (fun c_1 => absurd (by decide) c_1)
  refine lv_iconst (v := 0) hx hb d_P_greater_26 (by decide) ?_
  exact W.zret hx hb hr (by decide) (fun t ht _ => ⟨rfl, ht⟩) (fun q h => by cases h) d_P_greater_27
theorem d_P_looked_0 : decode c_P_looked 0 = .ok (.iconst 0, 1) := by decide +kernel
theorem d_P_looked_1 : decode c_P_looked 1 = .ok (.istore_n 2, 1) := by decide +kernel
theorem d_P_looked_2 : decode c_P_looked 2 = .ok (.iload_n 2, 1) := by decide +kernel
theorem d_P_looked_3 : decode c_P_looked 3 = .ok (.aload_n 1, 1) := by decide +kernel
theorem d_P_looked_4 : decode c_P_looked 4 = .ok (.getfield 210, 3) := by decide +kernel
theorem d_P_looked_7 : decode c_P_looked 7 = .ok (.if_icmp .ge 84, 3) := by decide +kernel
theorem d_P_looked_91 : decode c_P_looked 91 = .ok (.return_, 1) := by decide +kernel
set_option maxHeartbeats 4000000 in
set_option maxRecDepth 100000 in
/-- looked at an empty list -/
theorem C_P_looked (l : Launch) (D : va_G) (t : Nat → ClassId) (x h a b c : Nat) : xr_C l D vwCl (xTY t) y_P_looked c_P_looked 5 (Option.none : Option FieldType) ({ frames := 0, cells := 0, slots := 0, locals := 0 }) [.ref x, .ref h] [zO 10 h [.ref a, .ref b, .ref c, .int 0]] (xr_Q none) := by
  refine xr_of (by decide) (Nat.le_of_ble_eq_true rfl) ?_
  intro p e s m below meth c ls Z hr hlocks hP hl
  obtain ⟨hx, hb, hml, hown, hK⟩ := id Z
  have hown : s.vm.findClass "QuorumStoreModel" = some m.cls := hown
  have hts := hK.1.at (args := ([.ref x, .ref h] : List Value).toArray)
  have hl : lv_has ls 5 [(0, .ref x), (1, .ref h)] := hl
  refine lv_iconst (v := 0) hx hb d_P_looked_0 (by decide) ?_
  refine lv_istore_n (lv' := [(2, .int 0), (0, .ref x), (1, .ref h)]) hx hb d_P_looked_1 rfl hl (by decide) rfl (fun ls hl => ?_)
  refine lv_iload_n hx hb d_P_looked_2 rfl (lv_at hl 0 rfl) ?_
  refine lv_aload_n hx hb d_P_looked_3 rfl (lv_at hl 2 rfl) ?_
  refine va_get (ci := 10) (C := "QuorumStoreModel$Slots") (T := TX10) (N := 4) hx hb hts inX10 hown hK.2 hP 0 rfl rfl 3 (by decide) (hts _ k_842) (fun _ h9 => h9) rfl d_P_looked_4 ?_
  refine lv_icmp_ge (tgt := 91) hx hb d_P_looked_7 (by decide) (fun _ => ?_) (fun c_1 => absurd (by decide) c_1)
  exact W.vret hx hb hr (fun t ht _ => ⟨rfl, ht⟩) (fun q h => by cases h) d_P_looked_91
theorem d_P_round_0 : decode c_P_round 0 = .ok (.iload_n 0, 1) := by decide +kernel
theorem d_P_round_1 : decode c_P_round 1 = .ok (.bipush 8, 2) := by decide +kernel
theorem d_P_round_3 : decode c_P_round 3 = .ok (.idiv, 1) := by decide +kernel
theorem d_P_round_4 : decode c_P_round 4 = .ok (.ireturn, 1) := by decide +kernel
set_option maxHeartbeats 4000000 in
set_option maxRecDepth 100000 in
/-- round -/
theorem C_P_round (l : Launch) (D : va_G) (t : Nat → ClassId) (x : Int32) : xr_C l D vwCl (xTY t) y_P_round c_P_round 1 (Option.some FieldType.int) ({ frames := 0, cells := 0, slots := 0, locals := 0 }) [.int x] [] (xr_Q (some (.int (x / 8)))) := by
  refine xr_of (by decide) (Nat.le_of_ble_eq_true rfl) ?_
  intro p e s m below meth c ls Z hr hlocks hP hl
  obtain ⟨hx, hb, hml, hown, hK⟩ := id Z
  have hown : s.vm.findClass "QuorumStoreModel" = some m.cls := hown
  have hts := hK.1.at (args := ([.int x] : List Value).toArray)
  have hl : lv_has ls 1 [(0, .int x)] := hl
  refine lv_iload_n hx hb d_P_round_0 rfl (lv_at hl 0 rfl) ?_
  refine lv_bipush (v := 8) hx hb d_P_round_1 (by decide) ?_
  refine lv_idiv hx hb d_P_round_3 (by decide) ?_
  exact W.iret hx hb hr (fun t ht _ => ⟨rfl, ht⟩) (fun q h => by cases h) d_P_round_4
theorem d_P_peers_0 : decode c_P_peers 0 = .ok (.iconst 0, 1) := by decide +kernel
theorem d_P_peers_1 : decode c_P_peers 1 = .ok (.istore_n 1, 1) := by decide +kernel
theorem d_P_peers_2 : decode c_P_peers 2 = .ok (.iconst 1, 1) := by decide +kernel
theorem d_P_peers_3 : decode c_P_peers 3 = .ok (.istore_n 2, 1) := by decide +kernel
theorem d_P_peers_4 : decode c_P_peers 4 = .ok (.iload_n 2, 1) := by decide +kernel
theorem d_P_peers_5 : decode c_P_peers 5 = .ok (.iconst 4, 1) := by decide +kernel
theorem d_P_peers_6 : decode c_P_peers 6 = .ok (.if_icmp .gt 28, 3) := by decide +kernel
theorem d_P_peers_9 : decode c_P_peers 9 = .ok (.iload_n 1, 1) := by decide +kernel
theorem d_P_peers_10 : decode c_P_peers 10 = .ok (.aload_n 0, 1) := by decide +kernel
theorem d_P_peers_11 : decode c_P_peers 11 = .ok (.getfield 32, 3) := by decide +kernel
theorem d_P_peers_14 : decode c_P_peers 14 = .ok (.aload_n 0, 1) := by decide +kernel
theorem d_P_peers_15 : decode c_P_peers 15 = .ok (.getfield 32, 3) := by decide +kernel
theorem d_P_peers_18 : decode c_P_peers 18 = .ok (.getfield 92, 3) := by decide +kernel
theorem d_P_peers_21 : decode c_P_peers 21 = .ok (.iload_n 2, 1) := by decide +kernel
theorem d_P_peers_22 : decode c_P_peers 22 = .ok (.iadd, 1) := by decide +kernel
theorem d_P_peers_23 : decode c_P_peers 23 = .ok (.invokevirtual 95, 3) := by decide +kernel
theorem d_P_peers_26 : decode c_P_peers 26 = .ok (.ior, 1) := by decide +kernel
theorem d_P_peers_27 : decode c_P_peers 27 = .ok (.istore_n 1, 1) := by decide +kernel
theorem d_P_peers_28 : decode c_P_peers 28 = .ok (.iinc 2 1, 3) := by decide +kernel
theorem d_P_peers_31 : decode c_P_peers 31 = .ok (.goto (-27), 3) := by decide +kernel
theorem d_P_peers_34 : decode c_P_peers 34 = .ok (.iload_n 1, 1) := by decide +kernel
theorem d_P_peers_35 : decode c_P_peers 35 = .ok (.iconst 1, 1) := by decide +kernel
theorem d_P_peers_36 : decode c_P_peers 36 = .ok (.aload_n 0, 1) := by decide +kernel
theorem d_P_peers_37 : decode c_P_peers 37 = .ok (.getfield 62, 3) := by decide +kernel
theorem d_P_peers_40 : decode c_P_peers 40 = .ok (.ishl, 1) := by decide +kernel
theorem d_P_peers_41 : decode c_P_peers 41 = .ok (.iconst (-1), 1) := by decide +kernel
theorem d_P_peers_42 : decode c_P_peers 42 = .ok (.ixor, 1) := by decide +kernel
theorem d_P_peers_43 : decode c_P_peers 43 = .ok (.iand, 1) := by decide +kernel
theorem d_P_peers_44 : decode c_P_peers 44 = .ok (.ireturn, 1) := by decide +kernel
set_option maxHeartbeats 4000000 in
set_option maxRecDepth 100000 in
/-- peers -/
theorem C_P_peers (l : Launch) (D : va_G) (t : Nat → ClassId) (q : Nat → Nat) (nu lz pr bl tm le gr mk : Int32) : xr_C l D vwCl (xTY t) y_P_peers c_P_peers 3 (Option.some FieldType.int) ({ frames := 1, cells := 0, slots := 0, locals := 23 }) [.ref ((q 0))] [zO 9 (q 0) [.int nu, .int 1, .int lz, .int pr, .int 0, .int bl, .int tm, .int le, .int gr, .int 0, .ref ((q 1)), .ref ((q 7)), .ref ((q 11)), .ref ((q 15)), .ref ((q 19)), .ref ((q 23)), .int 0], zO 11 (q 1) [.int 0, .ref ((q 2)), .ref ((q 3)), .ref ((q 4)), .ref ((q 5)), .ref ((q 6)), .int 1], zJ t (q 2) 32 (fun _ => 1099511627776), zJ t (q 3) 8 (fun _ => 0), zI t (q 4) 8 (fun _ => 0), zI t (q 5) 4 (xm 1), zI t (q 6) 4 (xm mk), zO 10 (q 7) [.ref ((q 8)), .ref ((q 9)), .ref ((q 10)), .int 0], zI t (q 8) 8 (fun _ => 0), zI t (q 9) 8 (fun _ => 0), zA t 5 (q 10) 8 (fun _ => none), zO 10 (q 11) [.ref ((q 12)), .ref ((q 13)), .ref ((q 14)), .int 0], zI t (q 12) 8 (fun _ => 0), zI t (q 13) 8 (fun _ => 0), zA t 5 (q 14) 8 (fun _ => none), zO 10 (q 15) [.ref ((q 16)), .ref ((q 17)), .ref ((q 18)), .int 0], zI t (q 16) 8 (fun _ => 0), zI t (q 17) 8 (fun _ => 0), zA t 5 (q 18) 8 (fun _ => none), zO 10 (q 19) [.ref ((q 20)), .ref ((q 21)), .ref ((q 22)), .int 0], zI t (q 20) 8 (fun _ => 0), zI t (q 21) 8 (fun _ => 0), zA t 5 (q 22) 8 (fun _ => none), zA t 5 (q 23) 16 (fun _ => none)] (xr_Q (some (.int (xp mk nu)))) := by
  refine xr_of (by decide) (Nat.le_of_ble_eq_true rfl) ?_
  intro p e s m below meth c ls Z hr hlocks hP hl
  obtain ⟨hx, hb, hml, hown, hK⟩ := id Z
  have hown : s.vm.findClass "QuorumStoreModel" = some m.cls := hown
  have hts := hK.1.at (args := ([.ref ((q 0))] : List Value).toArray)
  have hl : lv_has ls 3 [(0, .ref ((q 0)))] := hl
  refine lv_iconst (v := 0) hx hb d_P_peers_0 (by decide) ?_
  refine lv_istore_n (lv' := [(1, .int 0), (0, .ref ((q 0)))]) hx hb d_P_peers_1 rfl hl (by decide) rfl (fun ls hl => ?_)
  refine lv_iconst (v := 1) hx hb d_P_peers_2 (by decide) ?_
  refine lv_istore_n (lv' := [(2, .int 1), (1, .int 0), (0, .ref ((q 0)))]) hx hb d_P_peers_3 rfl hl (by decide) rfl (fun ls hl => ?_)
  refine lv_iload_n hx hb d_P_peers_4 rfl (lv_at hl 0 rfl) ?_
  refine lv_iconst (v := 4) hx hb d_P_peers_5 (by decide) ?_
  refine lv_icmp_gt (tgt := 34) hx hb d_P_peers_6 (by decide) (fun c_1 => absurd c_1 (by decide)) (fun _ => ?_)
  refine lv_iload_n hx hb d_P_peers_9 rfl (lv_at hl 1 rfl) ?_
  refine lv_aload_n hx hb d_P_peers_10 rfl (lv_at hl 2 rfl) ?_
  refine va_get (ci := 9) (C := "QuorumStoreModel$Node") (T := TX9) (N := 17) hx hb hts inX9 hown hK.2 hP 0 rfl rfl 10 (by decide) (hts _ k_944) (fun _ h9 => h9) rfl d_P_peers_11 ?_
  refine lv_aload_n hx hb d_P_peers_14 rfl (lv_at hl 2 rfl) ?_
  refine va_get (ci := 9) (C := "QuorumStoreModel$Node") (T := TX9) (N := 17) hx hb hts inX9 hown hK.2 hP 0 rfl rfl 10 (by decide) (hts _ k_944) (fun _ h9 => h9) rfl d_P_peers_15 ?_
  refine va_get (ci := 11) (C := "QuorumStoreModel$State") (T := TX11) (N := 7) hx hb hts inX11 hown hK.2 hP 1 rfl rfl 0 (by decide) (hts _ k_860) (fun _ h9 => h9) rfl d_P_peers_18 ?_
  refine lv_iload_n hx hb d_P_peers_21 rfl (lv_at hl 0 rfl) ?_
  refine lv_iadd hx hb d_P_peers_22 ?_
  refine xr_call (xs_V (As := [.int ((0) + (1))]) (rest := [.int 0]) Z (C_PS_config_I l D t (q 1) (q 2) (q 3) (q 4) (q 5) (q 6) _ _ _ _ _ _) m_PS_config_I k_1042 k_1043 k_1044 rfl rfl ⟨Nat.le_of_ble_eq_true rfl, Nat.le_of_ble_eq_true rfl⟩ (va_recv hK.2 hP (ci := 11) (q0 := 1) rfl rfl) (xr_pre hK (hP.sub [1, 2, 3, 4, 5, 6] rfl)) rfl hl.1 rfl (Nat.le_of_ble_eq_true rfl) d_P_peers_23 ⟨Nat.le_of_ble_eq_true rfl, Nat.le_of_ble_eq_true rfl⟩) ?_
  refine lv_ior hx hb d_P_peers_26 ?_
  refine lv_istore_n (lv' := [(1, .int ((0) ||| (mk))), (2, .int 1), (0, .ref ((q 0)))]) hx hb d_P_peers_27 rfl hl (by decide) rfl (fun ls hl => ?_)
  refine lv_iinc (v := 2) (lv' := [(2, .int 2), (1, .int ((0) ||| (mk))), (0, .ref ((q 0)))]) hx hb d_P_peers_28 hl (k := 1) rfl rfl (by decide) rfl (fun ls hl => ?_)
  refine lv_goto (tgt := 4) hx hb d_P_peers_31 (by decide) ?_
  refine lv_iload_n hx hb d_P_peers_4 rfl (lv_at hl 0 rfl) ?_
  refine lv_iconst (v := 4) hx hb d_P_peers_5 (by decide) ?_
  refine lv_icmp_gt (tgt := 34) hx hb d_P_peers_6 (by decide) (fun c_2 => absurd c_2 (by decide)) (fun _ => ?_)
  refine lv_iload_n hx hb d_P_peers_9 rfl (lv_at hl 1 rfl) ?_
  refine lv_aload_n hx hb d_P_peers_10 rfl (lv_at hl 2 rfl) ?_
  refine va_get (ci := 9) (C := "QuorumStoreModel$Node") (T := TX9) (N := 17) hx hb hts inX9 hown hK.2 hP 0 rfl rfl 10 (by decide) (hts _ k_944) (fun _ h9 => h9) rfl d_P_peers_11 ?_
  refine lv_aload_n hx hb d_P_peers_14 rfl (lv_at hl 2 rfl) ?_
  refine va_get (ci := 9) (C := "QuorumStoreModel$Node") (T := TX9) (N := 17) hx hb hts inX9 hown hK.2 hP 0 rfl rfl 10 (by decide) (hts _ k_944) (fun _ h9 => h9) rfl d_P_peers_15 ?_
  refine va_get (ci := 11) (C := "QuorumStoreModel$State") (T := TX11) (N := 7) hx hb hts inX11 hown hK.2 hP 1 rfl rfl 0 (by decide) (hts _ k_860) (fun _ h9 => h9) rfl d_P_peers_18 ?_
  refine lv_iload_n hx hb d_P_peers_21 rfl (lv_at hl 0 rfl) ?_
  refine lv_iadd hx hb d_P_peers_22 ?_
  refine xr_call (xs_V (As := [.int ((0) + (2))]) (rest := [.int ((0) ||| (mk))]) Z (C_PS_config_I l D t (q 1) (q 2) (q 3) (q 4) (q 5) (q 6) _ _ _ _ _ _) m_PS_config_I k_1042 k_1043 k_1044 rfl rfl ⟨Nat.le_of_ble_eq_true rfl, Nat.le_of_ble_eq_true rfl⟩ (va_recv hK.2 hP (ci := 11) (q0 := 1) rfl rfl) (xr_pre hK (hP.sub [1, 2, 3, 4, 5, 6] rfl)) rfl hl.1 rfl (Nat.le_of_ble_eq_true rfl) d_P_peers_23 ⟨Nat.le_of_ble_eq_true rfl, Nat.le_of_ble_eq_true rfl⟩) ?_
  refine lv_ior hx hb d_P_peers_26 ?_
  refine lv_istore_n (lv' := [(1, .int (((0) ||| (mk)) ||| (mk))), (2, .int 2), (0, .ref ((q 0)))]) hx hb d_P_peers_27 rfl hl (by decide) rfl (fun ls hl => ?_)
  refine lv_iinc (v := 3) (lv' := [(2, .int 3), (1, .int (((0) ||| (mk)) ||| (mk))), (0, .ref ((q 0)))]) hx hb d_P_peers_28 hl (k := 1) rfl rfl (by decide) rfl (fun ls hl => ?_)
  refine lv_goto (tgt := 4) hx hb d_P_peers_31 (by decide) ?_
  refine lv_iload_n hx hb d_P_peers_4 rfl (lv_at hl 0 rfl) ?_
  refine lv_iconst (v := 4) hx hb d_P_peers_5 (by decide) ?_
  refine lv_icmp_gt (tgt := 34) hx hb d_P_peers_6 (by decide) (fun c_3 => absurd c_3 (by decide)) (fun _ => ?_)
  refine lv_iload_n hx hb d_P_peers_9 rfl (lv_at hl 1 rfl) ?_
  refine lv_aload_n hx hb d_P_peers_10 rfl (lv_at hl 2 rfl) ?_
  refine va_get (ci := 9) (C := "QuorumStoreModel$Node") (T := TX9) (N := 17) hx hb hts inX9 hown hK.2 hP 0 rfl rfl 10 (by decide) (hts _ k_944) (fun _ h9 => h9) rfl d_P_peers_11 ?_
  refine lv_aload_n hx hb d_P_peers_14 rfl (lv_at hl 2 rfl) ?_
  refine va_get (ci := 9) (C := "QuorumStoreModel$Node") (T := TX9) (N := 17) hx hb hts inX9 hown hK.2 hP 0 rfl rfl 10 (by decide) (hts _ k_944) (fun _ h9 => h9) rfl d_P_peers_15 ?_
  refine va_get (ci := 11) (C := "QuorumStoreModel$State") (T := TX11) (N := 7) hx hb hts inX11 hown hK.2 hP 1 rfl rfl 0 (by decide) (hts _ k_860) (fun _ h9 => h9) rfl d_P_peers_18 ?_
  refine lv_iload_n hx hb d_P_peers_21 rfl (lv_at hl 0 rfl) ?_
  refine lv_iadd hx hb d_P_peers_22 ?_
  refine xr_call (xs_V (As := [.int ((0) + (3))]) (rest := [.int (((0) ||| (mk)) ||| (mk))]) Z (C_PS_config_I l D t (q 1) (q 2) (q 3) (q 4) (q 5) (q 6) _ _ _ _ _ _) m_PS_config_I k_1042 k_1043 k_1044 rfl rfl ⟨Nat.le_of_ble_eq_true rfl, Nat.le_of_ble_eq_true rfl⟩ (va_recv hK.2 hP (ci := 11) (q0 := 1) rfl rfl) (xr_pre hK (hP.sub [1, 2, 3, 4, 5, 6] rfl)) rfl hl.1 rfl (Nat.le_of_ble_eq_true rfl) d_P_peers_23 ⟨Nat.le_of_ble_eq_true rfl, Nat.le_of_ble_eq_true rfl⟩) ?_
  refine lv_ior hx hb d_P_peers_26 ?_
  refine lv_istore_n (lv' := [(1, .int ((((0) ||| (mk)) ||| (mk)) ||| (mk))), (2, .int 3), (0, .ref ((q 0)))]) hx hb d_P_peers_27 rfl hl (by decide) rfl (fun ls hl => ?_)
  refine lv_iinc (v := 4) (lv' := [(2, .int 4), (1, .int ((((0) ||| (mk)) ||| (mk)) ||| (mk))), (0, .ref ((q 0)))]) hx hb d_P_peers_28 hl (k := 1) rfl rfl (by decide) rfl (fun ls hl => ?_)
  refine lv_goto (tgt := 4) hx hb d_P_peers_31 (by decide) ?_
  refine lv_iload_n hx hb d_P_peers_4 rfl (lv_at hl 0 rfl) ?_
  refine lv_iconst (v := 4) hx hb d_P_peers_5 (by decide) ?_
  refine lv_icmp_gt (tgt := 34) hx hb d_P_peers_6 (by decide) (fun c_4 => absurd c_4 (by decide)) (fun _ => ?_)
  refine lv_iload_n hx hb d_P_peers_9 rfl (lv_at hl 1 rfl) ?_
  refine lv_aload_n hx hb d_P_peers_10 rfl (lv_at hl 2 rfl) ?_
  refine va_get (ci := 9) (C := "QuorumStoreModel$Node") (T := TX9) (N := 17) hx hb hts inX9 hown hK.2 hP 0 rfl rfl 10 (by decide) (hts _ k_944) (fun _ h9 => h9) rfl d_P_peers_11 ?_
  refine lv_aload_n hx hb d_P_peers_14 rfl (lv_at hl 2 rfl) ?_
  refine va_get (ci := 9) (C := "QuorumStoreModel$Node") (T := TX9) (N := 17) hx hb hts inX9 hown hK.2 hP 0 rfl rfl 10 (by decide) (hts _ k_944) (fun _ h9 => h9) rfl d_P_peers_15 ?_
  refine va_get (ci := 11) (C := "QuorumStoreModel$State") (T := TX11) (N := 7) hx hb hts inX11 hown hK.2 hP 1 rfl rfl 0 (by decide) (hts _ k_860) (fun _ h9 => h9) rfl d_P_peers_18 ?_
  refine lv_iload_n hx hb d_P_peers_21 rfl (lv_at hl 0 rfl) ?_
  refine lv_iadd hx hb d_P_peers_22 ?_
  refine xr_call (xs_V (As := [.int ((0) + (4))]) (rest := [.int ((((0) ||| (mk)) ||| (mk)) ||| (mk))]) Z (C_PS_config_I l D t (q 1) (q 2) (q 3) (q 4) (q 5) (q 6) _ _ _ _ _ _) m_PS_config_I k_1042 k_1043 k_1044 rfl rfl ⟨Nat.le_of_ble_eq_true rfl, Nat.le_of_ble_eq_true rfl⟩ (va_recv hK.2 hP (ci := 11) (q0 := 1) rfl rfl) (xr_pre hK (hP.sub [1, 2, 3, 4, 5, 6] rfl)) rfl hl.1 rfl (Nat.le_of_ble_eq_true rfl) d_P_peers_23 ⟨Nat.le_of_ble_eq_true rfl, Nat.le_of_ble_eq_true rfl⟩) ?_
  refine lv_ior hx hb d_P_peers_26 ?_
  refine lv_istore_n (lv' := [(1, .int (((((0) ||| (mk)) ||| (mk)) ||| (mk)) ||| (mk))), (2, .int 4), (0, .ref ((q 0)))]) hx hb d_P_peers_27 rfl hl (by decide) rfl (fun ls hl => ?_)
  refine lv_iinc (v := 5) (lv' := [(2, .int 5), (1, .int (((((0) ||| (mk)) ||| (mk)) ||| (mk)) ||| (mk))), (0, .ref ((q 0)))]) hx hb d_P_peers_28 hl (k := 1) rfl rfl (by decide) rfl (fun ls hl => ?_)
  refine lv_goto (tgt := 4) hx hb d_P_peers_31 (by decide) ?_
  refine lv_iload_n hx hb d_P_peers_4 rfl (lv_at hl 0 rfl) ?_
  refine lv_iconst (v := 4) hx hb d_P_peers_5 (by decide) ?_
  refine lv_icmp_gt (tgt := 34) hx hb d_P_peers_6 (by decide) (fun _ => ?_) (fun c_5 => absurd (by decide) c_5)
  refine lv_iload_n hx hb d_P_peers_34 rfl (lv_at hl 1 rfl) ?_
  refine lv_iconst (v := 1) hx hb d_P_peers_35 (by decide) ?_
  refine lv_aload_n hx hb d_P_peers_36 rfl (lv_at hl 2 rfl) ?_
  refine va_get (ci := 9) (C := "QuorumStoreModel$Node") (T := TX9) (N := 17) hx hb hts inX9 hown hK.2 hP 0 rfl rfl 0 (by decide) (hts _ k_930) (fun _ h9 => h9) rfl d_P_peers_37 ?_
  refine lv_ishl hx hb d_P_peers_40 ?_
  refine lv_iconst (v := (-1)) hx hb d_P_peers_41 (by decide) ?_
  refine lv_ixor hx hb d_P_peers_42 ?_
  refine lv_iand hx hb d_P_peers_43 ?_
  exact W.iret hx hb hr (fun t ht _ => ⟨by rw [show ∀ z : Int32, (((0 ||| z) ||| z) ||| z) ||| z = z from fun z => by rw [Int32.zero_or, Int32.or_self, Int32.or_self, Int32.or_self]]; rfl, ht⟩) (fun q h => by cases h) d_P_peers_44
theorem d_P_work_0 : decode c_P_work 0 = .ok (.iconst 1, 1) := by decide +kernel
theorem d_P_work_1 : decode c_P_work 1 = .ok (.istore_n 2, 1) := by decide +kernel
theorem d_P_work_2 : decode c_P_work 2 = .ok (.iload_n 2, 1) := by decide +kernel
theorem d_P_work_3 : decode c_P_work 3 = .ok (.ifCond .eq 233, 3) := by decide +kernel
theorem d_P_work_6 : decode c_P_work 6 = .ok (.aload_n 1, 1) := by decide +kernel
theorem d_P_work_7 : decode c_P_work 7 = .ok (.getfield 173, 3) := by decide +kernel
theorem d_P_work_10 : decode c_P_work 10 = .ok (.ifCond .eq 226, 3) := by decide +kernel
theorem d_P_work_13 : decode c_P_work 13 = .ok (.iconst 0, 1) := by decide +kernel
theorem d_P_work_14 : decode c_P_work 14 = .ok (.istore_n 2, 1) := by decide +kernel
theorem d_P_work_15 : decode c_P_work 15 = .ok (.aload_n 1, 1) := by decide +kernel
theorem d_P_work_16 : decode c_P_work 16 = .ok (.getfield 32, 3) := by decide +kernel
theorem d_P_work_19 : decode c_P_work 19 = .ok (.getfield 92, 3) := by decide +kernel
theorem d_P_work_22 : decode c_P_work 22 = .ok (.iconst 1, 1) := by decide +kernel
theorem d_P_work_23 : decode c_P_work 23 = .ok (.iadd, 1) := by decide +kernel
theorem d_P_work_24 : decode c_P_work 24 = .ok (.istore_n 3, 1) := by decide +kernel
theorem d_P_work_25 : decode c_P_work 25 = .ok (.iload_n 3, 1) := by decide +kernel
theorem d_P_work_26 : decode c_P_work 26 = .ok (.aload_n 1, 1) := by decide +kernel
theorem d_P_work_27 : decode c_P_work 27 = .ok (.getfield 32, 3) := by decide +kernel
theorem d_P_work_30 : decode c_P_work 30 = .ok (.getfield 92, 3) := by decide +kernel
theorem d_P_work_33 : decode c_P_work 33 = .ok (.iconst 4, 1) := by decide +kernel
theorem d_P_work_34 : decode c_P_work 34 = .ok (.iadd, 1) := by decide +kernel
theorem d_P_work_35 : decode c_P_work 35 = .ok (.if_icmp .gt 198, 3) := by decide +kernel
theorem d_P_work_38 : decode c_P_work 38 = .ok (.aload_n 1, 1) := by decide +kernel
theorem d_P_work_39 : decode c_P_work 39 = .ok (.getfield 173, 3) := by decide +kernel
theorem d_P_work_42 : decode c_P_work 42 = .ok (.ifCond .eq 191, 3) := by decide +kernel
theorem d_P_work_45 : decode c_P_work 45 = .ok (.aload_n 1, 1) := by decide +kernel
theorem d_P_work_46 : decode c_P_work 46 = .ok (.getfield 177, 3) := by decide +kernel
theorem d_P_work_49 : decode c_P_work 49 = .ok (.iload_n 3, 1) := by decide +kernel
theorem d_P_work_50 : decode c_P_work 50 = .ok (.invokevirtual 102, 3) := by decide +kernel
theorem d_P_work_53 : decode c_P_work 53 = .ok (.ifCond .ge 174, 3) := by decide +kernel
theorem d_P_work_56 : decode c_P_work 56 = .ok (.aload_n 1, 1) := by decide +kernel
theorem d_P_work_57 : decode c_P_work 57 = .ok (.getfield 98, 3) := by decide +kernel
theorem d_P_work_60 : decode c_P_work 60 = .ok (.iload_n 3, 1) := by decide +kernel
theorem d_P_work_61 : decode c_P_work 61 = .ok (.invokevirtual 102, 3) := by decide +kernel
theorem d_P_work_64 : decode c_P_work 64 = .ok (.ifCond .lt 6, 3) := by decide +kernel
theorem d_P_work_70 : decode c_P_work 70 = .ok (.aload_n 1, 1) := by decide +kernel
theorem d_P_work_71 : decode c_P_work 71 = .ok (.getfield 32, 3) := by decide +kernel
theorem d_P_work_74 : decode c_P_work 74 = .ok (.iload_n 3, 1) := by decide +kernel
theorem d_P_work_75 : decode c_P_work 75 = .ok (.invokevirtual 95, 3) := by decide +kernel
theorem d_P_work_78 : decode c_P_work 78 = .ok (.aload_n 1, 1) := by decide +kernel
theorem d_P_work_79 : decode c_P_work 79 = .ok (.getfield 183, 3) := by decide +kernel
theorem d_P_work_82 : decode c_P_work 82 = .ok (.invokestatic 230, 3) := by decide +kernel
theorem d_P_work_85 : decode c_P_work 85 = .ok (.ifCond .ne 6, 3) := by decide +kernel
theorem d_P_work_88 : decode c_P_work 88 = .ok (.goto 145, 3) := by decide +kernel
theorem d_P_work_91 : decode c_P_work 91 = .ok (.aload_n 1, 1) := by decide +kernel
theorem d_P_work_92 : decode c_P_work 92 = .ok (.getfield 180, 3) := by decide +kernel
theorem d_P_work_95 : decode c_P_work 95 = .ok (.iload_n 3, 1) := by decide +kernel
theorem d_P_work_96 : decode c_P_work 96 = .ok (.invokevirtual 102, 3) := by decide +kernel
theorem d_P_work_99 : decode c_P_work 99 = .ok (.istore 4, 2) := by decide +kernel
theorem d_P_work_101 : decode c_P_work 101 = .ok (.iload 4, 2) := by decide +kernel
theorem d_P_work_103 : decode c_P_work 103 = .ok (.ifCond .lt 18, 3) := by decide +kernel
theorem d_P_work_121 : decode c_P_work 121 = .ok (.aload_n 1, 1) := by decide +kernel
theorem d_P_work_122 : decode c_P_work 122 = .ok (.getfield 180, 3) := by decide +kernel
theorem d_P_work_125 : decode c_P_work 125 = .ok (.iload_n 3, 1) := by decide +kernel
theorem d_P_work_126 : decode c_P_work 126 = .ok (.invokestatic 233, 3) := by decide +kernel
theorem d_P_work_129 : decode c_P_work 129 = .ok (.ifCond .ne 14, 3) := by decide +kernel
theorem d_P_work_132 : decode c_P_work 132 = .ok (.aload_n 1, 1) := by decide +kernel
theorem d_P_work_133 : decode c_P_work 133 = .ok (.getfield 177, 3) := by decide +kernel
theorem d_P_work_136 : decode c_P_work 136 = .ok (.iload_n 3, 1) := by decide +kernel
theorem d_P_work_137 : decode c_P_work 137 = .ok (.invokestatic 233, 3) := by decide +kernel
theorem d_P_work_140 : decode c_P_work 140 = .ok (.ifCond .eq 11, 3) := by decide +kernel
theorem d_P_work_151 : decode c_P_work 151 = .ok (.aload_n 1, 1) := by decide +kernel
theorem d_P_work_152 : decode c_P_work 152 = .ok (.getfield 213, 3) := by decide +kernel
theorem d_P_work_155 : decode c_P_work 155 = .ok (.ifCond .le 58, 3) := by decide +kernel
theorem d_P_work_213 : decode c_P_work 213 = .ok (.return_, 1) := by decide +kernel
theorem d_P_work_233 : decode c_P_work 233 = .ok (.goto (-231), 3) := by decide +kernel
theorem d_P_work_236 : decode c_P_work 236 = .ok (.return_, 1) := by decide +kernel
set_option maxHeartbeats 4000000 in
set_option maxRecDepth 100000 in
/-- work: nothing can be proposed -/
theorem C_P_work (l : Launch) (D : va_G) (t : Nat → ClassId) (ma : Nat) (q : Nat → Nat) (nu pr bl tm le gr mk : Int32) : xr_C l D vwCl (xTY t) y_P_work c_P_work 7 (Option.none : Option FieldType) ({ frames := 2, cells := 0, slots := 0, locals := 45 }) [.ref ma, .ref ((q 0))] [zO 9 (q 0) [.int nu, .int 1, .int 1, .int pr, .int 0, .int bl, .int tm, .int le, .int gr, .int 0, .ref ((q 1)), .ref ((q 7)), .ref ((q 11)), .ref ((q 15)), .ref ((q 19)), .ref ((q 23)), .int 0], zO 11 (q 1) [.int 0, .ref ((q 2)), .ref ((q 3)), .ref ((q 4)), .ref ((q 5)), .ref ((q 6)), .int 1], zJ t (q 2) 32 (fun _ => 1099511627776), zJ t (q 3) 8 (fun _ => 0), zI t (q 4) 8 (fun _ => 0), zI t (q 5) 4 (xm 1), zI t (q 6) 4 (xm mk), zO 10 (q 7) [.ref ((q 8)), .ref ((q 9)), .ref ((q 10)), .int 0], zI t (q 8) 8 (fun _ => 0), zI t (q 9) 8 (fun _ => 0), zA t 5 (q 10) 8 (fun _ => none), zO 10 (q 11) [.ref ((q 12)), .ref ((q 13)), .ref ((q 14)), .int 0], zI t (q 12) 8 (fun _ => 0), zI t (q 13) 8 (fun _ => 0), zA t 5 (q 14) 8 (fun _ => none), zO 10 (q 15) [.ref ((q 16)), .ref ((q 17)), .ref ((q 18)), .int 0], zI t (q 16) 8 (fun _ => 0), zI t (q 17) 8 (fun _ => 0), zA t 5 (q 18) 8 (fun _ => none), zO 10 (q 19) [.ref ((q 20)), .ref ((q 21)), .ref ((q 22)), .int 0], zI t (q 20) 8 (fun _ => 0), zI t (q 21) 8 (fun _ => 0), zA t 5 (q 22) 8 (fun _ => none), zA t 5 (q 23) 16 (fun _ => none)] (xr_Q none) := by
  refine xr_of (by decide) (Nat.le_of_ble_eq_true rfl) ?_
  intro p e s m below meth c ls Z hr hlocks hP hl
  obtain ⟨hx, hb, hml, hown, hK⟩ := id Z
  have hown : s.vm.findClass "QuorumStoreModel" = some m.cls := hown
  have hts := hK.1.at (args := ([.ref ma, .ref ((q 0))] : List Value).toArray)
  have hl : lv_has ls 7 [(0, .ref ma), (1, .ref ((q 0)))] := hl
  refine lv_iconst (v := 1) hx hb d_P_work_0 (by decide) ?_
  refine lv_istore_n (lv' := [(2, .int 1), (0, .ref ma), (1, .ref ((q 0)))]) hx hb d_P_work_1 rfl hl (by decide) rfl (fun ls hl => ?_)
  refine lv_iload_n hx hb d_P_work_2 rfl (lv_at hl 0 rfl) ?_
  refine lv_if_eq (tgt := 236) hx hb d_P_work_3 (by decide) (fun c_1 => absurd c_1 (by decide)) (fun _ => ?_)
  refine lv_aload_n hx hb d_P_work_6 rfl (lv_at hl 2 rfl) ?_
  refine va_get (ci := 9) (C := "QuorumStoreModel$Node") (T := TX9) (N := 17) hx hb hts inX9 hown hK.2 hP 0 rfl rfl 2 (by decide) (hts _ k_933) (fun _ h9 => h9) rfl d_P_work_7 ?_
  refine lv_if_eq (tgt := 236) hx hb d_P_work_10 (by decide) (fun c_2 => absurd c_2 (by decide)) (fun _ => ?_)
  refine lv_iconst (v := 0) hx hb d_P_work_13 (by decide) ?_
  refine lv_istore_n (lv' := [(2, .int 0), (0, .ref ma), (1, .ref ((q 0)))]) hx hb d_P_work_14 rfl hl (by decide) rfl (fun ls hl => ?_)
  refine lv_aload_n hx hb d_P_work_15 rfl (lv_at hl 2 rfl) ?_
  refine va_get (ci := 9) (C := "QuorumStoreModel$Node") (T := TX9) (N := 17) hx hb hts inX9 hown hK.2 hP 0 rfl rfl 10 (by decide) (hts _ k_944) (fun _ h9 => h9) rfl d_P_work_16 ?_
  refine va_get (ci := 11) (C := "QuorumStoreModel$State") (T := TX11) (N := 7) hx hb hts inX11 hown hK.2 hP 1 rfl rfl 0 (by decide) (hts _ k_860) (fun _ h9 => h9) rfl d_P_work_19 ?_
  refine lv_iconst (v := 1) hx hb d_P_work_22 (by decide) ?_
  refine lv_iadd hx hb d_P_work_23 ?_
  refine lv_istore_n (lv' := [(3, .int ((0) + (1))), (2, .int 0), (0, .ref ma), (1, .ref ((q 0)))]) hx hb d_P_work_24 rfl hl (by decide) rfl (fun ls hl => ?_)
  refine lv_iload_n hx hb d_P_work_25 rfl (lv_at hl 0 rfl) ?_
  refine lv_aload_n hx hb d_P_work_26 rfl (lv_at hl 3 rfl) ?_
  refine va_get (ci := 9) (C := "QuorumStoreModel$Node") (T := TX9) (N := 17) hx hb hts inX9 hown hK.2 hP 0 rfl rfl 10 (by decide) (hts _ k_944) (fun _ h9 => h9) rfl d_P_work_27 ?_
  refine va_get (ci := 11) (C := "QuorumStoreModel$State") (T := TX11) (N := 7) hx hb hts inX11 hown hK.2 hP 1 rfl rfl 0 (by decide) (hts _ k_860) (fun _ h9 => h9) rfl d_P_work_30 ?_
  refine lv_iconst (v := 4) hx hb d_P_work_33 (by decide) ?_
  refine lv_iadd hx hb d_P_work_34 ?_
  refine lv_icmp_gt (tgt := 233) hx hb d_P_work_35 (by decide) (fun c_3 => absurd c_3 (by decide)) (fun _ => ?_)
  refine lv_aload_n hx hb d_P_work_38 rfl (lv_at hl 3 rfl) ?_
  refine va_get (ci := 9) (C := "QuorumStoreModel$Node") (T := TX9) (N := 17) hx hb hts inX9 hown hK.2 hP 0 rfl rfl 2 (by decide) (hts _ k_933) (fun _ h9 => h9) rfl d_P_work_39 ?_
  refine lv_if_eq (tgt := 233) hx hb d_P_work_42 (by decide) (fun c_4 => absurd c_4 (by decide)) (fun _ => ?_)
  refine lv_aload_n hx hb d_P_work_45 rfl (lv_at hl 3 rfl) ?_
  refine va_get (ci := 9) (C := "QuorumStoreModel$Node") (T := TX9) (N := 17) hx hb hts inX9 hown hK.2 hP 0 rfl rfl 14 (by decide) (hts _ k_952) (fun _ h9 => h9) rfl d_P_work_46 ?_
  refine lv_iload_n hx hb d_P_work_49 rfl (lv_at hl 0 rfl) ?_
  refine xr_call (xs_V (As := [.int ((0) + (1))]) (rest := []) Z (C_PR_find l D t (q 19) (q 20) (q 21) (q 22) _) m_PR_find k_1060 k_1061 k_1062 rfl rfl ⟨Nat.le_of_ble_eq_true rfl, Nat.le_of_ble_eq_true rfl⟩ (va_recv hK.2 hP (ci := 10) (q0 := 19) rfl rfl) (xr_pre hK (hP.sub [19] rfl)) rfl hl.1 rfl (Nat.le_of_ble_eq_true rfl) d_P_work_50 ⟨Nat.le_of_ble_eq_true rfl, Nat.le_of_ble_eq_true rfl⟩) ?_
  refine lv_if_ge (tgt := 227) hx hb d_P_work_53 (by decide) (fun c_5 => absurd c_5 (by decide)) (fun _ => ?_)
  refine lv_aload_n hx hb d_P_work_56 rfl (lv_at hl 3 rfl) ?_
  refine va_get (ci := 9) (C := "QuorumStoreModel$Node") (T := TX9) (N := 17) hx hb hts inX9 hown hK.2 hP 0 rfl rfl 12 (by decide) (hts _ k_948) (fun _ h9 => h9) rfl d_P_work_57 ?_
  refine lv_iload_n hx hb d_P_work_60 rfl (lv_at hl 0 rfl) ?_
  refine xr_call (xs_V (As := [.int ((0) + (1))]) (rest := []) Z (C_PR_find l D t (q 11) (q 12) (q 13) (q 14) _) m_PR_find k_1060 k_1061 k_1062 rfl rfl ⟨Nat.le_of_ble_eq_true rfl, Nat.le_of_ble_eq_true rfl⟩ (va_recv hK.2 hP (ci := 10) (q0 := 11) rfl rfl) (xr_pre hK (hP.sub [11] rfl)) rfl hl.1 rfl (Nat.le_of_ble_eq_true rfl) d_P_work_61 ⟨Nat.le_of_ble_eq_true rfl, Nat.le_of_ble_eq_true rfl⟩) ?_
  refine lv_if_lt (tgt := 70) hx hb d_P_work_64 (by decide) (fun _ => ?_) (fun c_6 => absurd (by decide) c_6)
  refine lv_aload_n hx hb d_P_work_70 rfl (lv_at hl 3 rfl) ?_
  refine va_get (ci := 9) (C := "QuorumStoreModel$Node") (T := TX9) (N := 17) hx hb hts inX9 hown hK.2 hP 0 rfl rfl 10 (by decide) (hts _ k_944) (fun _ h9 => h9) rfl d_P_work_71 ?_
  refine lv_iload_n hx hb d_P_work_74 rfl (lv_at hl 0 rfl) ?_
  refine xr_call (xs_V (As := [.int ((0) + (1))]) (rest := []) Z (C_PS_config_I l D t (q 1) (q 2) (q 3) (q 4) (q 5) (q 6) _ _ _ _ _ _) m_PS_config_I k_1042 k_1043 k_1044 rfl rfl ⟨Nat.le_of_ble_eq_true rfl, Nat.le_of_ble_eq_true rfl⟩ (va_recv hK.2 hP (ci := 11) (q0 := 1) rfl rfl) (xr_pre hK (hP.sub [1, 2, 3, 4, 5, 6] rfl)) rfl hl.1 rfl (Nat.le_of_ble_eq_true rfl) d_P_work_75 ⟨Nat.le_of_ble_eq_true rfl, Nat.le_of_ble_eq_true rfl⟩) ?_
  refine lv_aload_n hx hb d_P_work_78 rfl (lv_at hl 3 rfl) ?_
  refine va_get (ci := 9) (C := "QuorumStoreModel$Node") (T := TX9) (N := 17) hx hb hts inX9 hown hK.2 hP 0 rfl rfl 8 (by decide) (hts _ k_941) (fun _ h9 => h9) rfl d_P_work_79 ?_
  refine xr_callP (xs_S (As := [.int mk, .int gr]) (rest := []) Z (C_P_majority l D t _ _) m_P_majority k_1110 k_1111 rfl rfl ⟨Nat.le_of_ble_eq_true rfl, Nat.le_of_ble_eq_true rfl⟩ (xr_pre hK (hP.sub [] rfl)) rfl hl.1 rfl (Nat.le_of_ble_eq_true rfl) d_P_work_82 ⟨Nat.le_of_ble_eq_true rfl, Nat.le_of_ble_eq_true rfl⟩) (fun v hv => ?_)
  obtain ⟨b_7, rfl, hb_7⟩ := hv
  refine lv_if_ne (tgt := 91) hx hb d_P_work_85 (by decide) (fun c_8 => ?_) (fun c_8 => ?_)
  · refine lv_aload_n hx hb d_P_work_91 rfl (lv_at hl 3 rfl) ?_
    refine va_get (ci := 9) (C := "QuorumStoreModel$Node") (T := TX9) (N := 17) hx hb hts inX9 hown hK.2 hP 0 rfl rfl 13 (by decide) (hts _ k_950) (fun _ h9 => h9) rfl d_P_work_92 ?_
    refine lv_iload_n hx hb d_P_work_95 rfl (lv_at hl 0 rfl) ?_
    refine xr_call (xs_V (As := [.int ((0) + (1))]) (rest := []) Z (C_PR_find l D t (q 15) (q 16) (q 17) (q 18) _) m_PR_find k_1060 k_1061 k_1062 rfl rfl ⟨Nat.le_of_ble_eq_true rfl, Nat.le_of_ble_eq_true rfl⟩ (va_recv hK.2 hP (ci := 10) (q0 := 15) rfl rfl) (xr_pre hK (hP.sub [15] rfl)) rfl hl.1 rfl (Nat.le_of_ble_eq_true rfl) d_P_work_96 ⟨Nat.le_of_ble_eq_true rfl, Nat.le_of_ble_eq_true rfl⟩) ?_
    refine lv_istore (lv' := [(4, .int ((-1))), (3, .int ((0) + (1))), (2, .int 0), (0, .ref ma), (1, .ref ((q 0)))]) hx hb d_P_work_99 hl (by decide) rfl (fun ls hl => ?_)
    refine lv_iload hx hb d_P_work_101 (lv_at hl 0 rfl) ?_
    refine lv_if_lt (tgt := 121) hx hb d_P_work_103 (by decide) (fun _ => ?_) (fun c_9 => absurd (by decide) c_9)
    refine lv_aload_n hx hb d_P_work_121 rfl (lv_at hl 4 rfl) ?_
    refine va_get (ci := 9) (C := "QuorumStoreModel$Node") (T := TX9) (N := 17) hx hb hts inX9 hown hK.2 hP 0 rfl rfl 13 (by decide) (hts _ k_950) (fun _ h9 => h9) rfl d_P_work_122 ?_
    refine lv_iload_n hx hb d_P_work_125 rfl (lv_at hl 1 rfl) ?_
    refine xr_call (xs_S (As := [.ref ((q 15)), .int ((0) + (1))]) (rest := []) Z (C_P_greater l D t (q 15) (q 16) (q 17) (q 18) _) m_P_greater k_1113 k_1114 rfl rfl ⟨Nat.le_of_ble_eq_true rfl, Nat.le_of_ble_eq_true rfl⟩ (xr_pre hK (hP.sub [15] rfl)) rfl hl.1 rfl (Nat.le_of_ble_eq_true rfl) d_P_work_126 ⟨Nat.le_of_ble_eq_true rfl, Nat.le_of_ble_eq_true rfl⟩) ?_
    refine lv_if_ne (tgt := 143) hx hb d_P_work_129 (by decide) (fun c_10 => absurd c_10 (by decide)) (fun _ => ?_)
    refine lv_aload_n hx hb d_P_work_132 rfl (lv_at hl 4 rfl) ?_
    refine va_get (ci := 9) (C := "QuorumStoreModel$Node") (T := TX9) (N := 17) hx hb hts inX9 hown hK.2 hP 0 rfl rfl 14 (by decide) (hts _ k_952) (fun _ h9 => h9) rfl d_P_work_133 ?_
    refine lv_iload_n hx hb d_P_work_136 rfl (lv_at hl 1 rfl) ?_
    refine xr_call (xs_S (As := [.ref ((q 19)), .int ((0) + (1))]) (rest := []) Z (C_P_greater l D t (q 19) (q 20) (q 21) (q 22) _) m_P_greater k_1113 k_1114 rfl rfl ⟨Nat.le_of_ble_eq_true rfl, Nat.le_of_ble_eq_true rfl⟩ (xr_pre hK (hP.sub [19] rfl)) rfl hl.1 rfl (Nat.le_of_ble_eq_true rfl) d_P_work_137 ⟨Nat.le_of_ble_eq_true rfl, Nat.le_of_ble_eq_true rfl⟩) ?_
    refine lv_if_eq (tgt := 151) hx hb d_P_work_140 (by decide) (fun _ => ?_) (fun c_11 => absurd (by decide) c_11)
    refine lv_aload_n hx hb d_P_work_151 rfl (lv_at hl 4 rfl) ?_
    refine va_get (ci := 9) (C := "QuorumStoreModel$Node") (T := TX9) (N := 17) hx hb hts inX9 hown hK.2 hP 0 rfl rfl 16 (by decide) (hts _ k_955) (fun _ h9 => h9) rfl d_P_work_152 ?_
    refine lv_if_le (tgt := 213) hx hb d_P_work_155 (by decide) (fun _ => ?_) (fun c_12 => absurd (by decide) c_12)
    exact W.vret hx hb hr (fun t ht _ => ⟨rfl, ht⟩) (fun q h => by cases h) d_P_work_213
  · refine lv_goto (tgt := 233) hx hb d_P_work_88 (by decide) ?_
    refine lv_goto (tgt := 2) hx hb d_P_work_233 (by decide) ?_
    refine lv_iload_n hx hb d_P_work_2 rfl (lv_at hl 1 rfl) ?_
    refine lv_if_eq (tgt := 236) hx hb d_P_work_3 (by decide) (fun _ => ?_) (fun c_13 => absurd (by decide) c_13)
    exact W.vret hx hb hr (fun t ht _ => ⟨rfl, ht⟩) (fun q h => by cases h) d_P_work_236
theorem d_PR_init_0 : decode c_PR_init 0 = .ok (.aload_n 0, 1) := by decide +kernel
theorem d_PR_init_1 : decode c_PR_init 1 = .ok (.invokespecial 3, 3) := by decide +kernel
theorem d_PR_init_4 : decode c_PR_init 4 = .ok (.aload_n 0, 1) := by decide +kernel
theorem d_PR_init_5 : decode c_PR_init 5 = .ok (.bipush 8, 2) := by decide +kernel
theorem d_PR_init_7 : decode c_PR_init 7 = .ok (.newarray .int, 2) := by decide +kernel
theorem d_PR_init_9 : decode c_PR_init 9 = .ok (.putfield 9, 3) := by decide +kernel
theorem d_PR_init_12 : decode c_PR_init 12 = .ok (.aload_n 0, 1) := by decide +kernel
theorem d_PR_init_13 : decode c_PR_init 13 = .ok (.bipush 8, 2) := by decide +kernel
theorem d_PR_init_15 : decode c_PR_init 15 = .ok (.newarray .int, 2) := by decide +kernel
theorem d_PR_init_17 : decode c_PR_init 17 = .ok (.putfield 15, 3) := by decide +kernel
theorem d_PR_init_20 : decode c_PR_init 20 = .ok (.aload_n 0, 1) := by decide +kernel
theorem d_PR_init_21 : decode c_PR_init 21 = .ok (.bipush 8, 2) := by decide +kernel
theorem d_PR_init_23 : decode c_PR_init 23 = .ok (.anewarray 18, 3) := by decide +kernel
theorem d_PR_init_26 : decode c_PR_init 26 = .ok (.putfield 20, 3) := by decide +kernel
theorem d_PR_init_29 : decode c_PR_init 29 = .ok (.return_, 1) := by decide +kernel
set_option maxHeartbeats 4000000 in
set_option maxRecDepth 100000 in
/-- an empty list -/
theorem C_PR_init (l : Launch) (D : va_G) (t : Nat → ClassId) (h : Nat) : xe_C l D vwCl (xTY t) y_PR_init c_PR_init 1 (Option.none : Option FieldType) ({ frames := 1, cells := 3, slots := 24, locals := 20 }) [.ref h] [zO 10 h [.null, .null, .null, .int 0]] (xe_v D vwCl (fun _ : Nat × Nat × Nat => True) (fun u => [zO 10 h [.ref u.1, .ref u.2.1, .ref u.2.2, .int 0], zI t u.1 8 (fun _ => 0), zI t u.2.1 8 (fun _ => 0), zA t 5 u.2.2 8 (fun _ => none)])) 3 24 := by
  refine xe_of (by decide) (Nat.le_of_ble_eq_true rfl) ?_
  intro p e s m below meth c ls A Z hr hlocks hin hA hP hD hS hl
  obtain ⟨hx, hb, hml, hown, hK⟩ := id Z
  have hown : s.vm.findClass "QuorumStoreModel$Slots" = some m.cls := hown
  have hts := hK.1.at (args := ([.ref h] : List Value).toArray)
  have hl : lv_has ls 1 [(0, .ref h)] := hl
  refine lv_aload_n hx hb d_PR_init_0 rfl (lv_at hl 0 rfl) ?_
  refine W.objInit hx hb hown (hts _ k_831) (hts _ k_30) (hts _ k_31) rfl (by rw [hml]; exact hl.1) rfl d_PR_init_1 (Nat.le_of_ble_eq_true rfl) (Nat.le_of_ble_eq_true rfl) ?_
  refine W.eq (g2 := F0 m 4 ls []) rfl ?_
  refine lv_aload_n hx hb d_PR_init_4 rfl (lv_at hl 0 rfl) ?_
  refine lv_bipush (v := 8) hx hb d_PR_init_5 (by decide) ?_
  refine va_newa (atype := .int) (ty := .int) (a0 := (8, .inl (fun _ => 0))) hx hb (hts _ k_86) rfl hK.2 hP hD hS hA (fun _ => rfl) (by decide) rfl (by decide) (Nat.le_of_ble_eq_true rfl) (Nat.le_of_ble_eq_true rfl) d_PR_init_7 (fun q_1 c_2 H hKn hP hD hS => ?_)
  obtain rfl : c_2 = t 0 := xk_arr hKn (i := 0) rfl
  have hP : va_P D vwCl [zO 10 h [.null, .null, .null, .int 0], zI t q_1 8 (fun _ => 0)] H := hP
  have hD : va_D A [zO 10 h [.null, .null, .null, .int 0], zI t q_1 8 (fun _ => 0)] := hD
  refine va_put (ci := 10) (v := .ref q_1) (ty := tyX10 0) (C := "QuorumStoreModel$Slots") (T := TX10) (N := 4) hx hb hts inX10 tyX10 okX10 nmX10 hown hK.2 hP hD hS 0 rfl rfl 0 (by decide) (hts _ k_834) (fun _ h9 => h9) rfl (by decide +kernel) rfl rfl (Nat.le_of_ble_eq_true rfl) d_PR_init_9 (fun H locs hP hD hS => ?_)
  have hP : va_P D vwCl [zO 10 h [.ref q_1, .null, .null, .int 0], zI t q_1 8 (fun _ => 0)] H := hP
  have hD : va_D A [zO 10 h [.ref q_1, .null, .null, .int 0], zI t q_1 8 (fun _ => 0)] := hD
  refine lv_aload_n hx hb d_PR_init_12 rfl (lv_at hl 0 rfl) ?_
  refine lv_bipush (v := 8) hx hb d_PR_init_13 (by decide) ?_
  refine va_newa (atype := .int) (ty := .int) (a0 := (8, .inl (fun _ => 0))) hx hb (hts _ k_86) rfl hK.2 hP hD hS hA (fun _ => rfl) (by decide) rfl (by decide) (Nat.le_of_ble_eq_true rfl) (Nat.le_of_ble_eq_true rfl) d_PR_init_15 (fun q_3 c_4 H hKn hP hD hS => ?_)
  obtain rfl : c_4 = t 0 := xk_arr hKn (i := 0) rfl
  have hP : va_P D vwCl [zO 10 h [.ref q_1, .null, .null, .int 0], zI t q_1 8 (fun _ => 0), zI t q_3 8 (fun _ => 0)] H := hP
  have hD : va_D A [zO 10 h [.ref q_1, .null, .null, .int 0], zI t q_1 8 (fun _ => 0), zI t q_3 8 (fun _ => 0)] := hD
  refine va_put (ci := 10) (v := .ref q_3) (ty := tyX10 1) (C := "QuorumStoreModel$Slots") (T := TX10) (N := 4) hx hb hts inX10 tyX10 okX10 nmX10 hown hK.2 hP hD hS 0 rfl rfl 1 (by decide) (hts _ k_836) (fun _ h9 => h9) rfl (by decide +kernel) rfl rfl (Nat.le_of_ble_eq_true rfl) d_PR_init_17 (fun H locs hP hD hS => ?_)
  have hP : va_P D vwCl [zO 10 h [.ref q_1, .ref q_3, .null, .int 0], zI t q_1 8 (fun _ => 0), zI t q_3 8 (fun _ => 0)] H := hP
  have hD : va_D A [zO 10 h [.ref q_1, .ref q_3, .null, .int 0], zI t q_1 8 (fun _ => 0), zI t q_3 8 (fun _ => 0)] := hD
  refine lv_aload_n hx hb d_PR_init_20 rfl (lv_at hl 0 rfl) ?_
  refine lv_bipush (v := 8) hx hb d_PR_init_21 (by decide) ?_
  refine va_newq (N' := 8) hx hb hown (hts _ k_832) (va_AO.of (hts _ k_833)) hK.2 hP hD hS hA (by decide) rfl (by decide) (Nat.le_of_ble_eq_true rfl) (Nat.le_of_ble_eq_true rfl) d_PR_init_23 (fun q_5 c_6 H hKn hP hD hS => ?_)
  obtain rfl : c_6 = t 5 := xk_arr hKn (i := 5) rfl
  have hP : va_P D vwCl [zO 10 h [.ref q_1, .ref q_3, .null, .int 0], zI t q_1 8 (fun _ => 0), zI t q_3 8 (fun _ => 0), zA t 5 q_5 8 (fun _ => none)] H := hP
  have hD : va_D A [zO 10 h [.ref q_1, .ref q_3, .null, .int 0], zI t q_1 8 (fun _ => 0), zI t q_3 8 (fun _ => 0), zA t 5 q_5 8 (fun _ => none)] := hD
  refine va_put (ci := 10) (v := .ref q_5) (ty := tyX10 2) (C := "QuorumStoreModel$Slots") (T := TX10) (N := 4) hx hb hts inX10 tyX10 okX10 nmX10 hown hK.2 hP hD hS 0 rfl rfl 2 (by decide) (hts _ k_838) (fun _ h9 => h9) rfl (by decide +kernel) rfl rfl (Nat.le_of_ble_eq_true rfl) d_PR_init_26 (fun H locs hP hD hS => ?_)
  have hP : va_P D vwCl [zO 10 h [.ref q_1, .ref q_3, .ref q_5, .int 0], zI t q_1 8 (fun _ => 0), zI t q_3 8 (fun _ => 0), zA t 5 q_5 8 (fun _ => none)] H := hP
  have hD : va_D A [zO 10 h [.ref q_1, .ref q_3, .ref q_5, .int 0], zI t q_1 8 (fun _ => 0), zI t q_3 8 (fun _ => 0), zA t 5 q_5 8 (fun _ => none)] := hD
  exact W.vret hx hb hr (fun t ht hW => ⟨⟨(q_1, q_3, q_5), rfl, trivial, by rw [ht]; exact hP, hD⟩, hS.F ht⟩) hS.2.2 d_PR_init_29
theorem d_PS_init_0 : decode c_PS_init 0 = .ok (.aload_n 0, 1) := by decide +kernel
theorem d_PS_init_1 : decode c_PS_init 1 = .ok (.invokespecial 3, 3) := by decide +kernel
theorem d_PS_init_4 : decode c_PS_init 4 = .ok (.aload_n 0, 1) := by decide +kernel
theorem d_PS_init_5 : decode c_PS_init 5 = .ok (.bipush 32, 2) := by decide +kernel
theorem d_PS_init_7 : decode c_PS_init 7 = .ok (.newarray .long, 2) := by decide +kernel
theorem d_PS_init_9 : decode c_PS_init 9 = .ok (.putfield 9, 3) := by decide +kernel
theorem d_PS_init_12 : decode c_PS_init 12 = .ok (.aload_n 0, 1) := by decide +kernel
theorem d_PS_init_13 : decode c_PS_init 13 = .ok (.bipush 8, 2) := by decide +kernel
theorem d_PS_init_15 : decode c_PS_init 15 = .ok (.newarray .long, 2) := by decide +kernel
theorem d_PS_init_17 : decode c_PS_init 17 = .ok (.putfield 15, 3) := by decide +kernel
theorem d_PS_init_20 : decode c_PS_init 20 = .ok (.aload_n 0, 1) := by decide +kernel
theorem d_PS_init_21 : decode c_PS_init 21 = .ok (.bipush 8, 2) := by decide +kernel
theorem d_PS_init_23 : decode c_PS_init 23 = .ok (.newarray .int, 2) := by decide +kernel
theorem d_PS_init_25 : decode c_PS_init 25 = .ok (.putfield 18, 3) := by decide +kernel
theorem d_PS_init_28 : decode c_PS_init 28 = .ok (.aload_n 0, 1) := by decide +kernel
theorem d_PS_init_29 : decode c_PS_init 29 = .ok (.iconst 4, 1) := by decide +kernel
theorem d_PS_init_30 : decode c_PS_init 30 = .ok (.newarray .int, 2) := by decide +kernel
theorem d_PS_init_32 : decode c_PS_init 32 = .ok (.putfield 22, 3) := by decide +kernel
theorem d_PS_init_35 : decode c_PS_init 35 = .ok (.aload_n 0, 1) := by decide +kernel
theorem d_PS_init_36 : decode c_PS_init 36 = .ok (.iconst 4, 1) := by decide +kernel
theorem d_PS_init_37 : decode c_PS_init 37 = .ok (.newarray .int, 2) := by decide +kernel
theorem d_PS_init_39 : decode c_PS_init 39 = .ok (.putfield 25, 3) := by decide +kernel
theorem d_PS_init_42 : decode c_PS_init 42 = .ok (.iconst 0, 1) := by decide +kernel
theorem d_PS_init_43 : decode c_PS_init 43 = .ok (.istore_n 1, 1) := by decide +kernel
theorem d_PS_init_44 : decode c_PS_init 44 = .ok (.iload_n 1, 1) := by decide +kernel
theorem d_PS_init_45 : decode c_PS_init 45 = .ok (.bipush 32, 2) := by decide +kernel
theorem d_PS_init_47 : decode c_PS_init 47 = .ok (.if_icmp .ge 18, 3) := by decide +kernel
theorem d_PS_init_50 : decode c_PS_init 50 = .ok (.aload_n 0, 1) := by decide +kernel
theorem d_PS_init_51 : decode c_PS_init 51 = .ok (.getfield 9, 3) := by decide +kernel
theorem d_PS_init_54 : decode c_PS_init 54 = .ok (.iload_n 1, 1) := by decide +kernel
theorem d_PS_init_55 : decode c_PS_init 55 = .ok (.ldc2_w 28, 3) := by decide +kernel
theorem d_PS_init_58 : decode c_PS_init 58 = .ok (.lastore, 1) := by decide +kernel
theorem d_PS_init_59 : decode c_PS_init 59 = .ok (.iinc 1 1, 3) := by decide +kernel
theorem d_PS_init_62 : decode c_PS_init 62 = .ok (.goto (-18), 3) := by decide +kernel
theorem d_PS_init_65 : decode c_PS_init 65 = .ok (.return_, 1) := by decide +kernel
set_option maxHeartbeats 4000000 in
set_option maxRecDepth 100000 in
/-- a new state -/
theorem C_PS_init (l : Launch) (D : va_G) (t : Nat → ClassId) (h : Nat) : xe_C l D vwCl (xTY t) y_PS_init c_PS_init 2 (Option.none : Option FieldType) ({ frames := 1, cells := 5, slots := 56, locals := 20 }) [.ref h] [zO 11 h [.int 0, .null, .null, .null, .null, .null, .int 0]] (xe_v D vwCl (fun _ : Nat × Nat × Nat × Nat × Nat => True) (fun u => [zO 11 h [.int 0, .ref u.1, .ref u.2.1, .ref u.2.2.1, .ref u.2.2.2.1, .ref u.2.2.2.2, .int 0], zJ t u.1 32 (fun _ => 1099511627776), zJ t u.2.1 8 (fun _ => 0), zI t u.2.2.1 8 (fun _ => 0), zI t u.2.2.2.1 4 (fun _ => 0), zI t u.2.2.2.2 4 (fun _ => 0)])) 5 56 := by
  refine xe_of (by decide) (Nat.le_of_ble_eq_true rfl) ?_
  intro p e s m below meth c ls A Z hr hlocks hin hA hP hD hS hl
  obtain ⟨hx, hb, hml, hown, hK⟩ := id Z
  have hown : s.vm.findClass "QuorumStoreModel$State" = some m.cls := hown
  have hts := hK.1.at (args := ([.ref h] : List Value).toArray)
  have hl : lv_has ls 2 [(0, .ref h)] := hl
  refine lv_aload_n hx hb d_PS_init_0 rfl (lv_at hl 0 rfl) ?_
  refine W.objInit hx hb hown (hts _ k_857) (hts _ k_30) (hts _ k_31) rfl (by rw [hml]; exact hl.1) rfl d_PS_init_1 (Nat.le_of_ble_eq_true rfl) (Nat.le_of_ble_eq_true rfl) ?_
  refine W.eq (g2 := F0 m 4 ls []) rfl ?_
  refine lv_aload_n hx hb d_PS_init_4 rfl (lv_at hl 0 rfl) ?_
  refine lv_bipush (v := 32) hx hb d_PS_init_5 (by decide) ?_
  refine va_newa (atype := .long) (ty := .long) (a0 := (32, .inr (.inl (fun _ => 0)))) hx hb (hts _ k_196) rfl hK.2 hP hD hS hA (fun _ => rfl) (by decide) rfl (by decide) (Nat.le_of_ble_eq_true rfl) (Nat.le_of_ble_eq_true rfl) d_PS_init_7 (fun q_1 c_2 H hKn hP hD hS => ?_)
  obtain rfl : c_2 = t 1 := xk_arr hKn (i := 1) rfl
  have hP : va_P D vwCl [zO 11 h [.int 0, .null, .null, .null, .null, .null, .int 0], zJ t q_1 32 (fun _ => 0)] H := hP
  have hD : va_D A [zO 11 h [.int 0, .null, .null, .null, .null, .null, .int 0], zJ t q_1 32 (fun _ => 0)] := hD
  refine va_putF (ci := 11) (v := .ref q_1) (ty := tyX11 1) (C := "QuorumStoreModel$State") (T := TX11) (N := 7) hx hb hts inX11 tyX11 okX11 nmX11 hown hK.2 hP hD hS 0 rfl rfl 1 (by decide) (hts _ k_861) (fun _ h9 => h9) rfl hin rfl (by decide +kernel) rfl rfl (Nat.le_of_ble_eq_true rfl) d_PS_init_9 (fun H locs hP hD hS => ?_)
  have hP : va_P D vwCl [zO 11 h [.int 0, .ref q_1, .null, .null, .null, .null, .int 0], zJ t q_1 32 (fun _ => 0)] H := hP
  have hD : va_D A [zO 11 h [.int 0, .ref q_1, .null, .null, .null, .null, .int 0], zJ t q_1 32 (fun _ => 0)] := hD
  refine lv_aload_n hx hb d_PS_init_12 rfl (lv_at hl 0 rfl) ?_
  refine lv_bipush (v := 8) hx hb d_PS_init_13 (by decide) ?_
  refine va_newa (atype := .long) (ty := .long) (a0 := (8, .inr (.inl (fun _ => 0)))) hx hb (hts _ k_196) rfl hK.2 hP hD hS hA (fun _ => rfl) (by decide) rfl (by decide) (Nat.le_of_ble_eq_true rfl) (Nat.le_of_ble_eq_true rfl) d_PS_init_15 (fun q_3 c_4 H hKn hP hD hS => ?_)
  obtain rfl : c_4 = t 1 := xk_arr hKn (i := 1) rfl
  have hP : va_P D vwCl [zO 11 h [.int 0, .ref q_1, .null, .null, .null, .null, .int 0], zJ t q_1 32 (fun _ => 0), zJ t q_3 8 (fun _ => 0)] H := hP
  have hD : va_D A [zO 11 h [.int 0, .ref q_1, .null, .null, .null, .null, .int 0], zJ t q_1 32 (fun _ => 0), zJ t q_3 8 (fun _ => 0)] := hD
  refine va_putF (ci := 11) (v := .ref q_3) (ty := tyX11 2) (C := "QuorumStoreModel$State") (T := TX11) (N := 7) hx hb hts inX11 tyX11 okX11 nmX11 hown hK.2 hP hD hS 0 rfl rfl 2 (by decide) (hts _ k_863) (fun _ h9 => h9) rfl hin rfl (by decide +kernel) rfl rfl (Nat.le_of_ble_eq_true rfl) d_PS_init_17 (fun H locs hP hD hS => ?_)
  have hP : va_P D vwCl [zO 11 h [.int 0, .ref q_1, .ref q_3, .null, .null, .null, .int 0], zJ t q_1 32 (fun _ => 0), zJ t q_3 8 (fun _ => 0)] H := hP
  have hD : va_D A [zO 11 h [.int 0, .ref q_1, .ref q_3, .null, .null, .null, .int 0], zJ t q_1 32 (fun _ => 0), zJ t q_3 8 (fun _ => 0)] := hD
  refine lv_aload_n hx hb d_PS_init_20 rfl (lv_at hl 0 rfl) ?_
  refine lv_bipush (v := 8) hx hb d_PS_init_21 (by decide) ?_
  refine va_newa (atype := .int) (ty := .int) (a0 := (8, .inl (fun _ => 0))) hx hb (hts _ k_86) rfl hK.2 hP hD hS hA (fun _ => rfl) (by decide) rfl (by decide) (Nat.le_of_ble_eq_true rfl) (Nat.le_of_ble_eq_true rfl) d_PS_init_23 (fun q_5 c_6 H hKn hP hD hS => ?_)
  obtain rfl : c_6 = t 0 := xk_arr hKn (i := 0) rfl
  have hP : va_P D vwCl [zO 11 h [.int 0, .ref q_1, .ref q_3, .null, .null, .null, .int 0], zJ t q_1 32 (fun _ => 0), zJ t q_3 8 (fun _ => 0), zI t q_5 8 (fun _ => 0)] H := hP
  have hD : va_D A [zO 11 h [.int 0, .ref q_1, .ref q_3, .null, .null, .null, .int 0], zJ t q_1 32 (fun _ => 0), zJ t q_3 8 (fun _ => 0), zI t q_5 8 (fun _ => 0)] := hD
  refine va_putF (ci := 11) (v := .ref q_5) (ty := tyX11 3) (C := "QuorumStoreModel$State") (T := TX11) (N := 7) hx hb hts inX11 tyX11 okX11 nmX11 hown hK.2 hP hD hS 0 rfl rfl 3 (by decide) (hts _ k_865) (fun _ h9 => h9) rfl hin rfl (by decide +kernel) rfl rfl (Nat.le_of_ble_eq_true rfl) d_PS_init_25 (fun H locs hP hD hS => ?_)
  have hP : va_P D vwCl [zO 11 h [.int 0, .ref q_1, .ref q_3, .ref q_5, .null, .null, .int 0], zJ t q_1 32 (fun _ => 0), zJ t q_3 8 (fun _ => 0), zI t q_5 8 (fun _ => 0)] H := hP
  have hD : va_D A [zO 11 h [.int 0, .ref q_1, .ref q_3, .ref q_5, .null, .null, .int 0], zJ t q_1 32 (fun _ => 0), zJ t q_3 8 (fun _ => 0), zI t q_5 8 (fun _ => 0)] := hD
  refine lv_aload_n hx hb d_PS_init_28 rfl (lv_at hl 0 rfl) ?_
  refine lv_iconst (v := 4) hx hb d_PS_init_29 (by decide) ?_
  refine va_newa (atype := .int) (ty := .int) (a0 := (4, .inl (fun _ => 0))) hx hb (hts _ k_86) rfl hK.2 hP hD hS hA (fun _ => rfl) (by decide) rfl (by decide) (Nat.le_of_ble_eq_true rfl) (Nat.le_of_ble_eq_true rfl) d_PS_init_30 (fun q_7 c_8 H hKn hP hD hS => ?_)
  obtain rfl : c_8 = t 0 := xk_arr hKn (i := 0) rfl
  have hP : va_P D vwCl [zO 11 h [.int 0, .ref q_1, .ref q_3, .ref q_5, .null, .null, .int 0], zJ t q_1 32 (fun _ => 0), zJ t q_3 8 (fun _ => 0), zI t q_5 8 (fun _ => 0), zI t q_7 4 (fun _ => 0)] H := hP
  have hD : va_D A [zO 11 h [.int 0, .ref q_1, .ref q_3, .ref q_5, .null, .null, .int 0], zJ t q_1 32 (fun _ => 0), zJ t q_3 8 (fun _ => 0), zI t q_5 8 (fun _ => 0), zI t q_7 4 (fun _ => 0)] := hD
  refine va_put (ci := 11) (v := .ref q_7) (ty := tyX11 4) (C := "QuorumStoreModel$State") (T := TX11) (N := 7) hx hb hts inX11 tyX11 okX11 nmX11 hown hK.2 hP hD hS 0 rfl rfl 4 (by decide) (hts _ k_867) (fun _ h9 => h9) rfl (by decide +kernel) rfl rfl (Nat.le_of_ble_eq_true rfl) d_PS_init_32 (fun H locs hP hD hS => ?_)
  have hP : va_P D vwCl [zO 11 h [.int 0, .ref q_1, .ref q_3, .ref q_5, .ref q_7, .null, .int 0], zJ t q_1 32 (fun _ => 0), zJ t q_3 8 (fun _ => 0), zI t q_5 8 (fun _ => 0), zI t q_7 4 (fun _ => 0)] H := hP
  have hD : va_D A [zO 11 h [.int 0, .ref q_1, .ref q_3, .ref q_5, .ref q_7, .null, .int 0], zJ t q_1 32 (fun _ => 0), zJ t q_3 8 (fun _ => 0), zI t q_5 8 (fun _ => 0), zI t q_7 4 (fun _ => 0)] := hD
  refine lv_aload_n hx hb d_PS_init_35 rfl (lv_at hl 0 rfl) ?_
  refine lv_iconst (v := 4) hx hb d_PS_init_36 (by decide) ?_
  refine va_newa (atype := .int) (ty := .int) (a0 := (4, .inl (fun _ => 0))) hx hb (hts _ k_86) rfl hK.2 hP hD hS hA (fun _ => rfl) (by decide) rfl (by decide) (Nat.le_of_ble_eq_true rfl) (Nat.le_of_ble_eq_true rfl) d_PS_init_37 (fun q_9 c_10 H hKn hP hD hS => ?_)
  obtain rfl : c_10 = t 0 := xk_arr hKn (i := 0) rfl
  have hP : va_P D vwCl [zO 11 h [.int 0, .ref q_1, .ref q_3, .ref q_5, .ref q_7, .null, .int 0], zJ t q_1 32 (fun _ => 0), zJ t q_3 8 (fun _ => 0), zI t q_5 8 (fun _ => 0), zI t q_7 4 (fun _ => 0), zI t q_9 4 (fun _ => 0)] H := hP
  have hD : va_D A [zO 11 h [.int 0, .ref q_1, .ref q_3, .ref q_5, .ref q_7, .null, .int 0], zJ t q_1 32 (fun _ => 0), zJ t q_3 8 (fun _ => 0), zI t q_5 8 (fun _ => 0), zI t q_7 4 (fun _ => 0), zI t q_9 4 (fun _ => 0)] := hD
  refine va_put (ci := 11) (v := .ref q_9) (ty := tyX11 5) (C := "QuorumStoreModel$State") (T := TX11) (N := 7) hx hb hts inX11 tyX11 okX11 nmX11 hown hK.2 hP hD hS 0 rfl rfl 5 (by decide) (hts _ k_868) (fun _ h9 => h9) rfl (by decide +kernel) rfl rfl (Nat.le_of_ble_eq_true rfl) d_PS_init_39 (fun H locs hP hD hS => ?_)
  have hP : va_P D vwCl [zO 11 h [.int 0, .ref q_1, .ref q_3, .ref q_5, .ref q_7, .ref q_9, .int 0], zJ t q_1 32 (fun _ => 0), zJ t q_3 8 (fun _ => 0), zI t q_5 8 (fun _ => 0), zI t q_7 4 (fun _ => 0), zI t q_9 4 (fun _ => 0)] H := hP
  have hD : va_D A [zO 11 h [.int 0, .ref q_1, .ref q_3, .ref q_5, .ref q_7, .ref q_9, .int 0], zJ t q_1 32 (fun _ => 0), zJ t q_3 8 (fun _ => 0), zI t q_5 8 (fun _ => 0), zI t q_7 4 (fun _ => 0), zI t q_9 4 (fun _ => 0)] := hD
  refine lv_iconst (v := 0) hx hb d_PS_init_42 (by decide) ?_
  refine lv_istore_n (lv' := [(1, .int 0), (0, .ref h)]) hx hb d_PS_init_43 rfl hl (by decide) rfl (fun ls hl => ?_)
  have e0 : (fun _ => (0 : Int64)) = fun j => if j < 0 then 1099511627776 else 0 := by funext j; rfl
  rw [show (zJ t q_1 32 (fun _ => 0)) = zJ t q_1 32 (fun j => if j < 0 then 1099511627776 else 0) from by rw [← e0]] at hP hD
  have loop : ∀ (n : Nat) (i : Nat), i + n = 32 → ∀ (H : Heap) (locs : List Loc), va_P D vwCl [zO 11 h [.int 0, .ref q_1, .ref q_3, .ref q_5, .ref q_7, .ref q_9, .int 0], zJ t q_1 32 (fun j => if j < i then 1099511627776 else 0), zJ t q_3 8 (fun _ => 0), zI t q_5 8 (fun _ => 0), zI t q_7 4 (fun _ => 0), zI t q_9 4 (fun _ => 0)] H → va_D A [zO 11 h [.int 0, .ref q_1, .ref q_3, .ref q_5, .ref q_7, .ref q_9, .int 0], zJ t q_1 32 (fun j => if j < i then 1099511627776 else 0), zJ t q_3 8 (fun _ => 0), zI t q_5 8 (fun _ => 0), zI t q_7 4 (fun _ => 0), zI t q_9 4 (fun _ => 0)] → va_S A s.heap H locs → ∀ (ls : Array Slot), lv_has ls 2 [(1, .int (nI i)), (0, .ref h)] → W p l e ({ frames := 1, cells := 5, slots := 56, locals := 20 } : Room) s m ([.ref h] : List Value).toArray below meth c H locs 5 56 (MQ below ((xe_v D vwCl (fun _ : Nat × Nat × Nat × Nat × Nat => True) (fun u => [zO 11 h [.int 0, .ref u.1, .ref u.2.1, .ref u.2.2.1, .ref u.2.2.2.1, .ref u.2.2.2.2, .int 0], zJ t u.1 32 (fun _ => 1099511627776), zJ t u.2.1 8 (fun _ => 0), zI t u.2.2.1 8 (fun _ => 0), zI t u.2.2.2.1 4 (fun _ => 0), zI t u.2.2.2.2 4 (fun _ => 0)])) A) ([.ref h] : List Value).toArray s 5 56 A) (F0 m 44 ls []) := by
    intro n
    induction n with
    | zero =>
      intro i hi H locs hP hD hS ls hl
      refine lv_iload_n hx hb d_PS_init_44 rfl (lv_at hl 0 rfl) ?_
      refine lv_bipush (v := 32) hx hb d_PS_init_45 (by decide) ?_
      refine lv_icmp_ge (tgt := 65) hx hb d_PS_init_47 (by decide) (fun _ => ?_) (fun c_11 => absurd (nI_le (b := i) (a := 32) (by omega) (by omega)) c_11)
      obtain rfl : i = 32 := by omega
      have e1 := xa_J (D := D) (cl := vwCl) (t := t) (q := q_1) (n := 32) (g := fun _ => 1099511627776) (H := H) (fun j hj => if_pos hj) (hP 1 _ rfl)
      have hP := xd_set hP 1 rfl e1
      have hD := xd_setD (e' := (zJ t q_1 32 (fun _ => 1099511627776)).2) hD 1 rfl
      have hP : va_P D vwCl [zO 11 h [.int 0, .ref q_1, .ref q_3, .ref q_5, .ref q_7, .ref q_9, .int 0], zJ t q_1 32 (fun _ => 1099511627776), zJ t q_3 8 (fun _ => 0), zI t q_5 8 (fun _ => 0), zI t q_7 4 (fun _ => 0), zI t q_9 4 (fun _ => 0)] H := hP
      have hD : va_D A [zO 11 h [.int 0, .ref q_1, .ref q_3, .ref q_5, .ref q_7, .ref q_9, .int 0], zJ t q_1 32 (fun _ => 1099511627776), zJ t q_3 8 (fun _ => 0), zI t q_5 8 (fun _ => 0), zI t q_7 4 (fun _ => 0), zI t q_9 4 (fun _ => 0)] := hD
      exact W.vret hx hb hr (fun t ht hW => ⟨⟨(q_1, q_3, q_5, q_7, q_9), rfl, trivial, by rw [ht]; exact hP, hD⟩, hS.F ht⟩) hS.2.2 d_PS_init_65
    | succ n ih =>
      intro i hi H locs hP hD hS ls hl
      refine lv_iload_n hx hb d_PS_init_44 rfl (lv_at hl 0 rfl) ?_
      refine lv_bipush (v := 32) hx hb d_PS_init_45 (by decide) ?_
      refine lv_icmp_ge (tgt := 65) hx hb d_PS_init_47 (by decide) (fun c_12 => absurd c_12 (nI_ge (a := i) (b := 32) (by omega) (by omega))) (fun _ => ?_)
      refine lv_aload_n hx hb d_PS_init_50 rfl (lv_at hl 1 rfl) ?_
      refine va_get (ci := 11) (C := "QuorumStoreModel$State") (T := TX11) (N := 7) hx hb hts inX11 hown hK.2 hP 0 rfl rfl 1 (by decide) (hts _ k_861) (fun _ h9 => h9) rfl d_PS_init_51 ?_
      refine lv_iload_n hx hb d_PS_init_54 rfl (lv_at hl 0 rfl) ?_
      refine lv_ldc2 (v := 1099511627776) hx hb hown (hts _ k_858) d_PS_init_55 ?_
      refine va_last hx hb hK.2 hP hD hS 1 1 rfl rfl (vp_in_nI (by omega) (by decide)) d_PS_init_58 (fun H locs hP hD hS => ?_)
      rw [xu_J (by omega)] at hP hD
      have hP : va_P D vwCl [zO 11 h [.int 0, .ref q_1, .ref q_3, .ref q_5, .ref q_7, .ref q_9, .int 0], zJ t q_1 32 (fun j => if j < i + 1 then 1099511627776 else 0), zJ t q_3 8 (fun _ => 0), zI t q_5 8 (fun _ => 0), zI t q_7 4 (fun _ => 0), zI t q_9 4 (fun _ => 0)] H := hP
      have hD : va_D A [zO 11 h [.int 0, .ref q_1, .ref q_3, .ref q_5, .ref q_7, .ref q_9, .int 0], zJ t q_1 32 (fun j => if j < i + 1 then 1099511627776 else 0), zJ t q_3 8 (fun _ => 0), zI t q_5 8 (fun _ => 0), zI t q_7 4 (fun _ => 0), zI t q_9 4 (fun _ => 0)] := hD
      refine lv_iinc (v := nI (i + 1)) (lv' := [(1, .int (nI (i + 1))), (0, .ref h)]) hx hb d_PS_init_59 hl (k := 0) rfl (nI_1 i) (by decide) rfl (fun ls hl => ?_)
      refine lv_goto (tgt := 44) hx hb d_PS_init_62 (by decide) ?_
      exact ih (i + 1) (by omega) H locs hP hD hS ls (lv_sub hl [0, 1] rfl)
  exact loop 32 0 (by omega) _ _ hP hD hS ls (lv_sub hl [0, 1] rfl)
theorem d_PS_config_II_0 : decode c_PS_config_II 0 = .ok (.aload_n 0, 1) := by decide +kernel
theorem d_PS_config_II_1 : decode c_PS_config_II 1 = .ok (.getfield 34, 3) := by decide +kernel
theorem d_PS_config_II_4 : decode c_PS_config_II 4 = .ok (.aload_n 0, 1) := by decide +kernel
theorem d_PS_config_II_5 : decode c_PS_config_II 5 = .ok (.getfield 22, 3) := by decide +kernel
theorem d_PS_config_II_8 : decode c_PS_config_II 8 = .ok (.arraylength, 1) := by decide +kernel
theorem d_PS_config_II_9 : decode c_PS_config_II 9 = .ok (.if_icmp .ne 74, 3) := by decide +kernel
theorem d_PS_config_II_83 : decode c_PS_config_II 83 = .ok (.aload_n 0, 1) := by decide +kernel
theorem d_PS_config_II_84 : decode c_PS_config_II 84 = .ok (.getfield 22, 3) := by decide +kernel
theorem d_PS_config_II_87 : decode c_PS_config_II 87 = .ok (.aload_n 0, 1) := by decide +kernel
theorem d_PS_config_II_88 : decode c_PS_config_II 88 = .ok (.getfield 34, 3) := by decide +kernel
theorem d_PS_config_II_91 : decode c_PS_config_II 91 = .ok (.iload_n 1, 1) := by decide +kernel
theorem d_PS_config_II_92 : decode c_PS_config_II 92 = .ok (.iastore, 1) := by decide +kernel
theorem d_PS_config_II_93 : decode c_PS_config_II 93 = .ok (.aload_n 0, 1) := by decide +kernel
theorem d_PS_config_II_94 : decode c_PS_config_II 94 = .ok (.getfield 25, 3) := by decide +kernel
theorem d_PS_config_II_97 : decode c_PS_config_II 97 = .ok (.aload_n 0, 1) := by decide +kernel
theorem d_PS_config_II_98 : decode c_PS_config_II 98 = .ok (.getfield 34, 3) := by decide +kernel
theorem d_PS_config_II_101 : decode c_PS_config_II 101 = .ok (.iload_n 2, 1) := by decide +kernel
theorem d_PS_config_II_102 : decode c_PS_config_II 102 = .ok (.iastore, 1) := by decide +kernel
theorem d_PS_config_II_103 : decode c_PS_config_II 103 = .ok (.aload_n 0, 1) := by decide +kernel
theorem d_PS_config_II_104 : decode c_PS_config_II 104 = .ok (.dup, 1) := by decide +kernel
theorem d_PS_config_II_105 : decode c_PS_config_II 105 = .ok (.getfield 34, 3) := by decide +kernel
theorem d_PS_config_II_108 : decode c_PS_config_II 108 = .ok (.iconst 1, 1) := by decide +kernel
theorem d_PS_config_II_109 : decode c_PS_config_II 109 = .ok (.iadd, 1) := by decide +kernel
theorem d_PS_config_II_110 : decode c_PS_config_II 110 = .ok (.putfield 34, 3) := by decide +kernel
theorem d_PS_config_II_113 : decode c_PS_config_II 113 = .ok (.return_, 1) := by decide +kernel
set_option maxHeartbeats 4000000 in
set_option maxRecDepth 100000 in
/-- the first pair -/
theorem C_PS_config_II (l : Launch) (D : va_G) (t : Nat → ClassId) (h n r sq fr ms : Nat) (mk : Int32) : xe_C l D vwCl (xTY t) y_PS_config_II c_PS_config_II 6 (Option.none : Option FieldType) ({ frames := 0, cells := 0, slots := 0, locals := 0 }) [.ref h, .int 1, .int mk] [zO 11 h [.int 0, .ref n, .ref r, .ref sq, .ref fr, .ref ms, .int 0], zI t fr 4 (fun _ => 0), zI t ms 4 (fun _ => 0)] (xe_v D vwCl (fun _ : Unit => True) (fun _ => [zO 11 h [.int 0, .ref n, .ref r, .ref sq, .ref fr, .ref ms, .int 1], zI t fr 4 (xm 1), zI t ms 4 (xm mk)])) 0 0 := by
  refine xe_of (by decide) (Nat.le_of_ble_eq_true rfl) ?_
  intro p e s m below meth c ls A Z hr hlocks hin hA hP hD hS hl
  obtain ⟨hx, hb, hml, hown, hK⟩ := id Z
  have hown : s.vm.findClass "QuorumStoreModel$State" = some m.cls := hown
  have hts := hK.1.at (args := ([.ref h, .int 1, .int mk] : List Value).toArray)
  have hl : lv_has ls 6 [(0, .ref h), (1, .int 1), (2, .int mk)] := hl
  refine lv_aload_n hx hb d_PS_config_II_0 rfl (lv_at hl 0 rfl) ?_
  refine va_get (ci := 11) (C := "QuorumStoreModel$State") (T := TX11) (N := 7) hx hb hts inX11 hown hK.2 hP 0 rfl rfl 6 (by decide) (hts _ k_869) (fun _ h9 => h9) rfl d_PS_config_II_1 ?_
  refine lv_aload_n hx hb d_PS_config_II_4 rfl (lv_at hl 0 rfl) ?_
  refine va_get (ci := 11) (C := "QuorumStoreModel$State") (T := TX11) (N := 7) hx hb hts inX11 hown hK.2 hP 0 rfl rfl 4 (by decide) (hts _ k_867) (fun _ h9 => h9) rfl d_PS_config_II_5 ?_
  refine va_alen (v := nI 4) hx hb hK.2 hP 1 0 rfl rfl rfl d_PS_config_II_8 ?_
  refine lv_icmp_ne (tgt := 83) hx hb d_PS_config_II_9 (by decide) (fun _ => ?_) (fun c_1 => absurd c_1 (by decide))
  refine lv_aload_n hx hb d_PS_config_II_83 rfl (lv_at hl 0 rfl) ?_
  refine va_get (ci := 11) (C := "QuorumStoreModel$State") (T := TX11) (N := 7) hx hb hts inX11 hown hK.2 hP 0 rfl rfl 4 (by decide) (hts _ k_867) (fun _ h9 => h9) rfl d_PS_config_II_84 ?_
  refine lv_aload_n hx hb d_PS_config_II_87 rfl (lv_at hl 0 rfl) ?_
  refine va_get (ci := 11) (C := "QuorumStoreModel$State") (T := TX11) (N := 7) hx hb hts inX11 hown hK.2 hP 0 rfl rfl 6 (by decide) (hts _ k_869) (fun _ h9 => h9) rfl d_PS_config_II_88 ?_
  refine lv_iload_n hx hb d_PS_config_II_91 rfl (lv_at hl 1 rfl) ?_
  refine va_iast hx hb hK.2 hP hD hS 1 0 rfl rfl (by unfold vp_in; decide) d_PS_config_II_92 (fun H locs hP hD hS => ?_)
  rw [xu_m] at hP hD
  have hP : va_P D vwCl [zO 11 h [.int 0, .ref n, .ref r, .ref sq, .ref fr, .ref ms, .int 0], zI t fr 4 (xm 1), zI t ms 4 (fun _ => 0)] H := hP
  have hD : va_D A [zO 11 h [.int 0, .ref n, .ref r, .ref sq, .ref fr, .ref ms, .int 0], zI t fr 4 (xm 1), zI t ms 4 (fun _ => 0)] := hD
  refine lv_aload_n hx hb d_PS_config_II_93 rfl (lv_at hl 0 rfl) ?_
  refine va_get (ci := 11) (C := "QuorumStoreModel$State") (T := TX11) (N := 7) hx hb hts inX11 hown hK.2 hP 0 rfl rfl 5 (by decide) (hts _ k_868) (fun _ h9 => h9) rfl d_PS_config_II_94 ?_
  refine lv_aload_n hx hb d_PS_config_II_97 rfl (lv_at hl 0 rfl) ?_
  refine va_get (ci := 11) (C := "QuorumStoreModel$State") (T := TX11) (N := 7) hx hb hts inX11 hown hK.2 hP 0 rfl rfl 6 (by decide) (hts _ k_869) (fun _ h9 => h9) rfl d_PS_config_II_98 ?_
  refine lv_iload_n hx hb d_PS_config_II_101 rfl (lv_at hl 2 rfl) ?_
  refine va_iast hx hb hK.2 hP hD hS 2 0 rfl rfl (by unfold vp_in; decide) d_PS_config_II_102 (fun H locs hP hD hS => ?_)
  rw [xu_m] at hP hD
  have hP : va_P D vwCl [zO 11 h [.int 0, .ref n, .ref r, .ref sq, .ref fr, .ref ms, .int 0], zI t fr 4 (xm 1), zI t ms 4 (xm mk)] H := hP
  have hD : va_D A [zO 11 h [.int 0, .ref n, .ref r, .ref sq, .ref fr, .ref ms, .int 0], zI t fr 4 (xm 1), zI t ms 4 (xm mk)] := hD
  refine lv_aload_n hx hb d_PS_config_II_103 rfl (lv_at hl 0 rfl) ?_
  refine lv_dup hx hb d_PS_config_II_104 rfl ?_
  refine va_get (ci := 11) (C := "QuorumStoreModel$State") (T := TX11) (N := 7) hx hb hts inX11 hown hK.2 hP 0 rfl rfl 6 (by decide) (hts _ k_869) (fun _ h9 => h9) rfl d_PS_config_II_105 ?_
  refine lv_iconst (v := 1) hx hb d_PS_config_II_108 (by decide) ?_
  refine lv_iadd hx hb d_PS_config_II_109 ?_
  refine lv_topi (fun f_2 ef_2 => ?_)
  refine va_put (ci := 11) (v := .int f_2) (ty := tyX11 6) (C := "QuorumStoreModel$State") (T := TX11) (N := 7) hx hb hts inX11 tyX11 okX11 nmX11 hown hK.2 hP hD hS 0 rfl rfl 6 (by decide) (hts _ k_869) (fun _ h9 => h9) rfl (by decide +kernel) rfl rfl (Nat.le_of_ble_eq_true rfl) d_PS_config_II_110 (fun H locs hP hD hS => ?_)
  have hP : va_P D vwCl [zO 11 h [.int 0, .ref n, .ref r, .ref sq, .ref fr, .ref ms, .int f_2], zI t fr 4 (xm 1), zI t ms 4 (xm mk)] H := hP
  have hD : va_D A [zO 11 h [.int 0, .ref n, .ref r, .ref sq, .ref fr, .ref ms, .int f_2], zI t fr 4 (xm 1), zI t ms 4 (xm mk)] := hD
  obtain rfl : f_2 = 1 := ef_2.trans (by decide)
  have hP : va_P D vwCl [zO 11 h [.int 0, .ref n, .ref r, .ref sq, .ref fr, .ref ms, .int 1], zI t fr 4 (xm 1), zI t ms 4 (xm mk)] H := hP
  have hD : va_D A [zO 11 h [.int 0, .ref n, .ref r, .ref sq, .ref fr, .ref ms, .int 1], zI t fr 4 (xm 1), zI t ms 4 (xm mk)] := hD
  exact W.vret hx hb hr (fun t ht hW => ⟨⟨(), rfl, trivial, by rw [ht]; exact hP, hD⟩, hS.F ht⟩) hS.2.2 d_PS_config_II_113
theorem d_PM_init_0 : decode c_PM_init 0 = .ok (.aload_n 0, 1) := by decide +kernel
theorem d_PM_init_1 : decode c_PM_init 1 = .ok (.invokespecial 1, 3) := by decide +kernel
theorem d_PM_init_4 : decode c_PM_init 4 = .ok (.aload_n 0, 1) := by decide +kernel
theorem d_PM_init_5 : decode c_PM_init 5 = .ok (.new 7, 3) := by decide +kernel
theorem d_PM_init_8 : decode c_PM_init 8 = .ok (.dup, 1) := by decide +kernel
theorem d_PM_init_9 : decode c_PM_init 9 = .ok (.invokespecial 9, 3) := by decide +kernel
theorem d_PM_init_12 : decode c_PM_init 12 = .ok (.putfield 10, 3) := by decide +kernel
theorem d_PM_init_15 : decode c_PM_init 15 = .ok (.aload_n 0, 1) := by decide +kernel
theorem d_PM_init_16 : decode c_PM_init 16 = .ok (.new 16, 3) := by decide +kernel
theorem d_PM_init_19 : decode c_PM_init 19 = .ok (.dup, 1) := by decide +kernel
theorem d_PM_init_20 : decode c_PM_init 20 = .ok (.invokespecial 18, 3) := by decide +kernel
theorem d_PM_init_23 : decode c_PM_init 23 = .ok (.putfield 19, 3) := by decide +kernel
theorem d_PM_init_26 : decode c_PM_init 26 = .ok (.return_, 1) := by decide +kernel
set_option maxHeartbeats 4000000 in
set_option maxRecDepth 100000 in
/-- a new message -/
theorem C_PM_init (l : Launch) (D : va_G) (t : Nat → ClassId) (h : Nat) : xe_C l D vwCl (xTY t) y_PM_init c_PM_init 1 (Option.none : Option FieldType) ({ frames := 2, cells := 10, slots := 91, locals := 41 }) [.ref h] [zO 8 h [.int 0, .int 0, .int 0, .int 0, .int 0, .null, .null, .null]] (xe_v D vwCl (fun _ : Nat × Nat × Nat × Nat × Nat => True) (fun u => [zO 8 h [.int 0, .int 0, .int 0, .int 0, .int 0, .null, .ref u.1, .ref u.2.2.2.2], zO 10 u.1 [.ref u.2.1, .ref u.2.2.1, .ref u.2.2.2.1, .int 0]])) 10 91 := by
  refine xe_of (by decide) (Nat.le_of_ble_eq_true rfl) ?_
  intro p e s m below meth c ls A Z hr hlocks hin hA hP hD hS hl
  obtain ⟨hx, hb, hml, hown, hK⟩ := id Z
  have hown : s.vm.findClass "QuorumStoreModel$Message" = some m.cls := hown
  have hts := hK.1.at (args := ([.ref h] : List Value).toArray)
  have hl : lv_has ls 1 [(0, .ref h)] := hl
  refine lv_aload_n hx hb d_PM_init_0 rfl (lv_at hl 0 rfl) ?_
  refine W.objInit hx hb hown (hts _ k_825) (hts _ k_30) (hts _ k_31) rfl (by rw [hml]; exact hl.1) rfl d_PM_init_1 (Nat.le_of_ble_eq_true rfl) (Nat.le_of_ble_eq_true rfl) ?_
  refine W.eq (g2 := F0 m 4 ls []) rfl ?_
  refine lv_aload_n hx hb d_PM_init_4 rfl (lv_at hl 0 rfl) ?_
  refine va_new (ci := 10) (fs := [.null, .null, .null, .int 0]) (C := "QuorumStoreModel$Slots") (T := TX10) (N := 4) hx hb hts inX10 tyX10 okX10 hown (hts _ k_826) (hts _ k_827) (hts _ k_10) hK.2 hP hD hS hA rfl (by decide) (Nat.le_of_ble_eq_true rfl) (Nat.le_of_ble_eq_true rfl) d_PM_init_5 (fun q_1 H hP hD hS => ?_)
  have hP : va_P D vwCl [zO 8 h [.int 0, .int 0, .int 0, .int 0, .int 0, .null, .null, .null], zO 10 q_1 [.null, .null, .null, .int 0]] H := hP
  have hD : va_D A [zO 8 h [.int 0, .int 0, .int 0, .int 0, .int 0, .null, .null, .null], zO 10 q_1 [.null, .null, .null, .int 0]] := hD
  refine lv_dup hx hb d_PM_init_8 rfl ?_
  refine xe_callv (wr := [zO 8 h [.int 0, .int 0, .int 0, .int 0, .int 0, .null, .null, .null]]) (xs_IN (As := []) (rest := [.ref q_1, .ref h]) Z (C_PR_init l D t q_1 H.size) m_PR_init k_828 k_829 rfl rfl rfl ⟨Nat.le_of_ble_eq_true rfl, Nat.le_of_ble_eq_true rfl⟩ (xe_pre hK (hP.sub [1] rfl) (hD.sub [1] (by decide) rfl)) rfl hl.1 rfl (Nat.le_of_ble_eq_true rfl) d_PM_init_9 ⟨Nat.le_of_ble_eq_true rfl, Nat.le_of_ble_eq_true rfl⟩) hP hD hS hA [1] [0] rfl rfl (by decide) (by decide) (fun u_ H locs _ hP hD hS => ?_)
  obtain ⟨a1, b1, v1⟩ := u_
  have hP : va_P D vwCl [zO 8 h [.int 0, .int 0, .int 0, .int 0, .int 0, .null, .null, .null], zO 10 q_1 [.ref a1, .ref b1, .ref v1, .int 0], zI t a1 8 (fun _ => 0), zI t b1 8 (fun _ => 0), zA t 5 v1 8 (fun _ => none)] H := hP
  have hD : va_D A [zO 8 h [.int 0, .int 0, .int 0, .int 0, .int 0, .null, .null, .null], zO 10 q_1 [.ref a1, .ref b1, .ref v1, .int 0], zI t a1 8 (fun _ => 0), zI t b1 8 (fun _ => 0), zA t 5 v1 8 (fun _ => none)] := hD
  refine va_putF (ci := 8) (v := .ref q_1) (ty := tyX8 6) (C := "QuorumStoreModel$Message") (T := TX8) (N := 8) hx hb hts inX8 tyX8 okX8 nmX8 hown hK.2 hP hD hS 0 rfl rfl 6 (by decide) (hts _ k_898) (fun _ h9 => h9) rfl hin rfl (by decide +kernel) rfl rfl (Nat.le_of_ble_eq_true rfl) d_PM_init_12 (fun H locs hP hD hS => ?_)
  have hP : va_P D vwCl [zO 8 h [.int 0, .int 0, .int 0, .int 0, .int 0, .null, .ref q_1, .null], zO 10 q_1 [.ref a1, .ref b1, .ref v1, .int 0], zI t a1 8 (fun _ => 0), zI t b1 8 (fun _ => 0), zA t 5 v1 8 (fun _ => none)] H := hP
  have hD : va_D A [zO 8 h [.int 0, .int 0, .int 0, .int 0, .int 0, .null, .ref q_1, .null], zO 10 q_1 [.ref a1, .ref b1, .ref v1, .int 0], zI t a1 8 (fun _ => 0), zI t b1 8 (fun _ => 0), zA t 5 v1 8 (fun _ => none)] := hD
  refine lv_aload_n hx hb d_PM_init_15 rfl (lv_at hl 0 rfl) ?_
  refine va_new (ci := 11) (fs := [.int 0, .null, .null, .null, .null, .null, .int 0]) (C := "QuorumStoreModel$State") (T := TX11) (N := 7) hx hb hts inX11 tyX11 okX11 hown (hts _ k_852) (hts _ k_853) (hts _ k_11) hK.2 hP hD hS hA rfl (by decide) (Nat.le_of_ble_eq_true rfl) (Nat.le_of_ble_eq_true rfl) d_PM_init_16 (fun q_2 H hP hD hS => ?_)
  have hP : va_P D vwCl [zO 8 h [.int 0, .int 0, .int 0, .int 0, .int 0, .null, .ref q_1, .null], zO 10 q_1 [.ref a1, .ref b1, .ref v1, .int 0], zI t a1 8 (fun _ => 0), zI t b1 8 (fun _ => 0), zA t 5 v1 8 (fun _ => none), zO 11 q_2 [.int 0, .null, .null, .null, .null, .null, .int 0]] H := hP
  have hD : va_D A [zO 8 h [.int 0, .int 0, .int 0, .int 0, .int 0, .null, .ref q_1, .null], zO 10 q_1 [.ref a1, .ref b1, .ref v1, .int 0], zI t a1 8 (fun _ => 0), zI t b1 8 (fun _ => 0), zA t 5 v1 8 (fun _ => none), zO 11 q_2 [.int 0, .null, .null, .null, .null, .null, .int 0]] := hD
  refine lv_dup hx hb d_PM_init_19 rfl ?_
  refine xe_callv (wr := [zO 8 h [.int 0, .int 0, .int 0, .int 0, .int 0, .null, .ref q_1, .null], zO 10 q_1 [.ref a1, .ref b1, .ref v1, .int 0], zI t a1 8 (fun _ => 0), zI t b1 8 (fun _ => 0), zA t 5 v1 8 (fun _ => none)]) (xs_I (As := []) (rest := [.ref q_2, .ref h]) Z (C_PS_init l D t q_2 H.size) m_PS_init k_854 k_855 rfl rfl rfl ⟨Nat.le_of_ble_eq_true rfl, Nat.le_of_ble_eq_true rfl⟩ (xe_pre hK (hP.sub [5] rfl) (hD.sub [5] (by decide) rfl)) rfl hl.1 rfl (Nat.le_of_ble_eq_true rfl) d_PM_init_20 ⟨Nat.le_of_ble_eq_true rfl, Nat.le_of_ble_eq_true rfl⟩) hP hD hS hA [5] [0, 1, 2, 3, 4] rfl rfl (by decide) (by decide) (fun u_ H locs _ hP hD hS => ?_)
  obtain ⟨s1, s2, s3, s4, s5⟩ := u_
  have hP : va_P D vwCl [zO 8 h [.int 0, .int 0, .int 0, .int 0, .int 0, .null, .ref q_1, .null], zO 10 q_1 [.ref a1, .ref b1, .ref v1, .int 0], zI t a1 8 (fun _ => 0), zI t b1 8 (fun _ => 0), zA t 5 v1 8 (fun _ => none), zO 11 q_2 [.int 0, .ref s1, .ref s2, .ref s3, .ref s4, .ref s5, .int 0], zJ t s1 32 (fun _ => 1099511627776), zJ t s2 8 (fun _ => 0), zI t s3 8 (fun _ => 0), zI t s4 4 (fun _ => 0), zI t s5 4 (fun _ => 0)] H := hP
  have hD : va_D A [zO 8 h [.int 0, .int 0, .int 0, .int 0, .int 0, .null, .ref q_1, .null], zO 10 q_1 [.ref a1, .ref b1, .ref v1, .int 0], zI t a1 8 (fun _ => 0), zI t b1 8 (fun _ => 0), zA t 5 v1 8 (fun _ => none), zO 11 q_2 [.int 0, .ref s1, .ref s2, .ref s3, .ref s4, .ref s5, .int 0], zJ t s1 32 (fun _ => 1099511627776), zJ t s2 8 (fun _ => 0), zI t s3 8 (fun _ => 0), zI t s4 4 (fun _ => 0), zI t s5 4 (fun _ => 0)] := hD
  refine va_putF (ci := 8) (v := .ref q_2) (ty := tyX8 7) (C := "QuorumStoreModel$Message") (T := TX8) (N := 8) hx hb hts inX8 tyX8 okX8 nmX8 hown hK.2 hP hD hS 0 rfl rfl 7 (by decide) (hts _ k_900) (fun _ h9 => h9) rfl hin rfl (by decide +kernel) rfl rfl (Nat.le_of_ble_eq_true rfl) d_PM_init_23 (fun H locs hP hD hS => ?_)
  have hP : va_P D vwCl [zO 8 h [.int 0, .int 0, .int 0, .int 0, .int 0, .null, .ref q_1, .ref q_2], zO 10 q_1 [.ref a1, .ref b1, .ref v1, .int 0], zI t a1 8 (fun _ => 0), zI t b1 8 (fun _ => 0), zA t 5 v1 8 (fun _ => none), zO 11 q_2 [.int 0, .ref s1, .ref s2, .ref s3, .ref s4, .ref s5, .int 0], zJ t s1 32 (fun _ => 1099511627776), zJ t s2 8 (fun _ => 0), zI t s3 8 (fun _ => 0), zI t s4 4 (fun _ => 0), zI t s5 4 (fun _ => 0)] H := hP
  have hD : va_D A [zO 8 h [.int 0, .int 0, .int 0, .int 0, .int 0, .null, .ref q_1, .ref q_2], zO 10 q_1 [.ref a1, .ref b1, .ref v1, .int 0], zI t a1 8 (fun _ => 0), zI t b1 8 (fun _ => 0), zA t 5 v1 8 (fun _ => none), zO 11 q_2 [.int 0, .ref s1, .ref s2, .ref s3, .ref s4, .ref s5, .int 0], zJ t s1 32 (fun _ => 1099511627776), zJ t s2 8 (fun _ => 0), zI t s3 8 (fun _ => 0), zI t s4 4 (fun _ => 0), zI t s5 4 (fun _ => 0)] := hD
  have hP := hP.sub (ws' := [zO 8 h [.int 0, .int 0, .int 0, .int 0, .int 0, .null, .ref q_1, .ref q_2], zO 10 q_1 [.ref a1, .ref b1, .ref v1, .int 0]]) [0, 1] rfl
  have hD := hD.sub (ws' := [zO 8 h [.int 0, .int 0, .int 0, .int 0, .int 0, .null, .ref q_1, .ref q_2], zO 10 q_1 [.ref a1, .ref b1, .ref v1, .int 0]]) [0, 1] (by decide) rfl
  exact W.vret hx hb hr (fun t ht hW => ⟨⟨(q_1, a1, b1, v1, q_2), rfl, trivial, by rw [ht]; exact hP, hD⟩, hS.F ht⟩) hS.2.2 d_PM_init_26
theorem d_PD_init_0 : decode c_PD_init 0 = .ok (.aload_n 0, 1) := by decide +kernel
theorem d_PD_init_1 : decode c_PD_init 1 = .ok (.invokespecial 3, 3) := by decide +kernel
theorem d_PD_init_4 : decode c_PD_init 4 = .ok (.aload_n 0, 1) := by decide +kernel
theorem d_PD_init_5 : decode c_PD_init 5 = .ok (.iconst 1, 1) := by decide +kernel
theorem d_PD_init_6 : decode c_PD_init 6 = .ok (.putfield 9, 3) := by decide +kernel
theorem d_PD_init_9 : decode c_PD_init 9 = .ok (.aload_n 0, 1) := by decide +kernel
theorem d_PD_init_10 : decode c_PD_init 10 = .ok (.iconst (-1), 1) := by decide +kernel
theorem d_PD_init_11 : decode c_PD_init 11 = .ok (.putfield 15, 3) := by decide +kernel
theorem d_PD_init_14 : decode c_PD_init 14 = .ok (.aload_n 0, 1) := by decide +kernel
theorem d_PD_init_15 : decode c_PD_init 15 = .ok (.new 19, 3) := by decide +kernel
theorem d_PD_init_18 : decode c_PD_init 18 = .ok (.dup, 1) := by decide +kernel
theorem d_PD_init_19 : decode c_PD_init 19 = .ok (.invokespecial 21, 3) := by decide +kernel
theorem d_PD_init_22 : decode c_PD_init 22 = .ok (.putfield 22, 3) := by decide +kernel
theorem d_PD_init_25 : decode c_PD_init 25 = .ok (.aload_n 0, 1) := by decide +kernel
theorem d_PD_init_26 : decode c_PD_init 26 = .ok (.new 26, 3) := by decide +kernel
theorem d_PD_init_29 : decode c_PD_init 29 = .ok (.dup, 1) := by decide +kernel
theorem d_PD_init_30 : decode c_PD_init 30 = .ok (.invokespecial 28, 3) := by decide +kernel
theorem d_PD_init_33 : decode c_PD_init 33 = .ok (.putfield 29, 3) := by decide +kernel
theorem d_PD_init_36 : decode c_PD_init 36 = .ok (.aload_n 0, 1) := by decide +kernel
theorem d_PD_init_37 : decode c_PD_init 37 = .ok (.new 26, 3) := by decide +kernel
theorem d_PD_init_40 : decode c_PD_init 40 = .ok (.dup, 1) := by decide +kernel
theorem d_PD_init_41 : decode c_PD_init 41 = .ok (.invokespecial 28, 3) := by decide +kernel
theorem d_PD_init_44 : decode c_PD_init 44 = .ok (.putfield 33, 3) := by decide +kernel
theorem d_PD_init_47 : decode c_PD_init 47 = .ok (.aload_n 0, 1) := by decide +kernel
theorem d_PD_init_48 : decode c_PD_init 48 = .ok (.new 26, 3) := by decide +kernel
theorem d_PD_init_51 : decode c_PD_init 51 = .ok (.dup, 1) := by decide +kernel
theorem d_PD_init_52 : decode c_PD_init 52 = .ok (.invokespecial 28, 3) := by decide +kernel
theorem d_PD_init_55 : decode c_PD_init 55 = .ok (.putfield 36, 3) := by decide +kernel
theorem d_PD_init_58 : decode c_PD_init 58 = .ok (.aload_n 0, 1) := by decide +kernel
theorem d_PD_init_59 : decode c_PD_init 59 = .ok (.new 26, 3) := by decide +kernel
theorem d_PD_init_62 : decode c_PD_init 62 = .ok (.dup, 1) := by decide +kernel
theorem d_PD_init_63 : decode c_PD_init 63 = .ok (.invokespecial 28, 3) := by decide +kernel
theorem d_PD_init_66 : decode c_PD_init 66 = .ok (.putfield 39, 3) := by decide +kernel
theorem d_PD_init_69 : decode c_PD_init 69 = .ok (.aload_n 0, 1) := by decide +kernel
theorem d_PD_init_70 : decode c_PD_init 70 = .ok (.bipush 16, 2) := by decide +kernel
theorem d_PD_init_72 : decode c_PD_init 72 = .ok (.anewarray 42, 3) := by decide +kernel
theorem d_PD_init_75 : decode c_PD_init 75 = .ok (.putfield 44, 3) := by decide +kernel
theorem d_PD_init_78 : decode c_PD_init 78 = .ok (.aload_n 0, 1) := by decide +kernel
theorem d_PD_init_79 : decode c_PD_init 79 = .ok (.iload_n 1, 1) := by decide +kernel
theorem d_PD_init_80 : decode c_PD_init 80 = .ok (.putfield 48, 3) := by decide +kernel
theorem d_PD_init_83 : decode c_PD_init 83 = .ok (.aload_n 0, 1) := by decide +kernel
theorem d_PD_init_84 : decode c_PD_init 84 = .ok (.bipush 8, 2) := by decide +kernel
theorem d_PD_init_86 : decode c_PD_init 86 = .ok (.iconst 3, 1) := by decide +kernel
theorem d_PD_init_87 : decode c_PD_init 87 = .ok (.iload_n 1, 1) := by decide +kernel
theorem d_PD_init_88 : decode c_PD_init 88 = .ok (.imul, 1) := by decide +kernel
theorem d_PD_init_89 : decode c_PD_init 89 = .ok (.iadd, 1) := by decide +kernel
theorem d_PD_init_90 : decode c_PD_init 90 = .ok (.putfield 51, 3) := by decide +kernel
theorem d_PD_init_93 : decode c_PD_init 93 = .ok (.return_, 1) := by decide +kernel
set_option maxHeartbeats 4000000 in
set_option maxRecDepth 100000 in
/-- a new node -/
theorem C_PD_init (l : Launch) (D : va_G) (t : Nat → ClassId) (h : Nat) (i : Nat) : xe_C l D vwCl (xTY t) y_PD_init c_PD_init 2 (Option.none : Option FieldType) ({ frames := 2, cells := 23, slots := 191, locals := 41 }) [.ref h, .int (nI i)] [zO 9 h [.int 0, .int 0, .int 0, .int 0, .int 0, .int 0, .int 0, .int 0, .int 0, .int 0, .null, .null, .null, .null, .null, .null, .int 0]] (xe_v D vwCl (fun u : Nat → Nat => u 0 = h) (fun u => [zO 9 (u 0) [.int (nI i), .int 1, .int 0, .int 0, .int 0, .int 0, .int (nI (8 + 3 * i)), .int ((-1)), .int 0, .int 0, .ref ((u 1)), .ref ((u 7)), .ref ((u 11)), .ref ((u 15)), .ref ((u 19)), .ref ((u 23)), .int 0], zO 11 (u 1) [.int 0, .ref ((u 2)), .ref ((u 3)), .ref ((u 4)), .ref ((u 5)), .ref ((u 6)), .int 0], zJ t (u 2) 32 (fun _ => 1099511627776), zJ t (u 3) 8 (fun _ => 0), zI t (u 4) 8 (fun _ => 0), zI t (u 5) 4 (fun _ => 0), zI t (u 6) 4 (fun _ => 0), zO 10 (u 7) [.ref ((u 8)), .ref ((u 9)), .ref ((u 10)), .int 0], zI t (u 8) 8 (fun _ => 0), zI t (u 9) 8 (fun _ => 0), zA t 5 (u 10) 8 (fun _ => none), zO 10 (u 11) [.ref ((u 12)), .ref ((u 13)), .ref ((u 14)), .int 0], zI t (u 12) 8 (fun _ => 0), zI t (u 13) 8 (fun _ => 0), zA t 5 (u 14) 8 (fun _ => none), zO 10 (u 15) [.ref ((u 16)), .ref ((u 17)), .ref ((u 18)), .int 0], zI t (u 16) 8 (fun _ => 0), zI t (u 17) 8 (fun _ => 0), zA t 5 (u 18) 8 (fun _ => none), zO 10 (u 19) [.ref ((u 20)), .ref ((u 21)), .ref ((u 22)), .int 0], zI t (u 20) 8 (fun _ => 0), zI t (u 21) 8 (fun _ => 0), zA t 5 (u 22) 8 (fun _ => none), zA t 5 (u 23) 16 (fun _ => none)])) 23 191 := by
  refine xe_of (by decide) (Nat.le_of_ble_eq_true rfl) ?_
  intro p e s m below meth c ls A Z hr hlocks hin hA hP hD hS hl
  obtain ⟨hx, hb, hml, hown, hK⟩ := id Z
  have hown : s.vm.findClass "QuorumStoreModel$Node" = some m.cls := hown
  have hts := hK.1.at (args := ([.ref h, .int (nI i)] : List Value).toArray)
  have hl : lv_has ls 2 [(0, .ref h), (1, .int (nI i))] := hl
  refine lv_aload_n hx hb d_PD_init_0 rfl (lv_at hl 0 rfl) ?_
  refine W.objInit hx hb hown (hts _ k_923) (hts _ k_30) (hts _ k_31) rfl (by rw [hml]; exact hl.1) rfl d_PD_init_1 (Nat.le_of_ble_eq_true rfl) (Nat.le_of_ble_eq_true rfl) ?_
  refine W.eq (g2 := F0 m 4 ls []) rfl ?_
  refine lv_aload_n hx hb d_PD_init_4 rfl (lv_at hl 0 rfl) ?_
  refine lv_iconst (v := 1) hx hb d_PD_init_5 (by decide) ?_
  refine va_put (ci := 9) (v := .int 1) (ty := tyX9 1) (C := "QuorumStoreModel$Node") (T := TX9) (N := 17) hx hb hts inX9 tyX9 okX9 nmX9 hown hK.2 hP hD hS 0 rfl rfl 1 (by decide) (hts _ k_931) (fun _ h9 => h9) rfl (by decide +kernel) (by decide) (by decide) (Nat.le_of_ble_eq_true rfl) d_PD_init_6 (fun H locs hP hD hS => ?_)
  have hP : va_P D vwCl [zO 9 h [.int 0, .int 1, .int 0, .int 0, .int 0, .int 0, .int 0, .int 0, .int 0, .int 0, .null, .null, .null, .null, .null, .null, .int 0]] H := hP
  have hD : va_D A [zO 9 h [.int 0, .int 1, .int 0, .int 0, .int 0, .int 0, .int 0, .int 0, .int 0, .int 0, .null, .null, .null, .null, .null, .null, .int 0]] := hD
  refine lv_aload_n hx hb d_PD_init_9 rfl (lv_at hl 0 rfl) ?_
  refine lv_iconst (v := (-1)) hx hb d_PD_init_10 (by decide) ?_
  refine va_put (ci := 9) (v := .int ((-1))) (ty := tyX9 7) (C := "QuorumStoreModel$Node") (T := TX9) (N := 17) hx hb hts inX9 tyX9 okX9 nmX9 hown hK.2 hP hD hS 0 rfl rfl 7 (by decide) (hts _ k_939) (fun _ h9 => h9) rfl (by decide +kernel) rfl rfl (Nat.le_of_ble_eq_true rfl) d_PD_init_11 (fun H locs hP hD hS => ?_)
  have hP : va_P D vwCl [zO 9 h [.int 0, .int 1, .int 0, .int 0, .int 0, .int 0, .int 0, .int ((-1)), .int 0, .int 0, .null, .null, .null, .null, .null, .null, .int 0]] H := hP
  have hD : va_D A [zO 9 h [.int 0, .int 1, .int 0, .int 0, .int 0, .int 0, .int 0, .int ((-1)), .int 0, .int 0, .null, .null, .null, .null, .null, .null, .int 0]] := hD
  refine lv_aload_n hx hb d_PD_init_14 rfl (lv_at hl 0 rfl) ?_
  refine va_new (ci := 11) (fs := [.int 0, .null, .null, .null, .null, .null, .int 0]) (C := "QuorumStoreModel$State") (T := TX11) (N := 7) hx hb hts inX11 tyX11 okX11 hown (hts _ k_924) (hts _ k_853) (hts _ k_11) hK.2 hP hD hS hA rfl (by decide) (Nat.le_of_ble_eq_true rfl) (Nat.le_of_ble_eq_true rfl) d_PD_init_15 (fun q_1 H hP hD hS => ?_)
  have hP : va_P D vwCl [zO 9 h [.int 0, .int 1, .int 0, .int 0, .int 0, .int 0, .int 0, .int ((-1)), .int 0, .int 0, .null, .null, .null, .null, .null, .null, .int 0], zO 11 q_1 [.int 0, .null, .null, .null, .null, .null, .int 0]] H := hP
  have hD : va_D A [zO 9 h [.int 0, .int 1, .int 0, .int 0, .int 0, .int 0, .int 0, .int ((-1)), .int 0, .int 0, .null, .null, .null, .null, .null, .null, .int 0], zO 11 q_1 [.int 0, .null, .null, .null, .null, .null, .int 0]] := hD
  refine lv_dup hx hb d_PD_init_18 rfl ?_
  refine xe_callv (wr := [zO 9 h [.int 0, .int 1, .int 0, .int 0, .int 0, .int 0, .int 0, .int ((-1)), .int 0, .int 0, .null, .null, .null, .null, .null, .null, .int 0]]) (xs_I (As := []) (rest := [.ref q_1, .ref h]) Z (C_PS_init l D t q_1 H.size) m_PS_init k_925 k_855 rfl rfl rfl ⟨Nat.le_of_ble_eq_true rfl, Nat.le_of_ble_eq_true rfl⟩ (xe_pre hK (hP.sub [1] rfl) (hD.sub [1] (by decide) rfl)) rfl hl.1 rfl (Nat.le_of_ble_eq_true rfl) d_PD_init_19 ⟨Nat.le_of_ble_eq_true rfl, Nat.le_of_ble_eq_true rfl⟩) hP hD hS hA [1] [0] rfl rfl (by decide) (by decide) (fun u_ H locs _ hP hD hS => ?_)
  obtain ⟨s1, s2, s3, s4, s5⟩ := u_
  have hP : va_P D vwCl [zO 9 h [.int 0, .int 1, .int 0, .int 0, .int 0, .int 0, .int 0, .int ((-1)), .int 0, .int 0, .null, .null, .null, .null, .null, .null, .int 0], zO 11 q_1 [.int 0, .ref s1, .ref s2, .ref s3, .ref s4, .ref s5, .int 0], zJ t s1 32 (fun _ => 1099511627776), zJ t s2 8 (fun _ => 0), zI t s3 8 (fun _ => 0), zI t s4 4 (fun _ => 0), zI t s5 4 (fun _ => 0)] H := hP
  have hD : va_D A [zO 9 h [.int 0, .int 1, .int 0, .int 0, .int 0, .int 0, .int 0, .int ((-1)), .int 0, .int 0, .null, .null, .null, .null, .null, .null, .int 0], zO 11 q_1 [.int 0, .ref s1, .ref s2, .ref s3, .ref s4, .ref s5, .int 0], zJ t s1 32 (fun _ => 1099511627776), zJ t s2 8 (fun _ => 0), zI t s3 8 (fun _ => 0), zI t s4 4 (fun _ => 0), zI t s5 4 (fun _ => 0)] := hD
  refine va_putF (ci := 9) (v := .ref q_1) (ty := tyX9 10) (C := "QuorumStoreModel$Node") (T := TX9) (N := 17) hx hb hts inX9 tyX9 okX9 nmX9 hown hK.2 hP hD hS 0 rfl rfl 10 (by decide) (hts _ k_943) (fun _ h9 => h9) rfl hin rfl (by decide +kernel) rfl rfl (Nat.le_of_ble_eq_true rfl) d_PD_init_22 (fun H locs hP hD hS => ?_)
  have hP : va_P D vwCl [zO 9 h [.int 0, .int 1, .int 0, .int 0, .int 0, .int 0, .int 0, .int ((-1)), .int 0, .int 0, .ref q_1, .null, .null, .null, .null, .null, .int 0], zO 11 q_1 [.int 0, .ref s1, .ref s2, .ref s3, .ref s4, .ref s5, .int 0], zJ t s1 32 (fun _ => 1099511627776), zJ t s2 8 (fun _ => 0), zI t s3 8 (fun _ => 0), zI t s4 4 (fun _ => 0), zI t s5 4 (fun _ => 0)] H := hP
  have hD : va_D A [zO 9 h [.int 0, .int 1, .int 0, .int 0, .int 0, .int 0, .int 0, .int ((-1)), .int 0, .int 0, .ref q_1, .null, .null, .null, .null, .null, .int 0], zO 11 q_1 [.int 0, .ref s1, .ref s2, .ref s3, .ref s4, .ref s5, .int 0], zJ t s1 32 (fun _ => 1099511627776), zJ t s2 8 (fun _ => 0), zI t s3 8 (fun _ => 0), zI t s4 4 (fun _ => 0), zI t s5 4 (fun _ => 0)] := hD
  refine lv_aload_n hx hb d_PD_init_25 rfl (lv_at hl 0 rfl) ?_
  refine va_new (ci := 10) (fs := [.null, .null, .null, .int 0]) (C := "QuorumStoreModel$Slots") (T := TX10) (N := 4) hx hb hts inX10 tyX10 okX10 hown (hts _ k_926) (hts _ k_827) (hts _ k_10) hK.2 hP hD hS hA rfl (by decide) (Nat.le_of_ble_eq_true rfl) (Nat.le_of_ble_eq_true rfl) d_PD_init_26 (fun q_2 H hP hD hS => ?_)
  have hP : va_P D vwCl [zO 9 h [.int 0, .int 1, .int 0, .int 0, .int 0, .int 0, .int 0, .int ((-1)), .int 0, .int 0, .ref q_1, .null, .null, .null, .null, .null, .int 0], zO 11 q_1 [.int 0, .ref s1, .ref s2, .ref s3, .ref s4, .ref s5, .int 0], zJ t s1 32 (fun _ => 1099511627776), zJ t s2 8 (fun _ => 0), zI t s3 8 (fun _ => 0), zI t s4 4 (fun _ => 0), zI t s5 4 (fun _ => 0), zO 10 q_2 [.null, .null, .null, .int 0]] H := hP
  have hD : va_D A [zO 9 h [.int 0, .int 1, .int 0, .int 0, .int 0, .int 0, .int 0, .int ((-1)), .int 0, .int 0, .ref q_1, .null, .null, .null, .null, .null, .int 0], zO 11 q_1 [.int 0, .ref s1, .ref s2, .ref s3, .ref s4, .ref s5, .int 0], zJ t s1 32 (fun _ => 1099511627776), zJ t s2 8 (fun _ => 0), zI t s3 8 (fun _ => 0), zI t s4 4 (fun _ => 0), zI t s5 4 (fun _ => 0), zO 10 q_2 [.null, .null, .null, .int 0]] := hD
  refine lv_dup hx hb d_PD_init_29 rfl ?_
  refine xe_callv (wr := [zO 9 h [.int 0, .int 1, .int 0, .int 0, .int 0, .int 0, .int 0, .int ((-1)), .int 0, .int 0, .ref q_1, .null, .null, .null, .null, .null, .int 0], zO 11 q_1 [.int 0, .ref s1, .ref s2, .ref s3, .ref s4, .ref s5, .int 0], zJ t s1 32 (fun _ => 1099511627776), zJ t s2 8 (fun _ => 0), zI t s3 8 (fun _ => 0), zI t s4 4 (fun _ => 0), zI t s5 4 (fun _ => 0)]) (xs_IN (As := []) (rest := [.ref q_2, .ref h]) Z (C_PR_init l D t q_2 H.size) m_PR_init k_927 k_829 rfl rfl rfl ⟨Nat.le_of_ble_eq_true rfl, Nat.le_of_ble_eq_true rfl⟩ (xe_pre hK (hP.sub [7] rfl) (hD.sub [7] (by decide) rfl)) rfl hl.1 rfl (Nat.le_of_ble_eq_true rfl) d_PD_init_30 ⟨Nat.le_of_ble_eq_true rfl, Nat.le_of_ble_eq_true rfl⟩) hP hD hS hA [7] [0, 1, 2, 3, 4, 5, 6] rfl rfl (by decide) (by decide) (fun u_ H locs _ hP hD hS => ?_)
  obtain ⟨a0, b0, v0⟩ := u_
  have hP : va_P D vwCl [zO 9 h [.int 0, .int 1, .int 0, .int 0, .int 0, .int 0, .int 0, .int ((-1)), .int 0, .int 0, .ref q_1, .null, .null, .null, .null, .null, .int 0], zO 11 q_1 [.int 0, .ref s1, .ref s2, .ref s3, .ref s4, .ref s5, .int 0], zJ t s1 32 (fun _ => 1099511627776), zJ t s2 8 (fun _ => 0), zI t s3 8 (fun _ => 0), zI t s4 4 (fun _ => 0), zI t s5 4 (fun _ => 0), zO 10 q_2 [.ref a0, .ref b0, .ref v0, .int 0], zI t a0 8 (fun _ => 0), zI t b0 8 (fun _ => 0), zA t 5 v0 8 (fun _ => none)] H := hP
  have hD : va_D A [zO 9 h [.int 0, .int 1, .int 0, .int 0, .int 0, .int 0, .int 0, .int ((-1)), .int 0, .int 0, .ref q_1, .null, .null, .null, .null, .null, .int 0], zO 11 q_1 [.int 0, .ref s1, .ref s2, .ref s3, .ref s4, .ref s5, .int 0], zJ t s1 32 (fun _ => 1099511627776), zJ t s2 8 (fun _ => 0), zI t s3 8 (fun _ => 0), zI t s4 4 (fun _ => 0), zI t s5 4 (fun _ => 0), zO 10 q_2 [.ref a0, .ref b0, .ref v0, .int 0], zI t a0 8 (fun _ => 0), zI t b0 8 (fun _ => 0), zA t 5 v0 8 (fun _ => none)] := hD
  refine va_putF (ci := 9) (v := .ref q_2) (ty := tyX9 11) (C := "QuorumStoreModel$Node") (T := TX9) (N := 17) hx hb hts inX9 tyX9 okX9 nmX9 hown hK.2 hP hD hS 0 rfl rfl 11 (by decide) (hts _ k_945) (fun _ h9 => h9) rfl hin rfl (by decide +kernel) rfl rfl (Nat.le_of_ble_eq_true rfl) d_PD_init_33 (fun H locs hP hD hS => ?_)
  have hP : va_P D vwCl [zO 9 h [.int 0, .int 1, .int 0, .int 0, .int 0, .int 0, .int 0, .int ((-1)), .int 0, .int 0, .ref q_1, .ref q_2, .null, .null, .null, .null, .int 0], zO 11 q_1 [.int 0, .ref s1, .ref s2, .ref s3, .ref s4, .ref s5, .int 0], zJ t s1 32 (fun _ => 1099511627776), zJ t s2 8 (fun _ => 0), zI t s3 8 (fun _ => 0), zI t s4 4 (fun _ => 0), zI t s5 4 (fun _ => 0), zO 10 q_2 [.ref a0, .ref b0, .ref v0, .int 0], zI t a0 8 (fun _ => 0), zI t b0 8 (fun _ => 0), zA t 5 v0 8 (fun _ => none)] H := hP
  have hD : va_D A [zO 9 h [.int 0, .int 1, .int 0, .int 0, .int 0, .int 0, .int 0, .int ((-1)), .int 0, .int 0, .ref q_1, .ref q_2, .null, .null, .null, .null, .int 0], zO 11 q_1 [.int 0, .ref s1, .ref s2, .ref s3, .ref s4, .ref s5, .int 0], zJ t s1 32 (fun _ => 1099511627776), zJ t s2 8 (fun _ => 0), zI t s3 8 (fun _ => 0), zI t s4 4 (fun _ => 0), zI t s5 4 (fun _ => 0), zO 10 q_2 [.ref a0, .ref b0, .ref v0, .int 0], zI t a0 8 (fun _ => 0), zI t b0 8 (fun _ => 0), zA t 5 v0 8 (fun _ => none)] := hD
  refine lv_aload_n hx hb d_PD_init_36 rfl (lv_at hl 0 rfl) ?_
  refine va_new (ci := 10) (fs := [.null, .null, .null, .int 0]) (C := "QuorumStoreModel$Slots") (T := TX10) (N := 4) hx hb hts inX10 tyX10 okX10 hown (hts _ k_926) (hts _ k_827) (hts _ k_10) hK.2 hP hD hS hA rfl (by decide) (Nat.le_of_ble_eq_true rfl) (Nat.le_of_ble_eq_true rfl) d_PD_init_37 (fun q_3 H hP hD hS => ?_)
  have hP : va_P D vwCl [zO 9 h [.int 0, .int 1, .int 0, .int 0, .int 0, .int 0, .int 0, .int ((-1)), .int 0, .int 0, .ref q_1, .ref q_2, .null, .null, .null, .null, .int 0], zO 11 q_1 [.int 0, .ref s1, .ref s2, .ref s3, .ref s4, .ref s5, .int 0], zJ t s1 32 (fun _ => 1099511627776), zJ t s2 8 (fun _ => 0), zI t s3 8 (fun _ => 0), zI t s4 4 (fun _ => 0), zI t s5 4 (fun _ => 0), zO 10 q_2 [.ref a0, .ref b0, .ref v0, .int 0], zI t a0 8 (fun _ => 0), zI t b0 8 (fun _ => 0), zA t 5 v0 8 (fun _ => none), zO 10 q_3 [.null, .null, .null, .int 0]] H := hP
  have hD : va_D A [zO 9 h [.int 0, .int 1, .int 0, .int 0, .int 0, .int 0, .int 0, .int ((-1)), .int 0, .int 0, .ref q_1, .ref q_2, .null, .null, .null, .null, .int 0], zO 11 q_1 [.int 0, .ref s1, .ref s2, .ref s3, .ref s4, .ref s5, .int 0], zJ t s1 32 (fun _ => 1099511627776), zJ t s2 8 (fun _ => 0), zI t s3 8 (fun _ => 0), zI t s4 4 (fun _ => 0), zI t s5 4 (fun _ => 0), zO 10 q_2 [.ref a0, .ref b0, .ref v0, .int 0], zI t a0 8 (fun _ => 0), zI t b0 8 (fun _ => 0), zA t 5 v0 8 (fun _ => none), zO 10 q_3 [.null, .null, .null, .int 0]] := hD
  refine lv_dup hx hb d_PD_init_40 rfl ?_
  refine xe_callv (wr := [zO 9 h [.int 0, .int 1, .int 0, .int 0, .int 0, .int 0, .int 0, .int ((-1)), .int 0, .int 0, .ref q_1, .ref q_2, .null, .null, .null, .null, .int 0], zO 11 q_1 [.int 0, .ref s1, .ref s2, .ref s3, .ref s4, .ref s5, .int 0], zJ t s1 32 (fun _ => 1099511627776), zJ t s2 8 (fun _ => 0), zI t s3 8 (fun _ => 0), zI t s4 4 (fun _ => 0), zI t s5 4 (fun _ => 0), zO 10 q_2 [.ref a0, .ref b0, .ref v0, .int 0], zI t a0 8 (fun _ => 0), zI t b0 8 (fun _ => 0), zA t 5 v0 8 (fun _ => none)]) (xs_IN (As := []) (rest := [.ref q_3, .ref h]) Z (C_PR_init l D t q_3 H.size) m_PR_init k_927 k_829 rfl rfl rfl ⟨Nat.le_of_ble_eq_true rfl, Nat.le_of_ble_eq_true rfl⟩ (xe_pre hK (hP.sub [11] rfl) (hD.sub [11] (by decide) rfl)) rfl hl.1 rfl (Nat.le_of_ble_eq_true rfl) d_PD_init_41 ⟨Nat.le_of_ble_eq_true rfl, Nat.le_of_ble_eq_true rfl⟩) hP hD hS hA [11] [0, 1, 2, 3, 4, 5, 6, 7, 8, 9, 10] rfl rfl (by decide) (by decide) (fun u_ H locs _ hP hD hS => ?_)
  obtain ⟨a1, b1, v1⟩ := u_
  have hP : va_P D vwCl [zO 9 h [.int 0, .int 1, .int 0, .int 0, .int 0, .int 0, .int 0, .int ((-1)), .int 0, .int 0, .ref q_1, .ref q_2, .null, .null, .null, .null, .int 0], zO 11 q_1 [.int 0, .ref s1, .ref s2, .ref s3, .ref s4, .ref s5, .int 0], zJ t s1 32 (fun _ => 1099511627776), zJ t s2 8 (fun _ => 0), zI t s3 8 (fun _ => 0), zI t s4 4 (fun _ => 0), zI t s5 4 (fun _ => 0), zO 10 q_2 [.ref a0, .ref b0, .ref v0, .int 0], zI t a0 8 (fun _ => 0), zI t b0 8 (fun _ => 0), zA t 5 v0 8 (fun _ => none), zO 10 q_3 [.ref a1, .ref b1, .ref v1, .int 0], zI t a1 8 (fun _ => 0), zI t b1 8 (fun _ => 0), zA t 5 v1 8 (fun _ => none)] H := hP
  have hD : va_D A [zO 9 h [.int 0, .int 1, .int 0, .int 0, .int 0, .int 0, .int 0, .int ((-1)), .int 0, .int 0, .ref q_1, .ref q_2, .null, .null, .null, .null, .int 0], zO 11 q_1 [.int 0, .ref s1, .ref s2, .ref s3, .ref s4, .ref s5, .int 0], zJ t s1 32 (fun _ => 1099511627776), zJ t s2 8 (fun _ => 0), zI t s3 8 (fun _ => 0), zI t s4 4 (fun _ => 0), zI t s5 4 (fun _ => 0), zO 10 q_2 [.ref a0, .ref b0, .ref v0, .int 0], zI t a0 8 (fun _ => 0), zI t b0 8 (fun _ => 0), zA t 5 v0 8 (fun _ => none), zO 10 q_3 [.ref a1, .ref b1, .ref v1, .int 0], zI t a1 8 (fun _ => 0), zI t b1 8 (fun _ => 0), zA t 5 v1 8 (fun _ => none)] := hD
  refine va_putF (ci := 9) (v := .ref q_3) (ty := tyX9 12) (C := "QuorumStoreModel$Node") (T := TX9) (N := 17) hx hb hts inX9 tyX9 okX9 nmX9 hown hK.2 hP hD hS 0 rfl rfl 12 (by decide) (hts _ k_947) (fun _ h9 => h9) rfl hin rfl (by decide +kernel) rfl rfl (Nat.le_of_ble_eq_true rfl) d_PD_init_44 (fun H locs hP hD hS => ?_)
  have hP : va_P D vwCl [zO 9 h [.int 0, .int 1, .int 0, .int 0, .int 0, .int 0, .int 0, .int ((-1)), .int 0, .int 0, .ref q_1, .ref q_2, .ref q_3, .null, .null, .null, .int 0], zO 11 q_1 [.int 0, .ref s1, .ref s2, .ref s3, .ref s4, .ref s5, .int 0], zJ t s1 32 (fun _ => 1099511627776), zJ t s2 8 (fun _ => 0), zI t s3 8 (fun _ => 0), zI t s4 4 (fun _ => 0), zI t s5 4 (fun _ => 0), zO 10 q_2 [.ref a0, .ref b0, .ref v0, .int 0], zI t a0 8 (fun _ => 0), zI t b0 8 (fun _ => 0), zA t 5 v0 8 (fun _ => none), zO 10 q_3 [.ref a1, .ref b1, .ref v1, .int 0], zI t a1 8 (fun _ => 0), zI t b1 8 (fun _ => 0), zA t 5 v1 8 (fun _ => none)] H := hP
  have hD : va_D A [zO 9 h [.int 0, .int 1, .int 0, .int 0, .int 0, .int 0, .int 0, .int ((-1)), .int 0, .int 0, .ref q_1, .ref q_2, .ref q_3, .null, .null, .null, .int 0], zO 11 q_1 [.int 0, .ref s1, .ref s2, .ref s3, .ref s4, .ref s5, .int 0], zJ t s1 32 (fun _ => 1099511627776), zJ t s2 8 (fun _ => 0), zI t s3 8 (fun _ => 0), zI t s4 4 (fun _ => 0), zI t s5 4 (fun _ => 0), zO 10 q_2 [.ref a0, .ref b0, .ref v0, .int 0], zI t a0 8 (fun _ => 0), zI t b0 8 (fun _ => 0), zA t 5 v0 8 (fun _ => none), zO 10 q_3 [.ref a1, .ref b1, .ref v1, .int 0], zI t a1 8 (fun _ => 0), zI t b1 8 (fun _ => 0), zA t 5 v1 8 (fun _ => none)] := hD
  refine lv_aload_n hx hb d_PD_init_47 rfl (lv_at hl 0 rfl) ?_
  refine va_new (ci := 10) (fs := [.null, .null, .null, .int 0]) (C := "QuorumStoreModel$Slots") (T := TX10) (N := 4) hx hb hts inX10 tyX10 okX10 hown (hts _ k_926) (hts _ k_827) (hts _ k_10) hK.2 hP hD hS hA rfl (by decide) (Nat.le_of_ble_eq_true rfl) (Nat.le_of_ble_eq_true rfl) d_PD_init_48 (fun q_4 H hP hD hS => ?_)
  have hP : va_P D vwCl [zO 9 h [.int 0, .int 1, .int 0, .int 0, .int 0, .int 0, .int 0, .int ((-1)), .int 0, .int 0, .ref q_1, .ref q_2, .ref q_3, .null, .null, .null, .int 0], zO 11 q_1 [.int 0, .ref s1, .ref s2, .ref s3, .ref s4, .ref s5, .int 0], zJ t s1 32 (fun _ => 1099511627776), zJ t s2 8 (fun _ => 0), zI t s3 8 (fun _ => 0), zI t s4 4 (fun _ => 0), zI t s5 4 (fun _ => 0), zO 10 q_2 [.ref a0, .ref b0, .ref v0, .int 0], zI t a0 8 (fun _ => 0), zI t b0 8 (fun _ => 0), zA t 5 v0 8 (fun _ => none), zO 10 q_3 [.ref a1, .ref b1, .ref v1, .int 0], zI t a1 8 (fun _ => 0), zI t b1 8 (fun _ => 0), zA t 5 v1 8 (fun _ => none), zO 10 q_4 [.null, .null, .null, .int 0]] H := hP
  have hD : va_D A [zO 9 h [.int 0, .int 1, .int 0, .int 0, .int 0, .int 0, .int 0, .int ((-1)), .int 0, .int 0, .ref q_1, .ref q_2, .ref q_3, .null, .null, .null, .int 0], zO 11 q_1 [.int 0, .ref s1, .ref s2, .ref s3, .ref s4, .ref s5, .int 0], zJ t s1 32 (fun _ => 1099511627776), zJ t s2 8 (fun _ => 0), zI t s3 8 (fun _ => 0), zI t s4 4 (fun _ => 0), zI t s5 4 (fun _ => 0), zO 10 q_2 [.ref a0, .ref b0, .ref v0, .int 0], zI t a0 8 (fun _ => 0), zI t b0 8 (fun _ => 0), zA t 5 v0 8 (fun _ => none), zO 10 q_3 [.ref a1, .ref b1, .ref v1, .int 0], zI t a1 8 (fun _ => 0), zI t b1 8 (fun _ => 0), zA t 5 v1 8 (fun _ => none), zO 10 q_4 [.null, .null, .null, .int 0]] := hD
  refine lv_dup hx hb d_PD_init_51 rfl ?_
  refine xe_callv (wr := [zO 9 h [.int 0, .int 1, .int 0, .int 0, .int 0, .int 0, .int 0, .int ((-1)), .int 0, .int 0, .ref q_1, .ref q_2, .ref q_3, .null, .null, .null, .int 0], zO 11 q_1 [.int 0, .ref s1, .ref s2, .ref s3, .ref s4, .ref s5, .int 0], zJ t s1 32 (fun _ => 1099511627776), zJ t s2 8 (fun _ => 0), zI t s3 8 (fun _ => 0), zI t s4 4 (fun _ => 0), zI t s5 4 (fun _ => 0), zO 10 q_2 [.ref a0, .ref b0, .ref v0, .int 0], zI t a0 8 (fun _ => 0), zI t b0 8 (fun _ => 0), zA t 5 v0 8 (fun _ => none), zO 10 q_3 [.ref a1, .ref b1, .ref v1, .int 0], zI t a1 8 (fun _ => 0), zI t b1 8 (fun _ => 0), zA t 5 v1 8 (fun _ => none)]) (xs_IN (As := []) (rest := [.ref q_4, .ref h]) Z (C_PR_init l D t q_4 H.size) m_PR_init k_927 k_829 rfl rfl rfl ⟨Nat.le_of_ble_eq_true rfl, Nat.le_of_ble_eq_true rfl⟩ (xe_pre hK (hP.sub [15] rfl) (hD.sub [15] (by decide) rfl)) rfl hl.1 rfl (Nat.le_of_ble_eq_true rfl) d_PD_init_52 ⟨Nat.le_of_ble_eq_true rfl, Nat.le_of_ble_eq_true rfl⟩) hP hD hS hA [15] [0, 1, 2, 3, 4, 5, 6, 7, 8, 9, 10, 11, 12, 13, 14] rfl rfl (by decide) (by decide) (fun u_ H locs _ hP hD hS => ?_)
  obtain ⟨a2, b2, v2⟩ := u_
  have hP : va_P D vwCl [zO 9 h [.int 0, .int 1, .int 0, .int 0, .int 0, .int 0, .int 0, .int ((-1)), .int 0, .int 0, .ref q_1, .ref q_2, .ref q_3, .null, .null, .null, .int 0], zO 11 q_1 [.int 0, .ref s1, .ref s2, .ref s3, .ref s4, .ref s5, .int 0], zJ t s1 32 (fun _ => 1099511627776), zJ t s2 8 (fun _ => 0), zI t s3 8 (fun _ => 0), zI t s4 4 (fun _ => 0), zI t s5 4 (fun _ => 0), zO 10 q_2 [.ref a0, .ref b0, .ref v0, .int 0], zI t a0 8 (fun _ => 0), zI t b0 8 (fun _ => 0), zA t 5 v0 8 (fun _ => none), zO 10 q_3 [.ref a1, .ref b1, .ref v1, .int 0], zI t a1 8 (fun _ => 0), zI t b1 8 (fun _ => 0), zA t 5 v1 8 (fun _ => none), zO 10 q_4 [.ref a2, .ref b2, .ref v2, .int 0], zI t a2 8 (fun _ => 0), zI t b2 8 (fun _ => 0), zA t 5 v2 8 (fun _ => none)] H := hP
  have hD : va_D A [zO 9 h [.int 0, .int 1, .int 0, .int 0, .int 0, .int 0, .int 0, .int ((-1)), .int 0, .int 0, .ref q_1, .ref q_2, .ref q_3, .null, .null, .null, .int 0], zO 11 q_1 [.int 0, .ref s1, .ref s2, .ref s3, .ref s4, .ref s5, .int 0], zJ t s1 32 (fun _ => 1099511627776), zJ t s2 8 (fun _ => 0), zI t s3 8 (fun _ => 0), zI t s4 4 (fun _ => 0), zI t s5 4 (fun _ => 0), zO 10 q_2 [.ref a0, .ref b0, .ref v0, .int 0], zI t a0 8 (fun _ => 0), zI t b0 8 (fun _ => 0), zA t 5 v0 8 (fun _ => none), zO 10 q_3 [.ref a1, .ref b1, .ref v1, .int 0], zI t a1 8 (fun _ => 0), zI t b1 8 (fun _ => 0), zA t 5 v1 8 (fun _ => none), zO 10 q_4 [.ref a2, .ref b2, .ref v2, .int 0], zI t a2 8 (fun _ => 0), zI t b2 8 (fun _ => 0), zA t 5 v2 8 (fun _ => none)] := hD
  refine va_putF (ci := 9) (v := .ref q_4) (ty := tyX9 13) (C := "QuorumStoreModel$Node") (T := TX9) (N := 17) hx hb hts inX9 tyX9 okX9 nmX9 hown hK.2 hP hD hS 0 rfl rfl 13 (by decide) (hts _ k_949) (fun _ h9 => h9) rfl hin rfl (by decide +kernel) rfl rfl (Nat.le_of_ble_eq_true rfl) d_PD_init_55 (fun H locs hP hD hS => ?_)
  have hP : va_P D vwCl [zO 9 h [.int 0, .int 1, .int 0, .int 0, .int 0, .int 0, .int 0, .int ((-1)), .int 0, .int 0, .ref q_1, .ref q_2, .ref q_3, .ref q_4, .null, .null, .int 0], zO 11 q_1 [.int 0, .ref s1, .ref s2, .ref s3, .ref s4, .ref s5, .int 0], zJ t s1 32 (fun _ => 1099511627776), zJ t s2 8 (fun _ => 0), zI t s3 8 (fun _ => 0), zI t s4 4 (fun _ => 0), zI t s5 4 (fun _ => 0), zO 10 q_2 [.ref a0, .ref b0, .ref v0, .int 0], zI t a0 8 (fun _ => 0), zI t b0 8 (fun _ => 0), zA t 5 v0 8 (fun _ => none), zO 10 q_3 [.ref a1, .ref b1, .ref v1, .int 0], zI t a1 8 (fun _ => 0), zI t b1 8 (fun _ => 0), zA t 5 v1 8 (fun _ => none), zO 10 q_4 [.ref a2, .ref b2, .ref v2, .int 0], zI t a2 8 (fun _ => 0), zI t b2 8 (fun _ => 0), zA t 5 v2 8 (fun _ => none)] H := hP
  have hD : va_D A [zO 9 h [.int 0, .int 1, .int 0, .int 0, .int 0, .int 0, .int 0, .int ((-1)), .int 0, .int 0, .ref q_1, .ref q_2, .ref q_3, .ref q_4, .null, .null, .int 0], zO 11 q_1 [.int 0, .ref s1, .ref s2, .ref s3, .ref s4, .ref s5, .int 0], zJ t s1 32 (fun _ => 1099511627776), zJ t s2 8 (fun _ => 0), zI t s3 8 (fun _ => 0), zI t s4 4 (fun _ => 0), zI t s5 4 (fun _ => 0), zO 10 q_2 [.ref a0, .ref b0, .ref v0, .int 0], zI t a0 8 (fun _ => 0), zI t b0 8 (fun _ => 0), zA t 5 v0 8 (fun _ => none), zO 10 q_3 [.ref a1, .ref b1, .ref v1, .int 0], zI t a1 8 (fun _ => 0), zI t b1 8 (fun _ => 0), zA t 5 v1 8 (fun _ => none), zO 10 q_4 [.ref a2, .ref b2, .ref v2, .int 0], zI t a2 8 (fun _ => 0), zI t b2 8 (fun _ => 0), zA t 5 v2 8 (fun _ => none)] := hD
  refine lv_aload_n hx hb d_PD_init_58 rfl (lv_at hl 0 rfl) ?_
  refine va_new (ci := 10) (fs := [.null, .null, .null, .int 0]) (C := "QuorumStoreModel$Slots") (T := TX10) (N := 4) hx hb hts inX10 tyX10 okX10 hown (hts _ k_926) (hts _ k_827) (hts _ k_10) hK.2 hP hD hS hA rfl (by decide) (Nat.le_of_ble_eq_true rfl) (Nat.le_of_ble_eq_true rfl) d_PD_init_59 (fun q_5 H hP hD hS => ?_)
  have hP : va_P D vwCl [zO 9 h [.int 0, .int 1, .int 0, .int 0, .int 0, .int 0, .int 0, .int ((-1)), .int 0, .int 0, .ref q_1, .ref q_2, .ref q_3, .ref q_4, .null, .null, .int 0], zO 11 q_1 [.int 0, .ref s1, .ref s2, .ref s3, .ref s4, .ref s5, .int 0], zJ t s1 32 (fun _ => 1099511627776), zJ t s2 8 (fun _ => 0), zI t s3 8 (fun _ => 0), zI t s4 4 (fun _ => 0), zI t s5 4 (fun _ => 0), zO 10 q_2 [.ref a0, .ref b0, .ref v0, .int 0], zI t a0 8 (fun _ => 0), zI t b0 8 (fun _ => 0), zA t 5 v0 8 (fun _ => none), zO 10 q_3 [.ref a1, .ref b1, .ref v1, .int 0], zI t a1 8 (fun _ => 0), zI t b1 8 (fun _ => 0), zA t 5 v1 8 (fun _ => none), zO 10 q_4 [.ref a2, .ref b2, .ref v2, .int 0], zI t a2 8 (fun _ => 0), zI t b2 8 (fun _ => 0), zA t 5 v2 8 (fun _ => none), zO 10 q_5 [.null, .null, .null, .int 0]] H := hP
  have hD : va_D A [zO 9 h [.int 0, .int 1, .int 0, .int 0, .int 0, .int 0, .int 0, .int ((-1)), .int 0, .int 0, .ref q_1, .ref q_2, .ref q_3, .ref q_4, .null, .null, .int 0], zO 11 q_1 [.int 0, .ref s1, .ref s2, .ref s3, .ref s4, .ref s5, .int 0], zJ t s1 32 (fun _ => 1099511627776), zJ t s2 8 (fun _ => 0), zI t s3 8 (fun _ => 0), zI t s4 4 (fun _ => 0), zI t s5 4 (fun _ => 0), zO 10 q_2 [.ref a0, .ref b0, .ref v0, .int 0], zI t a0 8 (fun _ => 0), zI t b0 8 (fun _ => 0), zA t 5 v0 8 (fun _ => none), zO 10 q_3 [.ref a1, .ref b1, .ref v1, .int 0], zI t a1 8 (fun _ => 0), zI t b1 8 (fun _ => 0), zA t 5 v1 8 (fun _ => none), zO 10 q_4 [.ref a2, .ref b2, .ref v2, .int 0], zI t a2 8 (fun _ => 0), zI t b2 8 (fun _ => 0), zA t 5 v2 8 (fun _ => none), zO 10 q_5 [.null, .null, .null, .int 0]] := hD
  refine lv_dup hx hb d_PD_init_62 rfl ?_
  refine xe_callv (wr := [zO 9 h [.int 0, .int 1, .int 0, .int 0, .int 0, .int 0, .int 0, .int ((-1)), .int 0, .int 0, .ref q_1, .ref q_2, .ref q_3, .ref q_4, .null, .null, .int 0], zO 11 q_1 [.int 0, .ref s1, .ref s2, .ref s3, .ref s4, .ref s5, .int 0], zJ t s1 32 (fun _ => 1099511627776), zJ t s2 8 (fun _ => 0), zI t s3 8 (fun _ => 0), zI t s4 4 (fun _ => 0), zI t s5 4 (fun _ => 0), zO 10 q_2 [.ref a0, .ref b0, .ref v0, .int 0], zI t a0 8 (fun _ => 0), zI t b0 8 (fun _ => 0), zA t 5 v0 8 (fun _ => none), zO 10 q_3 [.ref a1, .ref b1, .ref v1, .int 0], zI t a1 8 (fun _ => 0), zI t b1 8 (fun _ => 0), zA t 5 v1 8 (fun _ => none), zO 10 q_4 [.ref a2, .ref b2, .ref v2, .int 0], zI t a2 8 (fun _ => 0), zI t b2 8 (fun _ => 0), zA t 5 v2 8 (fun _ => none)]) (xs_IN (As := []) (rest := [.ref q_5, .ref h]) Z (C_PR_init l D t q_5 H.size) m_PR_init k_927 k_829 rfl rfl rfl ⟨Nat.le_of_ble_eq_true rfl, Nat.le_of_ble_eq_true rfl⟩ (xe_pre hK (hP.sub [19] rfl) (hD.sub [19] (by decide) rfl)) rfl hl.1 rfl (Nat.le_of_ble_eq_true rfl) d_PD_init_63 ⟨Nat.le_of_ble_eq_true rfl, Nat.le_of_ble_eq_true rfl⟩) hP hD hS hA [19] [0, 1, 2, 3, 4, 5, 6, 7, 8, 9, 10, 11, 12, 13, 14, 15, 16, 17, 18] rfl rfl (by decide) (by decide) (fun u_ H locs _ hP hD hS => ?_)
  obtain ⟨a3, b3, v3⟩ := u_
  have hP : va_P D vwCl [zO 9 h [.int 0, .int 1, .int 0, .int 0, .int 0, .int 0, .int 0, .int ((-1)), .int 0, .int 0, .ref q_1, .ref q_2, .ref q_3, .ref q_4, .null, .null, .int 0], zO 11 q_1 [.int 0, .ref s1, .ref s2, .ref s3, .ref s4, .ref s5, .int 0], zJ t s1 32 (fun _ => 1099511627776), zJ t s2 8 (fun _ => 0), zI t s3 8 (fun _ => 0), zI t s4 4 (fun _ => 0), zI t s5 4 (fun _ => 0), zO 10 q_2 [.ref a0, .ref b0, .ref v0, .int 0], zI t a0 8 (fun _ => 0), zI t b0 8 (fun _ => 0), zA t 5 v0 8 (fun _ => none), zO 10 q_3 [.ref a1, .ref b1, .ref v1, .int 0], zI t a1 8 (fun _ => 0), zI t b1 8 (fun _ => 0), zA t 5 v1 8 (fun _ => none), zO 10 q_4 [.ref a2, .ref b2, .ref v2, .int 0], zI t a2 8 (fun _ => 0), zI t b2 8 (fun _ => 0), zA t 5 v2 8 (fun _ => none), zO 10 q_5 [.ref a3, .ref b3, .ref v3, .int 0], zI t a3 8 (fun _ => 0), zI t b3 8 (fun _ => 0), zA t 5 v3 8 (fun _ => none)] H := hP
  have hD : va_D A [zO 9 h [.int 0, .int 1, .int 0, .int 0, .int 0, .int 0, .int 0, .int ((-1)), .int 0, .int 0, .ref q_1, .ref q_2, .ref q_3, .ref q_4, .null, .null, .int 0], zO 11 q_1 [.int 0, .ref s1, .ref s2, .ref s3, .ref s4, .ref s5, .int 0], zJ t s1 32 (fun _ => 1099511627776), zJ t s2 8 (fun _ => 0), zI t s3 8 (fun _ => 0), zI t s4 4 (fun _ => 0), zI t s5 4 (fun _ => 0), zO 10 q_2 [.ref a0, .ref b0, .ref v0, .int 0], zI t a0 8 (fun _ => 0), zI t b0 8 (fun _ => 0), zA t 5 v0 8 (fun _ => none), zO 10 q_3 [.ref a1, .ref b1, .ref v1, .int 0], zI t a1 8 (fun _ => 0), zI t b1 8 (fun _ => 0), zA t 5 v1 8 (fun _ => none), zO 10 q_4 [.ref a2, .ref b2, .ref v2, .int 0], zI t a2 8 (fun _ => 0), zI t b2 8 (fun _ => 0), zA t 5 v2 8 (fun _ => none), zO 10 q_5 [.ref a3, .ref b3, .ref v3, .int 0], zI t a3 8 (fun _ => 0), zI t b3 8 (fun _ => 0), zA t 5 v3 8 (fun _ => none)] := hD
  refine va_putF (ci := 9) (v := .ref q_5) (ty := tyX9 14) (C := "QuorumStoreModel$Node") (T := TX9) (N := 17) hx hb hts inX9 tyX9 okX9 nmX9 hown hK.2 hP hD hS 0 rfl rfl 14 (by decide) (hts _ k_951) (fun _ h9 => h9) rfl hin rfl (by decide +kernel) rfl rfl (Nat.le_of_ble_eq_true rfl) d_PD_init_66 (fun H locs hP hD hS => ?_)
  have hP : va_P D vwCl [zO 9 h [.int 0, .int 1, .int 0, .int 0, .int 0, .int 0, .int 0, .int ((-1)), .int 0, .int 0, .ref q_1, .ref q_2, .ref q_3, .ref q_4, .ref q_5, .null, .int 0], zO 11 q_1 [.int 0, .ref s1, .ref s2, .ref s3, .ref s4, .ref s5, .int 0], zJ t s1 32 (fun _ => 1099511627776), zJ t s2 8 (fun _ => 0), zI t s3 8 (fun _ => 0), zI t s4 4 (fun _ => 0), zI t s5 4 (fun _ => 0), zO 10 q_2 [.ref a0, .ref b0, .ref v0, .int 0], zI t a0 8 (fun _ => 0), zI t b0 8 (fun _ => 0), zA t 5 v0 8 (fun _ => none), zO 10 q_3 [.ref a1, .ref b1, .ref v1, .int 0], zI t a1 8 (fun _ => 0), zI t b1 8 (fun _ => 0), zA t 5 v1 8 (fun _ => none), zO 10 q_4 [.ref a2, .ref b2, .ref v2, .int 0], zI t a2 8 (fun _ => 0), zI t b2 8 (fun _ => 0), zA t 5 v2 8 (fun _ => none), zO 10 q_5 [.ref a3, .ref b3, .ref v3, .int 0], zI t a3 8 (fun _ => 0), zI t b3 8 (fun _ => 0), zA t 5 v3 8 (fun _ => none)] H := hP
  have hD : va_D A [zO 9 h [.int 0, .int 1, .int 0, .int 0, .int 0, .int 0, .int 0, .int ((-1)), .int 0, .int 0, .ref q_1, .ref q_2, .ref q_3, .ref q_4, .ref q_5, .null, .int 0], zO 11 q_1 [.int 0, .ref s1, .ref s2, .ref s3, .ref s4, .ref s5, .int 0], zJ t s1 32 (fun _ => 1099511627776), zJ t s2 8 (fun _ => 0), zI t s3 8 (fun _ => 0), zI t s4 4 (fun _ => 0), zI t s5 4 (fun _ => 0), zO 10 q_2 [.ref a0, .ref b0, .ref v0, .int 0], zI t a0 8 (fun _ => 0), zI t b0 8 (fun _ => 0), zA t 5 v0 8 (fun _ => none), zO 10 q_3 [.ref a1, .ref b1, .ref v1, .int 0], zI t a1 8 (fun _ => 0), zI t b1 8 (fun _ => 0), zA t 5 v1 8 (fun _ => none), zO 10 q_4 [.ref a2, .ref b2, .ref v2, .int 0], zI t a2 8 (fun _ => 0), zI t b2 8 (fun _ => 0), zA t 5 v2 8 (fun _ => none), zO 10 q_5 [.ref a3, .ref b3, .ref v3, .int 0], zI t a3 8 (fun _ => 0), zI t b3 8 (fun _ => 0), zA t 5 v3 8 (fun _ => none)] := hD
  refine lv_aload_n hx hb d_PD_init_69 rfl (lv_at hl 0 rfl) ?_
  refine lv_bipush (v := 16) hx hb d_PD_init_70 (by decide) ?_
  refine va_newq (N' := 16) hx hb hown (hts _ k_928) (va_AO.of (hts _ k_833)) hK.2 hP hD hS hA (by decide) rfl (by decide) (Nat.le_of_ble_eq_true rfl) (Nat.le_of_ble_eq_true rfl) d_PD_init_72 (fun q_6 c_7 H hKn hP hD hS => ?_)
  obtain rfl : c_7 = t 5 := xk_arr hKn (i := 5) rfl
  have hP : va_P D vwCl [zO 9 h [.int 0, .int 1, .int 0, .int 0, .int 0, .int 0, .int 0, .int ((-1)), .int 0, .int 0, .ref q_1, .ref q_2, .ref q_3, .ref q_4, .ref q_5, .null, .int 0], zO 11 q_1 [.int 0, .ref s1, .ref s2, .ref s3, .ref s4, .ref s5, .int 0], zJ t s1 32 (fun _ => 1099511627776), zJ t s2 8 (fun _ => 0), zI t s3 8 (fun _ => 0), zI t s4 4 (fun _ => 0), zI t s5 4 (fun _ => 0), zO 10 q_2 [.ref a0, .ref b0, .ref v0, .int 0], zI t a0 8 (fun _ => 0), zI t b0 8 (fun _ => 0), zA t 5 v0 8 (fun _ => none), zO 10 q_3 [.ref a1, .ref b1, .ref v1, .int 0], zI t a1 8 (fun _ => 0), zI t b1 8 (fun _ => 0), zA t 5 v1 8 (fun _ => none), zO 10 q_4 [.ref a2, .ref b2, .ref v2, .int 0], zI t a2 8 (fun _ => 0), zI t b2 8 (fun _ => 0), zA t 5 v2 8 (fun _ => none), zO 10 q_5 [.ref a3, .ref b3, .ref v3, .int 0], zI t a3 8 (fun _ => 0), zI t b3 8 (fun _ => 0), zA t 5 v3 8 (fun _ => none), zA t 5 q_6 16 (fun _ => none)] H := hP
  have hD : va_D A [zO 9 h [.int 0, .int 1, .int 0, .int 0, .int 0, .int 0, .int 0, .int ((-1)), .int 0, .int 0, .ref q_1, .ref q_2, .ref q_3, .ref q_4, .ref q_5, .null, .int 0], zO 11 q_1 [.int 0, .ref s1, .ref s2, .ref s3, .ref s4, .ref s5, .int 0], zJ t s1 32 (fun _ => 1099511627776), zJ t s2 8 (fun _ => 0), zI t s3 8 (fun _ => 0), zI t s4 4 (fun _ => 0), zI t s5 4 (fun _ => 0), zO 10 q_2 [.ref a0, .ref b0, .ref v0, .int 0], zI t a0 8 (fun _ => 0), zI t b0 8 (fun _ => 0), zA t 5 v0 8 (fun _ => none), zO 10 q_3 [.ref a1, .ref b1, .ref v1, .int 0], zI t a1 8 (fun _ => 0), zI t b1 8 (fun _ => 0), zA t 5 v1 8 (fun _ => none), zO 10 q_4 [.ref a2, .ref b2, .ref v2, .int 0], zI t a2 8 (fun _ => 0), zI t b2 8 (fun _ => 0), zA t 5 v2 8 (fun _ => none), zO 10 q_5 [.ref a3, .ref b3, .ref v3, .int 0], zI t a3 8 (fun _ => 0), zI t b3 8 (fun _ => 0), zA t 5 v3 8 (fun _ => none), zA t 5 q_6 16 (fun _ => none)] := hD
  refine va_putF (ci := 9) (v := .ref q_6) (ty := tyX9 15) (C := "QuorumStoreModel$Node") (T := TX9) (N := 17) hx hb hts inX9 tyX9 okX9 nmX9 hown hK.2 hP hD hS 0 rfl rfl 15 (by decide) (hts _ k_953) (fun _ h9 => h9) rfl hin rfl (by decide +kernel) rfl rfl (Nat.le_of_ble_eq_true rfl) d_PD_init_75 (fun H locs hP hD hS => ?_)
  have hP : va_P D vwCl [zO 9 h [.int 0, .int 1, .int 0, .int 0, .int 0, .int 0, .int 0, .int ((-1)), .int 0, .int 0, .ref q_1, .ref q_2, .ref q_3, .ref q_4, .ref q_5, .ref q_6, .int 0], zO 11 q_1 [.int 0, .ref s1, .ref s2, .ref s3, .ref s4, .ref s5, .int 0], zJ t s1 32 (fun _ => 1099511627776), zJ t s2 8 (fun _ => 0), zI t s3 8 (fun _ => 0), zI t s4 4 (fun _ => 0), zI t s5 4 (fun _ => 0), zO 10 q_2 [.ref a0, .ref b0, .ref v0, .int 0], zI t a0 8 (fun _ => 0), zI t b0 8 (fun _ => 0), zA t 5 v0 8 (fun _ => none), zO 10 q_3 [.ref a1, .ref b1, .ref v1, .int 0], zI t a1 8 (fun _ => 0), zI t b1 8 (fun _ => 0), zA t 5 v1 8 (fun _ => none), zO 10 q_4 [.ref a2, .ref b2, .ref v2, .int 0], zI t a2 8 (fun _ => 0), zI t b2 8 (fun _ => 0), zA t 5 v2 8 (fun _ => none), zO 10 q_5 [.ref a3, .ref b3, .ref v3, .int 0], zI t a3 8 (fun _ => 0), zI t b3 8 (fun _ => 0), zA t 5 v3 8 (fun _ => none), zA t 5 q_6 16 (fun _ => none)] H := hP
  have hD : va_D A [zO 9 h [.int 0, .int 1, .int 0, .int 0, .int 0, .int 0, .int 0, .int ((-1)), .int 0, .int 0, .ref q_1, .ref q_2, .ref q_3, .ref q_4, .ref q_5, .ref q_6, .int 0], zO 11 q_1 [.int 0, .ref s1, .ref s2, .ref s3, .ref s4, .ref s5, .int 0], zJ t s1 32 (fun _ => 1099511627776), zJ t s2 8 (fun _ => 0), zI t s3 8 (fun _ => 0), zI t s4 4 (fun _ => 0), zI t s5 4 (fun _ => 0), zO 10 q_2 [.ref a0, .ref b0, .ref v0, .int 0], zI t a0 8 (fun _ => 0), zI t b0 8 (fun _ => 0), zA t 5 v0 8 (fun _ => none), zO 10 q_3 [.ref a1, .ref b1, .ref v1, .int 0], zI t a1 8 (fun _ => 0), zI t b1 8 (fun _ => 0), zA t 5 v1 8 (fun _ => none), zO 10 q_4 [.ref a2, .ref b2, .ref v2, .int 0], zI t a2 8 (fun _ => 0), zI t b2 8 (fun _ => 0), zA t 5 v2 8 (fun _ => none), zO 10 q_5 [.ref a3, .ref b3, .ref v3, .int 0], zI t a3 8 (fun _ => 0), zI t b3 8 (fun _ => 0), zA t 5 v3 8 (fun _ => none), zA t 5 q_6 16 (fun _ => none)] := hD
  refine lv_aload_n hx hb d_PD_init_78 rfl (lv_at hl 0 rfl) ?_
  refine lv_iload_n hx hb d_PD_init_79 rfl (lv_at hl 1 rfl) ?_
  refine va_putF (ci := 9) (v := .int (nI i)) (ty := tyX9 0) (C := "QuorumStoreModel$Node") (T := TX9) (N := 17) hx hb hts inX9 tyX9 okX9 nmX9 hown hK.2 hP hD hS 0 rfl rfl 0 (by decide) (hts _ k_929) (fun _ h9 => h9) rfl hin rfl (by decide +kernel) rfl rfl (Nat.le_of_ble_eq_true rfl) d_PD_init_80 (fun H locs hP hD hS => ?_)
  have hP : va_P D vwCl [zO 9 h [.int (nI i), .int 1, .int 0, .int 0, .int 0, .int 0, .int 0, .int ((-1)), .int 0, .int 0, .ref q_1, .ref q_2, .ref q_3, .ref q_4, .ref q_5, .ref q_6, .int 0], zO 11 q_1 [.int 0, .ref s1, .ref s2, .ref s3, .ref s4, .ref s5, .int 0], zJ t s1 32 (fun _ => 1099511627776), zJ t s2 8 (fun _ => 0), zI t s3 8 (fun _ => 0), zI t s4 4 (fun _ => 0), zI t s5 4 (fun _ => 0), zO 10 q_2 [.ref a0, .ref b0, .ref v0, .int 0], zI t a0 8 (fun _ => 0), zI t b0 8 (fun _ => 0), zA t 5 v0 8 (fun _ => none), zO 10 q_3 [.ref a1, .ref b1, .ref v1, .int 0], zI t a1 8 (fun _ => 0), zI t b1 8 (fun _ => 0), zA t 5 v1 8 (fun _ => none), zO 10 q_4 [.ref a2, .ref b2, .ref v2, .int 0], zI t a2 8 (fun _ => 0), zI t b2 8 (fun _ => 0), zA t 5 v2 8 (fun _ => none), zO 10 q_5 [.ref a3, .ref b3, .ref v3, .int 0], zI t a3 8 (fun _ => 0), zI t b3 8 (fun _ => 0), zA t 5 v3 8 (fun _ => none), zA t 5 q_6 16 (fun _ => none)] H := hP
  have hD : va_D A [zO 9 h [.int (nI i), .int 1, .int 0, .int 0, .int 0, .int 0, .int 0, .int ((-1)), .int 0, .int 0, .ref q_1, .ref q_2, .ref q_3, .ref q_4, .ref q_5, .ref q_6, .int 0], zO 11 q_1 [.int 0, .ref s1, .ref s2, .ref s3, .ref s4, .ref s5, .int 0], zJ t s1 32 (fun _ => 1099511627776), zJ t s2 8 (fun _ => 0), zI t s3 8 (fun _ => 0), zI t s4 4 (fun _ => 0), zI t s5 4 (fun _ => 0), zO 10 q_2 [.ref a0, .ref b0, .ref v0, .int 0], zI t a0 8 (fun _ => 0), zI t b0 8 (fun _ => 0), zA t 5 v0 8 (fun _ => none), zO 10 q_3 [.ref a1, .ref b1, .ref v1, .int 0], zI t a1 8 (fun _ => 0), zI t b1 8 (fun _ => 0), zA t 5 v1 8 (fun _ => none), zO 10 q_4 [.ref a2, .ref b2, .ref v2, .int 0], zI t a2 8 (fun _ => 0), zI t b2 8 (fun _ => 0), zA t 5 v2 8 (fun _ => none), zO 10 q_5 [.ref a3, .ref b3, .ref v3, .int 0], zI t a3 8 (fun _ => 0), zI t b3 8 (fun _ => 0), zA t 5 v3 8 (fun _ => none), zA t 5 q_6 16 (fun _ => none)] := hD
  refine lv_aload_n hx hb d_PD_init_83 rfl (lv_at hl 0 rfl) ?_
  refine lv_bipush (v := 8) hx hb d_PD_init_84 (by decide) ?_
  refine lv_iconst (v := 3) hx hb d_PD_init_86 (by decide) ?_
  refine lv_iload_n hx hb d_PD_init_87 rfl (lv_at hl 1 rfl) ?_
  refine lv_imul hx hb d_PD_init_88 ?_
  refine lv_iadd hx hb d_PD_init_89 ?_
  refine va_put (ci := 9) (v := .int ((8) + ((3) * (nI i)))) (ty := tyX9 6) (C := "QuorumStoreModel$Node") (T := TX9) (N := 17) hx hb hts inX9 tyX9 okX9 nmX9 hown hK.2 hP hD hS 0 rfl rfl 6 (by decide) (hts _ k_937) (fun _ h9 => h9) rfl (by decide +kernel) rfl rfl (Nat.le_of_ble_eq_true rfl) d_PD_init_90 (fun H locs hP hD hS => ?_)
  have hP : va_P D vwCl [zO 9 h [.int (nI i), .int 1, .int 0, .int 0, .int 0, .int 0, .int ((8) + ((3) * (nI i))), .int ((-1)), .int 0, .int 0, .ref q_1, .ref q_2, .ref q_3, .ref q_4, .ref q_5, .ref q_6, .int 0], zO 11 q_1 [.int 0, .ref s1, .ref s2, .ref s3, .ref s4, .ref s5, .int 0], zJ t s1 32 (fun _ => 1099511627776), zJ t s2 8 (fun _ => 0), zI t s3 8 (fun _ => 0), zI t s4 4 (fun _ => 0), zI t s5 4 (fun _ => 0), zO 10 q_2 [.ref a0, .ref b0, .ref v0, .int 0], zI t a0 8 (fun _ => 0), zI t b0 8 (fun _ => 0), zA t 5 v0 8 (fun _ => none), zO 10 q_3 [.ref a1, .ref b1, .ref v1, .int 0], zI t a1 8 (fun _ => 0), zI t b1 8 (fun _ => 0), zA t 5 v1 8 (fun _ => none), zO 10 q_4 [.ref a2, .ref b2, .ref v2, .int 0], zI t a2 8 (fun _ => 0), zI t b2 8 (fun _ => 0), zA t 5 v2 8 (fun _ => none), zO 10 q_5 [.ref a3, .ref b3, .ref v3, .int 0], zI t a3 8 (fun _ => 0), zI t b3 8 (fun _ => 0), zA t 5 v3 8 (fun _ => none), zA t 5 q_6 16 (fun _ => none)] H := hP
  have hD : va_D A [zO 9 h [.int (nI i), .int 1, .int 0, .int 0, .int 0, .int 0, .int ((8) + ((3) * (nI i))), .int ((-1)), .int 0, .int 0, .ref q_1, .ref q_2, .ref q_3, .ref q_4, .ref q_5, .ref q_6, .int 0], zO 11 q_1 [.int 0, .ref s1, .ref s2, .ref s3, .ref s4, .ref s5, .int 0], zJ t s1 32 (fun _ => 1099511627776), zJ t s2 8 (fun _ => 0), zI t s3 8 (fun _ => 0), zI t s4 4 (fun _ => 0), zI t s5 4 (fun _ => 0), zO 10 q_2 [.ref a0, .ref b0, .ref v0, .int 0], zI t a0 8 (fun _ => 0), zI t b0 8 (fun _ => 0), zA t 5 v0 8 (fun _ => none), zO 10 q_3 [.ref a1, .ref b1, .ref v1, .int 0], zI t a1 8 (fun _ => 0), zI t b1 8 (fun _ => 0), zA t 5 v1 8 (fun _ => none), zO 10 q_4 [.ref a2, .ref b2, .ref v2, .int 0], zI t a2 8 (fun _ => 0), zI t b2 8 (fun _ => 0), zA t 5 v2 8 (fun _ => none), zO 10 q_5 [.ref a3, .ref b3, .ref v3, .int 0], zI t a3 8 (fun _ => 0), zI t b3 8 (fun _ => 0), zA t 5 v3 8 (fun _ => none), zA t 5 q_6 16 (fun _ => none)] := hD
  have e8 : (8 : Int32) + 3 * nI i = nI (8 + 3 * i) := by rw [show (3 : Int32) = nI 3 from rfl, show (8 : Int32) = nI 8 from rfl, pk_mul, nI_add]
  have hP : va_P D vwCl [zO 9 h [.int (nI i), .int 1, .int 0, .int 0, .int 0, .int 0, .int (nI (8 + 3 * i)), .int ((-1)), .int 0, .int 0, .ref q_1, .ref q_2, .ref q_3, .ref q_4, .ref q_5, .ref q_6, .int 0], zO 11 q_1 [.int 0, .ref s1, .ref s2, .ref s3, .ref s4, .ref s5, .int 0], zJ t s1 32 (fun _ => 1099511627776), zJ t s2 8 (fun _ => 0), zI t s3 8 (fun _ => 0), zI t s4 4 (fun _ => 0), zI t s5 4 (fun _ => 0), zO 10 q_2 [.ref a0, .ref b0, .ref v0, .int 0], zI t a0 8 (fun _ => 0), zI t b0 8 (fun _ => 0), zA t 5 v0 8 (fun _ => none), zO 10 q_3 [.ref a1, .ref b1, .ref v1, .int 0], zI t a1 8 (fun _ => 0), zI t b1 8 (fun _ => 0), zA t 5 v1 8 (fun _ => none), zO 10 q_4 [.ref a2, .ref b2, .ref v2, .int 0], zI t a2 8 (fun _ => 0), zI t b2 8 (fun _ => 0), zA t 5 v2 8 (fun _ => none), zO 10 q_5 [.ref a3, .ref b3, .ref v3, .int 0], zI t a3 8 (fun _ => 0), zI t b3 8 (fun _ => 0), zA t 5 v3 8 (fun _ => none), zA t 5 q_6 16 (fun _ => none)] H := e8 ▸ hP
  have hD : va_D A [zO 9 h [.int (nI i), .int 1, .int 0, .int 0, .int 0, .int 0, .int (nI (8 + 3 * i)), .int ((-1)), .int 0, .int 0, .ref q_1, .ref q_2, .ref q_3, .ref q_4, .ref q_5, .ref q_6, .int 0], zO 11 q_1 [.int 0, .ref s1, .ref s2, .ref s3, .ref s4, .ref s5, .int 0], zJ t s1 32 (fun _ => 1099511627776), zJ t s2 8 (fun _ => 0), zI t s3 8 (fun _ => 0), zI t s4 4 (fun _ => 0), zI t s5 4 (fun _ => 0), zO 10 q_2 [.ref a0, .ref b0, .ref v0, .int 0], zI t a0 8 (fun _ => 0), zI t b0 8 (fun _ => 0), zA t 5 v0 8 (fun _ => none), zO 10 q_3 [.ref a1, .ref b1, .ref v1, .int 0], zI t a1 8 (fun _ => 0), zI t b1 8 (fun _ => 0), zA t 5 v1 8 (fun _ => none), zO 10 q_4 [.ref a2, .ref b2, .ref v2, .int 0], zI t a2 8 (fun _ => 0), zI t b2 8 (fun _ => 0), zA t 5 v2 8 (fun _ => none), zO 10 q_5 [.ref a3, .ref b3, .ref v3, .int 0], zI t a3 8 (fun _ => 0), zI t b3 8 (fun _ => 0), zA t 5 v3 8 (fun _ => none), zA t 5 q_6 16 (fun _ => none)] := e8 ▸ hD
  exact W.vret hx hb hr (fun t ht hW => ⟨⟨(fun k => ([h, q_1, s1, s2, s3, s4, s5, q_2, a0, b0, v0, q_3, a1, b1, v1, q_4, a2, b2, v2, q_5, a3, b3, v3, q_6] : List Nat).getD k 0), rfl, rfl, by rw [ht]; exact hP, hD⟩, hS.F ht⟩) hS.2.2 d_PD_init_93
