/-! What holds at the law's entry, in the words of my contracts. -/
theorem xk_ai {s : State} {a : Array Value} (h : (Cond.arrayClass .int).before a s = true) : ∃ cA, ArrOfT s cA .int ∧ va_RA s cA .int := by
  obtain ⟨c, k, comp, h1, h2, h3⟩ := Cond.arrayClass_spec h
  exact ⟨c, fun N z => ⟨(fun k h => by cases h), k, h2, comp, h3⟩, h1⟩
theorem xk_aj {s : State} {a : Array Value} (h : (Cond.arrayClass .long).before a s = true) : ∃ cA, ArrOfT s cA .long ∧ va_RA s cA .long := by
  obtain ⟨c, k, comp, h1, h2, h3⟩ := Cond.arrayClass_spec h
  exact ⟨c, fun N z => ⟨(fun k h => by cases h), k, h2, comp, h3⟩, h1⟩
theorem xk_aq {s : State} {a : Array Value} {C : String} (h : (Cond.arrayOver (.object C)).before a s = true) : ∃ cA, ArrOfT s cA (.object C) ∧ va_RA s cA (.object C) := by
  obtain ⟨comp, c, k, h1, -, h2, h3, h4⟩ := Cond.arrayOver_spec h
  exact ⟨c, fun N z => ⟨(fun k h => by cases h), k, h2, comp, h3⟩, k, comp, h2, h3, h1, h4⟩
theorem xg_str {s : State} {A : Array Value} {k : Nat} {tx : String} (h1 : (Cond.stringRef "QuorumStore" k tx).before A s = true) (h2 : (Cond.exactly (.string "QuorumStore" k) "java/lang/String").before A s = true) : ∃ a : Nat, vk_R "QuorumStore" k tx a s := by
  obtain ⟨a, -, -, -, h, -⟩ := Cond.exactly_spec h2
  exact ⟨a, vk_R.of h1 h⟩
set_option maxHeartbeats 4000000 in
theorem xk_start {s : State} {b : Nat} (hts : ∀ w ∈ lw_tbl, w.before #[Value.ref b] s = true) : ∃ (D : va_G) (t : Nat → ClassId), xK D vwCl (xTY t) s := by
  have hTb : xw_Tb s := fun w hw => xw_warm (List.mem_filter.mp hw).2 (State.WarmedH.refl s) (hts w (List.mem_filter.mp hw).1)
  have ht := hTb.at (args := #[])
  obtain ⟨c0, iS0, hKn0⟩ := u_known (C := "QuorumStore$Lead") (T := TX0) (N := 8) (n := 8) ht inX0 (ht _ k_88)
  obtain ⟨c1, iS1, hKn1⟩ := u_known (C := "QuorumStore$Message") (T := TX1) (N := 8) (n := 8) ht inX1 (ht _ k_375)
  obtain ⟨c2, iS2, hKn2⟩ := u_known (C := "QuorumStore$Network") (T := TX2) (N := 5) (n := 5) ht inX2 (ht _ k_33)
  obtain ⟨c3, iS3, hKn3⟩ := u_known (C := "QuorumStore$Node") (T := TX3) (N := 15) (n := 15) ht inX3 (ht _ k_62)
  obtain ⟨c4, iS4, hKn4⟩ := u_known (C := "QuorumStore$Row") (T := TX4) (N := 3) (n := 3) ht inX4 (ht _ k_68)
  obtain ⟨c5, iS5, hKn5⟩ := u_known (C := "QuorumStore$State") (T := TX5) (N := 6) (n := 6) ht inX5 (ht _ k_166)
  obtain ⟨c6, iS6, hKn6⟩ := u_known (C := "QuorumStore$Value") (T := TX6) (N := 6) (n := 6) ht inX6 (ht _ k_94)
  obtain ⟨c7, iS7, hKn7⟩ := u_known (C := "QuorumStore") (T := TX7) (N := 3) (n := 3) ht inX7 (ht _ k_25)
  obtain ⟨c8, iS8, hKn8⟩ := u_known (C := "QuorumStoreModel$Message") (T := TX8) (N := 8) (n := 8) ht inX8 (ht _ k_821)
  obtain ⟨c9, iS9, hKn9⟩ := u_known (C := "QuorumStoreModel$Node") (T := TX9) (N := 17) (n := 17) ht inX9 (ht _ k_919)
  obtain ⟨c10, iS10, hKn10⟩ := u_known (C := "QuorumStoreModel$Slots") (T := TX10) (N := 4) (n := 4) ht inX10 (ht _ k_827)
  obtain ⟨c11, iS11, hKn11⟩ := u_known (C := "QuorumStoreModel$State") (T := TX11) (N := 7) (n := 7) ht inX11 (ht _ k_853)
  obtain ⟨c12, iS12, hKn12⟩ := u_known (C := "QuorumStoreModel$Value") (T := TX12) (N := 6) (n := 6) ht inX12 (ht _ k_1233)
  obtain ⟨c13, iS13, hKn13⟩ := u_known (C := "QuorumStoreModel") (T := TX13) (N := 10) (n := 10) ht inX13 (ht _ k_812)
  obtain ⟨t0, a0, b0⟩ := xk_ai (ht _ k_86)
  obtain ⟨t1, a1, b1⟩ := xk_aj (ht _ k_196)
  obtain ⟨t2, a2, b2⟩ := xk_aq (C := "QuorumStore$Value") (ht _ k_74)
  obtain ⟨t3, a3, b3⟩ := xk_aq (C := "QuorumStore$Message") (ht _ k_39)
  obtain ⟨t4, a4, b4⟩ := xk_aq (C := "QuorumStore$Node") (ht _ k_61)
  obtain ⟨t5, a5, b5⟩ := xk_aq (C := "QuorumStoreModel$Value") (ht _ k_833)
  obtain ⟨t6, a6, b6⟩ := xk_aq (C := "QuorumStoreModel$Message") (ht _ k_820)
  obtain ⟨t7, a7, b7⟩ := xk_aq (C := "QuorumStoreModel$Node") (ht _ k_818)
  refine ⟨(fun k => ([c0, c1, c2, c3, c4, c5, c6, c7, c8, c9, c10, c11, c12, c13] : List ClassId).getD k c0, fun k => ([iS0, iS1, iS2, iS3, iS4, iS5, iS6, iS7, iS8, iS9, iS10, iS11, iS12, iS13] : List (Nat → Nat)).getD k iS0), fun k => ([t0, t1, t2, t3, t4, t5, t6, t7] : List ClassId).getD k t0, hTb, ?_, ?_⟩
  · intro k q hq
    match k, hq with
    | 0, hq => cases hq; exact hKn0
    | 1, hq => cases hq; exact hKn1
    | 2, hq => cases hq; exact hKn2
    | 3, hq => cases hq; exact hKn3
    | 4, hq => cases hq; exact hKn4
    | 5, hq => cases hq; exact hKn5
    | 6, hq => cases hq; exact hKn6
    | 7, hq => cases hq; exact hKn7
    | 8, hq => cases hq; exact hKn8
    | 9, hq => cases hq; exact hKn9
    | 10, hq => cases hq; exact hKn10
    | 11, hq => cases hq; exact hKn11
    | 12, hq => cases hq; exact hKn12
    | 13, hq => cases hq; exact hKn13
    | k + 14, hq => simp [vwCl] at hq
  · intro k q hq
    match k, hq with
    | 0, hq => cases hq; exact ⟨a0, b0⟩
    | 1, hq => cases hq; exact ⟨a1, b1⟩
    | 2, hq => cases hq; exact ⟨a2, b2⟩
    | 3, hq => cases hq; exact ⟨a3, b3⟩
    | 4, hq => cases hq; exact ⟨a4, b4⟩
    | 5, hq => cases hq; exact ⟨a5, b5⟩
    | 6, hq => cases hq; exact ⟨a6, b6⟩
    | 7, hq => cases hq; exact ⟨a7, b7⟩
    | k + 8, hq => simp [xTY] at hq
set_option maxHeartbeats 4000000 in
theorem xg_start {s : State} {b : Nat} (hts : ∀ w ∈ lw_tbl, w.before #[Value.ref b] s = true) (hgv : (Jvm.Cond.and given_1 narrow_1).before #[Value.ref b] s = true) : xg s := by
  have hs := flat_of_before _ hgv
  have l1 : (Cond.laysStatic Jvm.Bundle.tN "UNASSIGNED_STACK" Jvm.Bundle.steD).before #[Value.ref b] s = true := hts _ (List.mem_append_right _ (List.mem_of_getElem? (i := 307) (by decide +kernel)))
  have l2 : (Cond.laysStatic Jvm.Bundle.tN "SUPPRESSED_SENTINEL" Jvm.Bundle.listD).before #[Value.ref b] s = true := hts _ (List.mem_append_right _ (List.mem_of_getElem? (i := 309) (by decide +kernel)))
  have z1 : (Cond.isRef (.static Jvm.Bundle.tN "UNASSIGNED_STACK" Jvm.Bundle.steD)).before #[Value.ref b] s = true := hs _ (by decide +kernel)
  have z2 : (Cond.isRef (.static Jvm.Bundle.tN "SUPPRESSED_SENTINEL" Jvm.Bundle.listD)).before #[Value.ref b] s = true := hs _ (by decide +kernel)
  have n1 : (Cond.not (.castable "java/lang/IllegalStateException" "java/util/NoSuchElementException")).before #[Value.ref b] s = true := hs _ (by decide +kernel)
  have n2 : (Cond.not (.castable "java/lang/IllegalArgumentException" "java/util/NoSuchElementException")).before #[Value.ref b] s = true := hs _ (by decide +kernel)
  have hr := State.WarmedH.refl s
  refine ⟨⟨⟨?_, ?_⟩, ?_⟩, xc_nw hr n1, xc_nw hr n2⟩
  · exact List.forall_mem_cons.mpr ⟨xc_ls hr (fun _ _ => rfl) l1, List.forall_mem_cons.mpr ⟨xc_ls hr (fun _ _ => rfl) l2, fun _ h => absurd h List.not_mem_nil⟩⟩
  · exact List.forall_mem_cons.mpr ⟨xc_rs hr (fun _ _ => rfl) l1 z1, List.forall_mem_cons.mpr ⟨xc_rs hr (fun _ _ => rfl) l2 z2, fun _ h => absurd h List.not_mem_nil⟩⟩
  · exact List.forall_mem_cons.mpr ⟨xg_str (hts _ (List.mem_append_right _ (List.mem_of_getElem? (i := 321) (by decide +kernel)))) (hs _ (by decide +kernel)), List.forall_mem_cons.mpr ⟨xg_str (hts _ (List.mem_append_right _ (List.mem_of_getElem? (i := 562) (by decide +kernel)))) (hs _ (by decide +kernel)), List.forall_mem_cons.mpr ⟨xg_str (hts _ (List.mem_append_right _ (List.mem_of_getElem? (i := 680) (by decide +kernel)))) (hs _ (by decide +kernel)), List.forall_mem_cons.mpr ⟨xg_str (hts _ (List.mem_append_right _ (List.mem_of_getElem? (i := 702) (by decide +kernel)))) (hs _ (by decide +kernel)), List.forall_mem_cons.mpr ⟨xg_str (hts _ (List.mem_append_right _ (List.mem_of_getElem? (i := 714) (by decide +kernel)))) (hs _ (by decide +kernel)), List.forall_mem_cons.mpr ⟨xg_str (hts _ (List.mem_append_right _ (List.mem_of_getElem? (i := 715) (by decide +kernel)))) (hs _ (by decide +kernel)), List.forall_mem_cons.mpr ⟨xg_str (hts _ (List.mem_append_right _ (List.mem_of_getElem? (i := 727) (by decide +kernel)))) (hs _ (by decide +kernel)), List.forall_mem_cons.mpr ⟨xg_str (hts _ (List.mem_append_right _ (List.mem_of_getElem? (i := 739) (by decide +kernel)))) (hs _ (by decide +kernel)), List.forall_mem_cons.mpr ⟨xg_str (hts _ (List.mem_append_right _ (List.mem_of_getElem? (i := 750) (by decide +kernel)))) (hs _ (by decide +kernel)), List.forall_mem_cons.mpr ⟨xg_str (hts _ (List.mem_append_right _ (List.mem_of_getElem? (i := 751) (by decide +kernel)))) (hs _ (by decide +kernel)), List.forall_mem_cons.mpr ⟨xg_str (hts _ (List.mem_append_right _ (List.mem_of_getElem? (i := 784) (by decide +kernel)))) (hs _ (by decide +kernel)), List.forall_mem_cons.mpr ⟨xg_str (hts _ (List.mem_append_right _ (List.mem_of_getElem? (i := 792) (by decide +kernel)))) (hs _ (by decide +kernel)), List.forall_mem_cons.mpr ⟨xg_str (hts _ (List.mem_append_right _ (List.mem_of_getElem? (i := 801) (by decide +kernel)))) (hs _ (by decide +kernel)), List.forall_mem_cons.mpr ⟨xg_str (hts _ (List.mem_append_right _ (List.mem_of_getElem? (i := 810) (by decide +kernel)))) (hs _ (by decide +kernel)), fun _ h => absurd h List.not_mem_nil⟩⟩⟩⟩⟩⟩⟩⟩⟩⟩⟩⟩⟩⟩
