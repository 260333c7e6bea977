def R_law : String := "QuorumStoreLaw"
def lw_P (b : Addr) (xs : List Int32) (args : Array Value) (s : State) : Prop := args = #[.ref b] ∧ s.IntsAt b xs ∧ xs.length ≤ 8 ∧ (Jvm.Cond.and given_1 narrow_1).before args s = true
def lw_Q (_ : Array Value) (s : State) (o : Outcome) (t : State) : Prop := o = .returned (some (.int 1)) ∧ Framed s o t [] 600002 7302198
def lw_Z (below : List Frame) (a : Array Value) (s : State) : State → Prop := fun t => ∃ o, t.status = .running ∧ Ended t below o ∧ lw_Q a s o t
/-- the law's own end, with 1 on the stack, nothing written that was there before, its room as the claim has it -/
theorem lw_ret {p : Program} {l : Launch} {e : Env} {s : State} {m : MethodId} {below : List Frame} {meth : Method} {c : Code} {b : Nat} (hx : p.tables.exec = Jvm.exec) (hb : c.code = code) (hr : meth.sig.returnType = ret) (hlocks : meth.locks = false) {pc : Nat} {H : Heap} {ls : Array Slot} (hdg : decode code pc = .ok (.ireturn, 1)) : W p l e room_1 s m #[Value.ref b] below meth c H [] 600002 7302198 (lw_Z below #[Value.ref b] s) (F0 m pc ls [.int 1]) := by
  intro T hT X
  obtain ⟨fs, hret, hrun, hended, hW, hframe⟩ := X.leave (v := some (.int 1)) (hlocks := hlocks) (fun h => by rw [hr] at h; cases h)
  have hmeth' : T.vm.method? m = some meth := X.method'
  refine ⟨T.setFrames fs, ?_, .returned (some (.int 1)), hrun, hended, rfl, ⟨_, rfl⟩, hW, hframe⟩
  jvm_step X.here [X.here.top, hx, hb, hdg, hmeth', hr, ret, narrow_b1]
  (try refine ⟨rfl, ?_⟩); (try refine ⟨rfl, ?_⟩)
  first | (intro acts; rw [hret _ acts rfl rfl rfl]) | rw [hret _ _ rfl rfl rfl]
  exact Steps.refl _
/-- what holds at the law's entry: the machine, the code, the tables' words (any of lw_tbl by 'hts w (by decide +kernel)'), the script of L ints xs at the cell b, what the Statement gives of the start (any of its parts by flat_of_before) -/
def lw_At (p : Program) (s : State) (m : MethodId) (meth : Method) (c : Code) (b L : Nat) (xs : Nat → Int32) : Prop :=
  p.tables.exec = Jvm.exec ∧ c.code = code ∧ meth.sig.returnType = ret ∧ c.maxLocals = 8 ∧ s.vm.findClass R_law = some m.cls ∧ (∀ w ∈ lw_tbl, w.before #[Value.ref b] s = true) ∧ va_X b L xs s s.heap ∧ b < s.heap.size ∧ meth.locks = false ∧ (Jvm.Cond.and given_1 narrow_1).before #[Value.ref b] s = true
/-! The law's walk: worlds, numbers, the script's first int. -/
abbrev c_W_law : ByteArray := code
section XLc
variable {p : Program} {l : Launch} {e : Env} {R : Room} {s : State} {m : MethodId} {args : Array Value} {below : List Frame} {meth : Method} {c : Code} {H : Heap} {locs : List Loc} {cells slots : Nat} {Q : State → Prop} {cc : ByteArray} {pc : Nat} {ls : Array Slot} {rest : List Value}
theorem xl_lcmpE (hexec : p.tables.exec = Jvm.exec) (hb : c.code = cc) {x : Int64} (hdg : decode cc pc = .ok (.lcmp, 1))
    (k : W p l e R s m args below meth c H locs cells slots Q (F0 m (pc + 1) ls (.int 0 :: rest))) : W p l e R s m args below meth c H locs cells slots Q (F0 m pc ls (.long x :: .long x :: rest)) := by
  intro T hT X
  obtain ⟨t, a, b⟩ := k T hT X
  refine ⟨t, ?_, b⟩
  jvm_step X.here [X.here.top, hexec, hb, hdg]
  exact a
end XLc
theorem xq_node (n : Int32) (m : Nat) (hm : m < 2 ^ 31) : (n < 0 ∨ nI m ≤ n) ∨ ∃ k, k < m ∧ n = nI k := by
  have e0 : (0 : Int32).toInt = 0 := by decide
  have em := nI_toInt hm
  by_cases h0 : n.toInt < 0
  · exact Or.inl (Or.inl (Int32.lt_iff_toInt_lt.mpr (by omega)))
  · by_cases h1 : (m : Int) ≤ n.toInt
    · exact Or.inl (Or.inr (Int32.le_iff_toInt_le.mpr (by omega)))
    · refine Or.inr ⟨n.toInt.toNat, by omega, Int32.toInt_inj.mp ?_⟩
      rw [nI_toInt (by omega)]
      omega
theorem xq_tick (n : Int32) : (n < 1 ∨ 50 < n) ∨ ∃ N, 1 ≤ N ∧ N ≤ 50 ∧ n = nI N := by
  have e0 : (1 : Int32).toInt = 1 := by decide
  have e5 : (50 : Int32).toInt = 50 := by decide
  by_cases h0 : n.toInt < 1
  · exact Or.inl (Or.inl (Int32.lt_iff_toInt_lt.mpr (by omega)))
  · by_cases h1 : 50 < n.toInt
    · exact Or.inl (Or.inr (Int32.lt_iff_toInt_lt.mpr (by omega)))
    · refine Or.inr ⟨n.toInt.toNat, by omega, by omega, Int32.toInt_inj.mp ?_⟩
      rw [nI_toInt (by omega)]
      omega
theorem xq_in (n : Int32) (m : Nat) (hm : m < 2 ^ 30) : (n.toInt < 0 ∨ (m : Int) < n.toInt) ∨ ∃ k, k < m + 1 ∧ n = nI k := by
  by_cases h0 : n.toInt < 0
  · exact Or.inl (Or.inl h0)
  · by_cases h1 : (m : Int) < n.toInt
    · exact Or.inl (Or.inr h1)
    · refine Or.inr ⟨n.toInt.toNat, by omega, Int32.toInt_inj.mp ?_⟩
      rw [nI_toInt (by omega)]
      omega
theorem xq_13 (n : Int32) : (n.toInt < 0 ∨ 13 < n.toInt) ∨ n = 0 ∨ n = 1 ∨ n = 2 ∨ n = 3 ∨ n = 4 ∨ n = 5 ∨ n = 6 ∨ n = 7 ∨ n = 8 ∨ n = 9 ∨ n = 10 ∨ n = 11 ∨ n = 12 ∨ n = 13 := by
  rcases xq_in n 13 (by decide) with h | ⟨k, hk, rfl⟩
  · exact Or.inl h
  · refine Or.inr ?_
    rcases (show k = 0 ∨ k = 1 ∨ k = 2 ∨ k = 3 ∨ k = 4 ∨ k = 5 ∨ k = 6 ∨ k = 7 ∨ k = 8 ∨ k = 9 ∨ k = 10 ∨ k = 11 ∨ k = 12 ∨ k = 13 by omega) with rfl | rfl | rfl | rfl | rfl | rfl | rfl | rfl | rfl | rfl | rfl | rfl | rfl | rfl <;> decide
theorem xq_3 (n : Int32) : (n.toInt < 0 ∨ 3 < n.toInt) ∨ n = 0 ∨ n = 1 ∨ n = 2 ∨ n = 3 := by
  rcases xq_in n 3 (by decide) with h | ⟨k, hk, rfl⟩
  · exact Or.inl h
  · refine Or.inr ?_
    rcases (show k = 0 ∨ k = 1 ∨ k = 2 ∨ k = 3 by omega) with rfl | rfl | rfl | rfl <;> decide
theorem xq_15 (n : Int32) : n &&& 15 = 0 ∨ n &&& 15 = 1 ∨ n &&& 15 = 2 ∨ n &&& 15 = 3 ∨ n &&& 15 = 4 ∨ n &&& 15 = 5 ∨ n &&& 15 = 6 ∨ n &&& 15 = 7 ∨ n &&& 15 = 8 ∨ n &&& 15 = 9 ∨ n &&& 15 = 10 ∨ n &&& 15 = 11 ∨ n &&& 15 = 12 ∨ n &&& 15 = 13 ∨ n &&& 15 = 14 ∨ n &&& 15 = 15 := by
  have h := vp_in_iff.mp (pk_andIn n (m := 15) 4 (by decide) (by decide))
  rcases xq_in (n &&& 15) 15 (by decide) with h9 | ⟨k, hk, e9⟩
  · have := h.1
    have := h.2
    omega
  · rw [e9]
    rcases (show k = 0 ∨ k = 1 ∨ k = 2 ∨ k = 3 ∨ k = 4 ∨ k = 5 ∨ k = 6 ∨ k = 7 ∨ k = 8 ∨ k = 9 ∨ k = 10 ∨ k = 11 ∨ k = 12 ∨ k = 13 ∨ k = 14 ∨ k = 15 by omega) with rfl | rfl | rfl | rfl | rfl | rfl | rfl | rfl | rfl | rfl | rfl | rfl | rfl | rfl | rfl | rfl <;> decide
abbrev sQ (k : Nat) : xNS := (8 + 3 * k, false, 0, 0, -1, 0, 0)
abbrev sP (k : Nat) : pNS := (8 + 3 * k, false, 0, 0, -1, 0)
def lQ (t : Nat → ClassId) (xa nw na rw : Nat) (qq : Nat → Nat → Nat) (no : Nat → Nat) (mk : Int32) : va_W := ([zO 7 xa [.ref nw, .ref na, .int 0], zA t 4 na 7 (fun j => some (qq j 0))] ++ [zO 2 nw [.ref rw, .int (nI 0), .int 0, .int 0, .int 0], zA t 3 rw 300 (fun _ => none)]) ++ wNs t qq nw no mk [(0, sQ 0), (1, sQ 1), (2, sQ 2), (3, sQ 3), (4, sQ 4), (5, sQ 5), (6, sQ 6)]
def lP (t : Nat → ClassId) (ma nb wy hd tk hli hst : Nat) (pq : Nat → Nat → Nat) (mk : Int32) : va_W := ([zA t 7 nb 7 (fun j => some (pq j 0))] ++ [zO 13 ma [.int 0, .int 0, .int 0, .int 0, .int 0, .int (nI 0), .ref nb, .ref wy, .ref hd, .ref tk], zA t 6 wy 300 (fun _ => none), zO 8 hd [.int 0, .int 0, .int 0, .int 0, .int 0, .null, .ref hli, .ref hst]]) ++ pNs t pq mk [(0, sP 0), (1, sP 1), (2, sP 2), (3, sP 3), (4, sP 4), (5, sP 5), (6, sP 6)]
theorem xd_sub {D : va_G} {cl : List vw_C} {A : Nat → Prop} {ws ws' : va_W} {H : Heap} (h : ws'.Sublist ws) (hP : va_P D cl ws H) (hD : va_D A ws) : va_P D cl ws' H ∧ va_D A ws' :=
  ⟨xd_P hP (fun _ hq => h.subset hq), xd_iff.mpr ⟨List.Nodup.sublist (h.map _) (xd_iff.mp hD).1, fun q hq => (xd_iff.mp hD).2 q (h.subset hq)⟩⟩
theorem xd_fl {α β : Type} {f : α → List β} {L : List α} {e : α} (h : e ∈ L) : (f e).Sublist (L.flatMap f) := by
  induction L with
  | nil => cases h
  | cons a L ih =>
    rw [List.flatMap_cons]
    rcases List.mem_cons.mp h with rfl | h
    · exact List.sublist_append_left _ _
    · exact (ih h).trans (List.sublist_append_right _ _)
theorem x7 {α : Type} (f : Nat → α) {k : Nat} (hk : k < 7) : (k, f k) ∈ [(0, f 0), (1, f 1), (2, f 2), (3, f 3), (4, f 4), (5, f 5), (6, f 6)] := by
  rcases (show k = 0 ∨ k = 1 ∨ k = 2 ∨ k = 3 ∨ k = 4 ∨ k = 5 ∨ k = 6 by omega) with rfl | rfl | rfl | rfl | rfl | rfl | rfl <;> simp
section XLw
variable {D : va_G} {A : Nat → Prop} {H : Heap} {wr : va_W} {t : Nat → ClassId} {xa nw na rw ou : Nat} {qq : Nat → Nat → Nat} {no : Nat → Nat} {mk : Int32} {ma nb wy hd tk hli hst : Nat} {pq : Nat → Nat → Nat}
theorem lQ_0 (hP : va_P D vwCl (wr ++ (lQ t xa nw na rw qq no mk ++ [zJ t ou 1 (fun _ => 0)])) H) (hD : va_D A (wr ++ (lQ t xa nw na rw qq no mk ++ [zJ t ou 1 (fun _ => 0)]))) : va_P D vwCl (wr ++ [zO 7 xa [.ref nw, .ref na, .int 0], zA t 4 na 7 (fun j => some (qq j 0)), zO 2 nw [.ref rw, .int 0, .int 0, .int 0, .int 0], zA t 3 rw 300 (fun _ => none), zJ t ou 1 (fun _ => 0)]) H ∧ va_D A (wr ++ [zO 7 xa [.ref nw, .ref na, .int 0], zA t 4 na 7 (fun j => some (qq j 0)), zO 2 nw [.ref rw, .int 0, .int 0, .int 0, .int 0], zA t 3 rw 300 (fun _ => none), zJ t ou 1 (fun _ => 0)]) := by
  refine xd_sub (List.Sublist.append_left ?_ wr) hP hD
  show (([zO 7 xa [.ref nw, .ref na, .int 0], zA t 4 na 7 (fun j => some (qq j 0))] ++ [zO 2 nw [.ref rw, .int (nI 0), .int 0, .int 0, .int 0], zA t 3 rw 300 (fun _ => none)]) ++ [zJ t ou 1 (fun _ => 0)]).Sublist ((([zO 7 xa [.ref nw, .ref na, .int 0], zA t 4 na 7 (fun j => some (qq j 0))] ++ [zO 2 nw [.ref rw, .int (nI 0), .int 0, .int 0, .int 0], zA t 3 rw 300 (fun _ => none)]) ++ wNs t qq nw no mk [(0, sQ 0), (1, sQ 1), (2, sQ 2), (3, sQ 3), (4, sQ 4), (5, sQ 5), (6, sQ 6)]) ++ [zJ t ou 1 (fun _ => 0)])
  exact List.Sublist.append_right (List.sublist_append_left _ _) _
theorem lQ_k {k : Nat} (hk : k < 7) (hP : va_P D vwCl (wr ++ (lQ t xa nw na rw qq no mk ++ [zJ t ou 1 (fun _ => 0)])) H) (hD : va_D A (wr ++ (lQ t xa nw na rw qq no mk ++ [zJ t ou 1 (fun _ => 0)]))) : va_P D vwCl (wr ++ [zO 7 xa [.ref nw, .ref na, .int 0], zA t 4 na 7 (fun j => some (qq j 0)), zO 2 nw [.ref rw, .int 0, .int 0, .int 0, .int 0], zA t 3 rw 300 (fun _ => none), zO 3 (qq k 0) [.int (nI k), .ref nw, .int 0, .int 0, .int 0, .ref ((qq k 1)), .ref ((qq k 7)), .ref ((qq k 11)), .int 1, .int 0, .int 0, .int (nI (8 + 3 * k)), .int ((-1)), .int 0, .ref ((qq k 15))], zO 5 (qq k 1) [.ref ((qq k 2)), .ref ((qq k 3)), .ref ((qq k 4)), .ref ((qq k 5)), .ref ((qq k 6)), .int 1], zJ t (qq k 2) 32 (fun _ => 1099511627776), zI t (qq k 3) 8 (fun _ => 0), zJ t (qq k 4) 8 (fun _ => 0), zI t (qq k 5) 4 (xm 1), zI t (qq k 6) 4 (xm mk), zO 4 (qq k 7) [.ref ((qq k 8)), .ref ((qq k 9)), .ref ((qq k 10))], zI t (qq k 8) 32 (fun _ => 0), zI t (qq k 9) 32 (fun _ => 0), zA t 2 (qq k 10) 32 (fun _ => none), zO 4 (qq k 11) [.ref ((qq k 12)), .ref ((qq k 13)), .ref ((qq k 14))], zI t (qq k 12) 64 (fun _ => 0), zI t (qq k 13) 64 (fun _ => 0), zA t 2 (qq k 14) 64 (fun _ => none), zO 0 (qq k 15) [.ref ((no k)), .int 0, .ref ((qq k 16)), .ref ((qq k 20)), .ref ((qq k 24)), .int 0, .int 0, .int 0], zO 4 (qq k 16) [.ref ((qq k 17)), .ref ((qq k 18)), .ref ((qq k 19))], zI t (qq k 17) 32 (fun _ => 0), zI t (qq k 18) 32 (fun _ => 0), zA t 2 (qq k 19) 32 (fun _ => none), zO 4 (qq k 20) [.ref ((qq k 21)), .ref ((qq k 22)), .ref ((qq k 23))], zI t (qq k 21) 4 (fun _ => 0), zI t (qq k 22) 4 (fun _ => 0), zA t 2 (qq k 23) 4 (fun _ => none), zA t 2 (qq k 24) 16 (fun _ => none), zJ t ou 1 (fun _ => 0)]) H ∧ va_D A (wr ++ [zO 7 xa [.ref nw, .ref na, .int 0], zA t 4 na 7 (fun j => some (qq j 0)), zO 2 nw [.ref rw, .int 0, .int 0, .int 0, .int 0], zA t 3 rw 300 (fun _ => none), zO 3 (qq k 0) [.int (nI k), .ref nw, .int 0, .int 0, .int 0, .ref ((qq k 1)), .ref ((qq k 7)), .ref ((qq k 11)), .int 1, .int 0, .int 0, .int (nI (8 + 3 * k)), .int ((-1)), .int 0, .ref ((qq k 15))], zO 5 (qq k 1) [.ref ((qq k 2)), .ref ((qq k 3)), .ref ((qq k 4)), .ref ((qq k 5)), .ref ((qq k 6)), .int 1], zJ t (qq k 2) 32 (fun _ => 1099511627776), zI t (qq k 3) 8 (fun _ => 0), zJ t (qq k 4) 8 (fun _ => 0), zI t (qq k 5) 4 (xm 1), zI t (qq k 6) 4 (xm mk), zO 4 (qq k 7) [.ref ((qq k 8)), .ref ((qq k 9)), .ref ((qq k 10))], zI t (qq k 8) 32 (fun _ => 0), zI t (qq k 9) 32 (fun _ => 0), zA t 2 (qq k 10) 32 (fun _ => none), zO 4 (qq k 11) [.ref ((qq k 12)), .ref ((qq k 13)), .ref ((qq k 14))], zI t (qq k 12) 64 (fun _ => 0), zI t (qq k 13) 64 (fun _ => 0), zA t 2 (qq k 14) 64 (fun _ => none), zO 0 (qq k 15) [.ref ((no k)), .int 0, .ref ((qq k 16)), .ref ((qq k 20)), .ref ((qq k 24)), .int 0, .int 0, .int 0], zO 4 (qq k 16) [.ref ((qq k 17)), .ref ((qq k 18)), .ref ((qq k 19))], zI t (qq k 17) 32 (fun _ => 0), zI t (qq k 18) 32 (fun _ => 0), zA t 2 (qq k 19) 32 (fun _ => none), zO 4 (qq k 20) [.ref ((qq k 21)), .ref ((qq k 22)), .ref ((qq k 23))], zI t (qq k 21) 4 (fun _ => 0), zI t (qq k 22) 4 (fun _ => 0), zA t 2 (qq k 23) 4 (fun _ => none), zA t 2 (qq k 24) 16 (fun _ => none), zJ t ou 1 (fun _ => 0)]) := by
  refine xd_sub (List.Sublist.append_left ?_ wr) hP hD
  show ((([zO 7 xa [.ref nw, .ref na, .int 0], zA t 4 na 7 (fun j => some (qq j 0))] ++ [zO 2 nw [.ref rw, .int (nI 0), .int 0, .int 0, .int 0], zA t 3 rw 300 (fun _ => none)]) ++ wN t (qq k) nw (no k) k mk (sQ k)) ++ [zJ t ou 1 (fun _ => 0)]).Sublist ((([zO 7 xa [.ref nw, .ref na, .int 0], zA t 4 na 7 (fun j => some (qq j 0))] ++ [zO 2 nw [.ref rw, .int (nI 0), .int 0, .int 0, .int 0], zA t 3 rw 300 (fun _ => none)]) ++ wNs t qq nw no mk [(0, sQ 0), (1, sQ 1), (2, sQ 2), (3, sQ 3), (4, sQ 4), (5, sQ 5), (6, sQ 6)]) ++ [zJ t ou 1 (fun _ => 0)])
  exact List.Sublist.append_right (List.Sublist.append_left (xd_fl (f := fun e : Nat × xNS => wN t (qq e.1) nw (no e.1) e.1 mk e.2) (x7 sQ hk)) _) _
theorem lP_0 (hP : va_P D vwCl (lP t ma nb wy hd tk hli hst pq mk ++ wr) H) (hD : va_D A (lP t ma nb wy hd tk hli hst pq mk ++ wr)) : va_P D vwCl (wr ++ [zO 13 ma [.int 0, .int 0, .int 0, .int 0, .int 0, .int 0, .ref nb, .ref wy, .ref hd, .ref tk]]) H ∧ va_D A (wr ++ [zO 13 ma [.int 0, .int 0, .int 0, .int 0, .int 0, .int 0, .ref nb, .ref wy, .ref hd, .ref tk]]) := by
  refine xd_sub (List.Sublist.append_left ?_ wr) (xd_P hP (fun _ h => List.perm_append_comm.mem_iff.mp h)) (xd_perm hD List.perm_append_comm)
  exact List.Sublist.cons _ (List.Sublist.cons_cons _ (List.nil_sublist _))
theorem lP_k {k : Nat} (hk : k < 7) (hP : va_P D vwCl (lP t ma nb wy hd tk hli hst pq mk ++ wr) H) (hD : va_D A (lP t ma nb wy hd tk hli hst pq mk ++ wr)) : va_P D vwCl (wr ++ [zO 13 ma [.int 0, .int 0, .int 0, .int 0, .int 0, .int 0, .ref nb, .ref wy, .ref hd, .ref tk], zA t 7 nb 7 (fun j => some (pq j 0)), zO 9 (pq k 0) [.int (nI k), .int 1, .int 0, .int 0, .int 0, .int 0, .int (nI (8 + 3 * k)), .int ((-1)), .int 0, .int 0, .ref ((pq k 1)), .ref ((pq k 7)), .ref ((pq k 11)), .ref ((pq k 15)), .ref ((pq k 19)), .ref ((pq k 23)), .int 0], zO 11 (pq k 1) [.int 0, .ref ((pq k 2)), .ref ((pq k 3)), .ref ((pq k 4)), .ref ((pq k 5)), .ref ((pq k 6)), .int 1], zJ t (pq k 2) 32 (fun _ => 1099511627776), zJ t (pq k 3) 8 (fun _ => 0), zI t (pq k 4) 8 (fun _ => 0), zI t (pq k 5) 4 (xm 1), zI t (pq k 6) 4 (xm mk), zO 10 (pq k 7) [.ref ((pq k 8)), .ref ((pq k 9)), .ref ((pq k 10)), .int 0], zI t (pq k 8) 8 (fun _ => 0), zI t (pq k 9) 8 (fun _ => 0), zA t 5 (pq k 10) 8 (fun _ => none), zO 10 (pq k 11) [.ref ((pq k 12)), .ref ((pq k 13)), .ref ((pq k 14)), .int 0], zI t (pq k 12) 8 (fun _ => 0), zI t (pq k 13) 8 (fun _ => 0), zA t 5 (pq k 14) 8 (fun _ => none), zO 10 (pq k 15) [.ref ((pq k 16)), .ref ((pq k 17)), .ref ((pq k 18)), .int 0], zI t (pq k 16) 8 (fun _ => 0), zI t (pq k 17) 8 (fun _ => 0), zA t 5 (pq k 18) 8 (fun _ => none), zO 10 (pq k 19) [.ref ((pq k 20)), .ref ((pq k 21)), .ref ((pq k 22)), .int 0], zI t (pq k 20) 8 (fun _ => 0), zI t (pq k 21) 8 (fun _ => 0), zA t 5 (pq k 22) 8 (fun _ => none), zA t 5 (pq k 23) 16 (fun _ => none)]) H ∧ va_D A (wr ++ [zO 13 ma [.int 0, .int 0, .int 0, .int 0, .int 0, .int 0, .ref nb, .ref wy, .ref hd, .ref tk], zA t 7 nb 7 (fun j => some (pq j 0)), zO 9 (pq k 0) [.int (nI k), .int 1, .int 0, .int 0, .int 0, .int 0, .int (nI (8 + 3 * k)), .int ((-1)), .int 0, .int 0, .ref ((pq k 1)), .ref ((pq k 7)), .ref ((pq k 11)), .ref ((pq k 15)), .ref ((pq k 19)), .ref ((pq k 23)), .int 0], zO 11 (pq k 1) [.int 0, .ref ((pq k 2)), .ref ((pq k 3)), .ref ((pq k 4)), .ref ((pq k 5)), .ref ((pq k 6)), .int 1], zJ t (pq k 2) 32 (fun _ => 1099511627776), zJ t (pq k 3) 8 (fun _ => 0), zI t (pq k 4) 8 (fun _ => 0), zI t (pq k 5) 4 (xm 1), zI t (pq k 6) 4 (xm mk), zO 10 (pq k 7) [.ref ((pq k 8)), .ref ((pq k 9)), .ref ((pq k 10)), .int 0], zI t (pq k 8) 8 (fun _ => 0), zI t (pq k 9) 8 (fun _ => 0), zA t 5 (pq k 10) 8 (fun _ => none), zO 10 (pq k 11) [.ref ((pq k 12)), .ref ((pq k 13)), .ref ((pq k 14)), .int 0], zI t (pq k 12) 8 (fun _ => 0), zI t (pq k 13) 8 (fun _ => 0), zA t 5 (pq k 14) 8 (fun _ => none), zO 10 (pq k 15) [.ref ((pq k 16)), .ref ((pq k 17)), .ref ((pq k 18)), .int 0], zI t (pq k 16) 8 (fun _ => 0), zI t (pq k 17) 8 (fun _ => 0), zA t 5 (pq k 18) 8 (fun _ => none), zO 10 (pq k 19) [.ref ((pq k 20)), .ref ((pq k 21)), .ref ((pq k 22)), .int 0], zI t (pq k 20) 8 (fun _ => 0), zI t (pq k 21) 8 (fun _ => 0), zA t 5 (pq k 22) 8 (fun _ => none), zA t 5 (pq k 23) 16 (fun _ => none)]) := by
  have h1 : ([zA t 7 nb 7 (fun j => some (pq j 0)), zO 13 ma [.int 0, .int 0, .int 0, .int 0, .int 0, .int 0, .ref nb, .ref wy, .ref hd, .ref tk]] ++ pN t (pq k) k mk (sP k)).Sublist (lP t ma nb wy hd tk hli hst pq mk) := by
    show (zA t 7 nb 7 (fun j => some (pq j 0)) :: zO 13 ma [.int 0, .int 0, .int 0, .int 0, .int 0, .int 0, .ref nb, .ref wy, .ref hd, .ref tk] :: pN t (pq k) k mk (sP k)).Sublist (zA t 7 nb 7 (fun j => some (pq j 0)) :: zO 13 ma [.int 0, .int 0, .int 0, .int 0, .int 0, .int 0, .ref nb, .ref wy, .ref hd, .ref tk] :: ([zA t 6 wy 300 (fun _ => none), zO 8 hd [.int 0, .int 0, .int 0, .int 0, .int 0, .null, .ref hli, .ref hst]] ++ pNs t pq mk [(0, sP 0), (1, sP 1), (2, sP 2), (3, sP 3), (4, sP 4), (5, sP 5), (6, sP 6)]))
    exact List.Sublist.cons_cons _ (List.Sublist.cons_cons _ ((xd_fl (f := fun e : Nat × pNS => pN t (pq e.1) e.1 mk e.2) (x7 sP hk)).trans (List.sublist_append_right _ _)))
  obtain ⟨hP, hD⟩ := xd_sub (List.Sublist.append_left h1 wr) (xd_P hP (fun _ h => List.perm_append_comm.mem_iff.mp h)) (xd_perm hD List.perm_append_comm)
  have h2 : (wr ++ ([zA t 7 nb 7 (fun j => some (pq j 0)), zO 13 ma [.int 0, .int 0, .int 0, .int 0, .int 0, .int 0, .ref nb, .ref wy, .ref hd, .ref tk]] ++ pN t (pq k) k mk (sP k))).Perm (wr ++ [zO 13 ma [.int 0, .int 0, .int 0, .int 0, .int 0, .int 0, .ref nb, .ref wy, .ref hd, .ref tk], zA t 7 nb 7 (fun j => some (pq j 0)), zO 9 (pq k 0) [.int (nI k), .int 1, .int 0, .int 0, .int 0, .int 0, .int (nI (8 + 3 * k)), .int ((-1)), .int 0, .int 0, .ref ((pq k 1)), .ref ((pq k 7)), .ref ((pq k 11)), .ref ((pq k 15)), .ref ((pq k 19)), .ref ((pq k 23)), .int 0], zO 11 (pq k 1) [.int 0, .ref ((pq k 2)), .ref ((pq k 3)), .ref ((pq k 4)), .ref ((pq k 5)), .ref ((pq k 6)), .int 1], zJ t (pq k 2) 32 (fun _ => 1099511627776), zJ t (pq k 3) 8 (fun _ => 0), zI t (pq k 4) 8 (fun _ => 0), zI t (pq k 5) 4 (xm 1), zI t (pq k 6) 4 (xm mk), zO 10 (pq k 7) [.ref ((pq k 8)), .ref ((pq k 9)), .ref ((pq k 10)), .int 0], zI t (pq k 8) 8 (fun _ => 0), zI t (pq k 9) 8 (fun _ => 0), zA t 5 (pq k 10) 8 (fun _ => none), zO 10 (pq k 11) [.ref ((pq k 12)), .ref ((pq k 13)), .ref ((pq k 14)), .int 0], zI t (pq k 12) 8 (fun _ => 0), zI t (pq k 13) 8 (fun _ => 0), zA t 5 (pq k 14) 8 (fun _ => none), zO 10 (pq k 15) [.ref ((pq k 16)), .ref ((pq k 17)), .ref ((pq k 18)), .int 0], zI t (pq k 16) 8 (fun _ => 0), zI t (pq k 17) 8 (fun _ => 0), zA t 5 (pq k 18) 8 (fun _ => none), zO 10 (pq k 19) [.ref ((pq k 20)), .ref ((pq k 21)), .ref ((pq k 22)), .int 0], zI t (pq k 20) 8 (fun _ => 0), zI t (pq k 21) 8 (fun _ => 0), zA t 5 (pq k 22) 8 (fun _ => none), zA t 5 (pq k 23) 16 (fun _ => none)]) := List.Perm.append_left wr (List.Perm.swap _ _ _)
  exact ⟨xd_P hP (fun _ h => h2.mem_iff.mpr h), xd_perm hD h2⟩
end XLw
theorem d_W_cell_0 : decode c_W_cell 0 = .ok (.iload_n 1, 1) := by decide +kernel
theorem d_W_cell_1 : decode c_W_cell 1 = .ok (.aload_n 0, 1) := by decide +kernel
theorem d_W_cell_2 : decode c_W_cell 2 = .ok (.arraylength, 1) := by decide +kernel
theorem d_W_cell_3 : decode c_W_cell 3 = .ok (.if_icmp .ge 9, 3) := by decide +kernel
theorem d_W_cell_6 : decode c_W_cell 6 = .ok (.aload_n 0, 1) := by decide +kernel
theorem d_W_cell_7 : decode c_W_cell 7 = .ok (.iload_n 1, 1) := by decide +kernel
theorem d_W_cell_8 : decode c_W_cell 8 = .ok (.iaload, 1) := by decide +kernel
theorem d_W_cell_9 : decode c_W_cell 9 = .ok (.goto 4, 3) := by decide +kernel
theorem d_W_cell_12 : decode c_W_cell 12 = .ok (.iconst 0, 1) := by decide +kernel
theorem d_W_cell_13 : decode c_W_cell 13 = .ok (.ireturn, 1) := by decide +kernel
set_option maxHeartbeats 4000000 in
/-- the script's first int -/
theorem C_W_cell (l : Launch) (D : va_G) (t : Nat → ClassId) (b L : Nat) (xs : Nat → Int32) (hL : L ≤ 8) : Met l y_W_cell [.code y_W_cell c_W_cell 2 (Option.some FieldType.int)] ({ frames := 0, cells := 0, slots := 0, locals := 0 }) (va_Pc [.ref b, .int 0] (fun U => xK D vwCl (xTY t) U ∧ va_X b L xs U U.heap)) (xr_Q (some (.int (if 0 < L then xs 0 else 0)))) 0 0 (fun _ => False) := by
  refine Met.ofW (cc := c_W_cell) (maxL := 2) (ret := Option.some FieldType.int) (by decide) rfl ?_
  intro p e s m args below meth c s₁ B hml hv
  obtain ⟨rfl, hK, hX⟩ := hv
  have hl := lv_entry [.ref b, .int 0] (n := 2) (Nat.le_of_ble_eq_true rfl)
  rw [lg_entry_eq]
  generalize (lg_sl [.ref b, .int 0] ++ List.replicate (2 - (lg_sl [.ref b, .int 0]).length) Slot.unset).toArray = ls at hl ⊢
  have hx := B.exec
  have hb := B.bytes
  have hr := B.returns
  have hlocks := B.notSynchronized
  have hbl : b < s.heap.size := by
    obtain ⟨scr, h1, -⟩ := hX
    exact (Array.getElem?_eq_some_iff.mp h1).1
  have hbA : ¬ (fun _ : Nat => False) b := fun h => h
  have hS : va_S (fun _ : Nat => False) s.heap s.heap [] := va_S.rf
  have hl : lv_has ls 2 [(0, .ref b), (1, .int 0)] := hl
  refine lv_iload_n hx hb d_W_cell_0 rfl (lv_at hl 1 rfl) ?_
  refine lv_aload_n hx hb d_W_cell_1 rfl (lv_at hl 0 rfl) ?_
  refine va_slen hx hb hX hbl hbA hS d_W_cell_2 ?_
  refine lv_icmp_ge (tgt := 12) hx hb d_W_cell_3 (by decide) (fun c_1 => ?_) (fun c_1 => ?_)
  · have h0 : ¬ 0 < L := fun h9 => absurd c_1 (nI_ge h9 (by omega))
    rw [if_neg h0]
    refine lv_iconst (v := 0) hx hb d_W_cell_12 (by decide) ?_
    exact W.iret hx hb hr (fun t ht _ => ⟨rfl, ht⟩) (fun q h => by cases h) d_W_cell_13
  · have h0 : 0 < L := by
      rcases Nat.eq_zero_or_pos L with h9 | h9
      · exact absurd (show nI L ≤ 0 by rw [h9]; decide) c_1
      · exact h9
    rw [if_pos h0]
    refine lv_aload_n hx hb d_W_cell_6 rfl (lv_at hl 0 rfl) ?_
    refine lv_iload_n hx hb d_W_cell_7 rfl (lv_at hl 1 rfl) ?_
    refine va_sld hx hb hX hbl hbA hS (vp_in_nI (n := 0) h0 (by omega)) d_W_cell_8 ?_
    refine lv_goto (tgt := 13) hx hb d_W_cell_9 (by decide) ?_
    exact W.iret hx hb hr (fun t ht _ => ⟨rfl, ht⟩) (fun q h => by cases h) d_W_cell_13
