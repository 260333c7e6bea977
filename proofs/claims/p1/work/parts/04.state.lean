/-! Cells by short words; small facts of numbers. -/
abbrev zO (k q : Nat) (fs : List Value) : Nat × va_E := (q, .inr (k, fs))
abbrev zI (t : Nat → ClassId) (q n : Nat) (f : Nat → Int32) : Nat × va_E := (q, .inl (t 0, n, .inl f))
abbrev zJ (t : Nat → ClassId) (q n : Nat) (f : Nat → Int64) : Nat × va_E := (q, .inl (t 1, n, .inr (.inl f)))
abbrev zA (t : Nat → ClassId) (k q n : Nat) (f : Nat → Option Nat) : Nat × va_E := (q, .inl (t k, n, .inr (.inr (.inr (.inr f)))))
abbrev xTY (t : Nat → ClassId) : List (ClassId × FieldType) := [(t 0, .int), (t 1, .long), (t 2, .object "QuorumStore$Value"), (t 3, .object "QuorumStore$Message"), (t 4, .object "QuorumStore$Node"), (t 5, .object "QuorumStoreModel$Value"), (t 6, .object "QuorumStoreModel$Message"), (t 7, .object "QuorumStoreModel$Node")]
theorem xk_ra {U : State} {c d : ClassId} {ty : FieldType} (h1 : va_RA U c ty) (h2 : va_RA U d ty) : c = d := by
  cases ty with
  | object C =>
    obtain ⟨_, _, _, _, _, e1⟩ := h1
    obtain ⟨_, _, _, _, _, e2⟩ := h2
    exact Option.some.inj (e1.symm.trans e2)
  | _ => exact Option.some.inj ((show U.vm.findClass _ = some c from h1).symm.trans h2)
/-- an array made now is of the kind that is known -/
theorem xk_arr {D : va_G} {cl : List vw_C} {tys : List (ClassId × FieldType)} {cA c0 : ClassId} {ty : FieldType} {s : State} {i : Nat} (h : va_K D cl (tys ++ [(cA, ty)]) s) (hi : tys[i]? = some (c0, ty)) : cA = c0 := by
  have h1 := (h.2 tys.length (cA, ty) (by simp)).2
  have h2 := (h.2 i (c0, ty) (by rw [List.getElem?_append_left (List.getElem?_eq_some_iff.mp hi).1]; exact hi)).2
  exact xk_ra h1 h2
/-- the place of a slot in a row of 4, 32 or 64 -/
theorem xv_and (x : Int32) {w : Nat} (hw : w = 4 ∨ w = 32 ∨ w = 64) : vp_in (x &&& (nI w - 1)) w := by
  rcases hw with rfl | rfl | rfl
  · exact pk_andIn x 2 (by decide) (by decide)
  · exact pk_andIn x 5 (by decide) (by decide)
  · exact pk_andIn x 6 (by decide) (by decide)
def xb (m k : Int32) : Int32 := if (m >>> (k &&& 31)) &&& 1 = 0 then 0 else 1
/-- an array with one number at its first place -/
def xm (x : Int32) : Nat → Int32 := fun j => if j = 0 then x else 0
/-- PEERS of the node k where the members are m -/
def xp (m k : Int32) : Int32 := m &&& (((1 : Int32) <<< (k &&& 31)) ^^^ (-1))
