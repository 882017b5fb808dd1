/-! what constructors need: an array's class is the one that the table has -/
theorem kz_cI {D : va_G} {cl : List vw_C} {tys : List (ClassId × FieldType)} {s : State} {cA cI : ClassId} {ty : FieldType} (h2 : va_K D cl (tys ++ [(cA, ty)]) s) (h1 : va_K D cl tys s) (t0 : Nat) (ht : tys[t0]? = some (cI, ty)) (hn : ∀ C, ty ≠ .object C) : cA = cI := by
  have a := (h2.2 tys.length (cA, ty) (by simp)).2
  have b := (h1.2 t0 _ ht).2
  revert a b
  cases ty <;> intro a b <;> first | exact absurd rfl (hn _) | exact Option.some.inj (Eq.trans (Eq.symm a) b)
