/-! THE MACHINE AT THE LAW'S ENTRY: what stays true of its tables -/
theorem ev_cls : ∀ q ∈ vwCl, Cond.instantiable q.1 q.2.2 ∈ lw_tbl ∧ ∀ w ∈ u_ws q.1 q.2.1 q.2.2, w ∈ lw_tbl := by decide +kernel
theorem ev_nest : ∀ q ∈ k_nests, Cond.methodLinkNest q.1 q.2.1 q.2.2.1 q.2.2.2 ∈ lw_tbl := by decide +kernel
theorem ev_cast : ∀ q ∈ k_casts, Cond.castable q.1 q.2 ∈ lw_tbl := by decide +kernel
theorem ev_decl : ∀ q ∈ k_decls, Cond.declares q ∈ lw_tbl := by decide +kernel
theorem ev_strs : ∀ q ∈ k_strs, Cond.stringRef RX11 q.1 q.2 ∈ lw_tbl := by decide +kernel
theorem ev_arr {args : Array Value} {s : State} {ty : FieldType} (hw : (Cond.arrayClass ty).before args s = true) : ∃ c : ClassId, s.vm.findClass ("[" ++ ty.toString) = some c ∧ ArrOfT s c ty := by
  obtain ⟨c, k, comp, h1, h2, h3⟩ := Cond.arrayClass_spec hw
  exact ⟨c, h1, fun n z => ⟨fun k h => (by cases h), k, h2, comp, h3⟩⟩
