/-! THE MACHINE AT THE LAW'S ENTRY: what stays true of its tables -/
theorem ev_cls : ∀ q ∈ vwCl, Cond.instantiable q.1 q.2.2 ∈ lw_tbl ∧ ∀ w ∈ u_ws q.1 q.2.1 q.2.2, w ∈ lw_tbl := by decide +kernel
theorem ev_nest : ∀ q ∈ k_nests, Cond.methodLinkNest q.1 q.2.1 q.2.2.1 q.2.2.2 ∈ lw_tbl := by decide +kernel
theorem ev_cast : ∀ q ∈ k_casts, Cond.castable q.1 q.2 ∈ lw_tbl := by decide +kernel
theorem ev_decl : ∀ q ∈ k_decls, Cond.declares q ∈ lw_tbl := by decide +kernel
theorem ev_strs : ∀ q ∈ k_strs, Cond.stringRef RX11 q.1 q.2 ∈ lw_tbl := by decide +kernel
theorem ev_arr {args : Array Value} {s : State} {ty : FieldType} (hw : (Cond.arrayClass ty).before args s = true) : ∃ c : ClassId, s.vm.findClass ("[" ++ ty.toString) = some c ∧ ArrOfT s c ty := by
  obtain ⟨c, k, comp, h1, h2, h3⟩ := Cond.arrayClass_spec hw
  exact ⟨c, h1, fun n z => ⟨fun k h => (by cases h), k, h2, comp, h3⟩⟩
/-! .. of the given and the narrow words -/
theorem en_strs : ∀ q ∈ k_strs, Cond.exactly (.string RX11 q.1) "java/lang/String" ∈ flatC (Jvm.Cond.and given_1 narrow_1) := by decide +kernel
theorem en_nc : ∀ q ∈ k_ncasts, Cond.not (.castable q.1 q.2) ∈ flatC (Jvm.Cond.and given_1 narrow_1) := by decide +kernel
def en_dc : Term := .static k_AL "DEFAULTCAPACITY_EMPTY_ELEMENTDATA" k_OA
def en_ws : List Cond := [.isRef (.mirror k_OA), .isRef (.static Bundle.tN "UNASSIGNED_STACK" Bundle.steD), .isRef (.static Bundle.tN "SUPPRESSED_SENTINEL" Bundle.listD), .arrayOf en_dc (.object "java/lang/Object"), .eq (.length en_dc) (.int 0)]
theorem en_in : ∀ w ∈ en_ws, w ∈ flatC (Jvm.Cond.and given_1 narrow_1) := by decide +kernel
def et_ws : List Cond := [.laysStatic Bundle.tN "UNASSIGNED_STACK" Bundle.steD, .laysStatic Bundle.tN "SUPPRESSED_SENTINEL" Bundle.listD, .initialized Bundle.tN, .laysStatic k_AL "DEFAULTCAPACITY_EMPTY_ELEMENTDATA" k_OA, .initialized k_AL, .arrayClass .int, .arrayOver (.object "java/lang/Object"), .declares ⟨"java/lang/Object", "getClass", "()Ljava/lang/Class;"⟩]
theorem et_in : ∀ w ∈ et_ws, w ∈ lw_tbl := by decide +kernel
theorem env_K {args : Array Value} {s : State} (hts : ∀ w ∈ lw_tbl, w.before args s = true) : ∃ (D : va_G) (cI cQ : ClassId), va_K D vwCl [(cI, .int), (cI, .int), (cI, .int), (cQ, .object "java/lang/Object")] s := by
  have hD : ∀ c : Nat, ∃ p : ClassId × (Nat → Nat), ∀ q, vwCl[c]? = some q → u_Kn s q.1 q.2.1 q.2.2 p.1 p.2 := by
    intro c
    cases e : vwCl[c]? with
    | none => exact ⟨(0, fun _ => 0), fun q h => by cases h⟩
    | some q =>
      obtain ⟨h1, h2⟩ := ev_cls q (List.mem_of_getElem? e)
      obtain ⟨cC, iS, h3⟩ := u_known hts h2 (hts _ h1)
      exact ⟨(cC, iS), fun q' h => by cases h; exact h3⟩
  obtain ⟨cI, i1, i2⟩ := ev_arr (hts _ (et_in (.arrayClass .int) (by decide +kernel)))
  obtain ⟨comp, cQ, kQ, q1, -, q2, q3, q4⟩ := Cond.arrayOver_spec (hts _ (et_in (.arrayOver (.object "java/lang/Object")) (by decide +kernel)))
  refine ⟨(fun c => (Classical.choose (hD c)).1, fun c => (Classical.choose (hD c)).2), cI, cQ, fun c q hq => Classical.choose_spec (hD c) q hq, fun k q hk => ?_⟩
  match k, hk with
  | 0, hk => cases hk; exact ⟨i2, i1⟩
  | 1, hk => cases hk; exact ⟨i2, i1⟩
  | 2, hk => cases hk; exact ⟨i2, i1⟩
  | 3, hk => cases hk; exact ⟨fun n z => ⟨fun k h => (by cases h), kQ, q2, comp, q3⟩, kQ, comp, q2, q3, q1, q4⟩
  | k + 4, hk => cases hk
theorem env_of {args : Array Value} {s : State} {b L : Nat} {xs : Nat → Int32} (hts : ∀ w ∈ lw_tbl, w.before args s = true) (hg : (Jvm.Cond.and given_1 narrow_1).before args s = true) (hX : va_X b L xs s s.heap) (hb : b < s.heap.size) :
    ∃ G : k_G, k_H0 G = s.heap ∧ k_fl G = 0 ∧ k_fh G = 0 ∧ k_sb G = b ∧ k_sL G = L ∧ k_sx G = xs ∧ k_z0 G < (k_H0 G).size ∧ k_E G s := by
  have hf := flat_of_before _ hg
  obtain ⟨D, cI, cQ, hK⟩ := env_K hts
  have hA : ∀ a : Nat, a < s.heap.size → ¬ (s.heap.size ≤ a) := fun a h => Nat.not_le.mpr h
  obtain ⟨z0, e0, hT⟩ := va_Tof (tm := en_dc) (ty := .object "java/lang/Object") (N := 0) (f := fun _ => .null) (A := fun q => s.heap.size ≤ q) (by decide) (hf _ (en_in _ (by decide +kernel))) (va_eqt (hf _ (en_in (.eq (.length en_dc) (.int 0)) (by decide +kernel)))) (fun j hj => by omega) hA
  have hz : z0 < s.heap.size := by
    obtain ⟨cell, h1, -⟩ := hT
    exact (Array.getElem?_eq_some_iff.mp h1).1
  obtain ⟨mi, hmi⟩ := va_Mi.of (hf _ (en_in (.isRef (.mirror k_OA)) (by decide +kernel)))
  refine ⟨(D, (cI, cI, cI, cQ), (s.heap, 0, 0), (z0, mi), (b, L, xs)), rfl, rfl, rfl, rfl, rfl, rfl, hz, hK, fun q hq => ?_, ?_, ?_, ?_, hT, fun q hq => ?_, fun q hq => ?_, fun q hq => ?_, hX, hb, ?_, hmi, ?_, fun q hq => ?_⟩
  · obtain ⟨a, c, cell, k, h1, -⟩ := Cond.exactly_spec (hf _ (en_strs q hq))
    exact ⟨a, vk_R.of (hts _ (ev_strs q hq)) h1⟩
  · exact vx_Zqof (hts _ (et_in _ (by decide +kernel))) (hts _ (et_in _ (by decide +kernel))) (hf _ (en_in _ (by decide +kernel))) hA
  · exact vx_Zqof (hts _ (et_in _ (by decide +kernel))) (hts _ (et_in _ (by decide +kernel))) (hf _ (en_in _ (by decide +kernel))) hA
  · exact va_Zof (hts _ (et_in _ (by decide +kernel))) (hts _ (et_in _ (by decide +kernel))) e0 hA
  · exact va_Nw.of rfl (hts _ (ev_nest q hq))
  · exact va_Nw.of rfl (hts _ (ev_cast q hq))
  · exact va_Nc.of (hf _ (en_nc q hq))
  · exact va_Dc.of (hts _ (et_in _ (by decide +kernel)))
  · exact va_AO.of (hts _ (et_in _ (by decide +kernel)))
  · exact va_Nw.of rfl (hts _ (ev_decl q hq))
