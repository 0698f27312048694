/-! A TRANSACTION BEGINS; small makers -/
section SB
variable {G : k_G} {l : Launch}
theorem c_X9_start (ok : k_ok G l) {h : k_H} {t aL aR cap capR : Nat} {v g w : Int32} {f2 f3 f4 f5 f6 f7 : k_V} {xs ys : List Nat} (ht : h.1 t = some (k_o 12 [vR (some aL), vR (some aR), f2, f3, f4, f5, f6, f7])) (hl : h.1 aL = some (k_l xs cap)) (hr : h.1 aR = some (k_l ys capR)) (hne : aR ≠ aL) (hw : k_bl w) :
    k_ctv (tX9_start G l) [vR (some t), vI v, vI g, vI w] h (fun h' => h' = k_up (k_up (k_up h aL (k_l [] cap)) aR (k_l [] capR)) t (k_o 12 [vR (some aL), vR (some aR), vI 1, vI w, vI v, vI g, vI (-2147483648), vI 0])) := by
  have tl : t ≠ aL := fun z => by subst z; rw [hl] at ht; cases ht
  have tr : t ≠ aR := fun z => by subst z; rw [hr] at ht; cases ht
  have ht1 : (k_up h aL (k_l [] cap)).1 t = some (k_o 12 [vR (some aL), vR (some aR), f2, f3, f4, f5, f6, f7]) := by rw [k_up_ne _ _ tl]; exact ht
  have hr1 : (k_up h aL (k_l [] cap)).1 aR = some (k_l ys capR) := by rw [k_up_ne _ _ hne]; exact hr
  have ht2 : (k_up (k_up h aL (k_l [] cap)) aR (k_l [] capR)).1 t = some (k_o 12 [vR (some aL), vR (some aR), f2, f3, f4, f5, f6, f7]) := by rw [k_up_ne _ _ tr]; exact ht1
  refine k_ctv_of (eX9_start ok.2 (bX9_start_0 ht rfl (Or.inr ⟨rfl, _, _, hl⟩) (c_clear ok hl) ?_))
  rintro h1 hh
  rw [hh]
  refine bX9_start_7 ht1 rfl (Or.inr ⟨rfl, _, _, hr1⟩) (c_clear ok hr1) ?_
  rintro h1 hh
  rw [hh]
  refine bX9_start_14 ht2 rfl (bX9_start_19 (k_up_self _ _ _) hw rfl (bX9_start_24 (k_up_self _ _ _) rfl (bX9_start_29 (k_up_self _ _ _) rfl (bX9_start_34 (k_up_self _ _ _) rfl (bX9_start_40 (k_up_self _ _ _) rfl (bX9_start_45 ⟨rfl, ?_⟩))))))
  rw [k_uu, k_uu, k_uu, k_uu, k_uu]
  rfl
theorem c_X5_init (ok : k_ok G l) {h : k_H} {a : Nat} {lo : Int64} {sv : Int32} {u0 u1 u2 : k_V} (ho : h.1 a = some (k_o 8 [u0, u1, u2])) : k_ctv (tX5_init G l) [vR (some a), vJ lo, vI sv] h (fun h' => h' = k_up h a (k_o 8 [vJ lo, vI sv, vI 0])) := by
  refine k_ctv_of (eX5_init ok.2 (bX5_init_0 ho rfl (bX5_init_9 (k_up_self _ _ _) rfl (bX5_init_14 (k_up_self _ _ _) rfl (bX5_init_19 ⟨rfl, ?_⟩)))))
  rw [k_uu, k_uu]
  rfl
theorem c_X10_init (ok : k_ok G l) {h : k_H} {a : Nat} {k : Option Nat} {u0 u1 : k_V} (ho : h.1 a = some (k_o 13 [u0, u1])) : k_ctv (tX10_init G l) [vR (some a), vR k] h (fun h' => h' = k_up h a (k_o 13 [vR k, vI (-2147483648)])) := by
  refine k_ctv_of (eX10_init ok.2 (bX10_init_0 ho rfl (bX10_init_10 (k_up_self _ _ _) rfl (bX10_init_15 ⟨rfl, ?_⟩))))
  rw [k_uu]
  rfl
theorem c_X2_init (ok : k_ok G l) {h : k_H} {a : Nat} {n nm sh : Int32} {p : Option Nat} {u0 u1 u2 u3 : k_V} (ho : h.1 a = some (k_o 5 [u0, u1, u2, u3])) : k_ctv (tX2_init G l) [vR (some a), vI n, vR p, vI nm, vI sh] h (fun h' => h' = k_up h a (k_o 5 [vI n, vI sh, vR p, vI nm])) := by
  refine k_ctv_of (eX2_init ok.2 (bX2_init_0 ho rfl (bX2_init_9 (k_up_self _ _ _) rfl (bX2_init_14 (k_up_self _ _ _) rfl (bX2_init_19 (k_up_self _ _ _) rfl (bX2_init_25 ⟨rfl, ?_⟩))))))
  rw [k_uu, k_uu, k_uu]
  rfl
end SB
