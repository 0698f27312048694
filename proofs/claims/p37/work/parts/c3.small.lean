/-! DICE, TELLS, SILENT, LOSES, GOESFOR -/
section KLW
variable {G : k_G} {l : Launch} {y : MethodName} {cc : ByteArray} {mL : Nat} {rt : Option FieldType} {d : Nat} {h0 h h' : k_H} {pc : Nat} {lv : k_L} {st : List k_V} {r : k_R}
theorem k_sS {H : Heap} {locs : List Loc} (hp : k_hp G h H) (hl : ∀ q ∈ locs, k_we G q.base) : va_S (fun q => (k_H0 G).size ≤ q) (k_H0 G) H locs := ⟨hp.2.1.1, fun q h1 _ => hp.2.2.1 q h1, fun q hq => (hl q hq).1⟩
theorem j_sld {x : Int32} (hdg : decode cc pc = .ok (.iaload, 1)) (hi : vp_in x (k_sL G)) (K : k_J G l y cc mL rt d h0 h (pc + 1) lv (vI (k_sx G x.toNatClampNeg) :: st) h' r) : k_J G l y cc mL rt d h0 h pc lv (vI x :: vR (some (k_sb G)) :: st) h' r :=
  ⟨K.1, K.2.1, fun p e s m args below meth c C ht H locs k n ls hp hl hk hn hv => va_sld C.1 C.2.1 C.2.2.2.2.2.2.2.2.1.2.2.2.2.2.2.2.2.2.1 C.2.2.2.2.2.2.2.2.1.2.2.2.2.2.2.2.2.2.2.1 (fun z => absurd C.2.2.2.2.2.2.2.2.1.2.2.2.2.2.2.2.2.2.2.1 (Nat.not_lt.mpr z)) (k_sS hp hl) hi hdg (K.2.2 p e s m args below meth c C ht H locs k n ls hp hl hk hn hv)⟩
theorem j_slen (hdg : decode cc pc = .ok (.arraylength, 1)) (K : k_J G l y cc mL rt d h0 h (pc + 1) lv (vI (nI (k_sL G)) :: st) h' r) : k_J G l y cc mL rt d h0 h pc lv (vR (some (k_sb G)) :: st) h' r :=
  ⟨K.1, K.2.1, fun p e s m args below meth c C ht H locs k n ls hp hl hk hn hv => va_slen C.1 C.2.1 C.2.2.2.2.2.2.2.2.1.2.2.2.2.2.2.2.2.2.1 C.2.2.2.2.2.2.2.2.1.2.2.2.2.2.2.2.2.2.2.1 (fun z => absurd C.2.2.2.2.2.2.2.2.1.2.2.2.2.2.2.2.2.2.2.1 (Nat.not_lt.mpr z)) (k_sS hp hl) hdg (K.2.2 p e s m args below meth c C ht H locs k n ls hp hl hk hn hv)⟩
end KLW
section SMALL
variable {G : k_G} {l : Launch}
/-- dice(s, k): a number that isn't below 0; nothing changes -/
theorem t_dice (hfl : l.flags = flags0) {H : k_H} {k : Nat} (hk : k < 2 ^ 20) (hL : k_sL G < 2 ^ 31) : k_cti (tL_dice G l) [vR (some (k_sb G)), vI (nI k)] H (fun H' v => H' = H ∧ ∃ j : Nat, j < 2 ^ 31 ∧ v = nI j) := by
  have fin : ∀ v : Int32, jL_dice G l H H 32 [(0, vR (some (k_sb G))), (1, vI (nI k))] [vI v] H (.inl (some (vI (v &&& 2147483647)))) := fun v =>
    j_ldc (v := 2147483647) dL_dice_32 ki_L_8 (j_iand dL_dice_34 (j_iret dL_dice_35 rfl))
  have go : ∃ v : Int32, jL_dice G l H H 0 [(0, vR (some (k_sb G))), (1, vI (nI k))] [] H (.inl (some (vI (v &&& 2147483647)))) := by
    by_cases c : nI (k_sL G) ≤ nI k
    · exact ⟨_, j_iload_n dL_dice_0 rfl rfl (j_aload_n dL_dice_1 rfl rfl (j_slen dL_dice_2 (j_icmp_ge_t (tgt := 12) dL_dice_3 (by decide) c (j_ldc (v := 1726730681) dL_dice_12 ki_L_7 (j_iload_n dL_dice_14 rfl rfl (j_sipush (v := 449) dL_dice_15 (by decide) (j_iadd dL_dice_18 (j_imul dL_dice_19 (j_sipush (v := 853) dL_dice_20 (by decide) (j_iload_n dL_dice_23 rfl rfl (j_imul dL_dice_24 (j_iload_n dL_dice_25 rfl rfl (j_imul dL_dice_26 (j_iadd dL_dice_27 (j_sipush (v := 317) dL_dice_28 (by decide) (j_iadd dL_dice_31 (fin _)))))))))))))))))⟩
    · have hlt : k < k_sL G := by
        refine Classical.byContradiction fun z => c ((nI_leI hL (by omega)).mpr (by omega))
      exact ⟨_, j_iload_n dL_dice_0 rfl rfl (j_aload_n dL_dice_1 rfl rfl (j_slen dL_dice_2 (j_icmp_ge_f dL_dice_3 12 (by decide) c (j_aload_n dL_dice_6 rfl rfl (j_iload_n dL_dice_7 rfl rfl (j_sld dL_dice_8 (vp_in_nI hlt hL) (j_goto (tgt := 32) dL_dice_9 (by decide) (fin _))))))))⟩
  obtain ⟨v, J⟩ := go
  obtain ⟨j, hj, e⟩ := pk_andE v (m := 2147483647) 31 (by decide)
  exact ⟨H, _, k_CtOf (by decide +kernel) (Nat.le_of_ble_eq_true rfl) J hfl, rfl, j, hj, e⟩
theorem t_tells (hfl : l.flags = flags0) {H : k_H} {a : Nat} {x y z : Int32} {R : s_M × Nat × Int32} {X : Nat → String} {P : k_H → Prop} (ho : k_is H a 14) (C : k_ct (tX11_move G l) [vR (some a), vI x, vI y, vI z] H (fun H' r => P H' ∧ r = lp_rv R X)) :
    k_ct (tL_tells G l) [vR (some a), vI x, vI y, vI z] H (fun H' r => P H' ∧ r = if R.2.1 = 0 then .inl (some (vI 1)) else .inr (X R.2.1)) := by
  by_cases e : R.2.1 = 0
  · refine eL_tells hfl (bL_tells_0 ho (lp_ctv C e) fun h1 p => bL_tells_7 ⟨p, ?_⟩)
    rw [if_pos e]
  · refine eL_tells hfl (bL_tells_0x ho (lp_ctx C e) fun h1 p => ⟨p, ?_⟩)
    rw [if_neg e]
theorem t_loses (hfl : l.flags = flags0) {H : k_H} {a : Nat} {d : Bool} {R : s_M × Nat × Int32} {X : Nat → String} {P : k_H → Prop} (ho : k_is H a 14) (h0 : R.2.1 = 0) (C : k_ct (tX11_lose G l) [vR (some a), vI (kB d)] H (fun H' r => P H' ∧ r = lp_rv R X)) :
    k_cti (tL_loses G l) [vR (some a), vI (kB d)] H (fun H' v => P H' ∧ v = 1) := by
  refine k_cti_of (eL_loses hfl (bL_loses_0 ho (lp_ctv C h0) fun h1 p => bL_loses_5 ⟨1, rfl, p, rfl⟩))
theorem t_goesFor (hfl : l.flags = flags0) {H : k_H} {x y : Int32} : k_cti (tL_goesFor G l) [vI x, vI y] H (fun H' v => H' = H ∧ v = kB (s_goes x y)) := by
  refine k_cti_of (eL_goesFor hfl (bL_goesFor_0 (fun c => ?_) (fun c1 => bL_goesFor_6 (fun c => ?_) (fun c2 => bL_goesFor_13 (fun c => ?_) (fun c3 => ?_)))))
  · refine bL_goesFor_18 (bL_goesFor_23 (Or.inr rfl) ⟨_, rfl, rfl, ?_⟩)
    unfold s_goes
    rw [decide_eq_true c]; rfl
  · refine bL_goesFor_22 (bL_goesFor_23 (Or.inl rfl) ⟨_, rfl, rfl, ?_⟩)
    unfold s_goes
    rw [decide_eq_false c1, decide_eq_false (fun z => z c)]; rfl
  · refine bL_goesFor_22 (bL_goesFor_23 (Or.inl rfl) ⟨_, rfl, rfl, ?_⟩)
    unfold s_goes
    rw [decide_eq_false c1, decide_eq_false (show ¬ y ≤ x from Int32.not_le.mpr c), Bool.and_false]; rfl
  · refine bL_goesFor_18 (bL_goesFor_23 (Or.inr rfl) ⟨_, rfl, rfl, ?_⟩)
    unfold s_goes
    rw [decide_eq_true (show y ≤ x from Int32.not_lt.mp c3), decide_eq_true c2, Bool.and_true, Bool.or_true]; rfl
end SMALL
