/-! THE LAW'S BODY: its rows -/
abbrev yW (nm : String) : MethodName := ⟨RL, nm, ""⟩
abbrev jW (G : k_G) (l : Launch) (nm : String) (h0 : k_H) : k_B := k_J G l (yW nm) cL_law 7 (some .boolean) 40 h0
theorem lc_self (x : Int64) : lg_cmp x x = 0 := by
  unfold lg_cmp
  simp
section KLW
variable {G : k_G} {l : Launch} {y : MethodName} {cc : ByteArray} {mL : Nat} {rt : Option FieldType} {d : Nat} {h0 h h' : k_H} {pc : Nat} {lv : k_L} {st : List k_V} {r : k_R}
/-- fewer locals are known -/
theorem j_lv {lv2 : k_L} (hs : ∀ q ∈ lv2, q ∈ lv) (K : k_J G l y cc mL rt d h0 h pc lv2 st h' r) : k_J G l y cc mL rt d h0 h pc lv st h' r :=
  ⟨K.1, K.2.1, fun p e s m args below meth c C ht H locs k n ls hp hl hk hn hv => K.2.2 p e s m args below meth c C ht H locs k n ls hp hl hk hn (lv_mono hv (k_lm_sub hs))⟩
theorem k_sS {H : Heap} {locs : List Loc} (hp : k_hp G h H) (hl : ∀ q ∈ locs, k_we G q.base) : va_S (fun q => (k_H0 G).size ≤ q) (k_H0 G) H locs := ⟨hp.2.1.1, fun q h1 _ => hp.2.2.1 q h1, fun q hq => (hl q hq).1⟩
theorem j_sld {x : Int32} (hdg : decode cc pc = .ok (.iaload, 1)) (hi : vp_in x (k_sL G)) (K : k_J G l y cc mL rt d h0 h (pc + 1) lv (vI (k_sx G x.toNatClampNeg) :: st) h' r) : k_J G l y cc mL rt d h0 h pc lv (vI x :: vR (some (k_sb G)) :: st) h' r :=
  ⟨K.1, K.2.1, fun p e s m args below meth c C ht H locs k n ls hp hl hk hn hv => va_sld C.1 C.2.1 C.2.2.2.2.2.2.2.2.1.2.2.2.2.2.2.2.2.2.1 C.2.2.2.2.2.2.2.2.1.2.2.2.2.2.2.2.2.2.2.1 (fun z => absurd C.2.2.2.2.2.2.2.2.1.2.2.2.2.2.2.2.2.2.2.1 (Nat.not_lt.mpr z)) (k_sS hp hl) hi hdg (K.2.2 p e s m args below meth c C ht H locs k n ls hp hl hk hn hv)⟩
theorem j_slen (hdg : decode cc pc = .ok (.arraylength, 1)) (K : k_J G l y cc mL rt d h0 h (pc + 1) lv (vI (nI (k_sL G)) :: st) h' r) : k_J G l y cc mL rt d h0 h pc lv (vR (some (k_sb G)) :: st) h' r :=
  ⟨K.1, K.2.1, fun p e s m args below meth c C ht H locs k n ls hp hl hk hn hv => va_slen C.1 C.2.1 C.2.2.2.2.2.2.2.2.1.2.2.2.2.2.2.2.2.2.1 C.2.2.2.2.2.2.2.2.1.2.2.2.2.2.2.2.2.2.2.1 (fun z => absurd C.2.2.2.2.2.2.2.2.1.2.2.2.2.2.2.2.2.2.2.1 (Nat.not_lt.mpr z)) (k_sS hp hl) hdg (K.2.2 p e s m args below meth c C ht H locs k n ls hp hl hk hn hv)⟩
theorem vp_nI {a n : Nat} (ha : a < n) (hn : n < 2 ^ 31) : vp_in (nI a) n := by
  unfold vp_in
  rw [nI_clamp (by omega)]
  intro z
  rcases z with z | z
  · exact nI_pos (n := a) (by omega) z
  · omega
/-- script[i + j] -/
theorem x_arg {i j : Nat} {z : Int} (d0 : decode cc pc = .ok (.aload_n 0, 1)) (d1 : decode cc (pc + 1) = .ok (.iload 4, 2)) (d3 : decode cc (pc + 3) = .ok (.iconst z, 1)) (hz : Int32.ofInt z = nI j) (d4 : decode cc (pc + 4) = .ok (.iadd, 1)) (d5 : decode cc (pc + 5) = .ok (.iaload, 1)) (l0 : lv.lookup 0 = some (vR (some (k_sb G)))) (l4 : lv.lookup 4 = some (vI (nI i))) (hL : k_sL G < 2 ^ 31) (hi : i + j < k_sL G)
    (K : k_J G l y cc mL rt d h0 h (pc + 6) lv (vI (k_sx G (i + j)) :: st) h' r) : k_J G l y cc mL rt d h0 h pc lv st h' r := by
  refine j_aload_n d0 rfl l0 (j_iload d1 l4 (j_iconst d3 hz (j_iadd d4 ?_)))
  rw [nI_add]
  refine j_sld d5 (vp_nI hi hL) ?_
  rw [nI_clamp (by omega)]
  exact K
theorem x_arg6 {i j : Nat} {z : Int} (d0 : decode cc pc = .ok (.aload_n 0, 1)) (d1 : decode cc (pc + 1) = .ok (.iload 4, 2)) (d3 : decode cc (pc + 3) = .ok (.bipush z, 2)) (hz : (Int8.ofInt z).toInt32 = nI j) (d4 : decode cc (pc + 5) = .ok (.iadd, 1)) (d5 : decode cc (pc + 6) = .ok (.iaload, 1)) (l0 : lv.lookup 0 = some (vR (some (k_sb G)))) (l4 : lv.lookup 4 = some (vI (nI i))) (hL : k_sL G < 2 ^ 31) (hi : i + j < k_sL G)
    (K : k_J G l y cc mL rt d h0 h (pc + 7) lv (vI (k_sx G (i + j)) :: st) h' r) : k_J G l y cc mL rt d h0 h pc lv st h' r := by
  refine j_aload_n d0 rfl l0 (j_iload d1 l4 (j_bipush d3 hz (j_iadd d4 ?_)))
  rw [nI_add]
  refine j_sld d5 (vp_nI hi hL) ?_
  rw [nI_clamp (by omega)]
  exact K
/-- .. != 0 -/
theorem x_bool {x : Int32} (d0 : decode cc pc = .ok (.ifCond .eq 7, 3)) (d3 : decode cc (pc + 3) = .ok (.iconst 1, 1)) (d4 : decode cc (pc + 4) = .ok (.goto 4, 3)) (d7 : decode cc (pc + 7) = .ok (.iconst 0, 1)) (K : k_J G l y cc mL rt d h0 h (pc + 8) lv (vI (kB (decide (¬ x = 0))) :: st) h' r) : k_J G l y cc mL rt d h0 h pc lv (vI x :: st) h' r := by
  by_cases e : x = 0
  · exact j_if_eq_t (tgt := pc + 7) d0 (by omega) e (j_iconst (v := kB (decide (¬ x = 0))) d7 (by rw [e]; rfl) K)
  · refine j_if_eq_f d0 (pc + 7) (by omega) e (j_iconst (v := kB (decide (¬ x = 0))) d3 ?_ (j_goto (tgt := pc + 8) d4 (by omega) K))
    rw [decide_eq_true e]
    rfl
end KLW
section KLT
variable {G : k_G} {l : Launch} {nm : String} {h0 h h' : k_H} {r : k_R}
def lvW (G : k_G) (a b i : Nat) : k_L := [(0, vR (some (k_sb G))), (1, vR (some a)), (2, vR (some b)), (3, vR (some (b + 37))), (4, vI (nI i))]
def lvX (G : k_G) (a b i : Nat) (k : Int32) : k_L := [(0, vR (some (k_sb G))), (1, vR (some a)), (2, vR (some b)), (3, vR (some (b + 37))), (4, vI (nI i)), (5, vI k)]
def lvY (G : k_G) (a b i : Nat) (k v : Int32) : k_L := [(0, vR (some (k_sb G))), (1, vR (some a)), (2, vR (some b)), (3, vR (some (b + 37))), (4, vI (nI i)), (5, vI k), (6, vI v)]
theorem lvX_W {a b i : Nat} {k : Int32} : ∀ q ∈ lvW G a b i, q ∈ lvX G a b i k := fun q hq => List.mem_append_left [(5, vI k)] hq
theorem lvY_W {a b i : Nat} {k v : Int32} : ∀ q ∈ lvW G a b i, q ∈ lvY G a b i k v := fun q hq => List.mem_append_left [(5, vI k), (6, vI v)] hq
/-- m.thrown() against the code, and the answers -/
theorem x_tail {p off a b i : Nat} {k v : Int32} {g : Nat → Int64} (kt : k_cV RL 123 15 yX12_thrown cX12_thrown 1 (some .int) 0) (d0 : decode cL_law p = .ok (.istore 6, 2)) (d2 : decode cL_law (p + 2) = .ok (.aload_n 2, 1)) (d3 : decode cL_law (p + 3) = .ok (.invokevirtual 123, 3)) (d6 : decode cL_law (p + 6) = .ok (.iload 5, 2)) (d8 : decode cL_law (p + 8) = .ok (.if_icmp .eq 5, 3))
    (d13 : decode cL_law (p + 13) = .ok (.iload 5, 2)) (d15 : decode cL_law (p + 15) = .ok (.ifCond .ne 15, 3)) (d18 : decode cL_law (p + 18) = .ok (.aload_n 3, 1)) (d19 : decode cL_law (p + 19) = .ok (.iconst 0, 1)) (d20 : decode cL_law (p + 20) = .ok (.laload, 1)) (d21 : decode cL_law (p + 21) = .ok (.iload 6, 2)) (d23 : decode cL_law (p + 23) = .ok (.i2l, 1)) (d24 : decode cL_law (p + 24) = .ok (.lcmp, 1)) (d25 : decode cL_law (p + 25) = .ok (.ifCond .eq 5, 3)) (d30 : decode cL_law (p + 30) = .ok (.goto (off : Int), 3)) (ho : p + 30 + off = 2369)
    (hi : k_is h b 15) (hC : tX12_thrown G l [vR (some b)] h h (.inl (some (vI k)))) (hg : h.1 (b + 37) = some (k_j 1 g)) (hv : k = 0 → g 0 = v.toInt64) (K : jW G l nm h0 h 2369 (lvW G a b i) [] h' r) : jW G l nm h0 h p (lvX G a b i k) [vI v] h' r := by
  refine j_istore d0 (by decide) (lv9 := lvY G a b i k v) rfl (j_aload_n d2 rfl rfl (j_callV d3 kt rfl rfl hi (by decide) (Nat.le_of_ble_eq_true rfl) hC (j_iload d6 rfl (j_icmp_eq_t (tgt := p + 13) d8 (by omega) rfl (j_iload d13 rfl ?_)))))
  have fin : jW G l nm h0 h (p + 30) (lvY G a b i k v) [] h' r := j_goto (tgt := 2369) d30 (by omega) (j_lv lvY_W K)
  by_cases e : k = 0
  · refine j_if_ne_f d15 (p + 30) (by omega) e (j_aload_n d18 rfl rfl (j_iconst (v := 0) d19 rfl (j_lald d20 hg vp_01 (j_iload d21 rfl (j_i2l d23 (j_lcmp d24 (j_if_eq_t (tgt := p + 30) d25 (by omega) ?_ fin)))))))
    rw [show g (0 : Int32).toNatClampNeg = v.toInt64 from hv e]
    exact lc_self _
  · exact j_if_ne_t (tgt := p + 30) d15 (by omega) e fin
end KLT
