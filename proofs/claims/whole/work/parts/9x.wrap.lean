/-! THE LAW'S WRAPPERS (printed by wip/whole/genlaw.py) -/
def c_J (b : Nat) (s : m_S) (g : Nat → Int64) (h : k_H) : k_H := m_hp b s (k_jn (b + 37) (b + 38) (fun _ => k_j 1 g) h)
def c_F (b : Nat) (s : m_S) (g : Nat → Int64) (q : Nat) : k_C := if q = b + 37 then k_j 1 g else m_cl b s (q - b)
theorem J_jn {b : Nat} {s : m_S} {g : Nat → Int64} {h : k_H} : c_J b s g h = k_jn b (b + 38) (c_F b s g) h := by
  unfold c_J m_hp k_jn c_F
  refine Prod.ext (funext fun q => ?_) rfl
  show (if b ≤ q ∧ q < b + 37 then some (m_cl b s (q - b)) else if b + 37 ≤ q ∧ q < b + 38 then some (k_j 1 g) else h.1 q) = if b ≤ q ∧ q < b + 38 then some (if q = b + 37 then k_j 1 g else m_cl b s (q - b)) else h.1 q
  by_cases z1 : b ≤ q ∧ q < b + 37
  · rw [if_pos z1, if_pos ⟨z1.1, by omega⟩, if_neg (by omega)]
  · by_cases z2 : b + 37 ≤ q ∧ q < b + 38
    · rw [if_neg z1, if_pos z2, if_pos ⟨by omega, z2.2⟩, if_pos (by omega)]
    · rw [if_neg z1, if_neg z2, if_neg (by omega)]
theorem F_nl {b : Nat} {s : m_S} {g : Nat → Int64} : ∀ q xs cap, c_F b s g q ≠ k_l xs cap := by
  intro q xs cap
  unfold c_F
  split
  · exact fun z => by cases z
  · unfold m_cl
    split
    · exact fun z => by cases z
    · split
      · exact fun z => by cases z
      · exact fun z => by cases z
      · exact fun z => by cases z
theorem J_out {b : Nat} {s : m_S} {g : Nat → Int64} {h : k_H} : (c_J b s g h).1 (b + 37) = some (k_j 1 g) := by
  rw [J_jn, jn_in (by omega) (by omega)]
  show some (if b + 37 = b + 37 then _ else _) = _
  rw [if_pos rfl]
theorem vp_01 : vp_in 0 1 := by unfold vp_in; decide
theorem J_at {a b : Nat} {s : m_S} {g : Nat → Int64} {h : k_H} (hab : a < b) : (c_J b s g h).1 a = h.1 a := by
  rw [J_jn, jn_out (by omega)]
theorem J_is {a b ci : Nat} {s : m_S} {g : Nat → Int64} {h : k_H} (hab : a < b) (ho : k_is h a ci) : k_is (c_J b s g h) a ci := by
  unfold k_is
  rw [J_at hab]
  exact ho
theorem J_up {b : Nat} {s : m_S} {g : Nat → Int64} {h : k_H} {x : Int64} : k_up (c_J b s g h) (b + 37) (k_j 1 (va_up g (0 : Int32).toNatClampNeg x)) = c_J b s (va_up g 0 x) h := by
  unfold c_J m_hp k_jn k_up
  refine Prod.ext (funext fun q => ?_) rfl
  show (if q = b + 37 then some (k_j 1 (va_up g (0 : Int32).toNatClampNeg x)) else if b ≤ q ∧ q < b + 37 then some (m_cl b s (q - b)) else if b + 37 ≤ q ∧ q < b + 38 then some (k_j 1 g) else h.1 q) = if b ≤ q ∧ q < b + 37 then some (m_cl b s (q - b)) else if b + 37 ≤ q ∧ q < b + 38 then some (k_j 1 (va_up g 0 x)) else h.1 q
  by_cases z : q = b + 37
  · subst z
    rw [if_pos rfl, if_neg (by omega), if_pos (by omega)]
    rfl
  · rw [if_neg z]
    by_cases z1 : b ≤ q ∧ q < b + 37
    · rw [if_pos z1, if_pos z1]
    · rw [if_neg z1, if_neg z1, if_neg (by omega), if_neg (by omega)]
/-- behind a wrapper: its answer is the code; and the class's world, with the answer in the row; or no machine comes there -/
def L_P (a b : Nat) (B : Nat × Nat) (s : m_S) (g : Nat → Int64) (R : s_M × Nat × Int32) (N w : Nat) : k_H → k_R → Prop := fun h2 r => r = .inl (some (vI (nI R.2.1))) ∧ ∃ h1, c_W a B h1 R.1 N w ∧ (h2 = k_no h1 ∨ (k_cn b (b + 38) h1 ∧ h2 = c_J b s (if R.2.1 = 0 then va_up g 0 R.2.2.toInt64 else g) h1))
def L_Pv (a b : Nat) (B : Nat × Nat) (s : m_S) (g : Nat → Int64) (R : s_M × Nat × Int32) (N w : Nat) : k_H → k_R → Prop := fun h2 r => r = .inl (some (vI (nI R.2.1))) ∧ ∃ h1, c_W a B h1 R.1 N w ∧ (h2 = k_no h1 ∨ (k_cn b (b + 38) h1 ∧ h2 = c_J b s g h1))
theorem kb_L_7 : k_cB RL 7 yX11_begin cX11_begin 4 (some .int) 2 := ⟨k_ic k_c2 132 (by decide +kernel) (by decide +kernel), k_ic k_c1 1 (by decide +kernel) (by decide +kernel), by decide, by decide +kernel, by decide, k_ic k_c2 129 (by decide +kernel) (by decide +kernel)⟩
theorem kc_L_7 : k_cV RL 7 14 yX11_begin cX11_begin 4 (some .int) 2 := ⟨kb_L_7, k_ic k_c2 130 (by decide +kernel) (by decide +kernel), k_ic k_c2 131 (by decide +kernel) (by decide +kernel), TX11, 13, rfl⟩
theorem kw_L_begin : Cond.codeWith yL_begin cL_begin 5 (some .int) [(0, 10, 13, 13)] ∈ k_tbl := k_ic k_c2 127 (by decide +kernel) (by decide +kernel)
theorem kx_L_13 : Cond.classLink RL 13 "java/lang/IndexOutOfBoundsException" ∈ k_tbl := k_ic k_c2 128 (by decide +kernel) (by decide +kernel)
theorem kb_L_15 : k_cB RL 15 yX11_get cX11_get 9 (some .int) 5 := ⟨k_ic k_c2 235 (by decide +kernel) (by decide +kernel), k_ic k_c1 1 (by decide +kernel) (by decide +kernel), by decide, by decide +kernel, by decide, k_ic k_c2 232 (by decide +kernel) (by decide +kernel)⟩
theorem kc_L_15 : k_cV RL 15 14 yX11_get cX11_get 9 (some .int) 5 := ⟨kb_L_15, k_ic k_c2 233 (by decide +kernel) (by decide +kernel), k_ic k_c2 234 (by decide +kernel) (by decide +kernel), TX11, 13, rfl⟩
theorem kw_L_get : Cond.codeWith yL_get cL_get 8 (some .int) [(0, 16, 19, 13), (0, 16, 23, 19), (0, 16, 27, 21)] ∈ k_tbl := k_ic k_c2 229 (by decide +kernel) (by decide +kernel)
theorem kx_L_19 : Cond.classLink RL 19 "java/lang/IllegalArgumentException" ∈ k_tbl := k_ic k_c2 230 (by decide +kernel) (by decide +kernel)
theorem kx_L_21 : Cond.classLink RL 21 "java/lang/IllegalStateException" ∈ k_tbl := k_ic k_c2 231 (by decide +kernel) (by decide +kernel)
theorem kb_L_23 : k_cB RL 23 yX11_range cX11_range 6 (some .int) 4 := ⟨k_ic k_c3 140 (by decide +kernel) (by decide +kernel), k_ic k_c1 1 (by decide +kernel) (by decide +kernel), by decide, by decide +kernel, by decide, k_ic k_c3 137 (by decide +kernel) (by decide +kernel)⟩
theorem kc_L_23 : k_cV RL 23 14 yX11_range cX11_range 6 (some .int) 4 := ⟨kb_L_23, k_ic k_c3 138 (by decide +kernel) (by decide +kernel), k_ic k_c3 139 (by decide +kernel) (by decide +kernel), TX11, 13, rfl⟩
theorem kw_L_range : Cond.codeWith yL_range cL_range 7 (some .int) [(0, 14, 17, 13), (0, 14, 21, 19), (0, 14, 25, 21)] ∈ k_tbl := k_ic k_c3 136 (by decide +kernel) (by decide +kernel)
theorem kb_L_27 : k_cB RL 27 yX11_rangeAt cX11_rangeAt 7 (some .int) 5 := ⟨k_ic k_c3 177 (by decide +kernel) (by decide +kernel), k_ic k_c1 1 (by decide +kernel) (by decide +kernel), by decide, by decide +kernel, by decide, k_ic k_c3 174 (by decide +kernel) (by decide +kernel)⟩
theorem kc_L_27 : k_cV RL 27 14 yX11_rangeAt cX11_rangeAt 7 (some .int) 5 := ⟨kb_L_27, k_ic k_c3 175 (by decide +kernel) (by decide +kernel), k_ic k_c3 176 (by decide +kernel) (by decide +kernel), TX11, 13, rfl⟩
theorem kw_L_rangeAt : Cond.codeWith yL_rangeAt cL_rangeAt 8 (some .int) [(0, 16, 19, 13), (0, 16, 23, 19), (0, 16, 27, 21)] ∈ k_tbl := k_ic k_c3 173 (by decide +kernel) (by decide +kernel)
theorem kb_L_31 : k_cB RL 31 yX11_change cX11_change 10 (some .int) 6 := ⟨k_ic k_c3 189 (by decide +kernel) (by decide +kernel), k_ic k_c1 1 (by decide +kernel) (by decide +kernel), by decide, by decide +kernel, by decide, k_ic k_c3 186 (by decide +kernel) (by decide +kernel)⟩
theorem kc_L_31 : k_cV RL 31 14 yX11_change cX11_change 10 (some .int) 6 := ⟨kb_L_31, k_ic k_c3 187 (by decide +kernel) (by decide +kernel), k_ic k_c3 188 (by decide +kernel) (by decide +kernel), TX11, 13, rfl⟩
theorem kw_L_change : Cond.codeWith yL_change cL_change 9 (some .int) [(0, 18, 21, 13), (0, 18, 25, 19), (0, 18, 29, 21)] ∈ k_tbl := k_ic k_c3 185 (by decide +kernel) (by decide +kernel)
theorem kb_L_35 : k_cB RL 35 yX11_clear cX11_clear 5 (some .int) 3 := ⟨k_ic k_c5 40 (by decide +kernel) (by decide +kernel), k_ic k_c1 1 (by decide +kernel) (by decide +kernel), by decide, by decide +kernel, by decide, k_ic k_c5 37 (by decide +kernel) (by decide +kernel)⟩
theorem kc_L_35 : k_cV RL 35 14 yX11_clear cX11_clear 5 (some .int) 3 := ⟨kb_L_35, k_ic k_c5 38 (by decide +kernel) (by decide +kernel), k_ic k_c5 39 (by decide +kernel) (by decide +kernel), TX11, 13, rfl⟩
theorem kw_L_clear : Cond.codeWith yL_clear cL_clear 6 (some .int) [(0, 12, 15, 13), (0, 12, 19, 19), (0, 12, 23, 21)] ∈ k_tbl := k_ic k_c5 36 (by decide +kernel) (by decide +kernel)
theorem kb_L_39 : k_cB RL 39 yX11_commit cX11_commit 6 (some .int) 1 := ⟨k_ic k_c5 52 (by decide +kernel) (by decide +kernel), k_ic k_c1 1 (by decide +kernel) (by decide +kernel), by decide, by decide +kernel, by decide, k_ic k_c5 49 (by decide +kernel) (by decide +kernel)⟩
theorem kc_L_39 : k_cV RL 39 14 yX11_commit cX11_commit 6 (some .int) 1 := ⟨kb_L_39, k_ic k_c5 50 (by decide +kernel) (by decide +kernel), k_ic k_c5 51 (by decide +kernel) (by decide +kernel), TX11, 13, rfl⟩
theorem kw_L_commit : Cond.codeWith yL_commit cL_commit 4 (some .int) [(0, 9, 12, 13), (0, 9, 15, 21)] ∈ k_tbl := k_ic k_c5 48 (by decide +kernel) (by decide +kernel)
theorem kb_L_43 : k_cB RL 43 yX11_pass cX11_pass 2 (some .int) 1 := ⟨k_ic k_c5 215 (by decide +kernel) (by decide +kernel), k_ic k_c1 1 (by decide +kernel) (by decide +kernel), by decide, by decide +kernel, by decide, k_ic k_c5 212 (by decide +kernel) (by decide +kernel)⟩
theorem kc_L_43 : k_cV RL 43 14 yX11_pass cX11_pass 2 (some .int) 1 := ⟨kb_L_43, k_ic k_c5 213 (by decide +kernel) (by decide +kernel), k_ic k_c5 214 (by decide +kernel) (by decide +kernel), TX11, 13, rfl⟩
theorem kw_L_pass : Cond.codeWith yL_pass cL_pass 4 (some .int) [(0, 9, 12, 19)] ∈ k_tbl := k_ic k_c5 211 (by decide +kernel) (by decide +kernel)
theorem kb_L_46 : k_cB RL 46 yX11_value cX11_value 5 (some .int) 4 := ⟨k_ic k_c5 223 (by decide +kernel) (by decide +kernel), k_ic k_c1 1 (by decide +kernel) (by decide +kernel), by decide, by decide +kernel, by decide, k_ic k_c5 220 (by decide +kernel) (by decide +kernel)⟩
theorem kc_L_46 : k_cV RL 46 14 yX11_value cX11_value 5 (some .int) 4 := ⟨kb_L_46, k_ic k_c5 221 (by decide +kernel) (by decide +kernel), k_ic k_c5 222 (by decide +kernel) (by decide +kernel), TX11, 13, rfl⟩
theorem kw_L_value : Cond.codeWith yL_value cL_value 7 (some .int) [(0, 14, 17, 19)] ∈ k_tbl := k_ic k_c5 219 (by decide +kernel) (by decide +kernel)
theorem kb_L_50 : k_cB RL 50 yX11_packed cX11_packed 5 (some .int) 4 := ⟨k_ic k_c5 232 (by decide +kernel) (by decide +kernel), k_ic k_c1 1 (by decide +kernel) (by decide +kernel), by decide, by decide +kernel, by decide, k_ic k_c5 229 (by decide +kernel) (by decide +kernel)⟩
theorem kc_L_50 : k_cV RL 50 14 yX11_packed cX11_packed 5 (some .int) 4 := ⟨kb_L_50, k_ic k_c5 230 (by decide +kernel) (by decide +kernel), k_ic k_c5 231 (by decide +kernel) (by decide +kernel), TX11, 13, rfl⟩
theorem kw_L_packed : Cond.codeWith yL_packed cL_packed 7 (some .int) [(0, 14, 17, 13), (0, 14, 21, 19)] ∈ k_tbl := k_ic k_c5 228 (by decide +kernel) (by decide +kernel)
theorem kb_L_53 : k_cB RL 53 yX11_directory cX11_directory 4 (some .int) 2 := ⟨k_ic k_c6 2 (by decide +kernel) (by decide +kernel), k_ic k_c1 1 (by decide +kernel) (by decide +kernel), by decide, by decide +kernel, by decide, k_ic k_c5 239 (by decide +kernel) (by decide +kernel)⟩
theorem kc_L_53 : k_cV RL 53 14 yX11_directory cX11_directory 4 (some .int) 2 := ⟨kb_L_53, k_ic k_c6 0 (by decide +kernel) (by decide +kernel), k_ic k_c6 1 (by decide +kernel) (by decide +kernel), TX11, 13, rfl⟩
theorem kw_L_directory : Cond.codeWith yL_directory cL_directory 5 (some .int) [(0, 10, 13, 13), (0, 10, 17, 19), (0, 10, 21, 21)] ∈ k_tbl := k_ic k_c5 238 (by decide +kernel) (by decide +kernel)
theorem kb_L_57 : k_cB RL 57 yX11_move cX11_move 7 none 3 := ⟨k_ic k_c6 35 (by decide +kernel) (by decide +kernel), k_ic k_c1 1 (by decide +kernel) (by decide +kernel), by decide, by decide +kernel, by decide, k_ic k_c6 32 (by decide +kernel) (by decide +kernel)⟩
theorem kc_L_57 : k_cV RL 57 14 yX11_move cX11_move 7 none 3 := ⟨kb_L_57, k_ic k_c6 33 (by decide +kernel) (by decide +kernel), k_ic k_c6 34 (by decide +kernel) (by decide +kernel), TX11, 13, rfl⟩
theorem kw_L_move : Cond.codeWith yL_move cL_move 5 (some .int) [(0, 7, 10, 13), (0, 7, 14, 19), (0, 7, 18, 21)] ∈ k_tbl := k_ic k_c6 31 (by decide +kernel) (by decide +kernel)
theorem kb_L_61 : k_cB RL 61 yX11_remove cX11_remove 5 (some .int) 1 := ⟨k_ic k_c6 47 (by decide +kernel) (by decide +kernel), k_ic k_c1 1 (by decide +kernel) (by decide +kernel), by decide, by decide +kernel, by decide, k_ic k_c6 44 (by decide +kernel) (by decide +kernel)⟩
theorem kc_L_61 : k_cV RL 61 14 yX11_remove cX11_remove 5 (some .int) 1 := ⟨kb_L_61, k_ic k_c6 45 (by decide +kernel) (by decide +kernel), k_ic k_c6 46 (by decide +kernel) (by decide +kernel), TX11, 13, rfl⟩
theorem kw_L_remove : Cond.codeWith yL_remove cL_remove 4 (some .int) [(0, 9, 12, 13), (0, 9, 15, 21)] ∈ k_tbl := k_ic k_c6 43 (by decide +kernel) (by decide +kernel)
theorem kb_L_64 : k_cB RL 64 yX11_shortName cX11_shortName 2 (some .int) 1 := ⟨k_ic k_c6 75 (by decide +kernel) (by decide +kernel), k_ic k_c1 1 (by decide +kernel) (by decide +kernel), by decide, by decide +kernel, by decide, k_ic k_c6 72 (by decide +kernel) (by decide +kernel)⟩
theorem kc_L_64 : k_cV RL 64 14 yX11_shortName cX11_shortName 2 (some .int) 1 := ⟨kb_L_64, k_ic k_c6 73 (by decide +kernel) (by decide +kernel), k_ic k_c6 74 (by decide +kernel) (by decide +kernel), TX11, 13, rfl⟩
theorem kw_L_shortName : Cond.codeWith yL_shortName cL_shortName 4 (some .int) [(0, 9, 12, 13)] ∈ k_tbl := k_ic k_c6 71 (by decide +kernel) (by decide +kernel)
theorem kb_L_67 : k_cB RL 67 yX11_named cX11_named 5 (some .int) 2 := ⟨k_ic k_c6 82 (by decide +kernel) (by decide +kernel), k_ic k_c1 1 (by decide +kernel) (by decide +kernel), by decide, by decide +kernel, by decide, k_ic k_c6 79 (by decide +kernel) (by decide +kernel)⟩
theorem kc_L_67 : k_cV RL 67 14 yX11_named cX11_named 5 (some .int) 2 := ⟨kb_L_67, k_ic k_c6 80 (by decide +kernel) (by decide +kernel), k_ic k_c6 81 (by decide +kernel) (by decide +kernel), TX11, 13, rfl⟩
theorem kw_L_named : Cond.codeWith yL_named cL_named 5 (some .int) [(0, 10, 13, 13), (0, 10, 17, 19)] ∈ k_tbl := k_ic k_c6 78 (by decide +kernel) (by decide +kernel)
theorem kb_L_70 : k_cB RL 70 yX11_save cX11_save 5 (some .int) 3 := ⟨k_ic k_c6 89 (by decide +kernel) (by decide +kernel), k_ic k_c1 1 (by decide +kernel) (by decide +kernel), by decide, by decide +kernel, by decide, k_ic k_c6 86 (by decide +kernel) (by decide +kernel)⟩
theorem kc_L_70 : k_cV RL 70 14 yX11_save cX11_save 5 (some .int) 3 := ⟨kb_L_70, k_ic k_c6 87 (by decide +kernel) (by decide +kernel), k_ic k_c6 88 (by decide +kernel) (by decide +kernel), TX11, 13, rfl⟩
theorem kw_L_save : Cond.codeWith yL_save cL_save 6 (some .int) [(0, 12, 15, 13), (0, 12, 19, 19), (0, 12, 23, 21)] ∈ k_tbl := k_ic k_c6 85 (by decide +kernel) (by decide +kernel)
theorem kb_L_73 : k_cB RL 73 yX11_erase cX11_erase 4 (some .int) 2 := ⟨k_ic k_c6 135 (by decide +kernel) (by decide +kernel), k_ic k_c1 1 (by decide +kernel) (by decide +kernel), by decide, by decide +kernel, by decide, k_ic k_c6 132 (by decide +kernel) (by decide +kernel)⟩
theorem kc_L_73 : k_cV RL 73 14 yX11_erase cX11_erase 4 (some .int) 2 := ⟨kb_L_73, k_ic k_c6 133 (by decide +kernel) (by decide +kernel), k_ic k_c6 134 (by decide +kernel) (by decide +kernel), TX11, 13, rfl⟩
theorem kw_L_erase : Cond.codeWith yL_erase cL_erase 5 (some .int) [(0, 10, 13, 13), (0, 10, 17, 19), (0, 10, 21, 21)] ∈ k_tbl := k_ic k_c6 131 (by decide +kernel) (by decide +kernel)
theorem kb_L_76 : k_cB RL 76 yX11_build cX11_build 4 (some .int) 2 := ⟨k_ic k_c6 142 (by decide +kernel) (by decide +kernel), k_ic k_c1 1 (by decide +kernel) (by decide +kernel), by decide, by decide +kernel, by decide, k_ic k_c6 139 (by decide +kernel) (by decide +kernel)⟩
theorem kc_L_76 : k_cV RL 76 14 yX11_build cX11_build 4 (some .int) 2 := ⟨kb_L_76, k_ic k_c6 140 (by decide +kernel) (by decide +kernel), k_ic k_c6 141 (by decide +kernel) (by decide +kernel), TX11, 13, rfl⟩
theorem kw_L_build : Cond.codeWith yL_build cL_build 5 (some .int) [(0, 10, 13, 13), (0, 10, 17, 19), (0, 10, 21, 21)] ∈ k_tbl := k_ic k_c6 138 (by decide +kernel) (by decide +kernel)
theorem kb_L_79 : k_cB RL 79 yX11_off cX11_off 7 (some .int) 1 := ⟨k_ic k_c6 171 (by decide +kernel) (by decide +kernel), k_ic k_c1 1 (by decide +kernel) (by decide +kernel), by decide, by decide +kernel, by decide, k_ic k_c6 168 (by decide +kernel) (by decide +kernel)⟩
theorem kc_L_79 : k_cV RL 79 14 yX11_off cX11_off 7 (some .int) 1 := ⟨kb_L_79, k_ic k_c6 169 (by decide +kernel) (by decide +kernel), k_ic k_c6 170 (by decide +kernel) (by decide +kernel), TX11, 13, rfl⟩
theorem kw_L_off : Cond.codeWith yL_off cL_off 4 (some .int) [(0, 9, 12, 13)] ∈ k_tbl := k_ic k_c6 167 (by decide +kernel) (by decide +kernel)
theorem kb_L_82 : k_cB RL 82 yX11_rank cX11_rank 4 (some .int) 1 := ⟨k_ic k_c6 178 (by decide +kernel) (by decide +kernel), k_ic k_c1 1 (by decide +kernel) (by decide +kernel), by decide, by decide +kernel, by decide, k_ic k_c6 175 (by decide +kernel) (by decide +kernel)⟩
theorem kc_L_82 : k_cV RL 82 14 yX11_rank cX11_rank 4 (some .int) 1 := ⟨kb_L_82, k_ic k_c6 176 (by decide +kernel) (by decide +kernel), k_ic k_c6 177 (by decide +kernel) (by decide +kernel), TX11, 13, rfl⟩
theorem kw_L_rank : Cond.codeWith yL_rank cL_rank 4 (some .int) [(0, 9, 12, 19)] ∈ k_tbl := k_ic k_c6 174 (by decide +kernel) (by decide +kernel)
theorem kb_L_85 : k_cB RL 85 yX11_rankAnew cX11_rankAnew 4 (some .int) 1 := ⟨k_ic k_c6 185 (by decide +kernel) (by decide +kernel), k_ic k_c1 1 (by decide +kernel) (by decide +kernel), by decide, by decide +kernel, by decide, k_ic k_c6 182 (by decide +kernel) (by decide +kernel)⟩
theorem kc_L_85 : k_cV RL 85 14 yX11_rankAnew cX11_rankAnew 4 (some .int) 1 := ⟨kb_L_85, k_ic k_c6 183 (by decide +kernel) (by decide +kernel), k_ic k_c6 184 (by decide +kernel) (by decide +kernel), TX11, 13, rfl⟩
theorem kw_L_rankAnew : Cond.codeWith yL_rankAnew cL_rankAnew 4 (some .int) [(0, 9, 12, 19)] ∈ k_tbl := k_ic k_c6 181 (by decide +kernel) (by decide +kernel)
theorem kb_L_88 : k_cB RL 88 yX11_watch cX11_watch 4 (some .int) 3 := ⟨k_ic k_c6 192 (by decide +kernel) (by decide +kernel), k_ic k_c1 1 (by decide +kernel) (by decide +kernel), by decide, by decide +kernel, by decide, k_ic k_c6 189 (by decide +kernel) (by decide +kernel)⟩
theorem kc_L_88 : k_cV RL 88 14 yX11_watch cX11_watch 4 (some .int) 3 := ⟨kb_L_88, k_ic k_c6 190 (by decide +kernel) (by decide +kernel), k_ic k_c6 191 (by decide +kernel) (by decide +kernel), TX11, 13, rfl⟩
theorem kw_L_watch : Cond.codeWith yL_watch cL_watch 6 (some .int) [(0, 12, 15, 19), (0, 12, 19, 21)] ∈ k_tbl := k_ic k_c6 188 (by decide +kernel) (by decide +kernel)
theorem kb_L_91 : k_cB RL 91 yX11_fired cX11_fired 2 (some .int) 1 := ⟨k_ic k_c6 215 (by decide +kernel) (by decide +kernel), k_ic k_c1 1 (by decide +kernel) (by decide +kernel), by decide, by decide +kernel, by decide, k_ic k_c6 212 (by decide +kernel) (by decide +kernel)⟩
theorem kc_L_91 : k_cV RL 91 14 yX11_fired cX11_fired 2 (some .int) 1 := ⟨kb_L_91, k_ic k_c6 213 (by decide +kernel) (by decide +kernel), k_ic k_c6 214 (by decide +kernel) (by decide +kernel), TX11, 13, rfl⟩
theorem kw_L_fired : Cond.codeWith yL_fired cL_fired 4 (some .int) [(0, 9, 12, 13)] ∈ k_tbl := k_ic k_c6 211 (by decide +kernel) (by decide +kernel)
theorem kb_L_94 : k_cB RL 94 yX11_offer cX11_offer 4 (some .int) 2 := ⟨k_ic k_c6 223 (by decide +kernel) (by decide +kernel), k_ic k_c1 1 (by decide +kernel) (by decide +kernel), by decide, by decide +kernel, by decide, k_ic k_c6 220 (by decide +kernel) (by decide +kernel)⟩
theorem kc_L_94 : k_cV RL 94 14 yX11_offer cX11_offer 4 (some .int) 2 := ⟨kb_L_94, k_ic k_c6 221 (by decide +kernel) (by decide +kernel), k_ic k_c6 222 (by decide +kernel) (by decide +kernel), TX11, 13, rfl⟩
theorem kw_L_offer : Cond.codeWith yL_offer cL_offer 5 (some .int) [(0, 10, 13, 13), (0, 10, 17, 19), (0, 10, 21, 21)] ∈ k_tbl := k_ic k_c6 219 (by decide +kernel) (by decide +kernel)
theorem kb_L_97 : k_cB RL 97 yX11_take cX11_take 3 (some .int) 1 := ⟨k_ic k_c6 230 (by decide +kernel) (by decide +kernel), k_ic k_c1 1 (by decide +kernel) (by decide +kernel), by decide, by decide +kernel, by decide, k_ic k_c6 227 (by decide +kernel) (by decide +kernel)⟩
theorem kc_L_97 : k_cV RL 97 14 yX11_take cX11_take 3 (some .int) 1 := ⟨kb_L_97, k_ic k_c6 228 (by decide +kernel) (by decide +kernel), k_ic k_c6 229 (by decide +kernel) (by decide +kernel), TX11, 13, rfl⟩
theorem kw_L_take : Cond.codeWith yL_take cL_take 4 (some .int) [(0, 9, 12, 13)] ∈ k_tbl := k_ic k_c6 226 (by decide +kernel) (by decide +kernel)
theorem kb_L_100 : k_cB RL 100 yX11_finish cX11_finish 4 (some .int) 1 := ⟨k_ic k_c7 12 (by decide +kernel) (by decide +kernel), k_ic k_c1 1 (by decide +kernel) (by decide +kernel), by decide, by decide +kernel, by decide, k_ic k_c7 9 (by decide +kernel) (by decide +kernel)⟩
theorem kc_L_100 : k_cV RL 100 14 yX11_finish cX11_finish 4 (some .int) 1 := ⟨kb_L_100, k_ic k_c7 10 (by decide +kernel) (by decide +kernel), k_ic k_c7 11 (by decide +kernel) (by decide +kernel), TX11, 13, rfl⟩
theorem kw_L_finish : Cond.codeWith yL_finish cL_finish 4 (some .int) [(0, 9, 12, 13)] ∈ k_tbl := k_ic k_c7 8 (by decide +kernel) (by decide +kernel)
theorem kb_L_103 : k_cB RL 103 yX11_part cX11_part 4 (some .int) 2 := ⟨k_ic k_c7 19 (by decide +kernel) (by decide +kernel), k_ic k_c1 1 (by decide +kernel) (by decide +kernel), by decide, by decide +kernel, by decide, k_ic k_c7 16 (by decide +kernel) (by decide +kernel)⟩
theorem kc_L_103 : k_cV RL 103 14 yX11_part cX11_part 4 (some .int) 2 := ⟨kb_L_103, k_ic k_c7 17 (by decide +kernel) (by decide +kernel), k_ic k_c7 18 (by decide +kernel) (by decide +kernel), TX11, 13, rfl⟩
theorem kw_L_part : Cond.codeWith yL_part cL_part 5 (some .int) [(0, 10, 13, 13), (0, 10, 17, 19)] ∈ k_tbl := k_ic k_c7 15 (by decide +kernel) (by decide +kernel)
theorem kb_L_106 : k_cB RL 106 yX11_mark cX11_mark 1 (some .int) 0 := ⟨k_ic k_c7 27 (by decide +kernel) (by decide +kernel), k_ic k_c1 1 (by decide +kernel) (by decide +kernel), by decide, by decide +kernel, by decide, k_ic k_c7 24 (by decide +kernel) (by decide +kernel)⟩
theorem kc_L_106 : k_cV RL 106 14 yX11_mark cX11_mark 1 (some .int) 0 := ⟨kb_L_106, k_ic k_c7 25 (by decide +kernel) (by decide +kernel), k_ic k_c7 26 (by decide +kernel) (by decide +kernel), TX11, 13, rfl⟩
theorem kw_L_mark : Cond.codeWith yL_mark cL_mark 3 (some .int) [(0, 8, 11, 21)] ∈ k_tbl := k_ic k_c7 23 (by decide +kernel) (by decide +kernel)
theorem kb_L_110 : k_cB RL 110 yX11_bringBack cX11_bringBack 4 (some .int) 1 := ⟨k_ic k_c7 35 (by decide +kernel) (by decide +kernel), k_ic k_c1 1 (by decide +kernel) (by decide +kernel), by decide, by decide +kernel, by decide, k_ic k_c7 32 (by decide +kernel) (by decide +kernel)⟩
theorem kc_L_110 : k_cV RL 110 14 yX11_bringBack cX11_bringBack 4 (some .int) 1 := ⟨kb_L_110, k_ic k_c7 33 (by decide +kernel) (by decide +kernel), k_ic k_c7 34 (by decide +kernel) (by decide +kernel), TX11, 13, rfl⟩
theorem kw_L_bringBack : Cond.codeWith yL_bringBack cL_bringBack 4 (some .int) [(0, 9, 12, 13)] ∈ k_tbl := k_ic k_c7 31 (by decide +kernel) (by decide +kernel)
section LWR
variable {G : k_G} {l : Launch}
theorem J_fro {y : MethodName} {cc : ByteArray} {mL : Nat} {rt : Option FieldType} {d : Nat} {as : List k_V} {b : Nat} {s : m_S} {g : Nat → Int64} {h h' : k_H} {r : k_R} (g0 : k_fh G = 0) (cn : k_cn b (b + 38) h) (hb : b + 38 ≤ h.2.1) (C : k_Ct (k_fG G b (b + 38)) l y cc mL rt d as h h' r) :
    (k_cn b (b + 38) h' ∧ k_Ct G l y cc mL rt d as (c_J b s g h) (c_J b s g h') r) ∨ k_Ct G l y cc mL rt d as (c_J b s g h) (k_no h') r := by
  rw [J_jn, J_jn]
  exact k_fro g0 F_nl cn hb C
abbrev tL_begin (G : k_G) (l : Launch) : k_T := k_Cw G l yL_begin cL_begin 5 (some .int) 23 [(0, 10, 13, 13)]
theorem L_begin (ok : k_ok G l) (g0 : k_fh G = 0) {a b N w : Nat} {B : Nat × Nat} {s : m_S} {g : Nat → Int64} {h : k_H} {R : s_M × Nat × Int32} {X : Nat → String} {x1 x2 : Int32} (hab : a < b) (ho : k_is h a 14) (cn : k_cn b (b + 38) h) (hb : b + 38 ≤ h.2.1) (hR : R.2.1 ≤ 1) (e1 : X 1 = x_IO)
    (C : k_ct (tX11_begin (k_fG G b (b + 38)) l) [vR (some a), vI x1, vI x2] h (c_R a B R X N w)) : k_ct (tL_begin G l) [vR (some a), vI x1, vI x2, vR (some (b + 37))] (c_J b s g h) (L_P a b B s g R N w) := by
  obtain ⟨h1, r, C1, W1, rfl⟩ := C
  have ld : ∀ {h2 : k_H} {x : k_R}, k_Jw G l yL_begin cL_begin 5 (some .int) 23 [(0, 10, 13, 13)] (c_J b s g h) (c_J b s g h) 5 (k_args 0 [vR (some a), vI x1, vI x2, vR (some (b + 37))]) [vI x2, vI x1, vR (some a), vI 0, vR (some (b + 37))] h2 x → tL_begin G l [vR (some a), vI x1, vI x2, vR (some (b + 37))] (c_J b s g h) h2 x := fun K => k_CwOf (by decide +kernel) (Nat.le_of_ble_eq_true rfl) (w_aload_n dL_begin_0 rfl rfl (w_iconst dL_begin_1 rfl (w_aload_n dL_begin_2 rfl rfl (w_iload_n dL_begin_3 rfl rfl (w_iload_n dL_begin_4 rfl rfl K))))) ok.2
  rcases J_fro (s := s) (g := g) g0 cn hb C1 with ⟨cn1, C2⟩ | C2
  · by_cases e0 : R.2.1 = 0
    · rw [if_pos e0] at C2
      exact ⟨_, _, ld (w_callV dL_begin_5 kc_L_7 rfl rfl (J_is hab ho) (by decide) (Nat.le_of_ble_eq_true rfl) C2 (w_i2l dL_begin_8 (w_last dL_begin_9 J_out vp_01 (w_goto (tgt := 17) dL_begin_10 (by decide) (w_iconst dL_begin_17 rfl (w_iret dL_begin_18 rfl)))))), by rw [e0]; rfl, h1, W1, Or.inr ⟨cn1, by rw [if_pos e0]; exact J_up⟩⟩
    · rw [if_neg e0] at C2
      have hc : R.2.1 = 1 := by omega
      have f1 := hc
      rw [f1, e1] at C2
      exact ⟨_, _, ld (w_callVx [] (⟨0, 10, 13, 13⟩ : ExceptionTableEntry) [] rfl (fun z hz => by cases hz) rfl (by decide) kx_L_13 (by decide +kernel) dL_begin_5 kc_L_7 rfl rfl (J_is hab ho) (by decide) (Nat.le_of_ble_eq_true rfl) C2 (fun q => w_astore dL_begin_13 (by decide) rfl (w_iconst dL_begin_15 rfl (w_iret dL_begin_16 rfl)))), by rw [f1]; rfl, h1, W1, Or.inr ⟨cn1, by rw [if_neg e0]⟩⟩
  · by_cases e0 : R.2.1 = 0
    · rw [if_pos e0] at C2
      exact ⟨_, _, ld (w_callV dL_begin_5 kc_L_7 rfl rfl (J_is hab ho) (by decide) (Nat.le_of_ble_eq_true rfl) C2 w_no), rfl, h1, W1, Or.inl rfl⟩
    · rw [if_neg e0] at C2
      have hc : R.2.1 = 1 := by omega
      have f1 := hc
      rw [f1, e1] at C2
      exact ⟨_, _, ld (w_callVx [] (⟨0, 10, 13, 13⟩ : ExceptionTableEntry) [] rfl (fun z hz => by cases hz) rfl (by decide) kx_L_13 (by decide +kernel) dL_begin_5 kc_L_7 rfl rfl (J_is hab ho) (by decide) (Nat.le_of_ble_eq_true rfl) C2 (fun q => w_no)), rfl, h1, W1, Or.inl rfl⟩
abbrev tL_get (G : k_G) (l : Launch) : k_T := k_Cw G l yL_get cL_get 8 (some .int) 25 [(0, 16, 19, 13), (0, 16, 23, 19), (0, 16, 27, 21)]
theorem L_get (ok : k_ok G l) (g0 : k_fh G = 0) {a b N w : Nat} {B : Nat × Nat} {s : m_S} {g : Nat → Int64} {h : k_H} {R : s_M × Nat × Int32} {X : Nat → String} {x1 x2 x3 x4 x5 : Int32} (hab : a < b) (ho : k_is h a 14) (cn : k_cn b (b + 38) h) (hb : b + 38 ≤ h.2.1) (hR : R.2.1 ≤ 3) (e1 : X 1 = x_IO) (e2 : X 2 = x_IA) (e3 : X 3 = x_IS)
    (C : k_ct (tX11_get (k_fG G b (b + 38)) l) [vR (some a), vI x1, vI x2, vI x3, vI x4, vI x5] h (c_R a B R X N w)) : k_ct (tL_get G l) [vR (some a), vI x1, vI x2, vI x3, vI x4, vI x5, vR (some (b + 37))] (c_J b s g h) (L_P a b B s g R N w) := by
  obtain ⟨h1, r, C1, W1, rfl⟩ := C
  have ld : ∀ {h2 : k_H} {x : k_R}, k_Jw G l yL_get cL_get 8 (some .int) 25 [(0, 16, 19, 13), (0, 16, 23, 19), (0, 16, 27, 21)] (c_J b s g h) (c_J b s g h) 11 (k_args 0 [vR (some a), vI x1, vI x2, vI x3, vI x4, vI x5, vR (some (b + 37))]) [vI x5, vI x4, vI x3, vI x2, vI x1, vR (some a), vI 0, vR (some (b + 37))] h2 x → tL_get G l [vR (some a), vI x1, vI x2, vI x3, vI x4, vI x5, vR (some (b + 37))] (c_J b s g h) h2 x := fun K => k_CwOf (by decide +kernel) (Nat.le_of_ble_eq_true rfl) (w_aload dL_get_0 rfl (w_iconst dL_get_2 rfl (w_aload_n dL_get_3 rfl rfl (w_iload_n dL_get_4 rfl rfl (w_iload_n dL_get_5 rfl rfl (w_iload_n dL_get_6 rfl rfl (w_iload dL_get_7 rfl (w_iload dL_get_9 rfl K)))))))) ok.2
  rcases J_fro (s := s) (g := g) g0 cn hb C1 with ⟨cn1, C2⟩ | C2
  · by_cases e0 : R.2.1 = 0
    · rw [if_pos e0] at C2
      exact ⟨_, _, ld (w_callV dL_get_11 kc_L_15 rfl rfl (J_is hab ho) (by decide) (Nat.le_of_ble_eq_true rfl) C2 (w_i2l dL_get_14 (w_last dL_get_15 J_out vp_01 (w_goto (tgt := 31) dL_get_16 (by decide) (w_iconst dL_get_31 rfl (w_iret dL_get_32 rfl)))))), by rw [e0]; rfl, h1, W1, Or.inr ⟨cn1, by rw [if_pos e0]; exact J_up⟩⟩
    · rw [if_neg e0] at C2
      have hc : R.2.1 = 1 ∨ R.2.1 = 2 ∨ R.2.1 = 3 := by omega
      rcases hc with f1 | f2 | f3
      · rw [f1, e1] at C2
        exact ⟨_, _, ld (w_callVx [] (⟨0, 16, 19, 13⟩ : ExceptionTableEntry) [(⟨0, 16, 23, 19⟩ : ExceptionTableEntry), (⟨0, 16, 27, 21⟩ : ExceptionTableEntry)] rfl (fun z hz => by cases hz) rfl (by decide) kx_L_13 (by decide +kernel) dL_get_11 kc_L_15 rfl rfl (J_is hab ho) (by decide) (Nat.le_of_ble_eq_true rfl) C2 (fun q => w_astore dL_get_19 (by decide) rfl (w_iconst dL_get_21 rfl (w_iret dL_get_22 rfl)))), by rw [f1]; rfl, h1, W1, Or.inr ⟨cn1, by rw [if_neg e0]⟩⟩
      · rw [f2, e2] at C2
        exact ⟨_, _, ld (w_callVx [(⟨0, 16, 19, 13⟩ : ExceptionTableEntry)] (⟨0, 16, 23, 19⟩ : ExceptionTableEntry) [(⟨0, 16, 27, 21⟩ : ExceptionTableEntry)] rfl (fun z hz => by
        simp only [List.mem_cons, List.not_mem_nil, or_false] at hz
        rcases hz with rfl
        · exact ⟨by decide, _, kx_L_13, by decide +kernel⟩) rfl (by decide) kx_L_19 (by decide +kernel) dL_get_11 kc_L_15 rfl rfl (J_is hab ho) (by decide) (Nat.le_of_ble_eq_true rfl) C2 (fun q => w_astore dL_get_23 (by decide) rfl (w_iconst dL_get_25 rfl (w_iret dL_get_26 rfl)))), by rw [f2]; rfl, h1, W1, Or.inr ⟨cn1, by rw [if_neg e0]⟩⟩
      · rw [f3, e3] at C2
        exact ⟨_, _, ld (w_callVx [(⟨0, 16, 19, 13⟩ : ExceptionTableEntry), (⟨0, 16, 23, 19⟩ : ExceptionTableEntry)] (⟨0, 16, 27, 21⟩ : ExceptionTableEntry) [] rfl (fun z hz => by
        simp only [List.mem_cons, List.not_mem_nil, or_false] at hz
        rcases hz with rfl | rfl
        · exact ⟨by decide, _, kx_L_13, by decide +kernel⟩
        · exact ⟨by decide, _, kx_L_19, by decide +kernel⟩) rfl (by decide) kx_L_21 (by decide +kernel) dL_get_11 kc_L_15 rfl rfl (J_is hab ho) (by decide) (Nat.le_of_ble_eq_true rfl) C2 (fun q => w_astore dL_get_27 (by decide) rfl (w_iconst dL_get_29 rfl (w_iret dL_get_30 rfl)))), by rw [f3]; rfl, h1, W1, Or.inr ⟨cn1, by rw [if_neg e0]⟩⟩
  · by_cases e0 : R.2.1 = 0
    · rw [if_pos e0] at C2
      exact ⟨_, _, ld (w_callV dL_get_11 kc_L_15 rfl rfl (J_is hab ho) (by decide) (Nat.le_of_ble_eq_true rfl) C2 w_no), rfl, h1, W1, Or.inl rfl⟩
    · rw [if_neg e0] at C2
      have hc : R.2.1 = 1 ∨ R.2.1 = 2 ∨ R.2.1 = 3 := by omega
      rcases hc with f1 | f2 | f3
      · rw [f1, e1] at C2
        exact ⟨_, _, ld (w_callVx [] (⟨0, 16, 19, 13⟩ : ExceptionTableEntry) [(⟨0, 16, 23, 19⟩ : ExceptionTableEntry), (⟨0, 16, 27, 21⟩ : ExceptionTableEntry)] rfl (fun z hz => by cases hz) rfl (by decide) kx_L_13 (by decide +kernel) dL_get_11 kc_L_15 rfl rfl (J_is hab ho) (by decide) (Nat.le_of_ble_eq_true rfl) C2 (fun q => w_no)), rfl, h1, W1, Or.inl rfl⟩
      · rw [f2, e2] at C2
        exact ⟨_, _, ld (w_callVx [(⟨0, 16, 19, 13⟩ : ExceptionTableEntry)] (⟨0, 16, 23, 19⟩ : ExceptionTableEntry) [(⟨0, 16, 27, 21⟩ : ExceptionTableEntry)] rfl (fun z hz => by
        simp only [List.mem_cons, List.not_mem_nil, or_false] at hz
        rcases hz with rfl
        · exact ⟨by decide, _, kx_L_13, by decide +kernel⟩) rfl (by decide) kx_L_19 (by decide +kernel) dL_get_11 kc_L_15 rfl rfl (J_is hab ho) (by decide) (Nat.le_of_ble_eq_true rfl) C2 (fun q => w_no)), rfl, h1, W1, Or.inl rfl⟩
      · rw [f3, e3] at C2
        exact ⟨_, _, ld (w_callVx [(⟨0, 16, 19, 13⟩ : ExceptionTableEntry), (⟨0, 16, 23, 19⟩ : ExceptionTableEntry)] (⟨0, 16, 27, 21⟩ : ExceptionTableEntry) [] rfl (fun z hz => by
        simp only [List.mem_cons, List.not_mem_nil, or_false] at hz
        rcases hz with rfl | rfl
        · exact ⟨by decide, _, kx_L_13, by decide +kernel⟩
        · exact ⟨by decide, _, kx_L_19, by decide +kernel⟩) rfl (by decide) kx_L_21 (by decide +kernel) dL_get_11 kc_L_15 rfl rfl (J_is hab ho) (by decide) (Nat.le_of_ble_eq_true rfl) C2 (fun q => w_no)), rfl, h1, W1, Or.inl rfl⟩
abbrev tL_range (G : k_G) (l : Launch) : k_T := k_Cw G l yL_range cL_range 7 (some .int) 26 [(0, 14, 17, 13), (0, 14, 21, 19), (0, 14, 25, 21)]
theorem L_range (ok : k_ok G l) (g0 : k_fh G = 0) {a b N w : Nat} {B : Nat × Nat} {s : m_S} {g : Nat → Int64} {h : k_H} {R : s_M × Nat × Int32} {X : Nat → String} {x1 x2 x3 x4 : Int32} (hab : a < b) (ho : k_is h a 14) (cn : k_cn b (b + 38) h) (hb : b + 38 ≤ h.2.1) (hR : R.2.1 ≤ 3) (e1 : X 1 = x_IO) (e2 : X 2 = x_IA) (e3 : X 3 = x_IS)
    (C : k_ct (tX11_range (k_fG G b (b + 38)) l) [vR (some a), vI x1, vI x2, vI x3, vI x4] h (c_R a B R X N w)) : k_ct (tL_range G l) [vR (some a), vI x1, vI x2, vI x3, vI x4, vR (some (b + 37))] (c_J b s g h) (L_P a b B s g R N w) := by
  obtain ⟨h1, r, C1, W1, rfl⟩ := C
  have ld : ∀ {h2 : k_H} {x : k_R}, k_Jw G l yL_range cL_range 7 (some .int) 26 [(0, 14, 17, 13), (0, 14, 21, 19), (0, 14, 25, 21)] (c_J b s g h) (c_J b s g h) 9 (k_args 0 [vR (some a), vI x1, vI x2, vI x3, vI x4, vR (some (b + 37))]) [vI x4, vI x3, vI x2, vI x1, vR (some a), vI 0, vR (some (b + 37))] h2 x → tL_range G l [vR (some a), vI x1, vI x2, vI x3, vI x4, vR (some (b + 37))] (c_J b s g h) h2 x := fun K => k_CwOf (by decide +kernel) (Nat.le_of_ble_eq_true rfl) (w_aload dL_range_0 rfl (w_iconst dL_range_2 rfl (w_aload_n dL_range_3 rfl rfl (w_iload_n dL_range_4 rfl rfl (w_iload_n dL_range_5 rfl rfl (w_iload_n dL_range_6 rfl rfl (w_iload dL_range_7 rfl K))))))) ok.2
  rcases J_fro (s := s) (g := g) g0 cn hb C1 with ⟨cn1, C2⟩ | C2
  · by_cases e0 : R.2.1 = 0
    · rw [if_pos e0] at C2
      exact ⟨_, _, ld (w_callV dL_range_9 kc_L_23 rfl rfl (J_is hab ho) (by decide) (Nat.le_of_ble_eq_true rfl) C2 (w_i2l dL_range_12 (w_last dL_range_13 J_out vp_01 (w_goto (tgt := 29) dL_range_14 (by decide) (w_iconst dL_range_29 rfl (w_iret dL_range_30 rfl)))))), by rw [e0]; rfl, h1, W1, Or.inr ⟨cn1, by rw [if_pos e0]; exact J_up⟩⟩
    · rw [if_neg e0] at C2
      have hc : R.2.1 = 1 ∨ R.2.1 = 2 ∨ R.2.1 = 3 := by omega
      rcases hc with f1 | f2 | f3
      · rw [f1, e1] at C2
        exact ⟨_, _, ld (w_callVx [] (⟨0, 14, 17, 13⟩ : ExceptionTableEntry) [(⟨0, 14, 21, 19⟩ : ExceptionTableEntry), (⟨0, 14, 25, 21⟩ : ExceptionTableEntry)] rfl (fun z hz => by cases hz) rfl (by decide) kx_L_13 (by decide +kernel) dL_range_9 kc_L_23 rfl rfl (J_is hab ho) (by decide) (Nat.le_of_ble_eq_true rfl) C2 (fun q => w_astore dL_range_17 (by decide) rfl (w_iconst dL_range_19 rfl (w_iret dL_range_20 rfl)))), by rw [f1]; rfl, h1, W1, Or.inr ⟨cn1, by rw [if_neg e0]⟩⟩
      · rw [f2, e2] at C2
        exact ⟨_, _, ld (w_callVx [(⟨0, 14, 17, 13⟩ : ExceptionTableEntry)] (⟨0, 14, 21, 19⟩ : ExceptionTableEntry) [(⟨0, 14, 25, 21⟩ : ExceptionTableEntry)] rfl (fun z hz => by
        simp only [List.mem_cons, List.not_mem_nil, or_false] at hz
        rcases hz with rfl
        · exact ⟨by decide, _, kx_L_13, by decide +kernel⟩) rfl (by decide) kx_L_19 (by decide +kernel) dL_range_9 kc_L_23 rfl rfl (J_is hab ho) (by decide) (Nat.le_of_ble_eq_true rfl) C2 (fun q => w_astore dL_range_21 (by decide) rfl (w_iconst dL_range_23 rfl (w_iret dL_range_24 rfl)))), by rw [f2]; rfl, h1, W1, Or.inr ⟨cn1, by rw [if_neg e0]⟩⟩
      · rw [f3, e3] at C2
        exact ⟨_, _, ld (w_callVx [(⟨0, 14, 17, 13⟩ : ExceptionTableEntry), (⟨0, 14, 21, 19⟩ : ExceptionTableEntry)] (⟨0, 14, 25, 21⟩ : ExceptionTableEntry) [] rfl (fun z hz => by
        simp only [List.mem_cons, List.not_mem_nil, or_false] at hz
        rcases hz with rfl | rfl
        · exact ⟨by decide, _, kx_L_13, by decide +kernel⟩
        · exact ⟨by decide, _, kx_L_19, by decide +kernel⟩) rfl (by decide) kx_L_21 (by decide +kernel) dL_range_9 kc_L_23 rfl rfl (J_is hab ho) (by decide) (Nat.le_of_ble_eq_true rfl) C2 (fun q => w_astore dL_range_25 (by decide) rfl (w_iconst dL_range_27 rfl (w_iret dL_range_28 rfl)))), by rw [f3]; rfl, h1, W1, Or.inr ⟨cn1, by rw [if_neg e0]⟩⟩
  · by_cases e0 : R.2.1 = 0
    · rw [if_pos e0] at C2
      exact ⟨_, _, ld (w_callV dL_range_9 kc_L_23 rfl rfl (J_is hab ho) (by decide) (Nat.le_of_ble_eq_true rfl) C2 w_no), rfl, h1, W1, Or.inl rfl⟩
    · rw [if_neg e0] at C2
      have hc : R.2.1 = 1 ∨ R.2.1 = 2 ∨ R.2.1 = 3 := by omega
      rcases hc with f1 | f2 | f3
      · rw [f1, e1] at C2
        exact ⟨_, _, ld (w_callVx [] (⟨0, 14, 17, 13⟩ : ExceptionTableEntry) [(⟨0, 14, 21, 19⟩ : ExceptionTableEntry), (⟨0, 14, 25, 21⟩ : ExceptionTableEntry)] rfl (fun z hz => by cases hz) rfl (by decide) kx_L_13 (by decide +kernel) dL_range_9 kc_L_23 rfl rfl (J_is hab ho) (by decide) (Nat.le_of_ble_eq_true rfl) C2 (fun q => w_no)), rfl, h1, W1, Or.inl rfl⟩
      · rw [f2, e2] at C2
        exact ⟨_, _, ld (w_callVx [(⟨0, 14, 17, 13⟩ : ExceptionTableEntry)] (⟨0, 14, 21, 19⟩ : ExceptionTableEntry) [(⟨0, 14, 25, 21⟩ : ExceptionTableEntry)] rfl (fun z hz => by
        simp only [List.mem_cons, List.not_mem_nil, or_false] at hz
        rcases hz with rfl
        · exact ⟨by decide, _, kx_L_13, by decide +kernel⟩) rfl (by decide) kx_L_19 (by decide +kernel) dL_range_9 kc_L_23 rfl rfl (J_is hab ho) (by decide) (Nat.le_of_ble_eq_true rfl) C2 (fun q => w_no)), rfl, h1, W1, Or.inl rfl⟩
      · rw [f3, e3] at C2
        exact ⟨_, _, ld (w_callVx [(⟨0, 14, 17, 13⟩ : ExceptionTableEntry), (⟨0, 14, 21, 19⟩ : ExceptionTableEntry)] (⟨0, 14, 25, 21⟩ : ExceptionTableEntry) [] rfl (fun z hz => by
        simp only [List.mem_cons, List.not_mem_nil, or_false] at hz
        rcases hz with rfl | rfl
        · exact ⟨by decide, _, kx_L_13, by decide +kernel⟩
        · exact ⟨by decide, _, kx_L_19, by decide +kernel⟩) rfl (by decide) kx_L_21 (by decide +kernel) dL_range_9 kc_L_23 rfl rfl (J_is hab ho) (by decide) (Nat.le_of_ble_eq_true rfl) C2 (fun q => w_no)), rfl, h1, W1, Or.inl rfl⟩
abbrev tL_rangeAt (G : k_G) (l : Launch) : k_T := k_Cw G l yL_rangeAt cL_rangeAt 8 (some .int) 26 [(0, 16, 19, 13), (0, 16, 23, 19), (0, 16, 27, 21)]
theorem L_rangeAt (ok : k_ok G l) (g0 : k_fh G = 0) {a b N w : Nat} {B : Nat × Nat} {s : m_S} {g : Nat → Int64} {h : k_H} {R : s_M × Nat × Int32} {X : Nat → String} {x1 x2 x3 x4 x5 : Int32} (hab : a < b) (ho : k_is h a 14) (cn : k_cn b (b + 38) h) (hb : b + 38 ≤ h.2.1) (hR : R.2.1 ≤ 3) (e1 : X 1 = x_IO) (e2 : X 2 = x_IA) (e3 : X 3 = x_IS)
    (C : k_ct (tX11_rangeAt (k_fG G b (b + 38)) l) [vR (some a), vI x1, vI x2, vI x3, vI x4, vI x5] h (c_R a B R X N w)) : k_ct (tL_rangeAt G l) [vR (some a), vI x1, vI x2, vI x3, vI x4, vI x5, vR (some (b + 37))] (c_J b s g h) (L_P a b B s g R N w) := by
  obtain ⟨h1, r, C1, W1, rfl⟩ := C
  have ld : ∀ {h2 : k_H} {x : k_R}, k_Jw G l yL_rangeAt cL_rangeAt 8 (some .int) 26 [(0, 16, 19, 13), (0, 16, 23, 19), (0, 16, 27, 21)] (c_J b s g h) (c_J b s g h) 11 (k_args 0 [vR (some a), vI x1, vI x2, vI x3, vI x4, vI x5, vR (some (b + 37))]) [vI x5, vI x4, vI x3, vI x2, vI x1, vR (some a), vI 0, vR (some (b + 37))] h2 x → tL_rangeAt G l [vR (some a), vI x1, vI x2, vI x3, vI x4, vI x5, vR (some (b + 37))] (c_J b s g h) h2 x := fun K => k_CwOf (by decide +kernel) (Nat.le_of_ble_eq_true rfl) (w_aload dL_rangeAt_0 rfl (w_iconst dL_rangeAt_2 rfl (w_aload_n dL_rangeAt_3 rfl rfl (w_iload_n dL_rangeAt_4 rfl rfl (w_iload_n dL_rangeAt_5 rfl rfl (w_iload_n dL_rangeAt_6 rfl rfl (w_iload dL_rangeAt_7 rfl (w_iload dL_rangeAt_9 rfl K)))))))) ok.2
  rcases J_fro (s := s) (g := g) g0 cn hb C1 with ⟨cn1, C2⟩ | C2
  · by_cases e0 : R.2.1 = 0
    · rw [if_pos e0] at C2
      exact ⟨_, _, ld (w_callV dL_rangeAt_11 kc_L_27 rfl rfl (J_is hab ho) (by decide) (Nat.le_of_ble_eq_true rfl) C2 (w_i2l dL_rangeAt_14 (w_last dL_rangeAt_15 J_out vp_01 (w_goto (tgt := 31) dL_rangeAt_16 (by decide) (w_iconst dL_rangeAt_31 rfl (w_iret dL_rangeAt_32 rfl)))))), by rw [e0]; rfl, h1, W1, Or.inr ⟨cn1, by rw [if_pos e0]; exact J_up⟩⟩
    · rw [if_neg e0] at C2
      have hc : R.2.1 = 1 ∨ R.2.1 = 2 ∨ R.2.1 = 3 := by omega
      rcases hc with f1 | f2 | f3
      · rw [f1, e1] at C2
        exact ⟨_, _, ld (w_callVx [] (⟨0, 16, 19, 13⟩ : ExceptionTableEntry) [(⟨0, 16, 23, 19⟩ : ExceptionTableEntry), (⟨0, 16, 27, 21⟩ : ExceptionTableEntry)] rfl (fun z hz => by cases hz) rfl (by decide) kx_L_13 (by decide +kernel) dL_rangeAt_11 kc_L_27 rfl rfl (J_is hab ho) (by decide) (Nat.le_of_ble_eq_true rfl) C2 (fun q => w_astore dL_rangeAt_19 (by decide) rfl (w_iconst dL_rangeAt_21 rfl (w_iret dL_rangeAt_22 rfl)))), by rw [f1]; rfl, h1, W1, Or.inr ⟨cn1, by rw [if_neg e0]⟩⟩
      · rw [f2, e2] at C2
        exact ⟨_, _, ld (w_callVx [(⟨0, 16, 19, 13⟩ : ExceptionTableEntry)] (⟨0, 16, 23, 19⟩ : ExceptionTableEntry) [(⟨0, 16, 27, 21⟩ : ExceptionTableEntry)] rfl (fun z hz => by
        simp only [List.mem_cons, List.not_mem_nil, or_false] at hz
        rcases hz with rfl
        · exact ⟨by decide, _, kx_L_13, by decide +kernel⟩) rfl (by decide) kx_L_19 (by decide +kernel) dL_rangeAt_11 kc_L_27 rfl rfl (J_is hab ho) (by decide) (Nat.le_of_ble_eq_true rfl) C2 (fun q => w_astore dL_rangeAt_23 (by decide) rfl (w_iconst dL_rangeAt_25 rfl (w_iret dL_rangeAt_26 rfl)))), by rw [f2]; rfl, h1, W1, Or.inr ⟨cn1, by rw [if_neg e0]⟩⟩
      · rw [f3, e3] at C2
        exact ⟨_, _, ld (w_callVx [(⟨0, 16, 19, 13⟩ : ExceptionTableEntry), (⟨0, 16, 23, 19⟩ : ExceptionTableEntry)] (⟨0, 16, 27, 21⟩ : ExceptionTableEntry) [] rfl (fun z hz => by
        simp only [List.mem_cons, List.not_mem_nil, or_false] at hz
        rcases hz with rfl | rfl
        · exact ⟨by decide, _, kx_L_13, by decide +kernel⟩
        · exact ⟨by decide, _, kx_L_19, by decide +kernel⟩) rfl (by decide) kx_L_21 (by decide +kernel) dL_rangeAt_11 kc_L_27 rfl rfl (J_is hab ho) (by decide) (Nat.le_of_ble_eq_true rfl) C2 (fun q => w_astore dL_rangeAt_27 (by decide) rfl (w_iconst dL_rangeAt_29 rfl (w_iret dL_rangeAt_30 rfl)))), by rw [f3]; rfl, h1, W1, Or.inr ⟨cn1, by rw [if_neg e0]⟩⟩
  · by_cases e0 : R.2.1 = 0
    · rw [if_pos e0] at C2
      exact ⟨_, _, ld (w_callV dL_rangeAt_11 kc_L_27 rfl rfl (J_is hab ho) (by decide) (Nat.le_of_ble_eq_true rfl) C2 w_no), rfl, h1, W1, Or.inl rfl⟩
    · rw [if_neg e0] at C2
      have hc : R.2.1 = 1 ∨ R.2.1 = 2 ∨ R.2.1 = 3 := by omega
      rcases hc with f1 | f2 | f3
      · rw [f1, e1] at C2
        exact ⟨_, _, ld (w_callVx [] (⟨0, 16, 19, 13⟩ : ExceptionTableEntry) [(⟨0, 16, 23, 19⟩ : ExceptionTableEntry), (⟨0, 16, 27, 21⟩ : ExceptionTableEntry)] rfl (fun z hz => by cases hz) rfl (by decide) kx_L_13 (by decide +kernel) dL_rangeAt_11 kc_L_27 rfl rfl (J_is hab ho) (by decide) (Nat.le_of_ble_eq_true rfl) C2 (fun q => w_no)), rfl, h1, W1, Or.inl rfl⟩
      · rw [f2, e2] at C2
        exact ⟨_, _, ld (w_callVx [(⟨0, 16, 19, 13⟩ : ExceptionTableEntry)] (⟨0, 16, 23, 19⟩ : ExceptionTableEntry) [(⟨0, 16, 27, 21⟩ : ExceptionTableEntry)] rfl (fun z hz => by
        simp only [List.mem_cons, List.not_mem_nil, or_false] at hz
        rcases hz with rfl
        · exact ⟨by decide, _, kx_L_13, by decide +kernel⟩) rfl (by decide) kx_L_19 (by decide +kernel) dL_rangeAt_11 kc_L_27 rfl rfl (J_is hab ho) (by decide) (Nat.le_of_ble_eq_true rfl) C2 (fun q => w_no)), rfl, h1, W1, Or.inl rfl⟩
      · rw [f3, e3] at C2
        exact ⟨_, _, ld (w_callVx [(⟨0, 16, 19, 13⟩ : ExceptionTableEntry), (⟨0, 16, 23, 19⟩ : ExceptionTableEntry)] (⟨0, 16, 27, 21⟩ : ExceptionTableEntry) [] rfl (fun z hz => by
        simp only [List.mem_cons, List.not_mem_nil, or_false] at hz
        rcases hz with rfl | rfl
        · exact ⟨by decide, _, kx_L_13, by decide +kernel⟩
        · exact ⟨by decide, _, kx_L_19, by decide +kernel⟩) rfl (by decide) kx_L_21 (by decide +kernel) dL_rangeAt_11 kc_L_27 rfl rfl (J_is hab ho) (by decide) (Nat.le_of_ble_eq_true rfl) C2 (fun q => w_no)), rfl, h1, W1, Or.inl rfl⟩
abbrev tL_change (G : k_G) (l : Launch) : k_T := k_Cw G l yL_change cL_change 9 (some .int) 25 [(0, 18, 21, 13), (0, 18, 25, 19), (0, 18, 29, 21)]
theorem L_change (ok : k_ok G l) (g0 : k_fh G = 0) {a b N w : Nat} {B : Nat × Nat} {s : m_S} {g : Nat → Int64} {h : k_H} {R : s_M × Nat × Int32} {X : Nat → String} {x1 x2 x3 x4 x5 x6 : Int32} (hab : a < b) (ho : k_is h a 14) (cn : k_cn b (b + 38) h) (hb : b + 38 ≤ h.2.1) (hR : R.2.1 ≤ 3) (e1 : X 1 = x_IO) (e2 : X 2 = x_IA) (e3 : X 3 = x_IS)
    (C : k_ct (tX11_change (k_fG G b (b + 38)) l) [vR (some a), vI x1, vI x2, vI x3, vI x4, vI x5, vI x6] h (c_R a B R X N w)) : k_ct (tL_change G l) [vR (some a), vI x1, vI x2, vI x3, vI x4, vI x5, vI x6, vR (some (b + 37))] (c_J b s g h) (L_P a b B s g R N w) := by
  obtain ⟨h1, r, C1, W1, rfl⟩ := C
  have ld : ∀ {h2 : k_H} {x : k_R}, k_Jw G l yL_change cL_change 9 (some .int) 25 [(0, 18, 21, 13), (0, 18, 25, 19), (0, 18, 29, 21)] (c_J b s g h) (c_J b s g h) 13 (k_args 0 [vR (some a), vI x1, vI x2, vI x3, vI x4, vI x5, vI x6, vR (some (b + 37))]) [vI x6, vI x5, vI x4, vI x3, vI x2, vI x1, vR (some a), vI 0, vR (some (b + 37))] h2 x → tL_change G l [vR (some a), vI x1, vI x2, vI x3, vI x4, vI x5, vI x6, vR (some (b + 37))] (c_J b s g h) h2 x := fun K => k_CwOf (by decide +kernel) (Nat.le_of_ble_eq_true rfl) (w_aload dL_change_0 rfl (w_iconst dL_change_2 rfl (w_aload_n dL_change_3 rfl rfl (w_iload_n dL_change_4 rfl rfl (w_iload_n dL_change_5 rfl rfl (w_iload_n dL_change_6 rfl rfl (w_iload dL_change_7 rfl (w_iload dL_change_9 rfl (w_iload dL_change_11 rfl K))))))))) ok.2
  rcases J_fro (s := s) (g := g) g0 cn hb C1 with ⟨cn1, C2⟩ | C2
  · by_cases e0 : R.2.1 = 0
    · rw [if_pos e0] at C2
      exact ⟨_, _, ld (w_callV dL_change_13 kc_L_31 rfl rfl (J_is hab ho) (by decide) (Nat.le_of_ble_eq_true rfl) C2 (w_i2l dL_change_16 (w_last dL_change_17 J_out vp_01 (w_goto (tgt := 33) dL_change_18 (by decide) (w_iconst dL_change_33 rfl (w_iret dL_change_34 rfl)))))), by rw [e0]; rfl, h1, W1, Or.inr ⟨cn1, by rw [if_pos e0]; exact J_up⟩⟩
    · rw [if_neg e0] at C2
      have hc : R.2.1 = 1 ∨ R.2.1 = 2 ∨ R.2.1 = 3 := by omega
      rcases hc with f1 | f2 | f3
      · rw [f1, e1] at C2
        exact ⟨_, _, ld (w_callVx [] (⟨0, 18, 21, 13⟩ : ExceptionTableEntry) [(⟨0, 18, 25, 19⟩ : ExceptionTableEntry), (⟨0, 18, 29, 21⟩ : ExceptionTableEntry)] rfl (fun z hz => by cases hz) rfl (by decide) kx_L_13 (by decide +kernel) dL_change_13 kc_L_31 rfl rfl (J_is hab ho) (by decide) (Nat.le_of_ble_eq_true rfl) C2 (fun q => w_astore dL_change_21 (by decide) rfl (w_iconst dL_change_23 rfl (w_iret dL_change_24 rfl)))), by rw [f1]; rfl, h1, W1, Or.inr ⟨cn1, by rw [if_neg e0]⟩⟩
      · rw [f2, e2] at C2
        exact ⟨_, _, ld (w_callVx [(⟨0, 18, 21, 13⟩ : ExceptionTableEntry)] (⟨0, 18, 25, 19⟩ : ExceptionTableEntry) [(⟨0, 18, 29, 21⟩ : ExceptionTableEntry)] rfl (fun z hz => by
        simp only [List.mem_cons, List.not_mem_nil, or_false] at hz
        rcases hz with rfl
        · exact ⟨by decide, _, kx_L_13, by decide +kernel⟩) rfl (by decide) kx_L_19 (by decide +kernel) dL_change_13 kc_L_31 rfl rfl (J_is hab ho) (by decide) (Nat.le_of_ble_eq_true rfl) C2 (fun q => w_astore dL_change_25 (by decide) rfl (w_iconst dL_change_27 rfl (w_iret dL_change_28 rfl)))), by rw [f2]; rfl, h1, W1, Or.inr ⟨cn1, by rw [if_neg e0]⟩⟩
      · rw [f3, e3] at C2
        exact ⟨_, _, ld (w_callVx [(⟨0, 18, 21, 13⟩ : ExceptionTableEntry), (⟨0, 18, 25, 19⟩ : ExceptionTableEntry)] (⟨0, 18, 29, 21⟩ : ExceptionTableEntry) [] rfl (fun z hz => by
        simp only [List.mem_cons, List.not_mem_nil, or_false] at hz
        rcases hz with rfl | rfl
        · exact ⟨by decide, _, kx_L_13, by decide +kernel⟩
        · exact ⟨by decide, _, kx_L_19, by decide +kernel⟩) rfl (by decide) kx_L_21 (by decide +kernel) dL_change_13 kc_L_31 rfl rfl (J_is hab ho) (by decide) (Nat.le_of_ble_eq_true rfl) C2 (fun q => w_astore dL_change_29 (by decide) rfl (w_iconst dL_change_31 rfl (w_iret dL_change_32 rfl)))), by rw [f3]; rfl, h1, W1, Or.inr ⟨cn1, by rw [if_neg e0]⟩⟩
  · by_cases e0 : R.2.1 = 0
    · rw [if_pos e0] at C2
      exact ⟨_, _, ld (w_callV dL_change_13 kc_L_31 rfl rfl (J_is hab ho) (by decide) (Nat.le_of_ble_eq_true rfl) C2 w_no), rfl, h1, W1, Or.inl rfl⟩
    · rw [if_neg e0] at C2
      have hc : R.2.1 = 1 ∨ R.2.1 = 2 ∨ R.2.1 = 3 := by omega
      rcases hc with f1 | f2 | f3
      · rw [f1, e1] at C2
        exact ⟨_, _, ld (w_callVx [] (⟨0, 18, 21, 13⟩ : ExceptionTableEntry) [(⟨0, 18, 25, 19⟩ : ExceptionTableEntry), (⟨0, 18, 29, 21⟩ : ExceptionTableEntry)] rfl (fun z hz => by cases hz) rfl (by decide) kx_L_13 (by decide +kernel) dL_change_13 kc_L_31 rfl rfl (J_is hab ho) (by decide) (Nat.le_of_ble_eq_true rfl) C2 (fun q => w_no)), rfl, h1, W1, Or.inl rfl⟩
      · rw [f2, e2] at C2
        exact ⟨_, _, ld (w_callVx [(⟨0, 18, 21, 13⟩ : ExceptionTableEntry)] (⟨0, 18, 25, 19⟩ : ExceptionTableEntry) [(⟨0, 18, 29, 21⟩ : ExceptionTableEntry)] rfl (fun z hz => by
        simp only [List.mem_cons, List.not_mem_nil, or_false] at hz
        rcases hz with rfl
        · exact ⟨by decide, _, kx_L_13, by decide +kernel⟩) rfl (by decide) kx_L_19 (by decide +kernel) dL_change_13 kc_L_31 rfl rfl (J_is hab ho) (by decide) (Nat.le_of_ble_eq_true rfl) C2 (fun q => w_no)), rfl, h1, W1, Or.inl rfl⟩
      · rw [f3, e3] at C2
        exact ⟨_, _, ld (w_callVx [(⟨0, 18, 21, 13⟩ : ExceptionTableEntry), (⟨0, 18, 25, 19⟩ : ExceptionTableEntry)] (⟨0, 18, 29, 21⟩ : ExceptionTableEntry) [] rfl (fun z hz => by
        simp only [List.mem_cons, List.not_mem_nil, or_false] at hz
        rcases hz with rfl | rfl
        · exact ⟨by decide, _, kx_L_13, by decide +kernel⟩
        · exact ⟨by decide, _, kx_L_19, by decide +kernel⟩) rfl (by decide) kx_L_21 (by decide +kernel) dL_change_13 kc_L_31 rfl rfl (J_is hab ho) (by decide) (Nat.le_of_ble_eq_true rfl) C2 (fun q => w_no)), rfl, h1, W1, Or.inl rfl⟩
abbrev tL_clear (G : k_G) (l : Launch) : k_T := k_Cw G l yL_clear cL_clear 6 (some .int) 26 [(0, 12, 15, 13), (0, 12, 19, 19), (0, 12, 23, 21)]
theorem L_clear (ok : k_ok G l) (g0 : k_fh G = 0) {a b N w : Nat} {B : Nat × Nat} {s : m_S} {g : Nat → Int64} {h : k_H} {R : s_M × Nat × Int32} {X : Nat → String} {x1 x2 x3 : Int32} (hab : a < b) (ho : k_is h a 14) (cn : k_cn b (b + 38) h) (hb : b + 38 ≤ h.2.1) (hR : R.2.1 ≤ 3) (e1 : X 1 = x_IO) (e2 : X 2 = x_IA) (e3 : X 3 = x_IS)
    (C : k_ct (tX11_clear (k_fG G b (b + 38)) l) [vR (some a), vI x1, vI x2, vI x3] h (c_R a B R X N w)) : k_ct (tL_clear G l) [vR (some a), vI x1, vI x2, vI x3, vR (some (b + 37))] (c_J b s g h) (L_P a b B s g R N w) := by
  obtain ⟨h1, r, C1, W1, rfl⟩ := C
  have ld : ∀ {h2 : k_H} {x : k_R}, k_Jw G l yL_clear cL_clear 6 (some .int) 26 [(0, 12, 15, 13), (0, 12, 19, 19), (0, 12, 23, 21)] (c_J b s g h) (c_J b s g h) 7 (k_args 0 [vR (some a), vI x1, vI x2, vI x3, vR (some (b + 37))]) [vI x3, vI x2, vI x1, vR (some a), vI 0, vR (some (b + 37))] h2 x → tL_clear G l [vR (some a), vI x1, vI x2, vI x3, vR (some (b + 37))] (c_J b s g h) h2 x := fun K => k_CwOf (by decide +kernel) (Nat.le_of_ble_eq_true rfl) (w_aload dL_clear_0 rfl (w_iconst dL_clear_2 rfl (w_aload_n dL_clear_3 rfl rfl (w_iload_n dL_clear_4 rfl rfl (w_iload_n dL_clear_5 rfl rfl (w_iload_n dL_clear_6 rfl rfl K)))))) ok.2
  rcases J_fro (s := s) (g := g) g0 cn hb C1 with ⟨cn1, C2⟩ | C2
  · by_cases e0 : R.2.1 = 0
    · rw [if_pos e0] at C2
      exact ⟨_, _, ld (w_callV dL_clear_7 kc_L_35 rfl rfl (J_is hab ho) (by decide) (Nat.le_of_ble_eq_true rfl) C2 (w_i2l dL_clear_10 (w_last dL_clear_11 J_out vp_01 (w_goto (tgt := 27) dL_clear_12 (by decide) (w_iconst dL_clear_27 rfl (w_iret dL_clear_28 rfl)))))), by rw [e0]; rfl, h1, W1, Or.inr ⟨cn1, by rw [if_pos e0]; exact J_up⟩⟩
    · rw [if_neg e0] at C2
      have hc : R.2.1 = 1 ∨ R.2.1 = 2 ∨ R.2.1 = 3 := by omega
      rcases hc with f1 | f2 | f3
      · rw [f1, e1] at C2
        exact ⟨_, _, ld (w_callVx [] (⟨0, 12, 15, 13⟩ : ExceptionTableEntry) [(⟨0, 12, 19, 19⟩ : ExceptionTableEntry), (⟨0, 12, 23, 21⟩ : ExceptionTableEntry)] rfl (fun z hz => by cases hz) rfl (by decide) kx_L_13 (by decide +kernel) dL_clear_7 kc_L_35 rfl rfl (J_is hab ho) (by decide) (Nat.le_of_ble_eq_true rfl) C2 (fun q => w_astore dL_clear_15 (by decide) rfl (w_iconst dL_clear_17 rfl (w_iret dL_clear_18 rfl)))), by rw [f1]; rfl, h1, W1, Or.inr ⟨cn1, by rw [if_neg e0]⟩⟩
      · rw [f2, e2] at C2
        exact ⟨_, _, ld (w_callVx [(⟨0, 12, 15, 13⟩ : ExceptionTableEntry)] (⟨0, 12, 19, 19⟩ : ExceptionTableEntry) [(⟨0, 12, 23, 21⟩ : ExceptionTableEntry)] rfl (fun z hz => by
        simp only [List.mem_cons, List.not_mem_nil, or_false] at hz
        rcases hz with rfl
        · exact ⟨by decide, _, kx_L_13, by decide +kernel⟩) rfl (by decide) kx_L_19 (by decide +kernel) dL_clear_7 kc_L_35 rfl rfl (J_is hab ho) (by decide) (Nat.le_of_ble_eq_true rfl) C2 (fun q => w_astore dL_clear_19 (by decide) rfl (w_iconst dL_clear_21 rfl (w_iret dL_clear_22 rfl)))), by rw [f2]; rfl, h1, W1, Or.inr ⟨cn1, by rw [if_neg e0]⟩⟩
      · rw [f3, e3] at C2
        exact ⟨_, _, ld (w_callVx [(⟨0, 12, 15, 13⟩ : ExceptionTableEntry), (⟨0, 12, 19, 19⟩ : ExceptionTableEntry)] (⟨0, 12, 23, 21⟩ : ExceptionTableEntry) [] rfl (fun z hz => by
        simp only [List.mem_cons, List.not_mem_nil, or_false] at hz
        rcases hz with rfl | rfl
        · exact ⟨by decide, _, kx_L_13, by decide +kernel⟩
        · exact ⟨by decide, _, kx_L_19, by decide +kernel⟩) rfl (by decide) kx_L_21 (by decide +kernel) dL_clear_7 kc_L_35 rfl rfl (J_is hab ho) (by decide) (Nat.le_of_ble_eq_true rfl) C2 (fun q => w_astore dL_clear_23 (by decide) rfl (w_iconst dL_clear_25 rfl (w_iret dL_clear_26 rfl)))), by rw [f3]; rfl, h1, W1, Or.inr ⟨cn1, by rw [if_neg e0]⟩⟩
  · by_cases e0 : R.2.1 = 0
    · rw [if_pos e0] at C2
      exact ⟨_, _, ld (w_callV dL_clear_7 kc_L_35 rfl rfl (J_is hab ho) (by decide) (Nat.le_of_ble_eq_true rfl) C2 w_no), rfl, h1, W1, Or.inl rfl⟩
    · rw [if_neg e0] at C2
      have hc : R.2.1 = 1 ∨ R.2.1 = 2 ∨ R.2.1 = 3 := by omega
      rcases hc with f1 | f2 | f3
      · rw [f1, e1] at C2
        exact ⟨_, _, ld (w_callVx [] (⟨0, 12, 15, 13⟩ : ExceptionTableEntry) [(⟨0, 12, 19, 19⟩ : ExceptionTableEntry), (⟨0, 12, 23, 21⟩ : ExceptionTableEntry)] rfl (fun z hz => by cases hz) rfl (by decide) kx_L_13 (by decide +kernel) dL_clear_7 kc_L_35 rfl rfl (J_is hab ho) (by decide) (Nat.le_of_ble_eq_true rfl) C2 (fun q => w_no)), rfl, h1, W1, Or.inl rfl⟩
      · rw [f2, e2] at C2
        exact ⟨_, _, ld (w_callVx [(⟨0, 12, 15, 13⟩ : ExceptionTableEntry)] (⟨0, 12, 19, 19⟩ : ExceptionTableEntry) [(⟨0, 12, 23, 21⟩ : ExceptionTableEntry)] rfl (fun z hz => by
        simp only [List.mem_cons, List.not_mem_nil, or_false] at hz
        rcases hz with rfl
        · exact ⟨by decide, _, kx_L_13, by decide +kernel⟩) rfl (by decide) kx_L_19 (by decide +kernel) dL_clear_7 kc_L_35 rfl rfl (J_is hab ho) (by decide) (Nat.le_of_ble_eq_true rfl) C2 (fun q => w_no)), rfl, h1, W1, Or.inl rfl⟩
      · rw [f3, e3] at C2
        exact ⟨_, _, ld (w_callVx [(⟨0, 12, 15, 13⟩ : ExceptionTableEntry), (⟨0, 12, 19, 19⟩ : ExceptionTableEntry)] (⟨0, 12, 23, 21⟩ : ExceptionTableEntry) [] rfl (fun z hz => by
        simp only [List.mem_cons, List.not_mem_nil, or_false] at hz
        rcases hz with rfl | rfl
        · exact ⟨by decide, _, kx_L_13, by decide +kernel⟩
        · exact ⟨by decide, _, kx_L_19, by decide +kernel⟩) rfl (by decide) kx_L_21 (by decide +kernel) dL_clear_7 kc_L_35 rfl rfl (J_is hab ho) (by decide) (Nat.le_of_ble_eq_true rfl) C2 (fun q => w_no)), rfl, h1, W1, Or.inl rfl⟩
abbrev tL_commit (G : k_G) (l : Launch) : k_T := k_Cw G l yL_commit cL_commit 4 (some .int) 27 [(0, 9, 12, 13), (0, 9, 15, 21)]
theorem L_commit (ok : k_ok G l) (g0 : k_fh G = 0) {a b N w : Nat} {B : Nat × Nat} {s : m_S} {g : Nat → Int64} {h : k_H} {R : s_M × Nat × Int32} {X : Nat → String} {x1 : Int32} (hab : a < b) (ho : k_is h a 14) (cn : k_cn b (b + 38) h) (hb : b + 38 ≤ h.2.1) (hR : R.2.1 ≤ 2) (e1 : X 1 = x_IO) (e2 : X 2 = x_IS)
    (C : k_ct (tX11_commit (k_fG G b (b + 38)) l) [vR (some a), vI x1] h (c_R a B R X N w)) : k_ct (tL_commit G l) [vR (some a), vI x1, vR (some (b + 37))] (c_J b s g h) (L_P a b B s g R N w) := by
  obtain ⟨h1, r, C1, W1, rfl⟩ := C
  have ld : ∀ {h2 : k_H} {x : k_R}, k_Jw G l yL_commit cL_commit 4 (some .int) 27 [(0, 9, 12, 13), (0, 9, 15, 21)] (c_J b s g h) (c_J b s g h) 4 (k_args 0 [vR (some a), vI x1, vR (some (b + 37))]) [vI x1, vR (some a), vI 0, vR (some (b + 37))] h2 x → tL_commit G l [vR (some a), vI x1, vR (some (b + 37))] (c_J b s g h) h2 x := fun K => k_CwOf (by decide +kernel) (Nat.le_of_ble_eq_true rfl) (w_aload_n dL_commit_0 rfl rfl (w_iconst dL_commit_1 rfl (w_aload_n dL_commit_2 rfl rfl (w_iload_n dL_commit_3 rfl rfl K)))) ok.2
  rcases J_fro (s := s) (g := g) g0 cn hb C1 with ⟨cn1, C2⟩ | C2
  · by_cases e0 : R.2.1 = 0
    · rw [if_pos e0] at C2
      exact ⟨_, _, ld (w_callV dL_commit_4 kc_L_39 rfl rfl (J_is hab ho) (by decide) (Nat.le_of_ble_eq_true rfl) C2 (w_i2l dL_commit_7 (w_last dL_commit_8 J_out vp_01 (w_goto (tgt := 18) dL_commit_9 (by decide) (w_iconst dL_commit_18 rfl (w_iret dL_commit_19 rfl)))))), by rw [e0]; rfl, h1, W1, Or.inr ⟨cn1, by rw [if_pos e0]; exact J_up⟩⟩
    · rw [if_neg e0] at C2
      have hc : R.2.1 = 1 ∨ R.2.1 = 2 := by omega
      rcases hc with f1 | f2
      · rw [f1, e1] at C2
        exact ⟨_, _, ld (w_callVx [] (⟨0, 9, 12, 13⟩ : ExceptionTableEntry) [(⟨0, 9, 15, 21⟩ : ExceptionTableEntry)] rfl (fun z hz => by cases hz) rfl (by decide) kx_L_13 (by decide +kernel) dL_commit_4 kc_L_39 rfl rfl (J_is hab ho) (by decide) (Nat.le_of_ble_eq_true rfl) C2 (fun q => w_astore_n dL_commit_12 rfl (by decide) rfl (w_iconst dL_commit_13 rfl (w_iret dL_commit_14 rfl)))), by rw [f1]; rfl, h1, W1, Or.inr ⟨cn1, by rw [if_neg e0]⟩⟩
      · rw [f2, e2] at C2
        exact ⟨_, _, ld (w_callVx [(⟨0, 9, 12, 13⟩ : ExceptionTableEntry)] (⟨0, 9, 15, 21⟩ : ExceptionTableEntry) [] rfl (fun z hz => by
        simp only [List.mem_cons, List.not_mem_nil, or_false] at hz
        rcases hz with rfl
        · exact ⟨by decide, _, kx_L_13, by decide +kernel⟩) rfl (by decide) kx_L_21 (by decide +kernel) dL_commit_4 kc_L_39 rfl rfl (J_is hab ho) (by decide) (Nat.le_of_ble_eq_true rfl) C2 (fun q => w_astore_n dL_commit_15 rfl (by decide) rfl (w_iconst dL_commit_16 rfl (w_iret dL_commit_17 rfl)))), by rw [f2]; rfl, h1, W1, Or.inr ⟨cn1, by rw [if_neg e0]⟩⟩
  · by_cases e0 : R.2.1 = 0
    · rw [if_pos e0] at C2
      exact ⟨_, _, ld (w_callV dL_commit_4 kc_L_39 rfl rfl (J_is hab ho) (by decide) (Nat.le_of_ble_eq_true rfl) C2 w_no), rfl, h1, W1, Or.inl rfl⟩
    · rw [if_neg e0] at C2
      have hc : R.2.1 = 1 ∨ R.2.1 = 2 := by omega
      rcases hc with f1 | f2
      · rw [f1, e1] at C2
        exact ⟨_, _, ld (w_callVx [] (⟨0, 9, 12, 13⟩ : ExceptionTableEntry) [(⟨0, 9, 15, 21⟩ : ExceptionTableEntry)] rfl (fun z hz => by cases hz) rfl (by decide) kx_L_13 (by decide +kernel) dL_commit_4 kc_L_39 rfl rfl (J_is hab ho) (by decide) (Nat.le_of_ble_eq_true rfl) C2 (fun q => w_no)), rfl, h1, W1, Or.inl rfl⟩
      · rw [f2, e2] at C2
        exact ⟨_, _, ld (w_callVx [(⟨0, 9, 12, 13⟩ : ExceptionTableEntry)] (⟨0, 9, 15, 21⟩ : ExceptionTableEntry) [] rfl (fun z hz => by
        simp only [List.mem_cons, List.not_mem_nil, or_false] at hz
        rcases hz with rfl
        · exact ⟨by decide, _, kx_L_13, by decide +kernel⟩) rfl (by decide) kx_L_21 (by decide +kernel) dL_commit_4 kc_L_39 rfl rfl (J_is hab ho) (by decide) (Nat.le_of_ble_eq_true rfl) C2 (fun q => w_no)), rfl, h1, W1, Or.inl rfl⟩
abbrev tL_pass (G : k_G) (l : Launch) : k_T := k_Cw G l yL_pass cL_pass 4 (some .int) 23 [(0, 9, 12, 19)]
theorem L_pass (ok : k_ok G l) (g0 : k_fh G = 0) {a b N w : Nat} {B : Nat × Nat} {s : m_S} {g : Nat → Int64} {h : k_H} {R : s_M × Nat × Int32} {X : Nat → String} {x1 : Int32} (hab : a < b) (ho : k_is h a 14) (cn : k_cn b (b + 38) h) (hb : b + 38 ≤ h.2.1) (hR : R.2.1 ≤ 1) (e1 : X 1 = x_IA)
    (C : k_ct (tX11_pass (k_fG G b (b + 38)) l) [vR (some a), vI x1] h (c_R a B R X N w)) : k_ct (tL_pass G l) [vR (some a), vI x1, vR (some (b + 37))] (c_J b s g h) (L_P a b B s g R N w) := by
  obtain ⟨h1, r, C1, W1, rfl⟩ := C
  have ld : ∀ {h2 : k_H} {x : k_R}, k_Jw G l yL_pass cL_pass 4 (some .int) 23 [(0, 9, 12, 19)] (c_J b s g h) (c_J b s g h) 4 (k_args 0 [vR (some a), vI x1, vR (some (b + 37))]) [vI x1, vR (some a), vI 0, vR (some (b + 37))] h2 x → tL_pass G l [vR (some a), vI x1, vR (some (b + 37))] (c_J b s g h) h2 x := fun K => k_CwOf (by decide +kernel) (Nat.le_of_ble_eq_true rfl) (w_aload_n dL_pass_0 rfl rfl (w_iconst dL_pass_1 rfl (w_aload_n dL_pass_2 rfl rfl (w_iload_n dL_pass_3 rfl rfl K)))) ok.2
  rcases J_fro (s := s) (g := g) g0 cn hb C1 with ⟨cn1, C2⟩ | C2
  · by_cases e0 : R.2.1 = 0
    · rw [if_pos e0] at C2
      exact ⟨_, _, ld (w_callV dL_pass_4 kc_L_43 rfl rfl (J_is hab ho) (by decide) (Nat.le_of_ble_eq_true rfl) C2 (w_i2l dL_pass_7 (w_last dL_pass_8 J_out vp_01 (w_goto (tgt := 15) dL_pass_9 (by decide) (w_iconst dL_pass_15 rfl (w_iret dL_pass_16 rfl)))))), by rw [e0]; rfl, h1, W1, Or.inr ⟨cn1, by rw [if_pos e0]; exact J_up⟩⟩
    · rw [if_neg e0] at C2
      have hc : R.2.1 = 1 := by omega
      have f1 := hc
      rw [f1, e1] at C2
      exact ⟨_, _, ld (w_callVx [] (⟨0, 9, 12, 19⟩ : ExceptionTableEntry) [] rfl (fun z hz => by cases hz) rfl (by decide) kx_L_19 (by decide +kernel) dL_pass_4 kc_L_43 rfl rfl (J_is hab ho) (by decide) (Nat.le_of_ble_eq_true rfl) C2 (fun q => w_astore_n dL_pass_12 rfl (by decide) rfl (w_iconst dL_pass_13 rfl (w_iret dL_pass_14 rfl)))), by rw [f1]; rfl, h1, W1, Or.inr ⟨cn1, by rw [if_neg e0]⟩⟩
  · by_cases e0 : R.2.1 = 0
    · rw [if_pos e0] at C2
      exact ⟨_, _, ld (w_callV dL_pass_4 kc_L_43 rfl rfl (J_is hab ho) (by decide) (Nat.le_of_ble_eq_true rfl) C2 w_no), rfl, h1, W1, Or.inl rfl⟩
    · rw [if_neg e0] at C2
      have hc : R.2.1 = 1 := by omega
      have f1 := hc
      rw [f1, e1] at C2
      exact ⟨_, _, ld (w_callVx [] (⟨0, 9, 12, 19⟩ : ExceptionTableEntry) [] rfl (fun z hz => by cases hz) rfl (by decide) kx_L_19 (by decide +kernel) dL_pass_4 kc_L_43 rfl rfl (J_is hab ho) (by decide) (Nat.le_of_ble_eq_true rfl) C2 (fun q => w_no)), rfl, h1, W1, Or.inl rfl⟩
abbrev tL_value (G : k_G) (l : Launch) : k_T := k_Cw G l yL_value cL_value 7 (some .int) 25 [(0, 14, 17, 19)]
theorem L_value (ok : k_ok G l) (g0 : k_fh G = 0) {a b N w : Nat} {B : Nat × Nat} {s : m_S} {g : Nat → Int64} {h : k_H} {R : s_M × Nat × Int32} {X : Nat → String} {x1 x2 x3 x4 : Int32} (hab : a < b) (ho : k_is h a 14) (cn : k_cn b (b + 38) h) (hb : b + 38 ≤ h.2.1) (hR : R.2.1 ≤ 1) (e1 : X 1 = x_IA)
    (C : k_ct (tX11_value (k_fG G b (b + 38)) l) [vR (some a), vI x1, vI x2, vI x3, vI x4] h (c_R a B R X N w)) : k_ct (tL_value G l) [vR (some a), vI x1, vI x2, vI x3, vI x4, vR (some (b + 37))] (c_J b s g h) (L_P a b B s g R N w) := by
  obtain ⟨h1, r, C1, W1, rfl⟩ := C
  have ld : ∀ {h2 : k_H} {x : k_R}, k_Jw G l yL_value cL_value 7 (some .int) 25 [(0, 14, 17, 19)] (c_J b s g h) (c_J b s g h) 9 (k_args 0 [vR (some a), vI x1, vI x2, vI x3, vI x4, vR (some (b + 37))]) [vI x4, vI x3, vI x2, vI x1, vR (some a), vI 0, vR (some (b + 37))] h2 x → tL_value G l [vR (some a), vI x1, vI x2, vI x3, vI x4, vR (some (b + 37))] (c_J b s g h) h2 x := fun K => k_CwOf (by decide +kernel) (Nat.le_of_ble_eq_true rfl) (w_aload dL_value_0 rfl (w_iconst dL_value_2 rfl (w_aload_n dL_value_3 rfl rfl (w_iload_n dL_value_4 rfl rfl (w_iload_n dL_value_5 rfl rfl (w_iload_n dL_value_6 rfl rfl (w_iload dL_value_7 rfl K))))))) ok.2
  rcases J_fro (s := s) (g := g) g0 cn hb C1 with ⟨cn1, C2⟩ | C2
  · by_cases e0 : R.2.1 = 0
    · rw [if_pos e0] at C2
      exact ⟨_, _, ld (w_callV dL_value_9 kc_L_46 rfl rfl (J_is hab ho) (by decide) (Nat.le_of_ble_eq_true rfl) C2 (w_i2l dL_value_12 (w_last dL_value_13 J_out vp_01 (w_goto (tgt := 21) dL_value_14 (by decide) (w_iconst dL_value_21 rfl (w_iret dL_value_22 rfl)))))), by rw [e0]; rfl, h1, W1, Or.inr ⟨cn1, by rw [if_pos e0]; exact J_up⟩⟩
    · rw [if_neg e0] at C2
      have hc : R.2.1 = 1 := by omega
      have f1 := hc
      rw [f1, e1] at C2
      exact ⟨_, _, ld (w_callVx [] (⟨0, 14, 17, 19⟩ : ExceptionTableEntry) [] rfl (fun z hz => by cases hz) rfl (by decide) kx_L_19 (by decide +kernel) dL_value_9 kc_L_46 rfl rfl (J_is hab ho) (by decide) (Nat.le_of_ble_eq_true rfl) C2 (fun q => w_astore dL_value_17 (by decide) rfl (w_iconst dL_value_19 rfl (w_iret dL_value_20 rfl)))), by rw [f1]; rfl, h1, W1, Or.inr ⟨cn1, by rw [if_neg e0]⟩⟩
  · by_cases e0 : R.2.1 = 0
    · rw [if_pos e0] at C2
      exact ⟨_, _, ld (w_callV dL_value_9 kc_L_46 rfl rfl (J_is hab ho) (by decide) (Nat.le_of_ble_eq_true rfl) C2 w_no), rfl, h1, W1, Or.inl rfl⟩
    · rw [if_neg e0] at C2
      have hc : R.2.1 = 1 := by omega
      have f1 := hc
      rw [f1, e1] at C2
      exact ⟨_, _, ld (w_callVx [] (⟨0, 14, 17, 19⟩ : ExceptionTableEntry) [] rfl (fun z hz => by cases hz) rfl (by decide) kx_L_19 (by decide +kernel) dL_value_9 kc_L_46 rfl rfl (J_is hab ho) (by decide) (Nat.le_of_ble_eq_true rfl) C2 (fun q => w_no)), rfl, h1, W1, Or.inl rfl⟩
abbrev tL_packed (G : k_G) (l : Launch) : k_T := k_Cw G l yL_packed cL_packed 7 (some .int) 25 [(0, 14, 17, 13), (0, 14, 21, 19)]
theorem L_packed (ok : k_ok G l) (g0 : k_fh G = 0) {a b N w : Nat} {B : Nat × Nat} {s : m_S} {g : Nat → Int64} {h : k_H} {R : s_M × Nat × Int32} {X : Nat → String} {x1 x2 x3 x4 : Int32} (hab : a < b) (ho : k_is h a 14) (cn : k_cn b (b + 38) h) (hb : b + 38 ≤ h.2.1) (hR : R.2.1 ≤ 2) (e1 : X 1 = x_IO) (e2 : X 2 = x_IA)
    (C : k_ct (tX11_packed (k_fG G b (b + 38)) l) [vR (some a), vI x1, vI x2, vI x3, vI x4] h (c_R a B R X N w)) : k_ct (tL_packed G l) [vR (some a), vI x1, vI x2, vI x3, vI x4, vR (some (b + 37))] (c_J b s g h) (L_P a b B s g R N w) := by
  obtain ⟨h1, r, C1, W1, rfl⟩ := C
  have ld : ∀ {h2 : k_H} {x : k_R}, k_Jw G l yL_packed cL_packed 7 (some .int) 25 [(0, 14, 17, 13), (0, 14, 21, 19)] (c_J b s g h) (c_J b s g h) 9 (k_args 0 [vR (some a), vI x1, vI x2, vI x3, vI x4, vR (some (b + 37))]) [vI x4, vI x3, vI x2, vI x1, vR (some a), vI 0, vR (some (b + 37))] h2 x → tL_packed G l [vR (some a), vI x1, vI x2, vI x3, vI x4, vR (some (b + 37))] (c_J b s g h) h2 x := fun K => k_CwOf (by decide +kernel) (Nat.le_of_ble_eq_true rfl) (w_aload dL_packed_0 rfl (w_iconst dL_packed_2 rfl (w_aload_n dL_packed_3 rfl rfl (w_iload_n dL_packed_4 rfl rfl (w_iload_n dL_packed_5 rfl rfl (w_iload_n dL_packed_6 rfl rfl (w_iload dL_packed_7 rfl K))))))) ok.2
  rcases J_fro (s := s) (g := g) g0 cn hb C1 with ⟨cn1, C2⟩ | C2
  · by_cases e0 : R.2.1 = 0
    · rw [if_pos e0] at C2
      exact ⟨_, _, ld (w_callV dL_packed_9 kc_L_50 rfl rfl (J_is hab ho) (by decide) (Nat.le_of_ble_eq_true rfl) C2 (w_i2l dL_packed_12 (w_last dL_packed_13 J_out vp_01 (w_goto (tgt := 25) dL_packed_14 (by decide) (w_iconst dL_packed_25 rfl (w_iret dL_packed_26 rfl)))))), by rw [e0]; rfl, h1, W1, Or.inr ⟨cn1, by rw [if_pos e0]; exact J_up⟩⟩
    · rw [if_neg e0] at C2
      have hc : R.2.1 = 1 ∨ R.2.1 = 2 := by omega
      rcases hc with f1 | f2
      · rw [f1, e1] at C2
        exact ⟨_, _, ld (w_callVx [] (⟨0, 14, 17, 13⟩ : ExceptionTableEntry) [(⟨0, 14, 21, 19⟩ : ExceptionTableEntry)] rfl (fun z hz => by cases hz) rfl (by decide) kx_L_13 (by decide +kernel) dL_packed_9 kc_L_50 rfl rfl (J_is hab ho) (by decide) (Nat.le_of_ble_eq_true rfl) C2 (fun q => w_astore dL_packed_17 (by decide) rfl (w_iconst dL_packed_19 rfl (w_iret dL_packed_20 rfl)))), by rw [f1]; rfl, h1, W1, Or.inr ⟨cn1, by rw [if_neg e0]⟩⟩
      · rw [f2, e2] at C2
        exact ⟨_, _, ld (w_callVx [(⟨0, 14, 17, 13⟩ : ExceptionTableEntry)] (⟨0, 14, 21, 19⟩ : ExceptionTableEntry) [] rfl (fun z hz => by
        simp only [List.mem_cons, List.not_mem_nil, or_false] at hz
        rcases hz with rfl
        · exact ⟨by decide, _, kx_L_13, by decide +kernel⟩) rfl (by decide) kx_L_19 (by decide +kernel) dL_packed_9 kc_L_50 rfl rfl (J_is hab ho) (by decide) (Nat.le_of_ble_eq_true rfl) C2 (fun q => w_astore dL_packed_21 (by decide) rfl (w_iconst dL_packed_23 rfl (w_iret dL_packed_24 rfl)))), by rw [f2]; rfl, h1, W1, Or.inr ⟨cn1, by rw [if_neg e0]⟩⟩
  · by_cases e0 : R.2.1 = 0
    · rw [if_pos e0] at C2
      exact ⟨_, _, ld (w_callV dL_packed_9 kc_L_50 rfl rfl (J_is hab ho) (by decide) (Nat.le_of_ble_eq_true rfl) C2 w_no), rfl, h1, W1, Or.inl rfl⟩
    · rw [if_neg e0] at C2
      have hc : R.2.1 = 1 ∨ R.2.1 = 2 := by omega
      rcases hc with f1 | f2
      · rw [f1, e1] at C2
        exact ⟨_, _, ld (w_callVx [] (⟨0, 14, 17, 13⟩ : ExceptionTableEntry) [(⟨0, 14, 21, 19⟩ : ExceptionTableEntry)] rfl (fun z hz => by cases hz) rfl (by decide) kx_L_13 (by decide +kernel) dL_packed_9 kc_L_50 rfl rfl (J_is hab ho) (by decide) (Nat.le_of_ble_eq_true rfl) C2 (fun q => w_no)), rfl, h1, W1, Or.inl rfl⟩
      · rw [f2, e2] at C2
        exact ⟨_, _, ld (w_callVx [(⟨0, 14, 17, 13⟩ : ExceptionTableEntry)] (⟨0, 14, 21, 19⟩ : ExceptionTableEntry) [] rfl (fun z hz => by
        simp only [List.mem_cons, List.not_mem_nil, or_false] at hz
        rcases hz with rfl
        · exact ⟨by decide, _, kx_L_13, by decide +kernel⟩) rfl (by decide) kx_L_19 (by decide +kernel) dL_packed_9 kc_L_50 rfl rfl (J_is hab ho) (by decide) (Nat.le_of_ble_eq_true rfl) C2 (fun q => w_no)), rfl, h1, W1, Or.inl rfl⟩
abbrev tL_directory (G : k_G) (l : Launch) : k_T := k_Cw G l yL_directory cL_directory 5 (some .int) 24 [(0, 10, 13, 13), (0, 10, 17, 19), (0, 10, 21, 21)]
theorem L_directory (ok : k_ok G l) (g0 : k_fh G = 0) {a b N w : Nat} {B : Nat × Nat} {s : m_S} {g : Nat → Int64} {h : k_H} {R : s_M × Nat × Int32} {X : Nat → String} {x1 x2 : Int32} (hab : a < b) (ho : k_is h a 14) (cn : k_cn b (b + 38) h) (hb : b + 38 ≤ h.2.1) (hR : R.2.1 ≤ 3) (e1 : X 1 = x_IO) (e2 : X 2 = x_IA) (e3 : X 3 = x_IS)
    (C : k_ct (tX11_directory (k_fG G b (b + 38)) l) [vR (some a), vI x1, vI x2] h (c_R a B R X N w)) : k_ct (tL_directory G l) [vR (some a), vI x1, vI x2, vR (some (b + 37))] (c_J b s g h) (L_P a b B s g R N w) := by
  obtain ⟨h1, r, C1, W1, rfl⟩ := C
  have ld : ∀ {h2 : k_H} {x : k_R}, k_Jw G l yL_directory cL_directory 5 (some .int) 24 [(0, 10, 13, 13), (0, 10, 17, 19), (0, 10, 21, 21)] (c_J b s g h) (c_J b s g h) 5 (k_args 0 [vR (some a), vI x1, vI x2, vR (some (b + 37))]) [vI x2, vI x1, vR (some a), vI 0, vR (some (b + 37))] h2 x → tL_directory G l [vR (some a), vI x1, vI x2, vR (some (b + 37))] (c_J b s g h) h2 x := fun K => k_CwOf (by decide +kernel) (Nat.le_of_ble_eq_true rfl) (w_aload_n dL_directory_0 rfl rfl (w_iconst dL_directory_1 rfl (w_aload_n dL_directory_2 rfl rfl (w_iload_n dL_directory_3 rfl rfl (w_iload_n dL_directory_4 rfl rfl K))))) ok.2
  rcases J_fro (s := s) (g := g) g0 cn hb C1 with ⟨cn1, C2⟩ | C2
  · by_cases e0 : R.2.1 = 0
    · rw [if_pos e0] at C2
      exact ⟨_, _, ld (w_callV dL_directory_5 kc_L_53 rfl rfl (J_is hab ho) (by decide) (Nat.le_of_ble_eq_true rfl) C2 (w_i2l dL_directory_8 (w_last dL_directory_9 J_out vp_01 (w_goto (tgt := 25) dL_directory_10 (by decide) (w_iconst dL_directory_25 rfl (w_iret dL_directory_26 rfl)))))), by rw [e0]; rfl, h1, W1, Or.inr ⟨cn1, by rw [if_pos e0]; exact J_up⟩⟩
    · rw [if_neg e0] at C2
      have hc : R.2.1 = 1 ∨ R.2.1 = 2 ∨ R.2.1 = 3 := by omega
      rcases hc with f1 | f2 | f3
      · rw [f1, e1] at C2
        exact ⟨_, _, ld (w_callVx [] (⟨0, 10, 13, 13⟩ : ExceptionTableEntry) [(⟨0, 10, 17, 19⟩ : ExceptionTableEntry), (⟨0, 10, 21, 21⟩ : ExceptionTableEntry)] rfl (fun z hz => by cases hz) rfl (by decide) kx_L_13 (by decide +kernel) dL_directory_5 kc_L_53 rfl rfl (J_is hab ho) (by decide) (Nat.le_of_ble_eq_true rfl) C2 (fun q => w_astore dL_directory_13 (by decide) rfl (w_iconst dL_directory_15 rfl (w_iret dL_directory_16 rfl)))), by rw [f1]; rfl, h1, W1, Or.inr ⟨cn1, by rw [if_neg e0]⟩⟩
      · rw [f2, e2] at C2
        exact ⟨_, _, ld (w_callVx [(⟨0, 10, 13, 13⟩ : ExceptionTableEntry)] (⟨0, 10, 17, 19⟩ : ExceptionTableEntry) [(⟨0, 10, 21, 21⟩ : ExceptionTableEntry)] rfl (fun z hz => by
        simp only [List.mem_cons, List.not_mem_nil, or_false] at hz
        rcases hz with rfl
        · exact ⟨by decide, _, kx_L_13, by decide +kernel⟩) rfl (by decide) kx_L_19 (by decide +kernel) dL_directory_5 kc_L_53 rfl rfl (J_is hab ho) (by decide) (Nat.le_of_ble_eq_true rfl) C2 (fun q => w_astore dL_directory_17 (by decide) rfl (w_iconst dL_directory_19 rfl (w_iret dL_directory_20 rfl)))), by rw [f2]; rfl, h1, W1, Or.inr ⟨cn1, by rw [if_neg e0]⟩⟩
      · rw [f3, e3] at C2
        exact ⟨_, _, ld (w_callVx [(⟨0, 10, 13, 13⟩ : ExceptionTableEntry), (⟨0, 10, 17, 19⟩ : ExceptionTableEntry)] (⟨0, 10, 21, 21⟩ : ExceptionTableEntry) [] rfl (fun z hz => by
        simp only [List.mem_cons, List.not_mem_nil, or_false] at hz
        rcases hz with rfl | rfl
        · exact ⟨by decide, _, kx_L_13, by decide +kernel⟩
        · exact ⟨by decide, _, kx_L_19, by decide +kernel⟩) rfl (by decide) kx_L_21 (by decide +kernel) dL_directory_5 kc_L_53 rfl rfl (J_is hab ho) (by decide) (Nat.le_of_ble_eq_true rfl) C2 (fun q => w_astore dL_directory_21 (by decide) rfl (w_iconst dL_directory_23 rfl (w_iret dL_directory_24 rfl)))), by rw [f3]; rfl, h1, W1, Or.inr ⟨cn1, by rw [if_neg e0]⟩⟩
  · by_cases e0 : R.2.1 = 0
    · rw [if_pos e0] at C2
      exact ⟨_, _, ld (w_callV dL_directory_5 kc_L_53 rfl rfl (J_is hab ho) (by decide) (Nat.le_of_ble_eq_true rfl) C2 w_no), rfl, h1, W1, Or.inl rfl⟩
    · rw [if_neg e0] at C2
      have hc : R.2.1 = 1 ∨ R.2.1 = 2 ∨ R.2.1 = 3 := by omega
      rcases hc with f1 | f2 | f3
      · rw [f1, e1] at C2
        exact ⟨_, _, ld (w_callVx [] (⟨0, 10, 13, 13⟩ : ExceptionTableEntry) [(⟨0, 10, 17, 19⟩ : ExceptionTableEntry), (⟨0, 10, 21, 21⟩ : ExceptionTableEntry)] rfl (fun z hz => by cases hz) rfl (by decide) kx_L_13 (by decide +kernel) dL_directory_5 kc_L_53 rfl rfl (J_is hab ho) (by decide) (Nat.le_of_ble_eq_true rfl) C2 (fun q => w_no)), rfl, h1, W1, Or.inl rfl⟩
      · rw [f2, e2] at C2
        exact ⟨_, _, ld (w_callVx [(⟨0, 10, 13, 13⟩ : ExceptionTableEntry)] (⟨0, 10, 17, 19⟩ : ExceptionTableEntry) [(⟨0, 10, 21, 21⟩ : ExceptionTableEntry)] rfl (fun z hz => by
        simp only [List.mem_cons, List.not_mem_nil, or_false] at hz
        rcases hz with rfl
        · exact ⟨by decide, _, kx_L_13, by decide +kernel⟩) rfl (by decide) kx_L_19 (by decide +kernel) dL_directory_5 kc_L_53 rfl rfl (J_is hab ho) (by decide) (Nat.le_of_ble_eq_true rfl) C2 (fun q => w_no)), rfl, h1, W1, Or.inl rfl⟩
      · rw [f3, e3] at C2
        exact ⟨_, _, ld (w_callVx [(⟨0, 10, 13, 13⟩ : ExceptionTableEntry), (⟨0, 10, 17, 19⟩ : ExceptionTableEntry)] (⟨0, 10, 21, 21⟩ : ExceptionTableEntry) [] rfl (fun z hz => by
        simp only [List.mem_cons, List.not_mem_nil, or_false] at hz
        rcases hz with rfl | rfl
        · exact ⟨by decide, _, kx_L_13, by decide +kernel⟩
        · exact ⟨by decide, _, kx_L_19, by decide +kernel⟩) rfl (by decide) kx_L_21 (by decide +kernel) dL_directory_5 kc_L_53 rfl rfl (J_is hab ho) (by decide) (Nat.le_of_ble_eq_true rfl) C2 (fun q => w_no)), rfl, h1, W1, Or.inl rfl⟩
abbrev tL_move (G : k_G) (l : Launch) : k_T := k_Cw G l yL_move cL_move 5 (some .int) 24 [(0, 7, 10, 13), (0, 7, 14, 19), (0, 7, 18, 21)]
theorem L_move (ok : k_ok G l) (g0 : k_fh G = 0) {a b N w : Nat} {B : Nat × Nat} {s : m_S} {g : Nat → Int64} {h : k_H} {R : s_M × Nat × Int32} {X : Nat → String} {x1 x2 x3 : Int32} (hab : a < b) (ho : k_is h a 14) (cn : k_cn b (b + 38) h) (hb : b + 38 ≤ h.2.1) (hR : R.2.1 ≤ 3) (e1 : X 1 = x_IO) (e2 : X 2 = x_IA) (e3 : X 3 = x_IS)
    (C : k_ct (tX11_move (k_fG G b (b + 38)) l) [vR (some a), vI x1, vI x2, vI x3] h (c_Rv a B R X N w)) : k_ct (tL_move G l) [vR (some a), vI x1, vI x2, vI x3] (c_J b s g h) (L_Pv a b B s g R N w) := by
  obtain ⟨h1, r, C1, W1, rfl⟩ := C
  have ld : ∀ {h2 : k_H} {x : k_R}, k_Jw G l yL_move cL_move 5 (some .int) 24 [(0, 7, 10, 13), (0, 7, 14, 19), (0, 7, 18, 21)] (c_J b s g h) (c_J b s g h) 4 (k_args 0 [vR (some a), vI x1, vI x2, vI x3]) [vI x3, vI x2, vI x1, vR (some a)] h2 x → tL_move G l [vR (some a), vI x1, vI x2, vI x3] (c_J b s g h) h2 x := fun K => k_CwOf (by decide +kernel) (Nat.le_of_ble_eq_true rfl) (w_aload_n dL_move_0 rfl rfl (w_iload_n dL_move_1 rfl rfl (w_iload_n dL_move_2 rfl rfl (w_iload_n dL_move_3 rfl rfl K)))) ok.2
  rcases J_fro (s := s) (g := g) g0 cn hb C1 with ⟨cn1, C2⟩ | C2
  · by_cases e0 : R.2.1 = 0
    · rw [if_pos e0] at C2
      exact ⟨_, _, ld (w_callV dL_move_4 kc_L_57 rfl rfl (J_is hab ho) (by decide) (Nat.le_of_ble_eq_true rfl) C2 (w_goto (tgt := 22) dL_move_7 (by decide) (w_iconst dL_move_22 rfl (w_iret dL_move_23 rfl)))), by rw [e0]; rfl, h1, W1, Or.inr ⟨cn1, rfl⟩⟩
    · rw [if_neg e0] at C2
      have hc : R.2.1 = 1 ∨ R.2.1 = 2 ∨ R.2.1 = 3 := by omega
      rcases hc with f1 | f2 | f3
      · rw [f1, e1] at C2
        exact ⟨_, _, ld (w_callVx [] (⟨0, 7, 10, 13⟩ : ExceptionTableEntry) [(⟨0, 7, 14, 19⟩ : ExceptionTableEntry), (⟨0, 7, 18, 21⟩ : ExceptionTableEntry)] rfl (fun z hz => by cases hz) rfl (by decide) kx_L_13 (by decide +kernel) dL_move_4 kc_L_57 rfl rfl (J_is hab ho) (by decide) (Nat.le_of_ble_eq_true rfl) C2 (fun q => w_astore dL_move_10 (by decide) rfl (w_iconst dL_move_12 rfl (w_iret dL_move_13 rfl)))), by rw [f1]; rfl, h1, W1, Or.inr ⟨cn1, rfl⟩⟩
      · rw [f2, e2] at C2
        exact ⟨_, _, ld (w_callVx [(⟨0, 7, 10, 13⟩ : ExceptionTableEntry)] (⟨0, 7, 14, 19⟩ : ExceptionTableEntry) [(⟨0, 7, 18, 21⟩ : ExceptionTableEntry)] rfl (fun z hz => by
        simp only [List.mem_cons, List.not_mem_nil, or_false] at hz
        rcases hz with rfl
        · exact ⟨by decide, _, kx_L_13, by decide +kernel⟩) rfl (by decide) kx_L_19 (by decide +kernel) dL_move_4 kc_L_57 rfl rfl (J_is hab ho) (by decide) (Nat.le_of_ble_eq_true rfl) C2 (fun q => w_astore dL_move_14 (by decide) rfl (w_iconst dL_move_16 rfl (w_iret dL_move_17 rfl)))), by rw [f2]; rfl, h1, W1, Or.inr ⟨cn1, rfl⟩⟩
      · rw [f3, e3] at C2
        exact ⟨_, _, ld (w_callVx [(⟨0, 7, 10, 13⟩ : ExceptionTableEntry), (⟨0, 7, 14, 19⟩ : ExceptionTableEntry)] (⟨0, 7, 18, 21⟩ : ExceptionTableEntry) [] rfl (fun z hz => by
        simp only [List.mem_cons, List.not_mem_nil, or_false] at hz
        rcases hz with rfl | rfl
        · exact ⟨by decide, _, kx_L_13, by decide +kernel⟩
        · exact ⟨by decide, _, kx_L_19, by decide +kernel⟩) rfl (by decide) kx_L_21 (by decide +kernel) dL_move_4 kc_L_57 rfl rfl (J_is hab ho) (by decide) (Nat.le_of_ble_eq_true rfl) C2 (fun q => w_astore dL_move_18 (by decide) rfl (w_iconst dL_move_20 rfl (w_iret dL_move_21 rfl)))), by rw [f3]; rfl, h1, W1, Or.inr ⟨cn1, rfl⟩⟩
  · by_cases e0 : R.2.1 = 0
    · rw [if_pos e0] at C2
      exact ⟨_, _, ld (w_callV dL_move_4 kc_L_57 rfl rfl (J_is hab ho) (by decide) (Nat.le_of_ble_eq_true rfl) C2 w_no), rfl, h1, W1, Or.inl rfl⟩
    · rw [if_neg e0] at C2
      have hc : R.2.1 = 1 ∨ R.2.1 = 2 ∨ R.2.1 = 3 := by omega
      rcases hc with f1 | f2 | f3
      · rw [f1, e1] at C2
        exact ⟨_, _, ld (w_callVx [] (⟨0, 7, 10, 13⟩ : ExceptionTableEntry) [(⟨0, 7, 14, 19⟩ : ExceptionTableEntry), (⟨0, 7, 18, 21⟩ : ExceptionTableEntry)] rfl (fun z hz => by cases hz) rfl (by decide) kx_L_13 (by decide +kernel) dL_move_4 kc_L_57 rfl rfl (J_is hab ho) (by decide) (Nat.le_of_ble_eq_true rfl) C2 (fun q => w_no)), rfl, h1, W1, Or.inl rfl⟩
      · rw [f2, e2] at C2
        exact ⟨_, _, ld (w_callVx [(⟨0, 7, 10, 13⟩ : ExceptionTableEntry)] (⟨0, 7, 14, 19⟩ : ExceptionTableEntry) [(⟨0, 7, 18, 21⟩ : ExceptionTableEntry)] rfl (fun z hz => by
        simp only [List.mem_cons, List.not_mem_nil, or_false] at hz
        rcases hz with rfl
        · exact ⟨by decide, _, kx_L_13, by decide +kernel⟩) rfl (by decide) kx_L_19 (by decide +kernel) dL_move_4 kc_L_57 rfl rfl (J_is hab ho) (by decide) (Nat.le_of_ble_eq_true rfl) C2 (fun q => w_no)), rfl, h1, W1, Or.inl rfl⟩
      · rw [f3, e3] at C2
        exact ⟨_, _, ld (w_callVx [(⟨0, 7, 10, 13⟩ : ExceptionTableEntry), (⟨0, 7, 14, 19⟩ : ExceptionTableEntry)] (⟨0, 7, 18, 21⟩ : ExceptionTableEntry) [] rfl (fun z hz => by
        simp only [List.mem_cons, List.not_mem_nil, or_false] at hz
        rcases hz with rfl | rfl
        · exact ⟨by decide, _, kx_L_13, by decide +kernel⟩
        · exact ⟨by decide, _, kx_L_19, by decide +kernel⟩) rfl (by decide) kx_L_21 (by decide +kernel) dL_move_4 kc_L_57 rfl rfl (J_is hab ho) (by decide) (Nat.le_of_ble_eq_true rfl) C2 (fun q => w_no)), rfl, h1, W1, Or.inl rfl⟩
abbrev tL_remove (G : k_G) (l : Launch) : k_T := k_Cw G l yL_remove cL_remove 4 (some .int) 28 [(0, 9, 12, 13), (0, 9, 15, 21)]
theorem L_remove (ok : k_ok G l) (g0 : k_fh G = 0) {a b N w : Nat} {B : Nat × Nat} {s : m_S} {g : Nat → Int64} {h : k_H} {R : s_M × Nat × Int32} {X : Nat → String} {x1 : Int32} (hab : a < b) (ho : k_is h a 14) (cn : k_cn b (b + 38) h) (hb : b + 38 ≤ h.2.1) (hR : R.2.1 ≤ 2) (e1 : X 1 = x_IO) (e2 : X 2 = x_IS)
    (C : k_ct (tX11_remove (k_fG G b (b + 38)) l) [vR (some a), vI x1] h (c_R a B R X N w)) : k_ct (tL_remove G l) [vR (some a), vI x1, vR (some (b + 37))] (c_J b s g h) (L_P a b B s g R N w) := by
  obtain ⟨h1, r, C1, W1, rfl⟩ := C
  have ld : ∀ {h2 : k_H} {x : k_R}, k_Jw G l yL_remove cL_remove 4 (some .int) 28 [(0, 9, 12, 13), (0, 9, 15, 21)] (c_J b s g h) (c_J b s g h) 4 (k_args 0 [vR (some a), vI x1, vR (some (b + 37))]) [vI x1, vR (some a), vI 0, vR (some (b + 37))] h2 x → tL_remove G l [vR (some a), vI x1, vR (some (b + 37))] (c_J b s g h) h2 x := fun K => k_CwOf (by decide +kernel) (Nat.le_of_ble_eq_true rfl) (w_aload_n dL_remove_0 rfl rfl (w_iconst dL_remove_1 rfl (w_aload_n dL_remove_2 rfl rfl (w_iload_n dL_remove_3 rfl rfl K)))) ok.2
  rcases J_fro (s := s) (g := g) g0 cn hb C1 with ⟨cn1, C2⟩ | C2
  · by_cases e0 : R.2.1 = 0
    · rw [if_pos e0] at C2
      exact ⟨_, _, ld (w_callV dL_remove_4 kc_L_61 rfl rfl (J_is hab ho) (by decide) (Nat.le_of_ble_eq_true rfl) C2 (w_i2l dL_remove_7 (w_last dL_remove_8 J_out vp_01 (w_goto (tgt := 18) dL_remove_9 (by decide) (w_iconst dL_remove_18 rfl (w_iret dL_remove_19 rfl)))))), by rw [e0]; rfl, h1, W1, Or.inr ⟨cn1, by rw [if_pos e0]; exact J_up⟩⟩
    · rw [if_neg e0] at C2
      have hc : R.2.1 = 1 ∨ R.2.1 = 2 := by omega
      rcases hc with f1 | f2
      · rw [f1, e1] at C2
        exact ⟨_, _, ld (w_callVx [] (⟨0, 9, 12, 13⟩ : ExceptionTableEntry) [(⟨0, 9, 15, 21⟩ : ExceptionTableEntry)] rfl (fun z hz => by cases hz) rfl (by decide) kx_L_13 (by decide +kernel) dL_remove_4 kc_L_61 rfl rfl (J_is hab ho) (by decide) (Nat.le_of_ble_eq_true rfl) C2 (fun q => w_astore_n dL_remove_12 rfl (by decide) rfl (w_iconst dL_remove_13 rfl (w_iret dL_remove_14 rfl)))), by rw [f1]; rfl, h1, W1, Or.inr ⟨cn1, by rw [if_neg e0]⟩⟩
      · rw [f2, e2] at C2
        exact ⟨_, _, ld (w_callVx [(⟨0, 9, 12, 13⟩ : ExceptionTableEntry)] (⟨0, 9, 15, 21⟩ : ExceptionTableEntry) [] rfl (fun z hz => by
        simp only [List.mem_cons, List.not_mem_nil, or_false] at hz
        rcases hz with rfl
        · exact ⟨by decide, _, kx_L_13, by decide +kernel⟩) rfl (by decide) kx_L_21 (by decide +kernel) dL_remove_4 kc_L_61 rfl rfl (J_is hab ho) (by decide) (Nat.le_of_ble_eq_true rfl) C2 (fun q => w_astore_n dL_remove_15 rfl (by decide) rfl (w_iconst dL_remove_16 rfl (w_iret dL_remove_17 rfl)))), by rw [f2]; rfl, h1, W1, Or.inr ⟨cn1, by rw [if_neg e0]⟩⟩
  · by_cases e0 : R.2.1 = 0
    · rw [if_pos e0] at C2
      exact ⟨_, _, ld (w_callV dL_remove_4 kc_L_61 rfl rfl (J_is hab ho) (by decide) (Nat.le_of_ble_eq_true rfl) C2 w_no), rfl, h1, W1, Or.inl rfl⟩
    · rw [if_neg e0] at C2
      have hc : R.2.1 = 1 ∨ R.2.1 = 2 := by omega
      rcases hc with f1 | f2
      · rw [f1, e1] at C2
        exact ⟨_, _, ld (w_callVx [] (⟨0, 9, 12, 13⟩ : ExceptionTableEntry) [(⟨0, 9, 15, 21⟩ : ExceptionTableEntry)] rfl (fun z hz => by cases hz) rfl (by decide) kx_L_13 (by decide +kernel) dL_remove_4 kc_L_61 rfl rfl (J_is hab ho) (by decide) (Nat.le_of_ble_eq_true rfl) C2 (fun q => w_no)), rfl, h1, W1, Or.inl rfl⟩
      · rw [f2, e2] at C2
        exact ⟨_, _, ld (w_callVx [(⟨0, 9, 12, 13⟩ : ExceptionTableEntry)] (⟨0, 9, 15, 21⟩ : ExceptionTableEntry) [] rfl (fun z hz => by
        simp only [List.mem_cons, List.not_mem_nil, or_false] at hz
        rcases hz with rfl
        · exact ⟨by decide, _, kx_L_13, by decide +kernel⟩) rfl (by decide) kx_L_21 (by decide +kernel) dL_remove_4 kc_L_61 rfl rfl (J_is hab ho) (by decide) (Nat.le_of_ble_eq_true rfl) C2 (fun q => w_no)), rfl, h1, W1, Or.inl rfl⟩
abbrev tL_shortName (G : k_G) (l : Launch) : k_T := k_Cw G l yL_shortName cL_shortName 4 (some .int) 24 [(0, 9, 12, 13)]
theorem L_shortName (ok : k_ok G l) (g0 : k_fh G = 0) {a b N w : Nat} {B : Nat × Nat} {s : m_S} {g : Nat → Int64} {h : k_H} {R : s_M × Nat × Int32} {X : Nat → String} {x1 : Int32} (hab : a < b) (ho : k_is h a 14) (cn : k_cn b (b + 38) h) (hb : b + 38 ≤ h.2.1) (hR : R.2.1 ≤ 1) (e1 : X 1 = x_IO)
    (C : k_ct (tX11_shortName (k_fG G b (b + 38)) l) [vR (some a), vI x1] h (c_R a B R X N w)) : k_ct (tL_shortName G l) [vR (some a), vI x1, vR (some (b + 37))] (c_J b s g h) (L_P a b B s g R N w) := by
  obtain ⟨h1, r, C1, W1, rfl⟩ := C
  have ld : ∀ {h2 : k_H} {x : k_R}, k_Jw G l yL_shortName cL_shortName 4 (some .int) 24 [(0, 9, 12, 13)] (c_J b s g h) (c_J b s g h) 4 (k_args 0 [vR (some a), vI x1, vR (some (b + 37))]) [vI x1, vR (some a), vI 0, vR (some (b + 37))] h2 x → tL_shortName G l [vR (some a), vI x1, vR (some (b + 37))] (c_J b s g h) h2 x := fun K => k_CwOf (by decide +kernel) (Nat.le_of_ble_eq_true rfl) (w_aload_n dL_shortName_0 rfl rfl (w_iconst dL_shortName_1 rfl (w_aload_n dL_shortName_2 rfl rfl (w_iload_n dL_shortName_3 rfl rfl K)))) ok.2
  rcases J_fro (s := s) (g := g) g0 cn hb C1 with ⟨cn1, C2⟩ | C2
  · by_cases e0 : R.2.1 = 0
    · rw [if_pos e0] at C2
      exact ⟨_, _, ld (w_callV dL_shortName_4 kc_L_64 rfl rfl (J_is hab ho) (by decide) (Nat.le_of_ble_eq_true rfl) C2 (w_i2l dL_shortName_7 (w_last dL_shortName_8 J_out vp_01 (w_goto (tgt := 15) dL_shortName_9 (by decide) (w_iconst dL_shortName_15 rfl (w_iret dL_shortName_16 rfl)))))), by rw [e0]; rfl, h1, W1, Or.inr ⟨cn1, by rw [if_pos e0]; exact J_up⟩⟩
    · rw [if_neg e0] at C2
      have hc : R.2.1 = 1 := by omega
      have f1 := hc
      rw [f1, e1] at C2
      exact ⟨_, _, ld (w_callVx [] (⟨0, 9, 12, 13⟩ : ExceptionTableEntry) [] rfl (fun z hz => by cases hz) rfl (by decide) kx_L_13 (by decide +kernel) dL_shortName_4 kc_L_64 rfl rfl (J_is hab ho) (by decide) (Nat.le_of_ble_eq_true rfl) C2 (fun q => w_astore_n dL_shortName_12 rfl (by decide) rfl (w_iconst dL_shortName_13 rfl (w_iret dL_shortName_14 rfl)))), by rw [f1]; rfl, h1, W1, Or.inr ⟨cn1, by rw [if_neg e0]⟩⟩
  · by_cases e0 : R.2.1 = 0
    · rw [if_pos e0] at C2
      exact ⟨_, _, ld (w_callV dL_shortName_4 kc_L_64 rfl rfl (J_is hab ho) (by decide) (Nat.le_of_ble_eq_true rfl) C2 w_no), rfl, h1, W1, Or.inl rfl⟩
    · rw [if_neg e0] at C2
      have hc : R.2.1 = 1 := by omega
      have f1 := hc
      rw [f1, e1] at C2
      exact ⟨_, _, ld (w_callVx [] (⟨0, 9, 12, 13⟩ : ExceptionTableEntry) [] rfl (fun z hz => by cases hz) rfl (by decide) kx_L_13 (by decide +kernel) dL_shortName_4 kc_L_64 rfl rfl (J_is hab ho) (by decide) (Nat.le_of_ble_eq_true rfl) C2 (fun q => w_no)), rfl, h1, W1, Or.inl rfl⟩
abbrev tL_named (G : k_G) (l : Launch) : k_T := k_Cw G l yL_named cL_named 5 (some .int) 24 [(0, 10, 13, 13), (0, 10, 17, 19)]
theorem L_named (ok : k_ok G l) (g0 : k_fh G = 0) {a b N w : Nat} {B : Nat × Nat} {s : m_S} {g : Nat → Int64} {h : k_H} {R : s_M × Nat × Int32} {X : Nat → String} {x1 x2 : Int32} (hab : a < b) (ho : k_is h a 14) (cn : k_cn b (b + 38) h) (hb : b + 38 ≤ h.2.1) (hR : R.2.1 ≤ 2) (e1 : X 1 = x_IO) (e2 : X 2 = x_IA)
    (C : k_ct (tX11_named (k_fG G b (b + 38)) l) [vR (some a), vI x1, vI x2] h (c_R a B R X N w)) : k_ct (tL_named G l) [vR (some a), vI x1, vI x2, vR (some (b + 37))] (c_J b s g h) (L_P a b B s g R N w) := by
  obtain ⟨h1, r, C1, W1, rfl⟩ := C
  have ld : ∀ {h2 : k_H} {x : k_R}, k_Jw G l yL_named cL_named 5 (some .int) 24 [(0, 10, 13, 13), (0, 10, 17, 19)] (c_J b s g h) (c_J b s g h) 5 (k_args 0 [vR (some a), vI x1, vI x2, vR (some (b + 37))]) [vI x2, vI x1, vR (some a), vI 0, vR (some (b + 37))] h2 x → tL_named G l [vR (some a), vI x1, vI x2, vR (some (b + 37))] (c_J b s g h) h2 x := fun K => k_CwOf (by decide +kernel) (Nat.le_of_ble_eq_true rfl) (w_aload_n dL_named_0 rfl rfl (w_iconst dL_named_1 rfl (w_aload_n dL_named_2 rfl rfl (w_iload_n dL_named_3 rfl rfl (w_iload_n dL_named_4 rfl rfl K))))) ok.2
  rcases J_fro (s := s) (g := g) g0 cn hb C1 with ⟨cn1, C2⟩ | C2
  · by_cases e0 : R.2.1 = 0
    · rw [if_pos e0] at C2
      exact ⟨_, _, ld (w_callV dL_named_5 kc_L_67 rfl rfl (J_is hab ho) (by decide) (Nat.le_of_ble_eq_true rfl) C2 (w_i2l dL_named_8 (w_last dL_named_9 J_out vp_01 (w_goto (tgt := 21) dL_named_10 (by decide) (w_iconst dL_named_21 rfl (w_iret dL_named_22 rfl)))))), by rw [e0]; rfl, h1, W1, Or.inr ⟨cn1, by rw [if_pos e0]; exact J_up⟩⟩
    · rw [if_neg e0] at C2
      have hc : R.2.1 = 1 ∨ R.2.1 = 2 := by omega
      rcases hc with f1 | f2
      · rw [f1, e1] at C2
        exact ⟨_, _, ld (w_callVx [] (⟨0, 10, 13, 13⟩ : ExceptionTableEntry) [(⟨0, 10, 17, 19⟩ : ExceptionTableEntry)] rfl (fun z hz => by cases hz) rfl (by decide) kx_L_13 (by decide +kernel) dL_named_5 kc_L_67 rfl rfl (J_is hab ho) (by decide) (Nat.le_of_ble_eq_true rfl) C2 (fun q => w_astore dL_named_13 (by decide) rfl (w_iconst dL_named_15 rfl (w_iret dL_named_16 rfl)))), by rw [f1]; rfl, h1, W1, Or.inr ⟨cn1, by rw [if_neg e0]⟩⟩
      · rw [f2, e2] at C2
        exact ⟨_, _, ld (w_callVx [(⟨0, 10, 13, 13⟩ : ExceptionTableEntry)] (⟨0, 10, 17, 19⟩ : ExceptionTableEntry) [] rfl (fun z hz => by
        simp only [List.mem_cons, List.not_mem_nil, or_false] at hz
        rcases hz with rfl
        · exact ⟨by decide, _, kx_L_13, by decide +kernel⟩) rfl (by decide) kx_L_19 (by decide +kernel) dL_named_5 kc_L_67 rfl rfl (J_is hab ho) (by decide) (Nat.le_of_ble_eq_true rfl) C2 (fun q => w_astore dL_named_17 (by decide) rfl (w_iconst dL_named_19 rfl (w_iret dL_named_20 rfl)))), by rw [f2]; rfl, h1, W1, Or.inr ⟨cn1, by rw [if_neg e0]⟩⟩
  · by_cases e0 : R.2.1 = 0
    · rw [if_pos e0] at C2
      exact ⟨_, _, ld (w_callV dL_named_5 kc_L_67 rfl rfl (J_is hab ho) (by decide) (Nat.le_of_ble_eq_true rfl) C2 w_no), rfl, h1, W1, Or.inl rfl⟩
    · rw [if_neg e0] at C2
      have hc : R.2.1 = 1 ∨ R.2.1 = 2 := by omega
      rcases hc with f1 | f2
      · rw [f1, e1] at C2
        exact ⟨_, _, ld (w_callVx [] (⟨0, 10, 13, 13⟩ : ExceptionTableEntry) [(⟨0, 10, 17, 19⟩ : ExceptionTableEntry)] rfl (fun z hz => by cases hz) rfl (by decide) kx_L_13 (by decide +kernel) dL_named_5 kc_L_67 rfl rfl (J_is hab ho) (by decide) (Nat.le_of_ble_eq_true rfl) C2 (fun q => w_no)), rfl, h1, W1, Or.inl rfl⟩
      · rw [f2, e2] at C2
        exact ⟨_, _, ld (w_callVx [(⟨0, 10, 13, 13⟩ : ExceptionTableEntry)] (⟨0, 10, 17, 19⟩ : ExceptionTableEntry) [] rfl (fun z hz => by
        simp only [List.mem_cons, List.not_mem_nil, or_false] at hz
        rcases hz with rfl
        · exact ⟨by decide, _, kx_L_13, by decide +kernel⟩) rfl (by decide) kx_L_19 (by decide +kernel) dL_named_5 kc_L_67 rfl rfl (J_is hab ho) (by decide) (Nat.le_of_ble_eq_true rfl) C2 (fun q => w_no)), rfl, h1, W1, Or.inl rfl⟩
abbrev tL_save (G : k_G) (l : Launch) : k_T := k_Cw G l yL_save cL_save 6 (some .int) 29 [(0, 12, 15, 13), (0, 12, 19, 19), (0, 12, 23, 21)]
theorem L_save (ok : k_ok G l) (g0 : k_fh G = 0) {a b N w : Nat} {B : Nat × Nat} {s : m_S} {g : Nat → Int64} {h : k_H} {R : s_M × Nat × Int32} {X : Nat → String} {x1 x2 x3 : Int32} (hab : a < b) (ho : k_is h a 14) (cn : k_cn b (b + 38) h) (hb : b + 38 ≤ h.2.1) (hR : R.2.1 ≤ 3) (e1 : X 1 = x_IO) (e2 : X 2 = x_IA) (e3 : X 3 = x_IS)
    (C : k_ct (tX11_save (k_fG G b (b + 38)) l) [vR (some a), vI x1, vI x2, vI x3] h (c_R a B R X N w)) : k_ct (tL_save G l) [vR (some a), vI x1, vI x2, vI x3, vR (some (b + 37))] (c_J b s g h) (L_P a b B s g R N w) := by
  obtain ⟨h1, r, C1, W1, rfl⟩ := C
  have ld : ∀ {h2 : k_H} {x : k_R}, k_Jw G l yL_save cL_save 6 (some .int) 29 [(0, 12, 15, 13), (0, 12, 19, 19), (0, 12, 23, 21)] (c_J b s g h) (c_J b s g h) 7 (k_args 0 [vR (some a), vI x1, vI x2, vI x3, vR (some (b + 37))]) [vI x3, vI x2, vI x1, vR (some a), vI 0, vR (some (b + 37))] h2 x → tL_save G l [vR (some a), vI x1, vI x2, vI x3, vR (some (b + 37))] (c_J b s g h) h2 x := fun K => k_CwOf (by decide +kernel) (Nat.le_of_ble_eq_true rfl) (w_aload dL_save_0 rfl (w_iconst dL_save_2 rfl (w_aload_n dL_save_3 rfl rfl (w_iload_n dL_save_4 rfl rfl (w_iload_n dL_save_5 rfl rfl (w_iload_n dL_save_6 rfl rfl K)))))) ok.2
  rcases J_fro (s := s) (g := g) g0 cn hb C1 with ⟨cn1, C2⟩ | C2
  · by_cases e0 : R.2.1 = 0
    · rw [if_pos e0] at C2
      exact ⟨_, _, ld (w_callV dL_save_7 kc_L_70 rfl rfl (J_is hab ho) (by decide) (Nat.le_of_ble_eq_true rfl) C2 (w_i2l dL_save_10 (w_last dL_save_11 J_out vp_01 (w_goto (tgt := 27) dL_save_12 (by decide) (w_iconst dL_save_27 rfl (w_iret dL_save_28 rfl)))))), by rw [e0]; rfl, h1, W1, Or.inr ⟨cn1, by rw [if_pos e0]; exact J_up⟩⟩
    · rw [if_neg e0] at C2
      have hc : R.2.1 = 1 ∨ R.2.1 = 2 ∨ R.2.1 = 3 := by omega
      rcases hc with f1 | f2 | f3
      · rw [f1, e1] at C2
        exact ⟨_, _, ld (w_callVx [] (⟨0, 12, 15, 13⟩ : ExceptionTableEntry) [(⟨0, 12, 19, 19⟩ : ExceptionTableEntry), (⟨0, 12, 23, 21⟩ : ExceptionTableEntry)] rfl (fun z hz => by cases hz) rfl (by decide) kx_L_13 (by decide +kernel) dL_save_7 kc_L_70 rfl rfl (J_is hab ho) (by decide) (Nat.le_of_ble_eq_true rfl) C2 (fun q => w_astore dL_save_15 (by decide) rfl (w_iconst dL_save_17 rfl (w_iret dL_save_18 rfl)))), by rw [f1]; rfl, h1, W1, Or.inr ⟨cn1, by rw [if_neg e0]⟩⟩
      · rw [f2, e2] at C2
        exact ⟨_, _, ld (w_callVx [(⟨0, 12, 15, 13⟩ : ExceptionTableEntry)] (⟨0, 12, 19, 19⟩ : ExceptionTableEntry) [(⟨0, 12, 23, 21⟩ : ExceptionTableEntry)] rfl (fun z hz => by
        simp only [List.mem_cons, List.not_mem_nil, or_false] at hz
        rcases hz with rfl
        · exact ⟨by decide, _, kx_L_13, by decide +kernel⟩) rfl (by decide) kx_L_19 (by decide +kernel) dL_save_7 kc_L_70 rfl rfl (J_is hab ho) (by decide) (Nat.le_of_ble_eq_true rfl) C2 (fun q => w_astore dL_save_19 (by decide) rfl (w_iconst dL_save_21 rfl (w_iret dL_save_22 rfl)))), by rw [f2]; rfl, h1, W1, Or.inr ⟨cn1, by rw [if_neg e0]⟩⟩
      · rw [f3, e3] at C2
        exact ⟨_, _, ld (w_callVx [(⟨0, 12, 15, 13⟩ : ExceptionTableEntry), (⟨0, 12, 19, 19⟩ : ExceptionTableEntry)] (⟨0, 12, 23, 21⟩ : ExceptionTableEntry) [] rfl (fun z hz => by
        simp only [List.mem_cons, List.not_mem_nil, or_false] at hz
        rcases hz with rfl | rfl
        · exact ⟨by decide, _, kx_L_13, by decide +kernel⟩
        · exact ⟨by decide, _, kx_L_19, by decide +kernel⟩) rfl (by decide) kx_L_21 (by decide +kernel) dL_save_7 kc_L_70 rfl rfl (J_is hab ho) (by decide) (Nat.le_of_ble_eq_true rfl) C2 (fun q => w_astore dL_save_23 (by decide) rfl (w_iconst dL_save_25 rfl (w_iret dL_save_26 rfl)))), by rw [f3]; rfl, h1, W1, Or.inr ⟨cn1, by rw [if_neg e0]⟩⟩
  · by_cases e0 : R.2.1 = 0
    · rw [if_pos e0] at C2
      exact ⟨_, _, ld (w_callV dL_save_7 kc_L_70 rfl rfl (J_is hab ho) (by decide) (Nat.le_of_ble_eq_true rfl) C2 w_no), rfl, h1, W1, Or.inl rfl⟩
    · rw [if_neg e0] at C2
      have hc : R.2.1 = 1 ∨ R.2.1 = 2 ∨ R.2.1 = 3 := by omega
      rcases hc with f1 | f2 | f3
      · rw [f1, e1] at C2
        exact ⟨_, _, ld (w_callVx [] (⟨0, 12, 15, 13⟩ : ExceptionTableEntry) [(⟨0, 12, 19, 19⟩ : ExceptionTableEntry), (⟨0, 12, 23, 21⟩ : ExceptionTableEntry)] rfl (fun z hz => by cases hz) rfl (by decide) kx_L_13 (by decide +kernel) dL_save_7 kc_L_70 rfl rfl (J_is hab ho) (by decide) (Nat.le_of_ble_eq_true rfl) C2 (fun q => w_no)), rfl, h1, W1, Or.inl rfl⟩
      · rw [f2, e2] at C2
        exact ⟨_, _, ld (w_callVx [(⟨0, 12, 15, 13⟩ : ExceptionTableEntry)] (⟨0, 12, 19, 19⟩ : ExceptionTableEntry) [(⟨0, 12, 23, 21⟩ : ExceptionTableEntry)] rfl (fun z hz => by
        simp only [List.mem_cons, List.not_mem_nil, or_false] at hz
        rcases hz with rfl
        · exact ⟨by decide, _, kx_L_13, by decide +kernel⟩) rfl (by decide) kx_L_19 (by decide +kernel) dL_save_7 kc_L_70 rfl rfl (J_is hab ho) (by decide) (Nat.le_of_ble_eq_true rfl) C2 (fun q => w_no)), rfl, h1, W1, Or.inl rfl⟩
      · rw [f3, e3] at C2
        exact ⟨_, _, ld (w_callVx [(⟨0, 12, 15, 13⟩ : ExceptionTableEntry), (⟨0, 12, 19, 19⟩ : ExceptionTableEntry)] (⟨0, 12, 23, 21⟩ : ExceptionTableEntry) [] rfl (fun z hz => by
        simp only [List.mem_cons, List.not_mem_nil, or_false] at hz
        rcases hz with rfl | rfl
        · exact ⟨by decide, _, kx_L_13, by decide +kernel⟩
        · exact ⟨by decide, _, kx_L_19, by decide +kernel⟩) rfl (by decide) kx_L_21 (by decide +kernel) dL_save_7 kc_L_70 rfl rfl (J_is hab ho) (by decide) (Nat.le_of_ble_eq_true rfl) C2 (fun q => w_no)), rfl, h1, W1, Or.inl rfl⟩
abbrev tL_erase (G : k_G) (l : Launch) : k_T := k_Cw G l yL_erase cL_erase 5 (some .int) 29 [(0, 10, 13, 13), (0, 10, 17, 19), (0, 10, 21, 21)]
theorem L_erase (ok : k_ok G l) (g0 : k_fh G = 0) {a b N w : Nat} {B : Nat × Nat} {s : m_S} {g : Nat → Int64} {h : k_H} {R : s_M × Nat × Int32} {X : Nat → String} {x1 x2 : Int32} (hab : a < b) (ho : k_is h a 14) (cn : k_cn b (b + 38) h) (hb : b + 38 ≤ h.2.1) (hR : R.2.1 ≤ 3) (e1 : X 1 = x_IO) (e2 : X 2 = x_IA) (e3 : X 3 = x_IS)
    (C : k_ct (tX11_erase (k_fG G b (b + 38)) l) [vR (some a), vI x1, vI x2] h (c_R a B R X N w)) : k_ct (tL_erase G l) [vR (some a), vI x1, vI x2, vR (some (b + 37))] (c_J b s g h) (L_P a b B s g R N w) := by
  obtain ⟨h1, r, C1, W1, rfl⟩ := C
  have ld : ∀ {h2 : k_H} {x : k_R}, k_Jw G l yL_erase cL_erase 5 (some .int) 29 [(0, 10, 13, 13), (0, 10, 17, 19), (0, 10, 21, 21)] (c_J b s g h) (c_J b s g h) 5 (k_args 0 [vR (some a), vI x1, vI x2, vR (some (b + 37))]) [vI x2, vI x1, vR (some a), vI 0, vR (some (b + 37))] h2 x → tL_erase G l [vR (some a), vI x1, vI x2, vR (some (b + 37))] (c_J b s g h) h2 x := fun K => k_CwOf (by decide +kernel) (Nat.le_of_ble_eq_true rfl) (w_aload_n dL_erase_0 rfl rfl (w_iconst dL_erase_1 rfl (w_aload_n dL_erase_2 rfl rfl (w_iload_n dL_erase_3 rfl rfl (w_iload_n dL_erase_4 rfl rfl K))))) ok.2
  rcases J_fro (s := s) (g := g) g0 cn hb C1 with ⟨cn1, C2⟩ | C2
  · by_cases e0 : R.2.1 = 0
    · rw [if_pos e0] at C2
      exact ⟨_, _, ld (w_callV dL_erase_5 kc_L_73 rfl rfl (J_is hab ho) (by decide) (Nat.le_of_ble_eq_true rfl) C2 (w_i2l dL_erase_8 (w_last dL_erase_9 J_out vp_01 (w_goto (tgt := 25) dL_erase_10 (by decide) (w_iconst dL_erase_25 rfl (w_iret dL_erase_26 rfl)))))), by rw [e0]; rfl, h1, W1, Or.inr ⟨cn1, by rw [if_pos e0]; exact J_up⟩⟩
    · rw [if_neg e0] at C2
      have hc : R.2.1 = 1 ∨ R.2.1 = 2 ∨ R.2.1 = 3 := by omega
      rcases hc with f1 | f2 | f3
      · rw [f1, e1] at C2
        exact ⟨_, _, ld (w_callVx [] (⟨0, 10, 13, 13⟩ : ExceptionTableEntry) [(⟨0, 10, 17, 19⟩ : ExceptionTableEntry), (⟨0, 10, 21, 21⟩ : ExceptionTableEntry)] rfl (fun z hz => by cases hz) rfl (by decide) kx_L_13 (by decide +kernel) dL_erase_5 kc_L_73 rfl rfl (J_is hab ho) (by decide) (Nat.le_of_ble_eq_true rfl) C2 (fun q => w_astore dL_erase_13 (by decide) rfl (w_iconst dL_erase_15 rfl (w_iret dL_erase_16 rfl)))), by rw [f1]; rfl, h1, W1, Or.inr ⟨cn1, by rw [if_neg e0]⟩⟩
      · rw [f2, e2] at C2
        exact ⟨_, _, ld (w_callVx [(⟨0, 10, 13, 13⟩ : ExceptionTableEntry)] (⟨0, 10, 17, 19⟩ : ExceptionTableEntry) [(⟨0, 10, 21, 21⟩ : ExceptionTableEntry)] rfl (fun z hz => by
        simp only [List.mem_cons, List.not_mem_nil, or_false] at hz
        rcases hz with rfl
        · exact ⟨by decide, _, kx_L_13, by decide +kernel⟩) rfl (by decide) kx_L_19 (by decide +kernel) dL_erase_5 kc_L_73 rfl rfl (J_is hab ho) (by decide) (Nat.le_of_ble_eq_true rfl) C2 (fun q => w_astore dL_erase_17 (by decide) rfl (w_iconst dL_erase_19 rfl (w_iret dL_erase_20 rfl)))), by rw [f2]; rfl, h1, W1, Or.inr ⟨cn1, by rw [if_neg e0]⟩⟩
      · rw [f3, e3] at C2
        exact ⟨_, _, ld (w_callVx [(⟨0, 10, 13, 13⟩ : ExceptionTableEntry), (⟨0, 10, 17, 19⟩ : ExceptionTableEntry)] (⟨0, 10, 21, 21⟩ : ExceptionTableEntry) [] rfl (fun z hz => by
        simp only [List.mem_cons, List.not_mem_nil, or_false] at hz
        rcases hz with rfl | rfl
        · exact ⟨by decide, _, kx_L_13, by decide +kernel⟩
        · exact ⟨by decide, _, kx_L_19, by decide +kernel⟩) rfl (by decide) kx_L_21 (by decide +kernel) dL_erase_5 kc_L_73 rfl rfl (J_is hab ho) (by decide) (Nat.le_of_ble_eq_true rfl) C2 (fun q => w_astore dL_erase_21 (by decide) rfl (w_iconst dL_erase_23 rfl (w_iret dL_erase_24 rfl)))), by rw [f3]; rfl, h1, W1, Or.inr ⟨cn1, by rw [if_neg e0]⟩⟩
  · by_cases e0 : R.2.1 = 0
    · rw [if_pos e0] at C2
      exact ⟨_, _, ld (w_callV dL_erase_5 kc_L_73 rfl rfl (J_is hab ho) (by decide) (Nat.le_of_ble_eq_true rfl) C2 w_no), rfl, h1, W1, Or.inl rfl⟩
    · rw [if_neg e0] at C2
      have hc : R.2.1 = 1 ∨ R.2.1 = 2 ∨ R.2.1 = 3 := by omega
      rcases hc with f1 | f2 | f3
      · rw [f1, e1] at C2
        exact ⟨_, _, ld (w_callVx [] (⟨0, 10, 13, 13⟩ : ExceptionTableEntry) [(⟨0, 10, 17, 19⟩ : ExceptionTableEntry), (⟨0, 10, 21, 21⟩ : ExceptionTableEntry)] rfl (fun z hz => by cases hz) rfl (by decide) kx_L_13 (by decide +kernel) dL_erase_5 kc_L_73 rfl rfl (J_is hab ho) (by decide) (Nat.le_of_ble_eq_true rfl) C2 (fun q => w_no)), rfl, h1, W1, Or.inl rfl⟩
      · rw [f2, e2] at C2
        exact ⟨_, _, ld (w_callVx [(⟨0, 10, 13, 13⟩ : ExceptionTableEntry)] (⟨0, 10, 17, 19⟩ : ExceptionTableEntry) [(⟨0, 10, 21, 21⟩ : ExceptionTableEntry)] rfl (fun z hz => by
        simp only [List.mem_cons, List.not_mem_nil, or_false] at hz
        rcases hz with rfl
        · exact ⟨by decide, _, kx_L_13, by decide +kernel⟩) rfl (by decide) kx_L_19 (by decide +kernel) dL_erase_5 kc_L_73 rfl rfl (J_is hab ho) (by decide) (Nat.le_of_ble_eq_true rfl) C2 (fun q => w_no)), rfl, h1, W1, Or.inl rfl⟩
      · rw [f3, e3] at C2
        exact ⟨_, _, ld (w_callVx [(⟨0, 10, 13, 13⟩ : ExceptionTableEntry), (⟨0, 10, 17, 19⟩ : ExceptionTableEntry)] (⟨0, 10, 21, 21⟩ : ExceptionTableEntry) [] rfl (fun z hz => by
        simp only [List.mem_cons, List.not_mem_nil, or_false] at hz
        rcases hz with rfl | rfl
        · exact ⟨by decide, _, kx_L_13, by decide +kernel⟩
        · exact ⟨by decide, _, kx_L_19, by decide +kernel⟩) rfl (by decide) kx_L_21 (by decide +kernel) dL_erase_5 kc_L_73 rfl rfl (J_is hab ho) (by decide) (Nat.le_of_ble_eq_true rfl) C2 (fun q => w_no)), rfl, h1, W1, Or.inl rfl⟩
abbrev tL_build (G : k_G) (l : Launch) : k_T := k_Cw G l yL_build cL_build 5 (some .int) 27 [(0, 10, 13, 13), (0, 10, 17, 19), (0, 10, 21, 21)]
theorem L_build (ok : k_ok G l) (g0 : k_fh G = 0) {a b N w : Nat} {B : Nat × Nat} {s : m_S} {g : Nat → Int64} {h : k_H} {R : s_M × Nat × Int32} {X : Nat → String} {x1 x2 : Int32} (hab : a < b) (ho : k_is h a 14) (cn : k_cn b (b + 38) h) (hb : b + 38 ≤ h.2.1) (hR : R.2.1 ≤ 3) (e1 : X 1 = x_IO) (e2 : X 2 = x_IA) (e3 : X 3 = x_IS)
    (C : k_ct (tX11_build (k_fG G b (b + 38)) l) [vR (some a), vI x1, vI x2] h (c_R a B R X N w)) : k_ct (tL_build G l) [vR (some a), vI x1, vI x2, vR (some (b + 37))] (c_J b s g h) (L_P a b B s g R N w) := by
  obtain ⟨h1, r, C1, W1, rfl⟩ := C
  have ld : ∀ {h2 : k_H} {x : k_R}, k_Jw G l yL_build cL_build 5 (some .int) 27 [(0, 10, 13, 13), (0, 10, 17, 19), (0, 10, 21, 21)] (c_J b s g h) (c_J b s g h) 5 (k_args 0 [vR (some a), vI x1, vI x2, vR (some (b + 37))]) [vI x2, vI x1, vR (some a), vI 0, vR (some (b + 37))] h2 x → tL_build G l [vR (some a), vI x1, vI x2, vR (some (b + 37))] (c_J b s g h) h2 x := fun K => k_CwOf (by decide +kernel) (Nat.le_of_ble_eq_true rfl) (w_aload_n dL_build_0 rfl rfl (w_iconst dL_build_1 rfl (w_aload_n dL_build_2 rfl rfl (w_iload_n dL_build_3 rfl rfl (w_iload_n dL_build_4 rfl rfl K))))) ok.2
  rcases J_fro (s := s) (g := g) g0 cn hb C1 with ⟨cn1, C2⟩ | C2
  · by_cases e0 : R.2.1 = 0
    · rw [if_pos e0] at C2
      exact ⟨_, _, ld (w_callV dL_build_5 kc_L_76 rfl rfl (J_is hab ho) (by decide) (Nat.le_of_ble_eq_true rfl) C2 (w_i2l dL_build_8 (w_last dL_build_9 J_out vp_01 (w_goto (tgt := 25) dL_build_10 (by decide) (w_iconst dL_build_25 rfl (w_iret dL_build_26 rfl)))))), by rw [e0]; rfl, h1, W1, Or.inr ⟨cn1, by rw [if_pos e0]; exact J_up⟩⟩
    · rw [if_neg e0] at C2
      have hc : R.2.1 = 1 ∨ R.2.1 = 2 ∨ R.2.1 = 3 := by omega
      rcases hc with f1 | f2 | f3
      · rw [f1, e1] at C2
        exact ⟨_, _, ld (w_callVx [] (⟨0, 10, 13, 13⟩ : ExceptionTableEntry) [(⟨0, 10, 17, 19⟩ : ExceptionTableEntry), (⟨0, 10, 21, 21⟩ : ExceptionTableEntry)] rfl (fun z hz => by cases hz) rfl (by decide) kx_L_13 (by decide +kernel) dL_build_5 kc_L_76 rfl rfl (J_is hab ho) (by decide) (Nat.le_of_ble_eq_true rfl) C2 (fun q => w_astore dL_build_13 (by decide) rfl (w_iconst dL_build_15 rfl (w_iret dL_build_16 rfl)))), by rw [f1]; rfl, h1, W1, Or.inr ⟨cn1, by rw [if_neg e0]⟩⟩
      · rw [f2, e2] at C2
        exact ⟨_, _, ld (w_callVx [(⟨0, 10, 13, 13⟩ : ExceptionTableEntry)] (⟨0, 10, 17, 19⟩ : ExceptionTableEntry) [(⟨0, 10, 21, 21⟩ : ExceptionTableEntry)] rfl (fun z hz => by
        simp only [List.mem_cons, List.not_mem_nil, or_false] at hz
        rcases hz with rfl
        · exact ⟨by decide, _, kx_L_13, by decide +kernel⟩) rfl (by decide) kx_L_19 (by decide +kernel) dL_build_5 kc_L_76 rfl rfl (J_is hab ho) (by decide) (Nat.le_of_ble_eq_true rfl) C2 (fun q => w_astore dL_build_17 (by decide) rfl (w_iconst dL_build_19 rfl (w_iret dL_build_20 rfl)))), by rw [f2]; rfl, h1, W1, Or.inr ⟨cn1, by rw [if_neg e0]⟩⟩
      · rw [f3, e3] at C2
        exact ⟨_, _, ld (w_callVx [(⟨0, 10, 13, 13⟩ : ExceptionTableEntry), (⟨0, 10, 17, 19⟩ : ExceptionTableEntry)] (⟨0, 10, 21, 21⟩ : ExceptionTableEntry) [] rfl (fun z hz => by
        simp only [List.mem_cons, List.not_mem_nil, or_false] at hz
        rcases hz with rfl | rfl
        · exact ⟨by decide, _, kx_L_13, by decide +kernel⟩
        · exact ⟨by decide, _, kx_L_19, by decide +kernel⟩) rfl (by decide) kx_L_21 (by decide +kernel) dL_build_5 kc_L_76 rfl rfl (J_is hab ho) (by decide) (Nat.le_of_ble_eq_true rfl) C2 (fun q => w_astore dL_build_21 (by decide) rfl (w_iconst dL_build_23 rfl (w_iret dL_build_24 rfl)))), by rw [f3]; rfl, h1, W1, Or.inr ⟨cn1, by rw [if_neg e0]⟩⟩
  · by_cases e0 : R.2.1 = 0
    · rw [if_pos e0] at C2
      exact ⟨_, _, ld (w_callV dL_build_5 kc_L_76 rfl rfl (J_is hab ho) (by decide) (Nat.le_of_ble_eq_true rfl) C2 w_no), rfl, h1, W1, Or.inl rfl⟩
    · rw [if_neg e0] at C2
      have hc : R.2.1 = 1 ∨ R.2.1 = 2 ∨ R.2.1 = 3 := by omega
      rcases hc with f1 | f2 | f3
      · rw [f1, e1] at C2
        exact ⟨_, _, ld (w_callVx [] (⟨0, 10, 13, 13⟩ : ExceptionTableEntry) [(⟨0, 10, 17, 19⟩ : ExceptionTableEntry), (⟨0, 10, 21, 21⟩ : ExceptionTableEntry)] rfl (fun z hz => by cases hz) rfl (by decide) kx_L_13 (by decide +kernel) dL_build_5 kc_L_76 rfl rfl (J_is hab ho) (by decide) (Nat.le_of_ble_eq_true rfl) C2 (fun q => w_no)), rfl, h1, W1, Or.inl rfl⟩
      · rw [f2, e2] at C2
        exact ⟨_, _, ld (w_callVx [(⟨0, 10, 13, 13⟩ : ExceptionTableEntry)] (⟨0, 10, 17, 19⟩ : ExceptionTableEntry) [(⟨0, 10, 21, 21⟩ : ExceptionTableEntry)] rfl (fun z hz => by
        simp only [List.mem_cons, List.not_mem_nil, or_false] at hz
        rcases hz with rfl
        · exact ⟨by decide, _, kx_L_13, by decide +kernel⟩) rfl (by decide) kx_L_19 (by decide +kernel) dL_build_5 kc_L_76 rfl rfl (J_is hab ho) (by decide) (Nat.le_of_ble_eq_true rfl) C2 (fun q => w_no)), rfl, h1, W1, Or.inl rfl⟩
      · rw [f3, e3] at C2
        exact ⟨_, _, ld (w_callVx [(⟨0, 10, 13, 13⟩ : ExceptionTableEntry), (⟨0, 10, 17, 19⟩ : ExceptionTableEntry)] (⟨0, 10, 21, 21⟩ : ExceptionTableEntry) [] rfl (fun z hz => by
        simp only [List.mem_cons, List.not_mem_nil, or_false] at hz
        rcases hz with rfl | rfl
        · exact ⟨by decide, _, kx_L_13, by decide +kernel⟩
        · exact ⟨by decide, _, kx_L_19, by decide +kernel⟩) rfl (by decide) kx_L_21 (by decide +kernel) dL_build_5 kc_L_76 rfl rfl (J_is hab ho) (by decide) (Nat.le_of_ble_eq_true rfl) C2 (fun q => w_no)), rfl, h1, W1, Or.inl rfl⟩
abbrev tL_off (G : k_G) (l : Launch) : k_T := k_Cw G l yL_off cL_off 4 (some .int) 26 [(0, 9, 12, 13)]
theorem L_off (ok : k_ok G l) (g0 : k_fh G = 0) {a b N w : Nat} {B : Nat × Nat} {s : m_S} {g : Nat → Int64} {h : k_H} {R : s_M × Nat × Int32} {X : Nat → String} {x1 : Int32} (hab : a < b) (ho : k_is h a 14) (cn : k_cn b (b + 38) h) (hb : b + 38 ≤ h.2.1) (hR : R.2.1 ≤ 1) (e1 : X 1 = x_IO)
    (C : k_ct (tX11_off (k_fG G b (b + 38)) l) [vR (some a), vI x1] h (c_R a B R X N w)) : k_ct (tL_off G l) [vR (some a), vI x1, vR (some (b + 37))] (c_J b s g h) (L_P a b B s g R N w) := by
  obtain ⟨h1, r, C1, W1, rfl⟩ := C
  have ld : ∀ {h2 : k_H} {x : k_R}, k_Jw G l yL_off cL_off 4 (some .int) 26 [(0, 9, 12, 13)] (c_J b s g h) (c_J b s g h) 4 (k_args 0 [vR (some a), vI x1, vR (some (b + 37))]) [vI x1, vR (some a), vI 0, vR (some (b + 37))] h2 x → tL_off G l [vR (some a), vI x1, vR (some (b + 37))] (c_J b s g h) h2 x := fun K => k_CwOf (by decide +kernel) (Nat.le_of_ble_eq_true rfl) (w_aload_n dL_off_0 rfl rfl (w_iconst dL_off_1 rfl (w_aload_n dL_off_2 rfl rfl (w_iload_n dL_off_3 rfl rfl K)))) ok.2
  rcases J_fro (s := s) (g := g) g0 cn hb C1 with ⟨cn1, C2⟩ | C2
  · by_cases e0 : R.2.1 = 0
    · rw [if_pos e0] at C2
      exact ⟨_, _, ld (w_callV dL_off_4 kc_L_79 rfl rfl (J_is hab ho) (by decide) (Nat.le_of_ble_eq_true rfl) C2 (w_i2l dL_off_7 (w_last dL_off_8 J_out vp_01 (w_goto (tgt := 15) dL_off_9 (by decide) (w_iconst dL_off_15 rfl (w_iret dL_off_16 rfl)))))), by rw [e0]; rfl, h1, W1, Or.inr ⟨cn1, by rw [if_pos e0]; exact J_up⟩⟩
    · rw [if_neg e0] at C2
      have hc : R.2.1 = 1 := by omega
      have f1 := hc
      rw [f1, e1] at C2
      exact ⟨_, _, ld (w_callVx [] (⟨0, 9, 12, 13⟩ : ExceptionTableEntry) [] rfl (fun z hz => by cases hz) rfl (by decide) kx_L_13 (by decide +kernel) dL_off_4 kc_L_79 rfl rfl (J_is hab ho) (by decide) (Nat.le_of_ble_eq_true rfl) C2 (fun q => w_astore_n dL_off_12 rfl (by decide) rfl (w_iconst dL_off_13 rfl (w_iret dL_off_14 rfl)))), by rw [f1]; rfl, h1, W1, Or.inr ⟨cn1, by rw [if_neg e0]⟩⟩
  · by_cases e0 : R.2.1 = 0
    · rw [if_pos e0] at C2
      exact ⟨_, _, ld (w_callV dL_off_4 kc_L_79 rfl rfl (J_is hab ho) (by decide) (Nat.le_of_ble_eq_true rfl) C2 w_no), rfl, h1, W1, Or.inl rfl⟩
    · rw [if_neg e0] at C2
      have hc : R.2.1 = 1 := by omega
      have f1 := hc
      rw [f1, e1] at C2
      exact ⟨_, _, ld (w_callVx [] (⟨0, 9, 12, 13⟩ : ExceptionTableEntry) [] rfl (fun z hz => by cases hz) rfl (by decide) kx_L_13 (by decide +kernel) dL_off_4 kc_L_79 rfl rfl (J_is hab ho) (by decide) (Nat.le_of_ble_eq_true rfl) C2 (fun q => w_no)), rfl, h1, W1, Or.inl rfl⟩
abbrev tL_rank (G : k_G) (l : Launch) : k_T := k_Cw G l yL_rank cL_rank 4 (some .int) 25 [(0, 9, 12, 19)]
theorem L_rank (ok : k_ok G l) (g0 : k_fh G = 0) {a b N w : Nat} {B : Nat × Nat} {s : m_S} {g : Nat → Int64} {h : k_H} {R : s_M × Nat × Int32} {X : Nat → String} {x1 : Int32} (hab : a < b) (ho : k_is h a 14) (cn : k_cn b (b + 38) h) (hb : b + 38 ≤ h.2.1) (hR : R.2.1 ≤ 1) (e1 : X 1 = x_IA)
    (C : k_ct (tX11_rank (k_fG G b (b + 38)) l) [vR (some a), vI x1] h (c_R a B R X N w)) : k_ct (tL_rank G l) [vR (some a), vI x1, vR (some (b + 37))] (c_J b s g h) (L_P a b B s g R N w) := by
  obtain ⟨h1, r, C1, W1, rfl⟩ := C
  have ld : ∀ {h2 : k_H} {x : k_R}, k_Jw G l yL_rank cL_rank 4 (some .int) 25 [(0, 9, 12, 19)] (c_J b s g h) (c_J b s g h) 4 (k_args 0 [vR (some a), vI x1, vR (some (b + 37))]) [vI x1, vR (some a), vI 0, vR (some (b + 37))] h2 x → tL_rank G l [vR (some a), vI x1, vR (some (b + 37))] (c_J b s g h) h2 x := fun K => k_CwOf (by decide +kernel) (Nat.le_of_ble_eq_true rfl) (w_aload_n dL_rank_0 rfl rfl (w_iconst dL_rank_1 rfl (w_aload_n dL_rank_2 rfl rfl (w_iload_n dL_rank_3 rfl rfl K)))) ok.2
  rcases J_fro (s := s) (g := g) g0 cn hb C1 with ⟨cn1, C2⟩ | C2
  · by_cases e0 : R.2.1 = 0
    · rw [if_pos e0] at C2
      exact ⟨_, _, ld (w_callV dL_rank_4 kc_L_82 rfl rfl (J_is hab ho) (by decide) (Nat.le_of_ble_eq_true rfl) C2 (w_i2l dL_rank_7 (w_last dL_rank_8 J_out vp_01 (w_goto (tgt := 15) dL_rank_9 (by decide) (w_iconst dL_rank_15 rfl (w_iret dL_rank_16 rfl)))))), by rw [e0]; rfl, h1, W1, Or.inr ⟨cn1, by rw [if_pos e0]; exact J_up⟩⟩
    · rw [if_neg e0] at C2
      have hc : R.2.1 = 1 := by omega
      have f1 := hc
      rw [f1, e1] at C2
      exact ⟨_, _, ld (w_callVx [] (⟨0, 9, 12, 19⟩ : ExceptionTableEntry) [] rfl (fun z hz => by cases hz) rfl (by decide) kx_L_19 (by decide +kernel) dL_rank_4 kc_L_82 rfl rfl (J_is hab ho) (by decide) (Nat.le_of_ble_eq_true rfl) C2 (fun q => w_astore_n dL_rank_12 rfl (by decide) rfl (w_iconst dL_rank_13 rfl (w_iret dL_rank_14 rfl)))), by rw [f1]; rfl, h1, W1, Or.inr ⟨cn1, by rw [if_neg e0]⟩⟩
  · by_cases e0 : R.2.1 = 0
    · rw [if_pos e0] at C2
      exact ⟨_, _, ld (w_callV dL_rank_4 kc_L_82 rfl rfl (J_is hab ho) (by decide) (Nat.le_of_ble_eq_true rfl) C2 w_no), rfl, h1, W1, Or.inl rfl⟩
    · rw [if_neg e0] at C2
      have hc : R.2.1 = 1 := by omega
      have f1 := hc
      rw [f1, e1] at C2
      exact ⟨_, _, ld (w_callVx [] (⟨0, 9, 12, 19⟩ : ExceptionTableEntry) [] rfl (fun z hz => by cases hz) rfl (by decide) kx_L_19 (by decide +kernel) dL_rank_4 kc_L_82 rfl rfl (J_is hab ho) (by decide) (Nat.le_of_ble_eq_true rfl) C2 (fun q => w_no)), rfl, h1, W1, Or.inl rfl⟩
abbrev tL_rankAnew (G : k_G) (l : Launch) : k_T := k_Cw G l yL_rankAnew cL_rankAnew 4 (some .int) 25 [(0, 9, 12, 19)]
theorem L_rankAnew (ok : k_ok G l) (g0 : k_fh G = 0) {a b N w : Nat} {B : Nat × Nat} {s : m_S} {g : Nat → Int64} {h : k_H} {R : s_M × Nat × Int32} {X : Nat → String} {x1 : Int32} (hab : a < b) (ho : k_is h a 14) (cn : k_cn b (b + 38) h) (hb : b + 38 ≤ h.2.1) (hR : R.2.1 ≤ 1) (e1 : X 1 = x_IA)
    (C : k_ct (tX11_rankAnew (k_fG G b (b + 38)) l) [vR (some a), vI x1] h (c_R a B R X N w)) : k_ct (tL_rankAnew G l) [vR (some a), vI x1, vR (some (b + 37))] (c_J b s g h) (L_P a b B s g R N w) := by
  obtain ⟨h1, r, C1, W1, rfl⟩ := C
  have ld : ∀ {h2 : k_H} {x : k_R}, k_Jw G l yL_rankAnew cL_rankAnew 4 (some .int) 25 [(0, 9, 12, 19)] (c_J b s g h) (c_J b s g h) 4 (k_args 0 [vR (some a), vI x1, vR (some (b + 37))]) [vI x1, vR (some a), vI 0, vR (some (b + 37))] h2 x → tL_rankAnew G l [vR (some a), vI x1, vR (some (b + 37))] (c_J b s g h) h2 x := fun K => k_CwOf (by decide +kernel) (Nat.le_of_ble_eq_true rfl) (w_aload_n dL_rankAnew_0 rfl rfl (w_iconst dL_rankAnew_1 rfl (w_aload_n dL_rankAnew_2 rfl rfl (w_iload_n dL_rankAnew_3 rfl rfl K)))) ok.2
  rcases J_fro (s := s) (g := g) g0 cn hb C1 with ⟨cn1, C2⟩ | C2
  · by_cases e0 : R.2.1 = 0
    · rw [if_pos e0] at C2
      exact ⟨_, _, ld (w_callV dL_rankAnew_4 kc_L_85 rfl rfl (J_is hab ho) (by decide) (Nat.le_of_ble_eq_true rfl) C2 (w_i2l dL_rankAnew_7 (w_last dL_rankAnew_8 J_out vp_01 (w_goto (tgt := 15) dL_rankAnew_9 (by decide) (w_iconst dL_rankAnew_15 rfl (w_iret dL_rankAnew_16 rfl)))))), by rw [e0]; rfl, h1, W1, Or.inr ⟨cn1, by rw [if_pos e0]; exact J_up⟩⟩
    · rw [if_neg e0] at C2
      have hc : R.2.1 = 1 := by omega
      have f1 := hc
      rw [f1, e1] at C2
      exact ⟨_, _, ld (w_callVx [] (⟨0, 9, 12, 19⟩ : ExceptionTableEntry) [] rfl (fun z hz => by cases hz) rfl (by decide) kx_L_19 (by decide +kernel) dL_rankAnew_4 kc_L_85 rfl rfl (J_is hab ho) (by decide) (Nat.le_of_ble_eq_true rfl) C2 (fun q => w_astore_n dL_rankAnew_12 rfl (by decide) rfl (w_iconst dL_rankAnew_13 rfl (w_iret dL_rankAnew_14 rfl)))), by rw [f1]; rfl, h1, W1, Or.inr ⟨cn1, by rw [if_neg e0]⟩⟩
  · by_cases e0 : R.2.1 = 0
    · rw [if_pos e0] at C2
      exact ⟨_, _, ld (w_callV dL_rankAnew_4 kc_L_85 rfl rfl (J_is hab ho) (by decide) (Nat.le_of_ble_eq_true rfl) C2 w_no), rfl, h1, W1, Or.inl rfl⟩
    · rw [if_neg e0] at C2
      have hc : R.2.1 = 1 := by omega
      have f1 := hc
      rw [f1, e1] at C2
      exact ⟨_, _, ld (w_callVx [] (⟨0, 9, 12, 19⟩ : ExceptionTableEntry) [] rfl (fun z hz => by cases hz) rfl (by decide) kx_L_19 (by decide +kernel) dL_rankAnew_4 kc_L_85 rfl rfl (J_is hab ho) (by decide) (Nat.le_of_ble_eq_true rfl) C2 (fun q => w_no)), rfl, h1, W1, Or.inl rfl⟩
abbrev tL_watch (G : k_G) (l : Launch) : k_T := k_Cw G l yL_watch cL_watch 6 (some .int) 25 [(0, 12, 15, 19), (0, 12, 19, 21)]
theorem L_watch (ok : k_ok G l) (g0 : k_fh G = 0) {a b N w : Nat} {B : Nat × Nat} {s : m_S} {g : Nat → Int64} {h : k_H} {R : s_M × Nat × Int32} {X : Nat → String} {x1 x2 x3 : Int32} (hab : a < b) (ho : k_is h a 14) (cn : k_cn b (b + 38) h) (hb : b + 38 ≤ h.2.1) (hR : R.2.1 ≤ 2) (e1 : X 1 = x_IA) (e2 : X 2 = x_IS)
    (C : k_ct (tX11_watch (k_fG G b (b + 38)) l) [vR (some a), vI x1, vI x2, vI x3] h (c_R a B R X N w)) : k_ct (tL_watch G l) [vR (some a), vI x1, vI x2, vI x3, vR (some (b + 37))] (c_J b s g h) (L_P a b B s g R N w) := by
  obtain ⟨h1, r, C1, W1, rfl⟩ := C
  have ld : ∀ {h2 : k_H} {x : k_R}, k_Jw G l yL_watch cL_watch 6 (some .int) 25 [(0, 12, 15, 19), (0, 12, 19, 21)] (c_J b s g h) (c_J b s g h) 7 (k_args 0 [vR (some a), vI x1, vI x2, vI x3, vR (some (b + 37))]) [vI x3, vI x2, vI x1, vR (some a), vI 0, vR (some (b + 37))] h2 x → tL_watch G l [vR (some a), vI x1, vI x2, vI x3, vR (some (b + 37))] (c_J b s g h) h2 x := fun K => k_CwOf (by decide +kernel) (Nat.le_of_ble_eq_true rfl) (w_aload dL_watch_0 rfl (w_iconst dL_watch_2 rfl (w_aload_n dL_watch_3 rfl rfl (w_iload_n dL_watch_4 rfl rfl (w_iload_n dL_watch_5 rfl rfl (w_iload_n dL_watch_6 rfl rfl K)))))) ok.2
  rcases J_fro (s := s) (g := g) g0 cn hb C1 with ⟨cn1, C2⟩ | C2
  · by_cases e0 : R.2.1 = 0
    · rw [if_pos e0] at C2
      exact ⟨_, _, ld (w_callV dL_watch_7 kc_L_88 rfl rfl (J_is hab ho) (by decide) (Nat.le_of_ble_eq_true rfl) C2 (w_i2l dL_watch_10 (w_last dL_watch_11 J_out vp_01 (w_goto (tgt := 23) dL_watch_12 (by decide) (w_iconst dL_watch_23 rfl (w_iret dL_watch_24 rfl)))))), by rw [e0]; rfl, h1, W1, Or.inr ⟨cn1, by rw [if_pos e0]; exact J_up⟩⟩
    · rw [if_neg e0] at C2
      have hc : R.2.1 = 1 ∨ R.2.1 = 2 := by omega
      rcases hc with f1 | f2
      · rw [f1, e1] at C2
        exact ⟨_, _, ld (w_callVx [] (⟨0, 12, 15, 19⟩ : ExceptionTableEntry) [(⟨0, 12, 19, 21⟩ : ExceptionTableEntry)] rfl (fun z hz => by cases hz) rfl (by decide) kx_L_19 (by decide +kernel) dL_watch_7 kc_L_88 rfl rfl (J_is hab ho) (by decide) (Nat.le_of_ble_eq_true rfl) C2 (fun q => w_astore dL_watch_15 (by decide) rfl (w_iconst dL_watch_17 rfl (w_iret dL_watch_18 rfl)))), by rw [f1]; rfl, h1, W1, Or.inr ⟨cn1, by rw [if_neg e0]⟩⟩
      · rw [f2, e2] at C2
        exact ⟨_, _, ld (w_callVx [(⟨0, 12, 15, 19⟩ : ExceptionTableEntry)] (⟨0, 12, 19, 21⟩ : ExceptionTableEntry) [] rfl (fun z hz => by
        simp only [List.mem_cons, List.not_mem_nil, or_false] at hz
        rcases hz with rfl
        · exact ⟨by decide, _, kx_L_19, by decide +kernel⟩) rfl (by decide) kx_L_21 (by decide +kernel) dL_watch_7 kc_L_88 rfl rfl (J_is hab ho) (by decide) (Nat.le_of_ble_eq_true rfl) C2 (fun q => w_astore dL_watch_19 (by decide) rfl (w_iconst dL_watch_21 rfl (w_iret dL_watch_22 rfl)))), by rw [f2]; rfl, h1, W1, Or.inr ⟨cn1, by rw [if_neg e0]⟩⟩
  · by_cases e0 : R.2.1 = 0
    · rw [if_pos e0] at C2
      exact ⟨_, _, ld (w_callV dL_watch_7 kc_L_88 rfl rfl (J_is hab ho) (by decide) (Nat.le_of_ble_eq_true rfl) C2 w_no), rfl, h1, W1, Or.inl rfl⟩
    · rw [if_neg e0] at C2
      have hc : R.2.1 = 1 ∨ R.2.1 = 2 := by omega
      rcases hc with f1 | f2
      · rw [f1, e1] at C2
        exact ⟨_, _, ld (w_callVx [] (⟨0, 12, 15, 19⟩ : ExceptionTableEntry) [(⟨0, 12, 19, 21⟩ : ExceptionTableEntry)] rfl (fun z hz => by cases hz) rfl (by decide) kx_L_19 (by decide +kernel) dL_watch_7 kc_L_88 rfl rfl (J_is hab ho) (by decide) (Nat.le_of_ble_eq_true rfl) C2 (fun q => w_no)), rfl, h1, W1, Or.inl rfl⟩
      · rw [f2, e2] at C2
        exact ⟨_, _, ld (w_callVx [(⟨0, 12, 15, 19⟩ : ExceptionTableEntry)] (⟨0, 12, 19, 21⟩ : ExceptionTableEntry) [] rfl (fun z hz => by
        simp only [List.mem_cons, List.not_mem_nil, or_false] at hz
        rcases hz with rfl
        · exact ⟨by decide, _, kx_L_19, by decide +kernel⟩) rfl (by decide) kx_L_21 (by decide +kernel) dL_watch_7 kc_L_88 rfl rfl (J_is hab ho) (by decide) (Nat.le_of_ble_eq_true rfl) C2 (fun q => w_no)), rfl, h1, W1, Or.inl rfl⟩
abbrev tL_fired (G : k_G) (l : Launch) : k_T := k_Cw G l yL_fired cL_fired 4 (some .int) 22 [(0, 9, 12, 13)]
theorem L_fired (ok : k_ok G l) (g0 : k_fh G = 0) {a b N w : Nat} {B : Nat × Nat} {s : m_S} {g : Nat → Int64} {h : k_H} {R : s_M × Nat × Int32} {X : Nat → String} {x1 : Int32} (hab : a < b) (ho : k_is h a 14) (cn : k_cn b (b + 38) h) (hb : b + 38 ≤ h.2.1) (hR : R.2.1 ≤ 1) (e1 : X 1 = x_IO)
    (C : k_ct (tX11_fired (k_fG G b (b + 38)) l) [vR (some a), vI x1] h (c_R a B R X N w)) : k_ct (tL_fired G l) [vR (some a), vI x1, vR (some (b + 37))] (c_J b s g h) (L_P a b B s g R N w) := by
  obtain ⟨h1, r, C1, W1, rfl⟩ := C
  have ld : ∀ {h2 : k_H} {x : k_R}, k_Jw G l yL_fired cL_fired 4 (some .int) 22 [(0, 9, 12, 13)] (c_J b s g h) (c_J b s g h) 4 (k_args 0 [vR (some a), vI x1, vR (some (b + 37))]) [vI x1, vR (some a), vI 0, vR (some (b + 37))] h2 x → tL_fired G l [vR (some a), vI x1, vR (some (b + 37))] (c_J b s g h) h2 x := fun K => k_CwOf (by decide +kernel) (Nat.le_of_ble_eq_true rfl) (w_aload_n dL_fired_0 rfl rfl (w_iconst dL_fired_1 rfl (w_aload_n dL_fired_2 rfl rfl (w_iload_n dL_fired_3 rfl rfl K)))) ok.2
  rcases J_fro (s := s) (g := g) g0 cn hb C1 with ⟨cn1, C2⟩ | C2
  · by_cases e0 : R.2.1 = 0
    · rw [if_pos e0] at C2
      exact ⟨_, _, ld (w_callV dL_fired_4 kc_L_91 rfl rfl (J_is hab ho) (by decide) (Nat.le_of_ble_eq_true rfl) C2 (w_i2l dL_fired_7 (w_last dL_fired_8 J_out vp_01 (w_goto (tgt := 15) dL_fired_9 (by decide) (w_iconst dL_fired_15 rfl (w_iret dL_fired_16 rfl)))))), by rw [e0]; rfl, h1, W1, Or.inr ⟨cn1, by rw [if_pos e0]; exact J_up⟩⟩
    · rw [if_neg e0] at C2
      have hc : R.2.1 = 1 := by omega
      have f1 := hc
      rw [f1, e1] at C2
      exact ⟨_, _, ld (w_callVx [] (⟨0, 9, 12, 13⟩ : ExceptionTableEntry) [] rfl (fun z hz => by cases hz) rfl (by decide) kx_L_13 (by decide +kernel) dL_fired_4 kc_L_91 rfl rfl (J_is hab ho) (by decide) (Nat.le_of_ble_eq_true rfl) C2 (fun q => w_astore_n dL_fired_12 rfl (by decide) rfl (w_iconst dL_fired_13 rfl (w_iret dL_fired_14 rfl)))), by rw [f1]; rfl, h1, W1, Or.inr ⟨cn1, by rw [if_neg e0]⟩⟩
  · by_cases e0 : R.2.1 = 0
    · rw [if_pos e0] at C2
      exact ⟨_, _, ld (w_callV dL_fired_4 kc_L_91 rfl rfl (J_is hab ho) (by decide) (Nat.le_of_ble_eq_true rfl) C2 w_no), rfl, h1, W1, Or.inl rfl⟩
    · rw [if_neg e0] at C2
      have hc : R.2.1 = 1 := by omega
      have f1 := hc
      rw [f1, e1] at C2
      exact ⟨_, _, ld (w_callVx [] (⟨0, 9, 12, 13⟩ : ExceptionTableEntry) [] rfl (fun z hz => by cases hz) rfl (by decide) kx_L_13 (by decide +kernel) dL_fired_4 kc_L_91 rfl rfl (J_is hab ho) (by decide) (Nat.le_of_ble_eq_true rfl) C2 (fun q => w_no)), rfl, h1, W1, Or.inl rfl⟩
abbrev tL_offer (G : k_G) (l : Launch) : k_T := k_Cw G l yL_offer cL_offer 5 (some .int) 25 [(0, 10, 13, 13), (0, 10, 17, 19), (0, 10, 21, 21)]
theorem L_offer (ok : k_ok G l) (g0 : k_fh G = 0) {a b N w : Nat} {B : Nat × Nat} {s : m_S} {g : Nat → Int64} {h : k_H} {R : s_M × Nat × Int32} {X : Nat → String} {x1 x2 : Int32} (hab : a < b) (ho : k_is h a 14) (cn : k_cn b (b + 38) h) (hb : b + 38 ≤ h.2.1) (hR : R.2.1 ≤ 3) (e1 : X 1 = x_IO) (e2 : X 2 = x_IA) (e3 : X 3 = x_IS)
    (C : k_ct (tX11_offer (k_fG G b (b + 38)) l) [vR (some a), vI x1, vI x2] h (c_R a B R X N w)) : k_ct (tL_offer G l) [vR (some a), vI x1, vI x2, vR (some (b + 37))] (c_J b s g h) (L_P a b B s g R N w) := by
  obtain ⟨h1, r, C1, W1, rfl⟩ := C
  have ld : ∀ {h2 : k_H} {x : k_R}, k_Jw G l yL_offer cL_offer 5 (some .int) 25 [(0, 10, 13, 13), (0, 10, 17, 19), (0, 10, 21, 21)] (c_J b s g h) (c_J b s g h) 5 (k_args 0 [vR (some a), vI x1, vI x2, vR (some (b + 37))]) [vI x2, vI x1, vR (some a), vI 0, vR (some (b + 37))] h2 x → tL_offer G l [vR (some a), vI x1, vI x2, vR (some (b + 37))] (c_J b s g h) h2 x := fun K => k_CwOf (by decide +kernel) (Nat.le_of_ble_eq_true rfl) (w_aload_n dL_offer_0 rfl rfl (w_iconst dL_offer_1 rfl (w_aload_n dL_offer_2 rfl rfl (w_iload_n dL_offer_3 rfl rfl (w_iload_n dL_offer_4 rfl rfl K))))) ok.2
  rcases J_fro (s := s) (g := g) g0 cn hb C1 with ⟨cn1, C2⟩ | C2
  · by_cases e0 : R.2.1 = 0
    · rw [if_pos e0] at C2
      exact ⟨_, _, ld (w_callV dL_offer_5 kc_L_94 rfl rfl (J_is hab ho) (by decide) (Nat.le_of_ble_eq_true rfl) C2 (w_i2l dL_offer_8 (w_last dL_offer_9 J_out vp_01 (w_goto (tgt := 25) dL_offer_10 (by decide) (w_iconst dL_offer_25 rfl (w_iret dL_offer_26 rfl)))))), by rw [e0]; rfl, h1, W1, Or.inr ⟨cn1, by rw [if_pos e0]; exact J_up⟩⟩
    · rw [if_neg e0] at C2
      have hc : R.2.1 = 1 ∨ R.2.1 = 2 ∨ R.2.1 = 3 := by omega
      rcases hc with f1 | f2 | f3
      · rw [f1, e1] at C2
        exact ⟨_, _, ld (w_callVx [] (⟨0, 10, 13, 13⟩ : ExceptionTableEntry) [(⟨0, 10, 17, 19⟩ : ExceptionTableEntry), (⟨0, 10, 21, 21⟩ : ExceptionTableEntry)] rfl (fun z hz => by cases hz) rfl (by decide) kx_L_13 (by decide +kernel) dL_offer_5 kc_L_94 rfl rfl (J_is hab ho) (by decide) (Nat.le_of_ble_eq_true rfl) C2 (fun q => w_astore dL_offer_13 (by decide) rfl (w_iconst dL_offer_15 rfl (w_iret dL_offer_16 rfl)))), by rw [f1]; rfl, h1, W1, Or.inr ⟨cn1, by rw [if_neg e0]⟩⟩
      · rw [f2, e2] at C2
        exact ⟨_, _, ld (w_callVx [(⟨0, 10, 13, 13⟩ : ExceptionTableEntry)] (⟨0, 10, 17, 19⟩ : ExceptionTableEntry) [(⟨0, 10, 21, 21⟩ : ExceptionTableEntry)] rfl (fun z hz => by
        simp only [List.mem_cons, List.not_mem_nil, or_false] at hz
        rcases hz with rfl
        · exact ⟨by decide, _, kx_L_13, by decide +kernel⟩) rfl (by decide) kx_L_19 (by decide +kernel) dL_offer_5 kc_L_94 rfl rfl (J_is hab ho) (by decide) (Nat.le_of_ble_eq_true rfl) C2 (fun q => w_astore dL_offer_17 (by decide) rfl (w_iconst dL_offer_19 rfl (w_iret dL_offer_20 rfl)))), by rw [f2]; rfl, h1, W1, Or.inr ⟨cn1, by rw [if_neg e0]⟩⟩
      · rw [f3, e3] at C2
        exact ⟨_, _, ld (w_callVx [(⟨0, 10, 13, 13⟩ : ExceptionTableEntry), (⟨0, 10, 17, 19⟩ : ExceptionTableEntry)] (⟨0, 10, 21, 21⟩ : ExceptionTableEntry) [] rfl (fun z hz => by
        simp only [List.mem_cons, List.not_mem_nil, or_false] at hz
        rcases hz with rfl | rfl
        · exact ⟨by decide, _, kx_L_13, by decide +kernel⟩
        · exact ⟨by decide, _, kx_L_19, by decide +kernel⟩) rfl (by decide) kx_L_21 (by decide +kernel) dL_offer_5 kc_L_94 rfl rfl (J_is hab ho) (by decide) (Nat.le_of_ble_eq_true rfl) C2 (fun q => w_astore dL_offer_21 (by decide) rfl (w_iconst dL_offer_23 rfl (w_iret dL_offer_24 rfl)))), by rw [f3]; rfl, h1, W1, Or.inr ⟨cn1, by rw [if_neg e0]⟩⟩
  · by_cases e0 : R.2.1 = 0
    · rw [if_pos e0] at C2
      exact ⟨_, _, ld (w_callV dL_offer_5 kc_L_94 rfl rfl (J_is hab ho) (by decide) (Nat.le_of_ble_eq_true rfl) C2 w_no), rfl, h1, W1, Or.inl rfl⟩
    · rw [if_neg e0] at C2
      have hc : R.2.1 = 1 ∨ R.2.1 = 2 ∨ R.2.1 = 3 := by omega
      rcases hc with f1 | f2 | f3
      · rw [f1, e1] at C2
        exact ⟨_, _, ld (w_callVx [] (⟨0, 10, 13, 13⟩ : ExceptionTableEntry) [(⟨0, 10, 17, 19⟩ : ExceptionTableEntry), (⟨0, 10, 21, 21⟩ : ExceptionTableEntry)] rfl (fun z hz => by cases hz) rfl (by decide) kx_L_13 (by decide +kernel) dL_offer_5 kc_L_94 rfl rfl (J_is hab ho) (by decide) (Nat.le_of_ble_eq_true rfl) C2 (fun q => w_no)), rfl, h1, W1, Or.inl rfl⟩
      · rw [f2, e2] at C2
        exact ⟨_, _, ld (w_callVx [(⟨0, 10, 13, 13⟩ : ExceptionTableEntry)] (⟨0, 10, 17, 19⟩ : ExceptionTableEntry) [(⟨0, 10, 21, 21⟩ : ExceptionTableEntry)] rfl (fun z hz => by
        simp only [List.mem_cons, List.not_mem_nil, or_false] at hz
        rcases hz with rfl
        · exact ⟨by decide, _, kx_L_13, by decide +kernel⟩) rfl (by decide) kx_L_19 (by decide +kernel) dL_offer_5 kc_L_94 rfl rfl (J_is hab ho) (by decide) (Nat.le_of_ble_eq_true rfl) C2 (fun q => w_no)), rfl, h1, W1, Or.inl rfl⟩
      · rw [f3, e3] at C2
        exact ⟨_, _, ld (w_callVx [(⟨0, 10, 13, 13⟩ : ExceptionTableEntry), (⟨0, 10, 17, 19⟩ : ExceptionTableEntry)] (⟨0, 10, 21, 21⟩ : ExceptionTableEntry) [] rfl (fun z hz => by
        simp only [List.mem_cons, List.not_mem_nil, or_false] at hz
        rcases hz with rfl | rfl
        · exact ⟨by decide, _, kx_L_13, by decide +kernel⟩
        · exact ⟨by decide, _, kx_L_19, by decide +kernel⟩) rfl (by decide) kx_L_21 (by decide +kernel) dL_offer_5 kc_L_94 rfl rfl (J_is hab ho) (by decide) (Nat.le_of_ble_eq_true rfl) C2 (fun q => w_no)), rfl, h1, W1, Or.inl rfl⟩
abbrev tL_take (G : k_G) (l : Launch) : k_T := k_Cw G l yL_take cL_take 4 (some .int) 27 [(0, 9, 12, 13)]
theorem L_take (ok : k_ok G l) (g0 : k_fh G = 0) {a b N w : Nat} {B : Nat × Nat} {s : m_S} {g : Nat → Int64} {h : k_H} {R : s_M × Nat × Int32} {X : Nat → String} {x1 : Int32} (hab : a < b) (ho : k_is h a 14) (cn : k_cn b (b + 38) h) (hb : b + 38 ≤ h.2.1) (hR : R.2.1 ≤ 1) (e1 : X 1 = x_IO)
    (C : k_ct (tX11_take (k_fG G b (b + 38)) l) [vR (some a), vI x1] h (c_R a B R X N w)) : k_ct (tL_take G l) [vR (some a), vI x1, vR (some (b + 37))] (c_J b s g h) (L_P a b B s g R N w) := by
  obtain ⟨h1, r, C1, W1, rfl⟩ := C
  have ld : ∀ {h2 : k_H} {x : k_R}, k_Jw G l yL_take cL_take 4 (some .int) 27 [(0, 9, 12, 13)] (c_J b s g h) (c_J b s g h) 4 (k_args 0 [vR (some a), vI x1, vR (some (b + 37))]) [vI x1, vR (some a), vI 0, vR (some (b + 37))] h2 x → tL_take G l [vR (some a), vI x1, vR (some (b + 37))] (c_J b s g h) h2 x := fun K => k_CwOf (by decide +kernel) (Nat.le_of_ble_eq_true rfl) (w_aload_n dL_take_0 rfl rfl (w_iconst dL_take_1 rfl (w_aload_n dL_take_2 rfl rfl (w_iload_n dL_take_3 rfl rfl K)))) ok.2
  rcases J_fro (s := s) (g := g) g0 cn hb C1 with ⟨cn1, C2⟩ | C2
  · by_cases e0 : R.2.1 = 0
    · rw [if_pos e0] at C2
      exact ⟨_, _, ld (w_callV dL_take_4 kc_L_97 rfl rfl (J_is hab ho) (by decide) (Nat.le_of_ble_eq_true rfl) C2 (w_i2l dL_take_7 (w_last dL_take_8 J_out vp_01 (w_goto (tgt := 15) dL_take_9 (by decide) (w_iconst dL_take_15 rfl (w_iret dL_take_16 rfl)))))), by rw [e0]; rfl, h1, W1, Or.inr ⟨cn1, by rw [if_pos e0]; exact J_up⟩⟩
    · rw [if_neg e0] at C2
      have hc : R.2.1 = 1 := by omega
      have f1 := hc
      rw [f1, e1] at C2
      exact ⟨_, _, ld (w_callVx [] (⟨0, 9, 12, 13⟩ : ExceptionTableEntry) [] rfl (fun z hz => by cases hz) rfl (by decide) kx_L_13 (by decide +kernel) dL_take_4 kc_L_97 rfl rfl (J_is hab ho) (by decide) (Nat.le_of_ble_eq_true rfl) C2 (fun q => w_astore_n dL_take_12 rfl (by decide) rfl (w_iconst dL_take_13 rfl (w_iret dL_take_14 rfl)))), by rw [f1]; rfl, h1, W1, Or.inr ⟨cn1, by rw [if_neg e0]⟩⟩
  · by_cases e0 : R.2.1 = 0
    · rw [if_pos e0] at C2
      exact ⟨_, _, ld (w_callV dL_take_4 kc_L_97 rfl rfl (J_is hab ho) (by decide) (Nat.le_of_ble_eq_true rfl) C2 w_no), rfl, h1, W1, Or.inl rfl⟩
    · rw [if_neg e0] at C2
      have hc : R.2.1 = 1 := by omega
      have f1 := hc
      rw [f1, e1] at C2
      exact ⟨_, _, ld (w_callVx [] (⟨0, 9, 12, 13⟩ : ExceptionTableEntry) [] rfl (fun z hz => by cases hz) rfl (by decide) kx_L_13 (by decide +kernel) dL_take_4 kc_L_97 rfl rfl (J_is hab ho) (by decide) (Nat.le_of_ble_eq_true rfl) C2 (fun q => w_no)), rfl, h1, W1, Or.inl rfl⟩
abbrev tL_finish (G : k_G) (l : Launch) : k_T := k_Cw G l yL_finish cL_finish 4 (some .int) 27 [(0, 9, 12, 13)]
theorem L_finish (ok : k_ok G l) (g0 : k_fh G = 0) {a b N w : Nat} {B : Nat × Nat} {s : m_S} {g : Nat → Int64} {h : k_H} {R : s_M × Nat × Int32} {X : Nat → String} {x1 : Int32} (hab : a < b) (ho : k_is h a 14) (cn : k_cn b (b + 38) h) (hb : b + 38 ≤ h.2.1) (hR : R.2.1 ≤ 1) (e1 : X 1 = x_IO)
    (C : k_ct (tX11_finish (k_fG G b (b + 38)) l) [vR (some a), vI x1] h (c_R a B R X N w)) : k_ct (tL_finish G l) [vR (some a), vI x1, vR (some (b + 37))] (c_J b s g h) (L_P a b B s g R N w) := by
  obtain ⟨h1, r, C1, W1, rfl⟩ := C
  have ld : ∀ {h2 : k_H} {x : k_R}, k_Jw G l yL_finish cL_finish 4 (some .int) 27 [(0, 9, 12, 13)] (c_J b s g h) (c_J b s g h) 4 (k_args 0 [vR (some a), vI x1, vR (some (b + 37))]) [vI x1, vR (some a), vI 0, vR (some (b + 37))] h2 x → tL_finish G l [vR (some a), vI x1, vR (some (b + 37))] (c_J b s g h) h2 x := fun K => k_CwOf (by decide +kernel) (Nat.le_of_ble_eq_true rfl) (w_aload_n dL_finish_0 rfl rfl (w_iconst dL_finish_1 rfl (w_aload_n dL_finish_2 rfl rfl (w_iload_n dL_finish_3 rfl rfl K)))) ok.2
  rcases J_fro (s := s) (g := g) g0 cn hb C1 with ⟨cn1, C2⟩ | C2
  · by_cases e0 : R.2.1 = 0
    · rw [if_pos e0] at C2
      exact ⟨_, _, ld (w_callV dL_finish_4 kc_L_100 rfl rfl (J_is hab ho) (by decide) (Nat.le_of_ble_eq_true rfl) C2 (w_i2l dL_finish_7 (w_last dL_finish_8 J_out vp_01 (w_goto (tgt := 15) dL_finish_9 (by decide) (w_iconst dL_finish_15 rfl (w_iret dL_finish_16 rfl)))))), by rw [e0]; rfl, h1, W1, Or.inr ⟨cn1, by rw [if_pos e0]; exact J_up⟩⟩
    · rw [if_neg e0] at C2
      have hc : R.2.1 = 1 := by omega
      have f1 := hc
      rw [f1, e1] at C2
      exact ⟨_, _, ld (w_callVx [] (⟨0, 9, 12, 13⟩ : ExceptionTableEntry) [] rfl (fun z hz => by cases hz) rfl (by decide) kx_L_13 (by decide +kernel) dL_finish_4 kc_L_100 rfl rfl (J_is hab ho) (by decide) (Nat.le_of_ble_eq_true rfl) C2 (fun q => w_astore_n dL_finish_12 rfl (by decide) rfl (w_iconst dL_finish_13 rfl (w_iret dL_finish_14 rfl)))), by rw [f1]; rfl, h1, W1, Or.inr ⟨cn1, by rw [if_neg e0]⟩⟩
  · by_cases e0 : R.2.1 = 0
    · rw [if_pos e0] at C2
      exact ⟨_, _, ld (w_callV dL_finish_4 kc_L_100 rfl rfl (J_is hab ho) (by decide) (Nat.le_of_ble_eq_true rfl) C2 w_no), rfl, h1, W1, Or.inl rfl⟩
    · rw [if_neg e0] at C2
      have hc : R.2.1 = 1 := by omega
      have f1 := hc
      rw [f1, e1] at C2
      exact ⟨_, _, ld (w_callVx [] (⟨0, 9, 12, 13⟩ : ExceptionTableEntry) [] rfl (fun z hz => by cases hz) rfl (by decide) kx_L_13 (by decide +kernel) dL_finish_4 kc_L_100 rfl rfl (J_is hab ho) (by decide) (Nat.le_of_ble_eq_true rfl) C2 (fun q => w_no)), rfl, h1, W1, Or.inl rfl⟩
abbrev tL_part (G : k_G) (l : Launch) : k_T := k_Cw G l yL_part cL_part 5 (some .int) 23 [(0, 10, 13, 13), (0, 10, 17, 19)]
theorem L_part (ok : k_ok G l) (g0 : k_fh G = 0) {a b N w : Nat} {B : Nat × Nat} {s : m_S} {g : Nat → Int64} {h : k_H} {R : s_M × Nat × Int32} {X : Nat → String} {x1 x2 : Int32} (hab : a < b) (ho : k_is h a 14) (cn : k_cn b (b + 38) h) (hb : b + 38 ≤ h.2.1) (hR : R.2.1 ≤ 2) (e1 : X 1 = x_IO) (e2 : X 2 = x_IA)
    (C : k_ct (tX11_part (k_fG G b (b + 38)) l) [vR (some a), vI x1, vI x2] h (c_R a B R X N w)) : k_ct (tL_part G l) [vR (some a), vI x1, vI x2, vR (some (b + 37))] (c_J b s g h) (L_P a b B s g R N w) := by
  obtain ⟨h1, r, C1, W1, rfl⟩ := C
  have ld : ∀ {h2 : k_H} {x : k_R}, k_Jw G l yL_part cL_part 5 (some .int) 23 [(0, 10, 13, 13), (0, 10, 17, 19)] (c_J b s g h) (c_J b s g h) 5 (k_args 0 [vR (some a), vI x1, vI x2, vR (some (b + 37))]) [vI x2, vI x1, vR (some a), vI 0, vR (some (b + 37))] h2 x → tL_part G l [vR (some a), vI x1, vI x2, vR (some (b + 37))] (c_J b s g h) h2 x := fun K => k_CwOf (by decide +kernel) (Nat.le_of_ble_eq_true rfl) (w_aload_n dL_part_0 rfl rfl (w_iconst dL_part_1 rfl (w_aload_n dL_part_2 rfl rfl (w_iload_n dL_part_3 rfl rfl (w_iload_n dL_part_4 rfl rfl K))))) ok.2
  rcases J_fro (s := s) (g := g) g0 cn hb C1 with ⟨cn1, C2⟩ | C2
  · by_cases e0 : R.2.1 = 0
    · rw [if_pos e0] at C2
      exact ⟨_, _, ld (w_callV dL_part_5 kc_L_103 rfl rfl (J_is hab ho) (by decide) (Nat.le_of_ble_eq_true rfl) C2 (w_i2l dL_part_8 (w_last dL_part_9 J_out vp_01 (w_goto (tgt := 21) dL_part_10 (by decide) (w_iconst dL_part_21 rfl (w_iret dL_part_22 rfl)))))), by rw [e0]; rfl, h1, W1, Or.inr ⟨cn1, by rw [if_pos e0]; exact J_up⟩⟩
    · rw [if_neg e0] at C2
      have hc : R.2.1 = 1 ∨ R.2.1 = 2 := by omega
      rcases hc with f1 | f2
      · rw [f1, e1] at C2
        exact ⟨_, _, ld (w_callVx [] (⟨0, 10, 13, 13⟩ : ExceptionTableEntry) [(⟨0, 10, 17, 19⟩ : ExceptionTableEntry)] rfl (fun z hz => by cases hz) rfl (by decide) kx_L_13 (by decide +kernel) dL_part_5 kc_L_103 rfl rfl (J_is hab ho) (by decide) (Nat.le_of_ble_eq_true rfl) C2 (fun q => w_astore dL_part_13 (by decide) rfl (w_iconst dL_part_15 rfl (w_iret dL_part_16 rfl)))), by rw [f1]; rfl, h1, W1, Or.inr ⟨cn1, by rw [if_neg e0]⟩⟩
      · rw [f2, e2] at C2
        exact ⟨_, _, ld (w_callVx [(⟨0, 10, 13, 13⟩ : ExceptionTableEntry)] (⟨0, 10, 17, 19⟩ : ExceptionTableEntry) [] rfl (fun z hz => by
        simp only [List.mem_cons, List.not_mem_nil, or_false] at hz
        rcases hz with rfl
        · exact ⟨by decide, _, kx_L_13, by decide +kernel⟩) rfl (by decide) kx_L_19 (by decide +kernel) dL_part_5 kc_L_103 rfl rfl (J_is hab ho) (by decide) (Nat.le_of_ble_eq_true rfl) C2 (fun q => w_astore dL_part_17 (by decide) rfl (w_iconst dL_part_19 rfl (w_iret dL_part_20 rfl)))), by rw [f2]; rfl, h1, W1, Or.inr ⟨cn1, by rw [if_neg e0]⟩⟩
  · by_cases e0 : R.2.1 = 0
    · rw [if_pos e0] at C2
      exact ⟨_, _, ld (w_callV dL_part_5 kc_L_103 rfl rfl (J_is hab ho) (by decide) (Nat.le_of_ble_eq_true rfl) C2 w_no), rfl, h1, W1, Or.inl rfl⟩
    · rw [if_neg e0] at C2
      have hc : R.2.1 = 1 ∨ R.2.1 = 2 := by omega
      rcases hc with f1 | f2
      · rw [f1, e1] at C2
        exact ⟨_, _, ld (w_callVx [] (⟨0, 10, 13, 13⟩ : ExceptionTableEntry) [(⟨0, 10, 17, 19⟩ : ExceptionTableEntry)] rfl (fun z hz => by cases hz) rfl (by decide) kx_L_13 (by decide +kernel) dL_part_5 kc_L_103 rfl rfl (J_is hab ho) (by decide) (Nat.le_of_ble_eq_true rfl) C2 (fun q => w_no)), rfl, h1, W1, Or.inl rfl⟩
      · rw [f2, e2] at C2
        exact ⟨_, _, ld (w_callVx [(⟨0, 10, 13, 13⟩ : ExceptionTableEntry)] (⟨0, 10, 17, 19⟩ : ExceptionTableEntry) [] rfl (fun z hz => by
        simp only [List.mem_cons, List.not_mem_nil, or_false] at hz
        rcases hz with rfl
        · exact ⟨by decide, _, kx_L_13, by decide +kernel⟩) rfl (by decide) kx_L_19 (by decide +kernel) dL_part_5 kc_L_103 rfl rfl (J_is hab ho) (by decide) (Nat.le_of_ble_eq_true rfl) C2 (fun q => w_no)), rfl, h1, W1, Or.inl rfl⟩
abbrev tL_mark (G : k_G) (l : Launch) : k_T := k_Cw G l yL_mark cL_mark 3 (some .int) 22 [(0, 8, 11, 21)]
theorem L_mark (ok : k_ok G l) (g0 : k_fh G = 0) {a b N w : Nat} {B : Nat × Nat} {s : m_S} {g : Nat → Int64} {h : k_H} {R : s_M × Nat × Int32} {X : Nat → String} (hab : a < b) (ho : k_is h a 14) (cn : k_cn b (b + 38) h) (hb : b + 38 ≤ h.2.1) (hR : R.2.1 ≤ 1) (e1 : X 1 = x_IS)
    (C : k_ct (tX11_mark (k_fG G b (b + 38)) l) [vR (some a)] h (c_R a B R X N w)) : k_ct (tL_mark G l) [vR (some a), vR (some (b + 37))] (c_J b s g h) (L_P a b B s g R N w) := by
  obtain ⟨h1, r, C1, W1, rfl⟩ := C
  have ld : ∀ {h2 : k_H} {x : k_R}, k_Jw G l yL_mark cL_mark 3 (some .int) 22 [(0, 8, 11, 21)] (c_J b s g h) (c_J b s g h) 3 (k_args 0 [vR (some a), vR (some (b + 37))]) [vR (some a), vI 0, vR (some (b + 37))] h2 x → tL_mark G l [vR (some a), vR (some (b + 37))] (c_J b s g h) h2 x := fun K => k_CwOf (by decide +kernel) (Nat.le_of_ble_eq_true rfl) (w_aload_n dL_mark_0 rfl rfl (w_iconst dL_mark_1 rfl (w_aload_n dL_mark_2 rfl rfl K))) ok.2
  rcases J_fro (s := s) (g := g) g0 cn hb C1 with ⟨cn1, C2⟩ | C2
  · by_cases e0 : R.2.1 = 0
    · rw [if_pos e0] at C2
      exact ⟨_, _, ld (w_callV dL_mark_3 kc_L_106 rfl rfl (J_is hab ho) (by decide) (Nat.le_of_ble_eq_true rfl) C2 (w_i2l dL_mark_6 (w_last dL_mark_7 J_out vp_01 (w_goto (tgt := 14) dL_mark_8 (by decide) (w_iconst dL_mark_14 rfl (w_iret dL_mark_15 rfl)))))), by rw [e0]; rfl, h1, W1, Or.inr ⟨cn1, by rw [if_pos e0]; exact J_up⟩⟩
    · rw [if_neg e0] at C2
      have hc : R.2.1 = 1 := by omega
      have f1 := hc
      rw [f1, e1] at C2
      exact ⟨_, _, ld (w_callVx [] (⟨0, 8, 11, 21⟩ : ExceptionTableEntry) [] rfl (fun z hz => by cases hz) rfl (by decide) kx_L_21 (by decide +kernel) dL_mark_3 kc_L_106 rfl rfl (J_is hab ho) (by decide) (Nat.le_of_ble_eq_true rfl) C2 (fun q => w_astore_n dL_mark_11 rfl (by decide) rfl (w_iconst dL_mark_12 rfl (w_iret dL_mark_13 rfl)))), by rw [f1]; rfl, h1, W1, Or.inr ⟨cn1, by rw [if_neg e0]⟩⟩
  · by_cases e0 : R.2.1 = 0
    · rw [if_pos e0] at C2
      exact ⟨_, _, ld (w_callV dL_mark_3 kc_L_106 rfl rfl (J_is hab ho) (by decide) (Nat.le_of_ble_eq_true rfl) C2 w_no), rfl, h1, W1, Or.inl rfl⟩
    · rw [if_neg e0] at C2
      have hc : R.2.1 = 1 := by omega
      have f1 := hc
      rw [f1, e1] at C2
      exact ⟨_, _, ld (w_callVx [] (⟨0, 8, 11, 21⟩ : ExceptionTableEntry) [] rfl (fun z hz => by cases hz) rfl (by decide) kx_L_21 (by decide +kernel) dL_mark_3 kc_L_106 rfl rfl (J_is hab ho) (by decide) (Nat.le_of_ble_eq_true rfl) C2 (fun q => w_no)), rfl, h1, W1, Or.inl rfl⟩
abbrev tL_bringBack (G : k_G) (l : Launch) : k_T := k_Cw G l yL_bringBack cL_bringBack 4 (some .int) 26 [(0, 9, 12, 13)]
theorem L_bringBack (ok : k_ok G l) (g0 : k_fh G = 0) {a b N w : Nat} {B : Nat × Nat} {s : m_S} {g : Nat → Int64} {h : k_H} {R : s_M × Nat × Int32} {X : Nat → String} {x1 : Int32} (hab : a < b) (ho : k_is h a 14) (cn : k_cn b (b + 38) h) (hb : b + 38 ≤ h.2.1) (hR : R.2.1 ≤ 1) (e1 : X 1 = x_IO)
    (C : k_ct (tX11_bringBack (k_fG G b (b + 38)) l) [vR (some a), vI x1] h (c_R a B R X N w)) : k_ct (tL_bringBack G l) [vR (some a), vI x1, vR (some (b + 37))] (c_J b s g h) (L_P a b B s g R N w) := by
  obtain ⟨h1, r, C1, W1, rfl⟩ := C
  have ld : ∀ {h2 : k_H} {x : k_R}, k_Jw G l yL_bringBack cL_bringBack 4 (some .int) 26 [(0, 9, 12, 13)] (c_J b s g h) (c_J b s g h) 4 (k_args 0 [vR (some a), vI x1, vR (some (b + 37))]) [vI x1, vR (some a), vI 0, vR (some (b + 37))] h2 x → tL_bringBack G l [vR (some a), vI x1, vR (some (b + 37))] (c_J b s g h) h2 x := fun K => k_CwOf (by decide +kernel) (Nat.le_of_ble_eq_true rfl) (w_aload_n dL_bringBack_0 rfl rfl (w_iconst dL_bringBack_1 rfl (w_aload_n dL_bringBack_2 rfl rfl (w_iload_n dL_bringBack_3 rfl rfl K)))) ok.2
  rcases J_fro (s := s) (g := g) g0 cn hb C1 with ⟨cn1, C2⟩ | C2
  · by_cases e0 : R.2.1 = 0
    · rw [if_pos e0] at C2
      exact ⟨_, _, ld (w_callV dL_bringBack_4 kc_L_110 rfl rfl (J_is hab ho) (by decide) (Nat.le_of_ble_eq_true rfl) C2 (w_i2l dL_bringBack_7 (w_last dL_bringBack_8 J_out vp_01 (w_goto (tgt := 15) dL_bringBack_9 (by decide) (w_iconst dL_bringBack_15 rfl (w_iret dL_bringBack_16 rfl)))))), by rw [e0]; rfl, h1, W1, Or.inr ⟨cn1, by rw [if_pos e0]; exact J_up⟩⟩
    · rw [if_neg e0] at C2
      have hc : R.2.1 = 1 := by omega
      have f1 := hc
      rw [f1, e1] at C2
      exact ⟨_, _, ld (w_callVx [] (⟨0, 9, 12, 13⟩ : ExceptionTableEntry) [] rfl (fun z hz => by cases hz) rfl (by decide) kx_L_13 (by decide +kernel) dL_bringBack_4 kc_L_110 rfl rfl (J_is hab ho) (by decide) (Nat.le_of_ble_eq_true rfl) C2 (fun q => w_astore_n dL_bringBack_12 rfl (by decide) rfl (w_iconst dL_bringBack_13 rfl (w_iret dL_bringBack_14 rfl)))), by rw [f1]; rfl, h1, W1, Or.inr ⟨cn1, by rw [if_neg e0]⟩⟩
  · by_cases e0 : R.2.1 = 0
    · rw [if_pos e0] at C2
      exact ⟨_, _, ld (w_callV dL_bringBack_4 kc_L_110 rfl rfl (J_is hab ho) (by decide) (Nat.le_of_ble_eq_true rfl) C2 w_no), rfl, h1, W1, Or.inl rfl⟩
    · rw [if_neg e0] at C2
      have hc : R.2.1 = 1 := by omega
      have f1 := hc
      rw [f1, e1] at C2
      exact ⟨_, _, ld (w_callVx [] (⟨0, 9, 12, 13⟩ : ExceptionTableEntry) [] rfl (fun z hz => by cases hz) rfl (by decide) kx_L_13 (by decide +kernel) dL_bringBack_4 kc_L_110 rfl rfl (J_is hab ho) (by decide) (Nat.le_of_ble_eq_true rfl) C2 (fun q => w_no)), rfl, h1, W1, Or.inl rfl⟩
end LWR
