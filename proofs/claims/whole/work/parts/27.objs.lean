/-! SMALL OBJECTS: cells, changes, entries, keys, spans -/
theorem kd_ne {k : Int32} (h : k.toInt < 1 ∨ 5 < k.toInt) : ¬ k = 1 ∧ ¬ k = 2 ∧ ¬ k = 3 ∧ ¬ k = 4 ∧ ¬ k = 5 := by
  refine ⟨?_, ?_, ?_, ?_, ?_⟩ <;> (rintro rfl; revert h; decide)
/-- what a change makes of a value -/
def ap_v (k g s p v : Int32) : Int32 := if k = 1 then 0 else if k = 2 then (if p = 0 then g else v + g) else if k = 3 then (if p = 0 then g else if v < g then g else v) else if k = 4 then (if p = 0 then g else if g < v then g else v) else if k = 5 then s else g
def ap_s (k q : Int32) : Int32 := if k = 5 then 1 else if q = 0 then 0 else if k = 0 then 0 else if k = 1 then 0 else 1
def ap_p (k : Int32) : Int32 := if k = 1 then 0 else 1
section SO
variable {G : k_G} {l : Launch}
theorem c_X0_loadN (ok : k_ok G l) {h : k_H} {a : Nat} {p q v : Int32} (ho : h.1 a = some (k_o 3 [vI p, vI q, vI v])) : k_ctv (tX0_load G l) [vR (some a), vR none] h (fun h' => h' = k_up h a (k_o 3 [vI 0, vI 0, vI 0])) := by
  refine k_ctv_of (eX0_load ok.2 (bX0_load_0 (fun _ => ?_) (fun b hb => by cases hb)))
  refine bX0_load_16 (bX0_load_17 ho (Or.inl rfl) rfl (bX0_load_20 (fun _ => ?_) (fun b hb => by cases hb)))
  refine bX0_load_39 (bX0_load_40 (k_up_self _ _ _) rfl (bX0_load_43 (k_up_self _ _ _) rfl (bX0_load_48 ⟨rfl, ?_⟩)))
  rw [k_uu, k_uu]
  rfl
theorem c_X0_loadS (ok : k_ok G l) {h : k_H} {a e : Nat} {p q v : Int32} {o : Option Int32} {f0 f1 f2 f3 : k_V} (ho : h.1 a = some (k_o 3 [vI p, vI q, vI v])) (he : h.1 e = some (k_o 6 [f0, f1, f2, f3, vI (kB o.isSome), vI (o.getD 0)])) : k_ctv (tX0_load G l) [vR (some a), vR (some e)] h (fun h' => h' = k_up h a (k_o 3 [vI (kB o.isSome), vI 0, vI (o.getD 0)])) := by
  have hne : e ≠ a := fun z => by subst z; rw [ho] at he; cases he
  have he2 : ∀ c, (k_up h a c).1 e = some (k_o 6 [f0, f1, f2, f3, vI (kB o.isSome), vI (o.getD 0)]) := fun c => by rw [k_up_ne _ _ hne]; exact he
  refine k_ctv_of (eX0_load ok.2 (bX0_load_0 (fun c => by cases c) (fun b hb => ?_)))
  cases hb
  cases o with
  | none =>
    refine bX0_load_5 he rfl (fun _ => ?_) (fun c => absurd rfl c)
    refine bX0_load_16 (bX0_load_17 ho (Or.inl rfl) rfl (bX0_load_20 (fun c => by cases c) (fun b hb => ?_)))
    cases hb
    refine bX0_load_25 (he2 _) rfl (fun _ => ?_) (fun c => absurd rfl c)
    refine bX0_load_39 (bX0_load_40 (k_up_self _ _ _) rfl (bX0_load_43 (k_up_self _ _ _) rfl (bX0_load_48 ⟨rfl, ?_⟩)))
    rw [k_uu, k_uu]
    rfl
  | some w =>
    refine bX0_load_5 he rfl (fun c => absurd c (kB_n0.mpr rfl)) (fun _ => ?_)
    refine bX0_load_12 (bX0_load_17 ho (Or.inr rfl) rfl (bX0_load_20 (fun c => by cases c) (fun b hb => ?_)))
    cases hb
    refine bX0_load_25 (he2 _) rfl (fun c => absurd c (kB_n0.mpr rfl)) (fun _ => ?_)
    refine bX0_load_32 (he2 _) rfl ?_
    refine bX0_load_40 (k_up_self _ _ _) rfl (bX0_load_43 (k_up_self _ _ _) rfl (bX0_load_48 ⟨rfl, ?_⟩))
    rw [k_uu, k_uu]
    rfl
theorem c_X0_told (ok : k_ok G l) {h : k_H} {a : Nat} {p q v : Int32} (ho : h.1 a = some (k_o 3 [vI p, vI q, vI v])) : k_cti (tX0_told G l) [vR (some a)] h (fun h' w => h' = h ∧ w = if p = 0 then -2147483648 else v) := by
  refine k_cti_of (eX0_told ok.2 ?_)
  refine bX0_told_0 ho rfl (fun c1 => ?_) (fun c2 => ?_)
  · refine bX0_told_14 ?_
    refine bX0_told_16 ?_
    exact ⟨_, rfl, rfl, by simp_all⟩
  · refine bX0_told_7 ho rfl ?_
    refine bX0_told_16 ?_
    exact ⟨_, rfl, rfl, by simp_all⟩
theorem c_X0_apply (ok : k_ok G l) {h : k_H} {a : Nat} {p q v k g s : Int32} (ho : h.1 a = some (k_o 3 [vI p, vI q, vI v])) : k_ctv (tX0_apply G l) [vR (some a), vI k, vI g, vI s] h (fun h' => h' = k_up h a (k_o 3 [vI (ap_p k), vI (ap_s k q), vI (ap_v k g s p v)])) := by
  refine k_ctv_of (eX0_apply ok.2 ?_)
  refine bX0_apply_0 (fun c1 => ?_) (fun c2 => ?_) (fun c3 => ?_) (fun c4 => ?_) (fun c5 => ?_) (fun c6 => ?_)
  · refine bX0_apply_36 ho rfl ?_
    refine bX0_apply_41 ?_
    refine bX0_apply_133 (fun c7 => ?_) (fun c8 => ?_)
    · refine bX0_apply_155 ?_
      refine bX0_apply_160 (k_up_self _ _ _) (by first | exact Or.inl rfl | exact Or.inr rfl | exact kP_bl _) rfl ?_
      refine bX0_apply_163 (fun c9 => ?_) (fun c10 => ?_)
      · refine bX0_apply_173 ?_
        refine bX0_apply_174 (k_up_self _ _ _) (by first | exact Or.inl rfl | exact Or.inr rfl | exact kP_bl _) rfl ?_
        refine bX0_apply_177 ?_
        (try have n9 := kd_ne c6); first | (exfalso; simp_all; done) | (refine ⟨rfl, ?_⟩; rw [k_uu, k_uu]; simp_all [List.set, ap_v, ap_s, ap_p]; done)
      · refine bX0_apply_169 ?_
        refine bX0_apply_174 (k_up_self _ _ _) (by first | exact Or.inl rfl | exact Or.inr rfl | exact kP_bl _) rfl ?_
        refine bX0_apply_177 ?_
        (try have n9 := kd_ne c6); first | (exfalso; simp_all; done) | (refine ⟨rfl, ?_⟩; rw [k_uu, k_uu]; simp_all [List.set, ap_v, ap_s, ap_p]; done)
    · refine bX0_apply_139 (k_up_self _ _ _) rfl (fun c11 => ?_) (fun c12 => ?_)
      · refine bX0_apply_159 ?_
        refine bX0_apply_160 (k_up_self _ _ _) (by first | exact Or.inl rfl | exact Or.inr rfl | exact kP_bl _) rfl ?_
        refine bX0_apply_163 (fun c13 => ?_) (fun c14 => ?_)
        · refine bX0_apply_173 ?_
          refine bX0_apply_174 (k_up_self _ _ _) (by first | exact Or.inl rfl | exact Or.inr rfl | exact kP_bl _) rfl ?_
          refine bX0_apply_177 ?_
          (try have n9 := kd_ne c6); first | (exfalso; simp_all; done) | (refine ⟨rfl, ?_⟩; rw [k_uu, k_uu]; simp_all [List.set, ap_v, ap_s, ap_p]; done)
        · refine bX0_apply_169 ?_
          refine bX0_apply_174 (k_up_self _ _ _) (by first | exact Or.inl rfl | exact Or.inr rfl | exact kP_bl _) rfl ?_
          refine bX0_apply_177 ?_
          (try have n9 := kd_ne c6); first | (exfalso; simp_all; done) | (refine ⟨rfl, ?_⟩; rw [k_uu, k_uu]; simp_all [List.set, ap_v, ap_s, ap_p]; done)
      · refine bX0_apply_146 (fun c15 => ?_) (fun c16 => ?_)
        · refine bX0_apply_159 ?_
          refine bX0_apply_160 (k_up_self _ _ _) (by first | exact Or.inl rfl | exact Or.inr rfl | exact kP_bl _) rfl ?_
          refine bX0_apply_163 (fun c17 => ?_) (fun c18 => ?_)
          · refine bX0_apply_173 ?_
            refine bX0_apply_174 (k_up_self _ _ _) (by first | exact Or.inl rfl | exact Or.inr rfl | exact kP_bl _) rfl ?_
            refine bX0_apply_177 ?_
            (try have n9 := kd_ne c6); first | (exfalso; simp_all; done) | (refine ⟨rfl, ?_⟩; rw [k_uu, k_uu]; simp_all [List.set, ap_v, ap_s, ap_p]; done)
          · refine bX0_apply_169 ?_
            refine bX0_apply_174 (k_up_self _ _ _) (by first | exact Or.inl rfl | exact Or.inr rfl | exact kP_bl _) rfl ?_
            refine bX0_apply_177 ?_
            (try have n9 := kd_ne c6); first | (exfalso; simp_all; done) | (refine ⟨rfl, ?_⟩; rw [k_uu, k_uu]; simp_all [List.set, ap_v, ap_s, ap_p]; done)
        · refine bX0_apply_150 (fun c19 => ?_) (fun c20 => ?_)
          · refine bX0_apply_159 ?_
            refine bX0_apply_160 (k_up_self _ _ _) (by first | exact Or.inl rfl | exact Or.inr rfl | exact kP_bl _) rfl ?_
            refine bX0_apply_163 (fun c21 => ?_) (fun c22 => ?_)
            · refine bX0_apply_173 ?_
              refine bX0_apply_174 (k_up_self _ _ _) (by first | exact Or.inl rfl | exact Or.inr rfl | exact kP_bl _) rfl ?_
              refine bX0_apply_177 ?_
              (try have n9 := kd_ne c6); first | (exfalso; simp_all; done) | (refine ⟨rfl, ?_⟩; rw [k_uu, k_uu]; simp_all [List.set, ap_v, ap_s, ap_p]; done)
            · refine bX0_apply_169 ?_
              refine bX0_apply_174 (k_up_self _ _ _) (by first | exact Or.inl rfl | exact Or.inr rfl | exact kP_bl _) rfl ?_
              refine bX0_apply_177 ?_
              (try have n9 := kd_ne c6); first | (exfalso; simp_all; done) | (refine ⟨rfl, ?_⟩; rw [k_uu, k_uu]; simp_all [List.set, ap_v, ap_s, ap_p]; done)
          · refine bX0_apply_155 ?_
            refine bX0_apply_160 (k_up_self _ _ _) (by first | exact Or.inl rfl | exact Or.inr rfl | exact kP_bl _) rfl ?_
            refine bX0_apply_163 (fun c23 => ?_) (fun c24 => ?_)
            · refine bX0_apply_173 ?_
              refine bX0_apply_174 (k_up_self _ _ _) (by first | exact Or.inl rfl | exact Or.inr rfl | exact kP_bl _) rfl ?_
              refine bX0_apply_177 ?_
              (try have n9 := kd_ne c6); first | (exfalso; simp_all; done) | (refine ⟨rfl, ?_⟩; rw [k_uu, k_uu]; simp_all [List.set, ap_v, ap_s, ap_p]; done)
            · refine bX0_apply_169 ?_
              refine bX0_apply_174 (k_up_self _ _ _) (by first | exact Or.inl rfl | exact Or.inr rfl | exact kP_bl _) rfl ?_
              refine bX0_apply_177 ?_
              (try have n9 := kd_ne c6); first | (exfalso; simp_all; done) | (refine ⟨rfl, ?_⟩; rw [k_uu, k_uu]; simp_all [List.set, ap_v, ap_s, ap_p]; done)
  · refine bX0_apply_44 ho rfl (fun c25 => ?_) (fun c26 => ?_)
    · refine bX0_apply_61 ?_
      refine bX0_apply_62 ho rfl ?_
      refine bX0_apply_65 ?_
      refine bX0_apply_133 (fun c27 => ?_) (fun c28 => ?_)
      · refine bX0_apply_155 ?_
        refine bX0_apply_160 (k_up_self _ _ _) (by first | exact Or.inl rfl | exact Or.inr rfl | exact kP_bl _) rfl ?_
        refine bX0_apply_163 (fun c29 => ?_) (fun c30 => ?_)
        · refine bX0_apply_173 ?_
          refine bX0_apply_174 (k_up_self _ _ _) (by first | exact Or.inl rfl | exact Or.inr rfl | exact kP_bl _) rfl ?_
          refine bX0_apply_177 ?_
          (try have n9 := kd_ne c6); first | (exfalso; simp_all; done) | (refine ⟨rfl, ?_⟩; rw [k_uu, k_uu]; simp_all [List.set, ap_v, ap_s, ap_p]; done)
        · refine bX0_apply_169 ?_
          refine bX0_apply_174 (k_up_self _ _ _) (by first | exact Or.inl rfl | exact Or.inr rfl | exact kP_bl _) rfl ?_
          refine bX0_apply_177 ?_
          (try have n9 := kd_ne c6); first | (exfalso; simp_all; done) | (refine ⟨rfl, ?_⟩; rw [k_uu, k_uu]; simp_all [List.set, ap_v, ap_s, ap_p]; done)
      · refine bX0_apply_139 (k_up_self _ _ _) rfl (fun c31 => ?_) (fun c32 => ?_)
        · refine bX0_apply_159 ?_
          refine bX0_apply_160 (k_up_self _ _ _) (by first | exact Or.inl rfl | exact Or.inr rfl | exact kP_bl _) rfl ?_
          refine bX0_apply_163 (fun c33 => ?_) (fun c34 => ?_)
          · refine bX0_apply_173 ?_
            refine bX0_apply_174 (k_up_self _ _ _) (by first | exact Or.inl rfl | exact Or.inr rfl | exact kP_bl _) rfl ?_
            refine bX0_apply_177 ?_
            (try have n9 := kd_ne c6); first | (exfalso; simp_all; done) | (refine ⟨rfl, ?_⟩; rw [k_uu, k_uu]; simp_all [List.set, ap_v, ap_s, ap_p]; done)
          · refine bX0_apply_169 ?_
            refine bX0_apply_174 (k_up_self _ _ _) (by first | exact Or.inl rfl | exact Or.inr rfl | exact kP_bl _) rfl ?_
            refine bX0_apply_177 ?_
            (try have n9 := kd_ne c6); first | (exfalso; simp_all; done) | (refine ⟨rfl, ?_⟩; rw [k_uu, k_uu]; simp_all [List.set, ap_v, ap_s, ap_p]; done)
        · refine bX0_apply_146 (fun c35 => ?_) (fun c36 => ?_)
          · refine bX0_apply_159 ?_
            refine bX0_apply_160 (k_up_self _ _ _) (by first | exact Or.inl rfl | exact Or.inr rfl | exact kP_bl _) rfl ?_
            refine bX0_apply_163 (fun c37 => ?_) (fun c38 => ?_)
            · refine bX0_apply_173 ?_
              refine bX0_apply_174 (k_up_self _ _ _) (by first | exact Or.inl rfl | exact Or.inr rfl | exact kP_bl _) rfl ?_
              refine bX0_apply_177 ?_
              (try have n9 := kd_ne c6); first | (exfalso; simp_all; done) | (refine ⟨rfl, ?_⟩; rw [k_uu, k_uu]; simp_all [List.set, ap_v, ap_s, ap_p]; done)
            · refine bX0_apply_169 ?_
              refine bX0_apply_174 (k_up_self _ _ _) (by first | exact Or.inl rfl | exact Or.inr rfl | exact kP_bl _) rfl ?_
              refine bX0_apply_177 ?_
              (try have n9 := kd_ne c6); first | (exfalso; simp_all; done) | (refine ⟨rfl, ?_⟩; rw [k_uu, k_uu]; simp_all [List.set, ap_v, ap_s, ap_p]; done)
          · refine bX0_apply_150 (fun c39 => ?_) (fun c40 => ?_)
            · refine bX0_apply_159 ?_
              refine bX0_apply_160 (k_up_self _ _ _) (by first | exact Or.inl rfl | exact Or.inr rfl | exact kP_bl _) rfl ?_
              refine bX0_apply_163 (fun c41 => ?_) (fun c42 => ?_)
              · refine bX0_apply_173 ?_
                refine bX0_apply_174 (k_up_self _ _ _) (by first | exact Or.inl rfl | exact Or.inr rfl | exact kP_bl _) rfl ?_
                refine bX0_apply_177 ?_
                (try have n9 := kd_ne c6); first | (exfalso; simp_all; done) | (refine ⟨rfl, ?_⟩; rw [k_uu, k_uu]; simp_all [List.set, ap_v, ap_s, ap_p]; done)
              · refine bX0_apply_169 ?_
                refine bX0_apply_174 (k_up_self _ _ _) (by first | exact Or.inl rfl | exact Or.inr rfl | exact kP_bl _) rfl ?_
                refine bX0_apply_177 ?_
                (try have n9 := kd_ne c6); first | (exfalso; simp_all; done) | (refine ⟨rfl, ?_⟩; rw [k_uu, k_uu]; simp_all [List.set, ap_v, ap_s, ap_p]; done)
            · refine bX0_apply_155 ?_
              refine bX0_apply_160 (k_up_self _ _ _) (by first | exact Or.inl rfl | exact Or.inr rfl | exact kP_bl _) rfl ?_
              refine bX0_apply_163 (fun c43 => ?_) (fun c44 => ?_)
              · refine bX0_apply_173 ?_
                refine bX0_apply_174 (k_up_self _ _ _) (by first | exact Or.inl rfl | exact Or.inr rfl | exact kP_bl _) rfl ?_
                refine bX0_apply_177 ?_
                (try have n9 := kd_ne c6); first | (exfalso; simp_all; done) | (refine ⟨rfl, ?_⟩; rw [k_uu, k_uu]; simp_all [List.set, ap_v, ap_s, ap_p]; done)
              · refine bX0_apply_169 ?_
                refine bX0_apply_174 (k_up_self _ _ _) (by first | exact Or.inl rfl | exact Or.inr rfl | exact kP_bl _) rfl ?_
                refine bX0_apply_177 ?_
                (try have n9 := kd_ne c6); first | (exfalso; simp_all; done) | (refine ⟨rfl, ?_⟩; rw [k_uu, k_uu]; simp_all [List.set, ap_v, ap_s, ap_p]; done)
    · refine bX0_apply_52 ho rfl ?_
      refine bX0_apply_62 ho rfl ?_
      refine bX0_apply_65 ?_
      refine bX0_apply_133 (fun c45 => ?_) (fun c46 => ?_)
      · refine bX0_apply_155 ?_
        refine bX0_apply_160 (k_up_self _ _ _) (by first | exact Or.inl rfl | exact Or.inr rfl | exact kP_bl _) rfl ?_
        refine bX0_apply_163 (fun c47 => ?_) (fun c48 => ?_)
        · refine bX0_apply_173 ?_
          refine bX0_apply_174 (k_up_self _ _ _) (by first | exact Or.inl rfl | exact Or.inr rfl | exact kP_bl _) rfl ?_
          refine bX0_apply_177 ?_
          (try have n9 := kd_ne c6); first | (exfalso; simp_all; done) | (refine ⟨rfl, ?_⟩; rw [k_uu, k_uu]; simp_all [List.set, ap_v, ap_s, ap_p]; done)
        · refine bX0_apply_169 ?_
          refine bX0_apply_174 (k_up_self _ _ _) (by first | exact Or.inl rfl | exact Or.inr rfl | exact kP_bl _) rfl ?_
          refine bX0_apply_177 ?_
          (try have n9 := kd_ne c6); first | (exfalso; simp_all; done) | (refine ⟨rfl, ?_⟩; rw [k_uu, k_uu]; simp_all [List.set, ap_v, ap_s, ap_p]; done)
      · refine bX0_apply_139 (k_up_self _ _ _) rfl (fun c49 => ?_) (fun c50 => ?_)
        · refine bX0_apply_159 ?_
          refine bX0_apply_160 (k_up_self _ _ _) (by first | exact Or.inl rfl | exact Or.inr rfl | exact kP_bl _) rfl ?_
          refine bX0_apply_163 (fun c51 => ?_) (fun c52 => ?_)
          · refine bX0_apply_173 ?_
            refine bX0_apply_174 (k_up_self _ _ _) (by first | exact Or.inl rfl | exact Or.inr rfl | exact kP_bl _) rfl ?_
            refine bX0_apply_177 ?_
            (try have n9 := kd_ne c6); first | (exfalso; simp_all; done) | (refine ⟨rfl, ?_⟩; rw [k_uu, k_uu]; simp_all [List.set, ap_v, ap_s, ap_p]; done)
          · refine bX0_apply_169 ?_
            refine bX0_apply_174 (k_up_self _ _ _) (by first | exact Or.inl rfl | exact Or.inr rfl | exact kP_bl _) rfl ?_
            refine bX0_apply_177 ?_
            (try have n9 := kd_ne c6); first | (exfalso; simp_all; done) | (refine ⟨rfl, ?_⟩; rw [k_uu, k_uu]; simp_all [List.set, ap_v, ap_s, ap_p]; done)
        · refine bX0_apply_146 (fun c53 => ?_) (fun c54 => ?_)
          · refine bX0_apply_159 ?_
            refine bX0_apply_160 (k_up_self _ _ _) (by first | exact Or.inl rfl | exact Or.inr rfl | exact kP_bl _) rfl ?_
            refine bX0_apply_163 (fun c55 => ?_) (fun c56 => ?_)
            · refine bX0_apply_173 ?_
              refine bX0_apply_174 (k_up_self _ _ _) (by first | exact Or.inl rfl | exact Or.inr rfl | exact kP_bl _) rfl ?_
              refine bX0_apply_177 ?_
              (try have n9 := kd_ne c6); first | (exfalso; simp_all; done) | (refine ⟨rfl, ?_⟩; rw [k_uu, k_uu]; simp_all [List.set, ap_v, ap_s, ap_p]; done)
            · refine bX0_apply_169 ?_
              refine bX0_apply_174 (k_up_self _ _ _) (by first | exact Or.inl rfl | exact Or.inr rfl | exact kP_bl _) rfl ?_
              refine bX0_apply_177 ?_
              (try have n9 := kd_ne c6); first | (exfalso; simp_all; done) | (refine ⟨rfl, ?_⟩; rw [k_uu, k_uu]; simp_all [List.set, ap_v, ap_s, ap_p]; done)
          · refine bX0_apply_150 (fun c57 => ?_) (fun c58 => ?_)
            · refine bX0_apply_159 ?_
              refine bX0_apply_160 (k_up_self _ _ _) (by first | exact Or.inl rfl | exact Or.inr rfl | exact kP_bl _) rfl ?_
              refine bX0_apply_163 (fun c59 => ?_) (fun c60 => ?_)
              · refine bX0_apply_173 ?_
                refine bX0_apply_174 (k_up_self _ _ _) (by first | exact Or.inl rfl | exact Or.inr rfl | exact kP_bl _) rfl ?_
                refine bX0_apply_177 ?_
                (try have n9 := kd_ne c6); first | (exfalso; simp_all; done) | (refine ⟨rfl, ?_⟩; rw [k_uu, k_uu]; simp_all [List.set, ap_v, ap_s, ap_p]; done)
              · refine bX0_apply_169 ?_
                refine bX0_apply_174 (k_up_self _ _ _) (by first | exact Or.inl rfl | exact Or.inr rfl | exact kP_bl _) rfl ?_
                refine bX0_apply_177 ?_
                (try have n9 := kd_ne c6); first | (exfalso; simp_all; done) | (refine ⟨rfl, ?_⟩; rw [k_uu, k_uu]; simp_all [List.set, ap_v, ap_s, ap_p]; done)
            · refine bX0_apply_155 ?_
              refine bX0_apply_160 (k_up_self _ _ _) (by first | exact Or.inl rfl | exact Or.inr rfl | exact kP_bl _) rfl ?_
              refine bX0_apply_163 (fun c61 => ?_) (fun c62 => ?_)
              · refine bX0_apply_173 ?_
                refine bX0_apply_174 (k_up_self _ _ _) (by first | exact Or.inl rfl | exact Or.inr rfl | exact kP_bl _) rfl ?_
                refine bX0_apply_177 ?_
                (try have n9 := kd_ne c6); first | (exfalso; simp_all; done) | (refine ⟨rfl, ?_⟩; rw [k_uu, k_uu]; simp_all [List.set, ap_v, ap_s, ap_p]; done)
              · refine bX0_apply_169 ?_
                refine bX0_apply_174 (k_up_self _ _ _) (by first | exact Or.inl rfl | exact Or.inr rfl | exact kP_bl _) rfl ?_
                refine bX0_apply_177 ?_
                (try have n9 := kd_ne c6); first | (exfalso; simp_all; done) | (refine ⟨rfl, ?_⟩; rw [k_uu, k_uu]; simp_all [List.set, ap_v, ap_s, ap_p]; done)
  · refine bX0_apply_68 ho rfl (fun c63 => ?_) (fun c64 => ?_)
    · refine bX0_apply_87 ?_
      refine bX0_apply_88 ho rfl ?_
      refine bX0_apply_91 ?_
      refine bX0_apply_133 (fun c65 => ?_) (fun c66 => ?_)
      · refine bX0_apply_155 ?_
        refine bX0_apply_160 (k_up_self _ _ _) (by first | exact Or.inl rfl | exact Or.inr rfl | exact kP_bl _) rfl ?_
        refine bX0_apply_163 (fun c67 => ?_) (fun c68 => ?_)
        · refine bX0_apply_173 ?_
          refine bX0_apply_174 (k_up_self _ _ _) (by first | exact Or.inl rfl | exact Or.inr rfl | exact kP_bl _) rfl ?_
          refine bX0_apply_177 ?_
          (try have n9 := kd_ne c6); first | (exfalso; simp_all; done) | (refine ⟨rfl, ?_⟩; rw [k_uu, k_uu]; simp_all [List.set, ap_v, ap_s, ap_p]; done)
        · refine bX0_apply_169 ?_
          refine bX0_apply_174 (k_up_self _ _ _) (by first | exact Or.inl rfl | exact Or.inr rfl | exact kP_bl _) rfl ?_
          refine bX0_apply_177 ?_
          (try have n9 := kd_ne c6); first | (exfalso; simp_all; done) | (refine ⟨rfl, ?_⟩; rw [k_uu, k_uu]; simp_all [List.set, ap_v, ap_s, ap_p]; done)
      · refine bX0_apply_139 (k_up_self _ _ _) rfl (fun c69 => ?_) (fun c70 => ?_)
        · refine bX0_apply_159 ?_
          refine bX0_apply_160 (k_up_self _ _ _) (by first | exact Or.inl rfl | exact Or.inr rfl | exact kP_bl _) rfl ?_
          refine bX0_apply_163 (fun c71 => ?_) (fun c72 => ?_)
          · refine bX0_apply_173 ?_
            refine bX0_apply_174 (k_up_self _ _ _) (by first | exact Or.inl rfl | exact Or.inr rfl | exact kP_bl _) rfl ?_
            refine bX0_apply_177 ?_
            (try have n9 := kd_ne c6); first | (exfalso; simp_all; done) | (refine ⟨rfl, ?_⟩; rw [k_uu, k_uu]; simp_all [List.set, ap_v, ap_s, ap_p]; done)
          · refine bX0_apply_169 ?_
            refine bX0_apply_174 (k_up_self _ _ _) (by first | exact Or.inl rfl | exact Or.inr rfl | exact kP_bl _) rfl ?_
            refine bX0_apply_177 ?_
            (try have n9 := kd_ne c6); first | (exfalso; simp_all; done) | (refine ⟨rfl, ?_⟩; rw [k_uu, k_uu]; simp_all [List.set, ap_v, ap_s, ap_p]; done)
        · refine bX0_apply_146 (fun c73 => ?_) (fun c74 => ?_)
          · refine bX0_apply_159 ?_
            refine bX0_apply_160 (k_up_self _ _ _) (by first | exact Or.inl rfl | exact Or.inr rfl | exact kP_bl _) rfl ?_
            refine bX0_apply_163 (fun c75 => ?_) (fun c76 => ?_)
            · refine bX0_apply_173 ?_
              refine bX0_apply_174 (k_up_self _ _ _) (by first | exact Or.inl rfl | exact Or.inr rfl | exact kP_bl _) rfl ?_
              refine bX0_apply_177 ?_
              (try have n9 := kd_ne c6); first | (exfalso; simp_all; done) | (refine ⟨rfl, ?_⟩; rw [k_uu, k_uu]; simp_all [List.set, ap_v, ap_s, ap_p]; done)
            · refine bX0_apply_169 ?_
              refine bX0_apply_174 (k_up_self _ _ _) (by first | exact Or.inl rfl | exact Or.inr rfl | exact kP_bl _) rfl ?_
              refine bX0_apply_177 ?_
              (try have n9 := kd_ne c6); first | (exfalso; simp_all; done) | (refine ⟨rfl, ?_⟩; rw [k_uu, k_uu]; simp_all [List.set, ap_v, ap_s, ap_p]; done)
          · refine bX0_apply_150 (fun c77 => ?_) (fun c78 => ?_)
            · refine bX0_apply_159 ?_
              refine bX0_apply_160 (k_up_self _ _ _) (by first | exact Or.inl rfl | exact Or.inr rfl | exact kP_bl _) rfl ?_
              refine bX0_apply_163 (fun c79 => ?_) (fun c80 => ?_)
              · refine bX0_apply_173 ?_
                refine bX0_apply_174 (k_up_self _ _ _) (by first | exact Or.inl rfl | exact Or.inr rfl | exact kP_bl _) rfl ?_
                refine bX0_apply_177 ?_
                (try have n9 := kd_ne c6); first | (exfalso; simp_all; done) | (refine ⟨rfl, ?_⟩; rw [k_uu, k_uu]; simp_all [List.set, ap_v, ap_s, ap_p]; done)
              · refine bX0_apply_169 ?_
                refine bX0_apply_174 (k_up_self _ _ _) (by first | exact Or.inl rfl | exact Or.inr rfl | exact kP_bl _) rfl ?_
                refine bX0_apply_177 ?_
                (try have n9 := kd_ne c6); first | (exfalso; simp_all; done) | (refine ⟨rfl, ?_⟩; rw [k_uu, k_uu]; simp_all [List.set, ap_v, ap_s, ap_p]; done)
            · refine bX0_apply_155 ?_
              refine bX0_apply_160 (k_up_self _ _ _) (by first | exact Or.inl rfl | exact Or.inr rfl | exact kP_bl _) rfl ?_
              refine bX0_apply_163 (fun c81 => ?_) (fun c82 => ?_)
              · refine bX0_apply_173 ?_
                refine bX0_apply_174 (k_up_self _ _ _) (by first | exact Or.inl rfl | exact Or.inr rfl | exact kP_bl _) rfl ?_
                refine bX0_apply_177 ?_
                (try have n9 := kd_ne c6); first | (exfalso; simp_all; done) | (refine ⟨rfl, ?_⟩; rw [k_uu, k_uu]; simp_all [List.set, ap_v, ap_s, ap_p]; done)
              · refine bX0_apply_169 ?_
                refine bX0_apply_174 (k_up_self _ _ _) (by first | exact Or.inl rfl | exact Or.inr rfl | exact kP_bl _) rfl ?_
                refine bX0_apply_177 ?_
                (try have n9 := kd_ne c6); first | (exfalso; simp_all; done) | (refine ⟨rfl, ?_⟩; rw [k_uu, k_uu]; simp_all [List.set, ap_v, ap_s, ap_p]; done)
    · refine bX0_apply_76 ho rfl ?_
      refine bX0_apply_88 ho rfl ?_
      refine bX0_apply_91 ?_
      refine bX0_apply_133 (fun c83 => ?_) (fun c84 => ?_)
      · refine bX0_apply_155 ?_
        refine bX0_apply_160 (k_up_self _ _ _) (by first | exact Or.inl rfl | exact Or.inr rfl | exact kP_bl _) rfl ?_
        refine bX0_apply_163 (fun c85 => ?_) (fun c86 => ?_)
        · refine bX0_apply_173 ?_
          refine bX0_apply_174 (k_up_self _ _ _) (by first | exact Or.inl rfl | exact Or.inr rfl | exact kP_bl _) rfl ?_
          refine bX0_apply_177 ?_
          (try have n9 := kd_ne c6); first | (exfalso; simp_all; done) | (refine ⟨rfl, ?_⟩; rw [k_uu, k_uu]; simp_all [List.set, ap_v, ap_s, ap_p]; done)
        · refine bX0_apply_169 ?_
          refine bX0_apply_174 (k_up_self _ _ _) (by first | exact Or.inl rfl | exact Or.inr rfl | exact kP_bl _) rfl ?_
          refine bX0_apply_177 ?_
          (try have n9 := kd_ne c6); first | (exfalso; simp_all; done) | (refine ⟨rfl, ?_⟩; rw [k_uu, k_uu]; simp_all [List.set, ap_v, ap_s, ap_p]; done)
      · refine bX0_apply_139 (k_up_self _ _ _) rfl (fun c87 => ?_) (fun c88 => ?_)
        · refine bX0_apply_159 ?_
          refine bX0_apply_160 (k_up_self _ _ _) (by first | exact Or.inl rfl | exact Or.inr rfl | exact kP_bl _) rfl ?_
          refine bX0_apply_163 (fun c89 => ?_) (fun c90 => ?_)
          · refine bX0_apply_173 ?_
            refine bX0_apply_174 (k_up_self _ _ _) (by first | exact Or.inl rfl | exact Or.inr rfl | exact kP_bl _) rfl ?_
            refine bX0_apply_177 ?_
            (try have n9 := kd_ne c6); first | (exfalso; simp_all; done) | (refine ⟨rfl, ?_⟩; rw [k_uu, k_uu]; simp_all [List.set, ap_v, ap_s, ap_p]; done)
          · refine bX0_apply_169 ?_
            refine bX0_apply_174 (k_up_self _ _ _) (by first | exact Or.inl rfl | exact Or.inr rfl | exact kP_bl _) rfl ?_
            refine bX0_apply_177 ?_
            (try have n9 := kd_ne c6); first | (exfalso; simp_all; done) | (refine ⟨rfl, ?_⟩; rw [k_uu, k_uu]; simp_all [List.set, ap_v, ap_s, ap_p]; done)
        · refine bX0_apply_146 (fun c91 => ?_) (fun c92 => ?_)
          · refine bX0_apply_159 ?_
            refine bX0_apply_160 (k_up_self _ _ _) (by first | exact Or.inl rfl | exact Or.inr rfl | exact kP_bl _) rfl ?_
            refine bX0_apply_163 (fun c93 => ?_) (fun c94 => ?_)
            · refine bX0_apply_173 ?_
              refine bX0_apply_174 (k_up_self _ _ _) (by first | exact Or.inl rfl | exact Or.inr rfl | exact kP_bl _) rfl ?_
              refine bX0_apply_177 ?_
              (try have n9 := kd_ne c6); first | (exfalso; simp_all; done) | (refine ⟨rfl, ?_⟩; rw [k_uu, k_uu]; simp_all [List.set, ap_v, ap_s, ap_p]; done)
            · refine bX0_apply_169 ?_
              refine bX0_apply_174 (k_up_self _ _ _) (by first | exact Or.inl rfl | exact Or.inr rfl | exact kP_bl _) rfl ?_
              refine bX0_apply_177 ?_
              (try have n9 := kd_ne c6); first | (exfalso; simp_all; done) | (refine ⟨rfl, ?_⟩; rw [k_uu, k_uu]; simp_all [List.set, ap_v, ap_s, ap_p]; done)
          · refine bX0_apply_150 (fun c95 => ?_) (fun c96 => ?_)
            · refine bX0_apply_159 ?_
              refine bX0_apply_160 (k_up_self _ _ _) (by first | exact Or.inl rfl | exact Or.inr rfl | exact kP_bl _) rfl ?_
              refine bX0_apply_163 (fun c97 => ?_) (fun c98 => ?_)
              · refine bX0_apply_173 ?_
                refine bX0_apply_174 (k_up_self _ _ _) (by first | exact Or.inl rfl | exact Or.inr rfl | exact kP_bl _) rfl ?_
                refine bX0_apply_177 ?_
                (try have n9 := kd_ne c6); first | (exfalso; simp_all; done) | (refine ⟨rfl, ?_⟩; rw [k_uu, k_uu]; simp_all [List.set, ap_v, ap_s, ap_p]; done)
              · refine bX0_apply_169 ?_
                refine bX0_apply_174 (k_up_self _ _ _) (by first | exact Or.inl rfl | exact Or.inr rfl | exact kP_bl _) rfl ?_
                refine bX0_apply_177 ?_
                (try have n9 := kd_ne c6); first | (exfalso; simp_all; done) | (refine ⟨rfl, ?_⟩; rw [k_uu, k_uu]; simp_all [List.set, ap_v, ap_s, ap_p]; done)
            · refine bX0_apply_155 ?_
              refine bX0_apply_160 (k_up_self _ _ _) (by first | exact Or.inl rfl | exact Or.inr rfl | exact kP_bl _) rfl ?_
              refine bX0_apply_163 (fun c99 => ?_) (fun c100 => ?_)
              · refine bX0_apply_173 ?_
                refine bX0_apply_174 (k_up_self _ _ _) (by first | exact Or.inl rfl | exact Or.inr rfl | exact kP_bl _) rfl ?_
                refine bX0_apply_177 ?_
                (try have n9 := kd_ne c6); first | (exfalso; simp_all; done) | (refine ⟨rfl, ?_⟩; rw [k_uu, k_uu]; simp_all [List.set, ap_v, ap_s, ap_p]; done)
              · refine bX0_apply_169 ?_
                refine bX0_apply_174 (k_up_self _ _ _) (by first | exact Or.inl rfl | exact Or.inr rfl | exact kP_bl _) rfl ?_
                refine bX0_apply_177 ?_
                (try have n9 := kd_ne c6); first | (exfalso; simp_all; done) | (refine ⟨rfl, ?_⟩; rw [k_uu, k_uu]; simp_all [List.set, ap_v, ap_s, ap_p]; done)
  · refine bX0_apply_94 ho rfl (fun c101 => ?_) (fun c102 => ?_)
    · refine bX0_apply_113 ?_
      refine bX0_apply_114 ho rfl ?_
      refine bX0_apply_117 ?_
      refine bX0_apply_133 (fun c103 => ?_) (fun c104 => ?_)
      · refine bX0_apply_155 ?_
        refine bX0_apply_160 (k_up_self _ _ _) (by first | exact Or.inl rfl | exact Or.inr rfl | exact kP_bl _) rfl ?_
        refine bX0_apply_163 (fun c105 => ?_) (fun c106 => ?_)
        · refine bX0_apply_173 ?_
          refine bX0_apply_174 (k_up_self _ _ _) (by first | exact Or.inl rfl | exact Or.inr rfl | exact kP_bl _) rfl ?_
          refine bX0_apply_177 ?_
          (try have n9 := kd_ne c6); first | (exfalso; simp_all; done) | (refine ⟨rfl, ?_⟩; rw [k_uu, k_uu]; simp_all [List.set, ap_v, ap_s, ap_p]; done)
        · refine bX0_apply_169 ?_
          refine bX0_apply_174 (k_up_self _ _ _) (by first | exact Or.inl rfl | exact Or.inr rfl | exact kP_bl _) rfl ?_
          refine bX0_apply_177 ?_
          (try have n9 := kd_ne c6); first | (exfalso; simp_all; done) | (refine ⟨rfl, ?_⟩; rw [k_uu, k_uu]; simp_all [List.set, ap_v, ap_s, ap_p]; done)
      · refine bX0_apply_139 (k_up_self _ _ _) rfl (fun c107 => ?_) (fun c108 => ?_)
        · refine bX0_apply_159 ?_
          refine bX0_apply_160 (k_up_self _ _ _) (by first | exact Or.inl rfl | exact Or.inr rfl | exact kP_bl _) rfl ?_
          refine bX0_apply_163 (fun c109 => ?_) (fun c110 => ?_)
          · refine bX0_apply_173 ?_
            refine bX0_apply_174 (k_up_self _ _ _) (by first | exact Or.inl rfl | exact Or.inr rfl | exact kP_bl _) rfl ?_
            refine bX0_apply_177 ?_
            (try have n9 := kd_ne c6); first | (exfalso; simp_all; done) | (refine ⟨rfl, ?_⟩; rw [k_uu, k_uu]; simp_all [List.set, ap_v, ap_s, ap_p]; done)
          · refine bX0_apply_169 ?_
            refine bX0_apply_174 (k_up_self _ _ _) (by first | exact Or.inl rfl | exact Or.inr rfl | exact kP_bl _) rfl ?_
            refine bX0_apply_177 ?_
            (try have n9 := kd_ne c6); first | (exfalso; simp_all; done) | (refine ⟨rfl, ?_⟩; rw [k_uu, k_uu]; simp_all [List.set, ap_v, ap_s, ap_p]; done)
        · refine bX0_apply_146 (fun c111 => ?_) (fun c112 => ?_)
          · refine bX0_apply_159 ?_
            refine bX0_apply_160 (k_up_self _ _ _) (by first | exact Or.inl rfl | exact Or.inr rfl | exact kP_bl _) rfl ?_
            refine bX0_apply_163 (fun c113 => ?_) (fun c114 => ?_)
            · refine bX0_apply_173 ?_
              refine bX0_apply_174 (k_up_self _ _ _) (by first | exact Or.inl rfl | exact Or.inr rfl | exact kP_bl _) rfl ?_
              refine bX0_apply_177 ?_
              (try have n9 := kd_ne c6); first | (exfalso; simp_all; done) | (refine ⟨rfl, ?_⟩; rw [k_uu, k_uu]; simp_all [List.set, ap_v, ap_s, ap_p]; done)
            · refine bX0_apply_169 ?_
              refine bX0_apply_174 (k_up_self _ _ _) (by first | exact Or.inl rfl | exact Or.inr rfl | exact kP_bl _) rfl ?_
              refine bX0_apply_177 ?_
              (try have n9 := kd_ne c6); first | (exfalso; simp_all; done) | (refine ⟨rfl, ?_⟩; rw [k_uu, k_uu]; simp_all [List.set, ap_v, ap_s, ap_p]; done)
          · refine bX0_apply_150 (fun c115 => ?_) (fun c116 => ?_)
            · refine bX0_apply_159 ?_
              refine bX0_apply_160 (k_up_self _ _ _) (by first | exact Or.inl rfl | exact Or.inr rfl | exact kP_bl _) rfl ?_
              refine bX0_apply_163 (fun c117 => ?_) (fun c118 => ?_)
              · refine bX0_apply_173 ?_
                refine bX0_apply_174 (k_up_self _ _ _) (by first | exact Or.inl rfl | exact Or.inr rfl | exact kP_bl _) rfl ?_
                refine bX0_apply_177 ?_
                (try have n9 := kd_ne c6); first | (exfalso; simp_all; done) | (refine ⟨rfl, ?_⟩; rw [k_uu, k_uu]; simp_all [List.set, ap_v, ap_s, ap_p]; done)
              · refine bX0_apply_169 ?_
                refine bX0_apply_174 (k_up_self _ _ _) (by first | exact Or.inl rfl | exact Or.inr rfl | exact kP_bl _) rfl ?_
                refine bX0_apply_177 ?_
                (try have n9 := kd_ne c6); first | (exfalso; simp_all; done) | (refine ⟨rfl, ?_⟩; rw [k_uu, k_uu]; simp_all [List.set, ap_v, ap_s, ap_p]; done)
            · refine bX0_apply_155 ?_
              refine bX0_apply_160 (k_up_self _ _ _) (by first | exact Or.inl rfl | exact Or.inr rfl | exact kP_bl _) rfl ?_
              refine bX0_apply_163 (fun c119 => ?_) (fun c120 => ?_)
              · refine bX0_apply_173 ?_
                refine bX0_apply_174 (k_up_self _ _ _) (by first | exact Or.inl rfl | exact Or.inr rfl | exact kP_bl _) rfl ?_
                refine bX0_apply_177 ?_
                (try have n9 := kd_ne c6); first | (exfalso; simp_all; done) | (refine ⟨rfl, ?_⟩; rw [k_uu, k_uu]; simp_all [List.set, ap_v, ap_s, ap_p]; done)
              · refine bX0_apply_169 ?_
                refine bX0_apply_174 (k_up_self _ _ _) (by first | exact Or.inl rfl | exact Or.inr rfl | exact kP_bl _) rfl ?_
                refine bX0_apply_177 ?_
                (try have n9 := kd_ne c6); first | (exfalso; simp_all; done) | (refine ⟨rfl, ?_⟩; rw [k_uu, k_uu]; simp_all [List.set, ap_v, ap_s, ap_p]; done)
    · refine bX0_apply_102 ho rfl ?_
      refine bX0_apply_114 ho rfl ?_
      refine bX0_apply_117 ?_
      refine bX0_apply_133 (fun c121 => ?_) (fun c122 => ?_)
      · refine bX0_apply_155 ?_
        refine bX0_apply_160 (k_up_self _ _ _) (by first | exact Or.inl rfl | exact Or.inr rfl | exact kP_bl _) rfl ?_
        refine bX0_apply_163 (fun c123 => ?_) (fun c124 => ?_)
        · refine bX0_apply_173 ?_
          refine bX0_apply_174 (k_up_self _ _ _) (by first | exact Or.inl rfl | exact Or.inr rfl | exact kP_bl _) rfl ?_
          refine bX0_apply_177 ?_
          (try have n9 := kd_ne c6); first | (exfalso; simp_all; done) | (refine ⟨rfl, ?_⟩; rw [k_uu, k_uu]; simp_all [List.set, ap_v, ap_s, ap_p]; done)
        · refine bX0_apply_169 ?_
          refine bX0_apply_174 (k_up_self _ _ _) (by first | exact Or.inl rfl | exact Or.inr rfl | exact kP_bl _) rfl ?_
          refine bX0_apply_177 ?_
          (try have n9 := kd_ne c6); first | (exfalso; simp_all; done) | (refine ⟨rfl, ?_⟩; rw [k_uu, k_uu]; simp_all [List.set, ap_v, ap_s, ap_p]; done)
      · refine bX0_apply_139 (k_up_self _ _ _) rfl (fun c125 => ?_) (fun c126 => ?_)
        · refine bX0_apply_159 ?_
          refine bX0_apply_160 (k_up_self _ _ _) (by first | exact Or.inl rfl | exact Or.inr rfl | exact kP_bl _) rfl ?_
          refine bX0_apply_163 (fun c127 => ?_) (fun c128 => ?_)
          · refine bX0_apply_173 ?_
            refine bX0_apply_174 (k_up_self _ _ _) (by first | exact Or.inl rfl | exact Or.inr rfl | exact kP_bl _) rfl ?_
            refine bX0_apply_177 ?_
            (try have n9 := kd_ne c6); first | (exfalso; simp_all; done) | (refine ⟨rfl, ?_⟩; rw [k_uu, k_uu]; simp_all [List.set, ap_v, ap_s, ap_p]; done)
          · refine bX0_apply_169 ?_
            refine bX0_apply_174 (k_up_self _ _ _) (by first | exact Or.inl rfl | exact Or.inr rfl | exact kP_bl _) rfl ?_
            refine bX0_apply_177 ?_
            (try have n9 := kd_ne c6); first | (exfalso; simp_all; done) | (refine ⟨rfl, ?_⟩; rw [k_uu, k_uu]; simp_all [List.set, ap_v, ap_s, ap_p]; done)
        · refine bX0_apply_146 (fun c129 => ?_) (fun c130 => ?_)
          · refine bX0_apply_159 ?_
            refine bX0_apply_160 (k_up_self _ _ _) (by first | exact Or.inl rfl | exact Or.inr rfl | exact kP_bl _) rfl ?_
            refine bX0_apply_163 (fun c131 => ?_) (fun c132 => ?_)
            · refine bX0_apply_173 ?_
              refine bX0_apply_174 (k_up_self _ _ _) (by first | exact Or.inl rfl | exact Or.inr rfl | exact kP_bl _) rfl ?_
              refine bX0_apply_177 ?_
              (try have n9 := kd_ne c6); first | (exfalso; simp_all; done) | (refine ⟨rfl, ?_⟩; rw [k_uu, k_uu]; simp_all [List.set, ap_v, ap_s, ap_p]; done)
            · refine bX0_apply_169 ?_
              refine bX0_apply_174 (k_up_self _ _ _) (by first | exact Or.inl rfl | exact Or.inr rfl | exact kP_bl _) rfl ?_
              refine bX0_apply_177 ?_
              (try have n9 := kd_ne c6); first | (exfalso; simp_all; done) | (refine ⟨rfl, ?_⟩; rw [k_uu, k_uu]; simp_all [List.set, ap_v, ap_s, ap_p]; done)
          · refine bX0_apply_150 (fun c133 => ?_) (fun c134 => ?_)
            · refine bX0_apply_159 ?_
              refine bX0_apply_160 (k_up_self _ _ _) (by first | exact Or.inl rfl | exact Or.inr rfl | exact kP_bl _) rfl ?_
              refine bX0_apply_163 (fun c135 => ?_) (fun c136 => ?_)
              · refine bX0_apply_173 ?_
                refine bX0_apply_174 (k_up_self _ _ _) (by first | exact Or.inl rfl | exact Or.inr rfl | exact kP_bl _) rfl ?_
                refine bX0_apply_177 ?_
                (try have n9 := kd_ne c6); first | (exfalso; simp_all; done) | (refine ⟨rfl, ?_⟩; rw [k_uu, k_uu]; simp_all [List.set, ap_v, ap_s, ap_p]; done)
              · refine bX0_apply_169 ?_
                refine bX0_apply_174 (k_up_self _ _ _) (by first | exact Or.inl rfl | exact Or.inr rfl | exact kP_bl _) rfl ?_
                refine bX0_apply_177 ?_
                (try have n9 := kd_ne c6); first | (exfalso; simp_all; done) | (refine ⟨rfl, ?_⟩; rw [k_uu, k_uu]; simp_all [List.set, ap_v, ap_s, ap_p]; done)
            · refine bX0_apply_155 ?_
              refine bX0_apply_160 (k_up_self _ _ _) (by first | exact Or.inl rfl | exact Or.inr rfl | exact kP_bl _) rfl ?_
              refine bX0_apply_163 (fun c137 => ?_) (fun c138 => ?_)
              · refine bX0_apply_173 ?_
                refine bX0_apply_174 (k_up_self _ _ _) (by first | exact Or.inl rfl | exact Or.inr rfl | exact kP_bl _) rfl ?_
                refine bX0_apply_177 ?_
                (try have n9 := kd_ne c6); first | (exfalso; simp_all; done) | (refine ⟨rfl, ?_⟩; rw [k_uu, k_uu]; simp_all [List.set, ap_v, ap_s, ap_p]; done)
              · refine bX0_apply_169 ?_
                refine bX0_apply_174 (k_up_self _ _ _) (by first | exact Or.inl rfl | exact Or.inr rfl | exact kP_bl _) rfl ?_
                refine bX0_apply_177 ?_
                (try have n9 := kd_ne c6); first | (exfalso; simp_all; done) | (refine ⟨rfl, ?_⟩; rw [k_uu, k_uu]; simp_all [List.set, ap_v, ap_s, ap_p]; done)
  · refine bX0_apply_120 ho rfl ?_
    refine bX0_apply_125 ?_
    refine bX0_apply_133 (fun c139 => ?_) (fun c140 => ?_)
    · refine bX0_apply_155 ?_
      refine bX0_apply_160 (k_up_self _ _ _) (by first | exact Or.inl rfl | exact Or.inr rfl | exact kP_bl _) rfl ?_
      refine bX0_apply_163 (fun c141 => ?_) (fun c142 => ?_)
      · refine bX0_apply_173 ?_
        refine bX0_apply_174 (k_up_self _ _ _) (by first | exact Or.inl rfl | exact Or.inr rfl | exact kP_bl _) rfl ?_
        refine bX0_apply_177 ?_
        (try have n9 := kd_ne c6); first | (exfalso; simp_all; done) | (refine ⟨rfl, ?_⟩; rw [k_uu, k_uu]; simp_all [List.set, ap_v, ap_s, ap_p]; done)
      · refine bX0_apply_169 ?_
        refine bX0_apply_174 (k_up_self _ _ _) (by first | exact Or.inl rfl | exact Or.inr rfl | exact kP_bl _) rfl ?_
        refine bX0_apply_177 ?_
        (try have n9 := kd_ne c6); first | (exfalso; simp_all; done) | (refine ⟨rfl, ?_⟩; rw [k_uu, k_uu]; simp_all [List.set, ap_v, ap_s, ap_p]; done)
    · refine bX0_apply_139 (k_up_self _ _ _) rfl (fun c143 => ?_) (fun c144 => ?_)
      · refine bX0_apply_159 ?_
        refine bX0_apply_160 (k_up_self _ _ _) (by first | exact Or.inl rfl | exact Or.inr rfl | exact kP_bl _) rfl ?_
        refine bX0_apply_163 (fun c145 => ?_) (fun c146 => ?_)
        · refine bX0_apply_173 ?_
          refine bX0_apply_174 (k_up_self _ _ _) (by first | exact Or.inl rfl | exact Or.inr rfl | exact kP_bl _) rfl ?_
          refine bX0_apply_177 ?_
          (try have n9 := kd_ne c6); first | (exfalso; simp_all; done) | (refine ⟨rfl, ?_⟩; rw [k_uu, k_uu]; simp_all [List.set, ap_v, ap_s, ap_p]; done)
        · refine bX0_apply_169 ?_
          refine bX0_apply_174 (k_up_self _ _ _) (by first | exact Or.inl rfl | exact Or.inr rfl | exact kP_bl _) rfl ?_
          refine bX0_apply_177 ?_
          (try have n9 := kd_ne c6); first | (exfalso; simp_all; done) | (refine ⟨rfl, ?_⟩; rw [k_uu, k_uu]; simp_all [List.set, ap_v, ap_s, ap_p]; done)
      · refine bX0_apply_146 (fun c147 => ?_) (fun c148 => ?_)
        · refine bX0_apply_159 ?_
          refine bX0_apply_160 (k_up_self _ _ _) (by first | exact Or.inl rfl | exact Or.inr rfl | exact kP_bl _) rfl ?_
          refine bX0_apply_163 (fun c149 => ?_) (fun c150 => ?_)
          · refine bX0_apply_173 ?_
            refine bX0_apply_174 (k_up_self _ _ _) (by first | exact Or.inl rfl | exact Or.inr rfl | exact kP_bl _) rfl ?_
            refine bX0_apply_177 ?_
            (try have n9 := kd_ne c6); first | (exfalso; simp_all; done) | (refine ⟨rfl, ?_⟩; rw [k_uu, k_uu]; simp_all [List.set, ap_v, ap_s, ap_p]; done)
          · refine bX0_apply_169 ?_
            refine bX0_apply_174 (k_up_self _ _ _) (by first | exact Or.inl rfl | exact Or.inr rfl | exact kP_bl _) rfl ?_
            refine bX0_apply_177 ?_
            (try have n9 := kd_ne c6); first | (exfalso; simp_all; done) | (refine ⟨rfl, ?_⟩; rw [k_uu, k_uu]; simp_all [List.set, ap_v, ap_s, ap_p]; done)
        · refine bX0_apply_150 (fun c151 => ?_) (fun c152 => ?_)
          · refine bX0_apply_159 ?_
            refine bX0_apply_160 (k_up_self _ _ _) (by first | exact Or.inl rfl | exact Or.inr rfl | exact kP_bl _) rfl ?_
            refine bX0_apply_163 (fun c153 => ?_) (fun c154 => ?_)
            · refine bX0_apply_173 ?_
              refine bX0_apply_174 (k_up_self _ _ _) (by first | exact Or.inl rfl | exact Or.inr rfl | exact kP_bl _) rfl ?_
              refine bX0_apply_177 ?_
              (try have n9 := kd_ne c6); first | (exfalso; simp_all; done) | (refine ⟨rfl, ?_⟩; rw [k_uu, k_uu]; simp_all [List.set, ap_v, ap_s, ap_p]; done)
            · refine bX0_apply_169 ?_
              refine bX0_apply_174 (k_up_self _ _ _) (by first | exact Or.inl rfl | exact Or.inr rfl | exact kP_bl _) rfl ?_
              refine bX0_apply_177 ?_
              (try have n9 := kd_ne c6); first | (exfalso; simp_all; done) | (refine ⟨rfl, ?_⟩; rw [k_uu, k_uu]; simp_all [List.set, ap_v, ap_s, ap_p]; done)
          · refine bX0_apply_155 ?_
            refine bX0_apply_160 (k_up_self _ _ _) (by first | exact Or.inl rfl | exact Or.inr rfl | exact kP_bl _) rfl ?_
            refine bX0_apply_163 (fun c155 => ?_) (fun c156 => ?_)
            · refine bX0_apply_173 ?_
              refine bX0_apply_174 (k_up_self _ _ _) (by first | exact Or.inl rfl | exact Or.inr rfl | exact kP_bl _) rfl ?_
              refine bX0_apply_177 ?_
              (try have n9 := kd_ne c6); first | (exfalso; simp_all; done) | (refine ⟨rfl, ?_⟩; rw [k_uu, k_uu]; simp_all [List.set, ap_v, ap_s, ap_p]; done)
            · refine bX0_apply_169 ?_
              refine bX0_apply_174 (k_up_self _ _ _) (by first | exact Or.inl rfl | exact Or.inr rfl | exact kP_bl _) rfl ?_
              refine bX0_apply_177 ?_
              (try have n9 := kd_ne c6); first | (exfalso; simp_all; done) | (refine ⟨rfl, ?_⟩; rw [k_uu, k_uu]; simp_all [List.set, ap_v, ap_s, ap_p]; done)
  · refine bX0_apply_128 ho rfl ?_
    refine bX0_apply_133 (fun c157 => ?_) (fun c158 => ?_)
    · refine bX0_apply_155 ?_
      refine bX0_apply_160 (k_up_self _ _ _) (by first | exact Or.inl rfl | exact Or.inr rfl | exact kP_bl _) rfl ?_
      refine bX0_apply_163 (fun c159 => ?_) (fun c160 => ?_)
      · refine bX0_apply_173 ?_
        refine bX0_apply_174 (k_up_self _ _ _) (by first | exact Or.inl rfl | exact Or.inr rfl | exact kP_bl _) rfl ?_
        refine bX0_apply_177 ?_
        (try have n9 := kd_ne c6); first | (exfalso; simp_all; done) | (refine ⟨rfl, ?_⟩; rw [k_uu, k_uu]; simp_all [List.set, ap_v, ap_s, ap_p]; done)
      · refine bX0_apply_169 ?_
        refine bX0_apply_174 (k_up_self _ _ _) (by first | exact Or.inl rfl | exact Or.inr rfl | exact kP_bl _) rfl ?_
        refine bX0_apply_177 ?_
        (try have n9 := kd_ne c6); first | (exfalso; simp_all; done) | (refine ⟨rfl, ?_⟩; rw [k_uu, k_uu]; simp_all [List.set, ap_v, ap_s, ap_p]; done)
    · refine bX0_apply_139 (k_up_self _ _ _) rfl (fun c161 => ?_) (fun c162 => ?_)
      · refine bX0_apply_159 ?_
        refine bX0_apply_160 (k_up_self _ _ _) (by first | exact Or.inl rfl | exact Or.inr rfl | exact kP_bl _) rfl ?_
        refine bX0_apply_163 (fun c163 => ?_) (fun c164 => ?_)
        · refine bX0_apply_173 ?_
          refine bX0_apply_174 (k_up_self _ _ _) (by first | exact Or.inl rfl | exact Or.inr rfl | exact kP_bl _) rfl ?_
          refine bX0_apply_177 ?_
          (try have n9 := kd_ne c6); first | (exfalso; simp_all; done) | (refine ⟨rfl, ?_⟩; rw [k_uu, k_uu]; simp_all [List.set, ap_v, ap_s, ap_p]; done)
        · refine bX0_apply_169 ?_
          refine bX0_apply_174 (k_up_self _ _ _) (by first | exact Or.inl rfl | exact Or.inr rfl | exact kP_bl _) rfl ?_
          refine bX0_apply_177 ?_
          (try have n9 := kd_ne c6); first | (exfalso; simp_all; done) | (refine ⟨rfl, ?_⟩; rw [k_uu, k_uu]; simp_all [List.set, ap_v, ap_s, ap_p]; done)
      · refine bX0_apply_146 (fun c165 => ?_) (fun c166 => ?_)
        · refine bX0_apply_159 ?_
          refine bX0_apply_160 (k_up_self _ _ _) (by first | exact Or.inl rfl | exact Or.inr rfl | exact kP_bl _) rfl ?_
          refine bX0_apply_163 (fun c167 => ?_) (fun c168 => ?_)
          · refine bX0_apply_173 ?_
            refine bX0_apply_174 (k_up_self _ _ _) (by first | exact Or.inl rfl | exact Or.inr rfl | exact kP_bl _) rfl ?_
            refine bX0_apply_177 ?_
            (try have n9 := kd_ne c6); first | (exfalso; simp_all; done) | (refine ⟨rfl, ?_⟩; rw [k_uu, k_uu]; simp_all [List.set, ap_v, ap_s, ap_p]; done)
          · refine bX0_apply_169 ?_
            refine bX0_apply_174 (k_up_self _ _ _) (by first | exact Or.inl rfl | exact Or.inr rfl | exact kP_bl _) rfl ?_
            refine bX0_apply_177 ?_
            (try have n9 := kd_ne c6); first | (exfalso; simp_all; done) | (refine ⟨rfl, ?_⟩; rw [k_uu, k_uu]; simp_all [List.set, ap_v, ap_s, ap_p]; done)
        · refine bX0_apply_150 (fun c169 => ?_) (fun c170 => ?_)
          · refine bX0_apply_159 ?_
            refine bX0_apply_160 (k_up_self _ _ _) (by first | exact Or.inl rfl | exact Or.inr rfl | exact kP_bl _) rfl ?_
            refine bX0_apply_163 (fun c171 => ?_) (fun c172 => ?_)
            · refine bX0_apply_173 ?_
              refine bX0_apply_174 (k_up_self _ _ _) (by first | exact Or.inl rfl | exact Or.inr rfl | exact kP_bl _) rfl ?_
              refine bX0_apply_177 ?_
              (try have n9 := kd_ne c6); first | (exfalso; simp_all; done) | (refine ⟨rfl, ?_⟩; rw [k_uu, k_uu]; simp_all [List.set, ap_v, ap_s, ap_p]; done)
            · refine bX0_apply_169 ?_
              refine bX0_apply_174 (k_up_self _ _ _) (by first | exact Or.inl rfl | exact Or.inr rfl | exact kP_bl _) rfl ?_
              refine bX0_apply_177 ?_
              (try have n9 := kd_ne c6); first | (exfalso; simp_all; done) | (refine ⟨rfl, ?_⟩; rw [k_uu, k_uu]; simp_all [List.set, ap_v, ap_s, ap_p]; done)
          · refine bX0_apply_155 ?_
            refine bX0_apply_160 (k_up_self _ _ _) (by first | exact Or.inl rfl | exact Or.inr rfl | exact kP_bl _) rfl ?_
            refine bX0_apply_163 (fun c173 => ?_) (fun c174 => ?_)
            · refine bX0_apply_173 ?_
              refine bX0_apply_174 (k_up_self _ _ _) (by first | exact Or.inl rfl | exact Or.inr rfl | exact kP_bl _) rfl ?_
              refine bX0_apply_177 ?_
              (try have n9 := kd_ne c6); first | (exfalso; simp_all; done) | (refine ⟨rfl, ?_⟩; rw [k_uu, k_uu]; simp_all [List.set, ap_v, ap_s, ap_p]; done)
            · refine bX0_apply_169 ?_
              refine bX0_apply_174 (k_up_self _ _ _) (by first | exact Or.inl rfl | exact Or.inr rfl | exact kP_bl _) rfl ?_
              refine bX0_apply_177 ?_
              (try have n9 := kd_ne c6); first | (exfalso; simp_all; done) | (refine ⟨rfl, ?_⟩; rw [k_uu, k_uu]; simp_all [List.set, ap_v, ap_s, ap_p]; done)
def s_ord (k : Int32) : Bool := !(decide (k = 6)) && !(decide (k = 7))
def s_all (k : Int32) : Bool := decide (k = 0) || decide (k = 1) || decide (k = 5)
theorem c_X1_isInOrder (ok : k_ok G l) {h : k_H} {a : Nat} {k : Int32} {lo hi : Int64} {v4 v5 : k_V} (ho : h.1 a = some (k_o 4 [vI k, vJ lo, vJ hi, v4, v5])) : k_cti (tX1_isInOrder G l) [vR (some a)] h (fun h' w => h' = h ∧ w = kB (s_ord k)) := by
  refine k_cti_of (eX1_isInOrder ok.2 ?_)
  refine bX1_isInOrder_0 ho rfl (fun c1 => ?_) (fun c2 => ?_)
  · refine bX1_isInOrder_22 ?_
    refine bX1_isInOrder_23 (by first | exact Or.inl rfl | exact Or.inr rfl | exact kB_bl _) ?_
    exact ⟨_, rfl, rfl, by symm; simp_all [s_ord, kB_0, kB_1]⟩
  · refine bX1_isInOrder_9 ho rfl (fun c3 => ?_) (fun c4 => ?_)
    · refine bX1_isInOrder_22 ?_
      refine bX1_isInOrder_23 (by first | exact Or.inl rfl | exact Or.inr rfl | exact kB_bl _) ?_
      exact ⟨_, rfl, rfl, by symm; simp_all [s_ord, kB_0, kB_1]⟩
    · refine bX1_isInOrder_18 ?_
      refine bX1_isInOrder_23 (by first | exact Or.inl rfl | exact Or.inr rfl | exact kB_bl _) ?_
      exact ⟨_, rfl, rfl, by symm; simp_all [s_ord, kB_0, kB_1]⟩
theorem c_X1_saysAll (ok : k_ok G l) {h : k_H} {a : Nat} {k : Int32} {lo hi : Int64} {v4 v5 : k_V} (ho : h.1 a = some (k_o 4 [vI k, vJ lo, vJ hi, v4, v5])) : k_cti (tX1_saysAll G l) [vR (some a)] h (fun h' w => h' = h ∧ w = kB (s_all k)) := by
  refine k_cti_of (eX1_saysAll ok.2 ?_)
  refine bX1_saysAll_0 ho rfl (fun c1 => ?_) (fun c2 => ?_)
  · refine bX1_saysAll_23 ?_
    refine bX1_saysAll_28 (by first | exact Or.inl rfl | exact Or.inr rfl | exact kB_bl _) ?_
    exact ⟨_, rfl, rfl, by symm; simp_all [s_all, kB_0, kB_1]⟩
  · refine bX1_saysAll_7 ho rfl (fun c3 => ?_) (fun c4 => ?_)
    · refine bX1_saysAll_23 ?_
      refine bX1_saysAll_28 (by first | exact Or.inl rfl | exact Or.inr rfl | exact kB_bl _) ?_
      exact ⟨_, rfl, rfl, by symm; simp_all [s_all, kB_0, kB_1]⟩
    · refine bX1_saysAll_15 ho rfl (fun c5 => ?_) (fun c6 => ?_)
      · refine bX1_saysAll_27 ?_
        refine bX1_saysAll_28 (by first | exact Or.inl rfl | exact Or.inr rfl | exact kB_bl _) ?_
        exact ⟨_, rfl, rfl, by symm; simp_all [s_all, kB_0, kB_1]⟩
      · refine bX1_saysAll_23 ?_
        refine bX1_saysAll_28 (by first | exact Or.inl rfl | exact Or.inr rfl | exact kB_bl _) ?_
        exact ⟨_, rfl, rfl, by symm; simp_all [s_all, kB_0, kB_1]⟩
theorem c_X1_isRange (ok : k_ok G l) {h : k_H} {a : Nat} {k : Int32} {lo hi : Int64} {v4 v5 : k_V} (ho : h.1 a = some (k_o 4 [vI k, vJ lo, vJ hi, v4, v5])) : k_cti (tX1_isRange G l) [vR (some a)] h (fun h' w => h' = h ∧ w = kB (!(decide (hi - lo ≤ 1)))) := by
  refine k_cti_of (eX1_isRange ok.2 ?_)
  refine bX1_isRange_0 ho rfl rfl (fun c1 => ?_) (fun c2 => ?_)
  · refine bX1_isRange_18 ?_
    refine bX1_isRange_19 (by first | exact Or.inl rfl | exact Or.inr rfl | exact kB_bl _) ?_
    exact ⟨_, rfl, rfl, by symm; simp_all [kB_0, kB_1]⟩
  · refine bX1_isRange_14 ?_
    refine bX1_isRange_19 (by first | exact Or.inl rfl | exact Or.inr rfl | exact kB_bl _) ?_
    exact ⟨_, rfl, rfl, by symm; simp_all [kB_0, kB_1]⟩
end SO
