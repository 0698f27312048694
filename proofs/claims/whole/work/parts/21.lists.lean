/-! THE JDK'S LISTS: contracts over the list as one cell -/
theorem k_half {n : Nat} (h : n < 2 ^ 30) : nI n >>> (1 &&& 31) = nI (n / 2) := by
  apply Int32.toBitVec_inj.mp
  have e1 : (nI n).toBitVec = BitVec.ofNat 32 n := rfl
  have e2 : (nI (n / 2)).toBitVec = BitVec.ofNat 32 (n / 2) := rfl
  show (nI n).toBitVec.sshiftRight' ((1 &&& 31 : Int32).toBitVec.smod 32) = _
  rw [e1, e2]
  have e3 : ((1 &&& 31 : Int32).toBitVec.smod 32) = 1#32 := by decide
  rw [e3]
  show (BitVec.ofNat 32 n).sshiftRight 1 = _
  rw [BitVec.sshiftRight_eq_of_msb_false]
  · apply BitVec.eq_of_toNat_eq
    simp only [BitVec.toNat_ushiftRight, BitVec.toNat_ofNat, Nat.shiftRight_eq_div_pow]
    omega
  · rw [BitVec.msb_eq_decide]
    simp only [BitVec.toNat_ofNat]
    have : n % 2 ^ 32 = n := Nat.mod_eq_of_lt (by omega)
    rw [this]
    simp
    omega
def k_wf (h : k_H) : Prop := ∀ (q : Nat) (c : k_C), h.1 q = some c → q < h.2.1
theorem k_wf.none {h : k_H} (w : k_wf h) {q : Nat} (hq : h.2.1 ≤ q) : h.1 q = none := by
  cases e : h.1 q with
  | none => rfl
  | some c => have := w q c e; omega
theorem k_hp_wf {G : k_G} {h : k_H} {H : Heap} (hp : k_hp G h H) : k_wf h := fun q c hc => by
  obtain ⟨p1, p2, p3, F, ow, h1, h3⟩ := hp
  have := h3 _ _ hc
  rw [← p1]
  rcases c with ⟨ci, fs⟩ | ⟨n, f⟩ | ⟨n, f⟩ | ⟨n, f⟩ | ⟨xs, cap⟩ | ⟨n, f⟩
  rotate_right
  · exact (h1 _ _ this).2.lt
  · exact (h1 _ _ this).2.lt
  · exact (h1 _ _ this).2.lt
  · exact (h1 _ _ this).2.lt
  · exact (h1 _ _ this).2.lt
  · obtain ⟨md, t, g1, -⟩ := this
    exact (h1 _ _ g1).2.lt
/-- what is asked of what is fixed -/
def k_ok (G : k_G) (l : Launch) : Prop := k_z0 G < (k_H0 G).size ∧ l.flags = flags0
section LST
variable {G : k_G} {l : Launch}
theorem x_open {y : MethodName} {cc : ByteArray} {mL : Nat} {rt : Option FieldType} {d : Nat} {h0 h h' : k_H} {pc : Nat} {lv : k_L} {st : List k_V} {r : k_R} {Q : k_H → k_R → Prop} {a cap : Nat} {xs : List Nat} (hz : k_z0 G < (k_H0 G).size) (ho : h.1 a = some (k_l xs cap)) (hle : h.2.1 ≤ h'.2.1 ∧ h.2.2 ≤ h'.2.2)
    (K : ∀ h1, k_raw h a xs cap (k_z0 G) h1 → k_wf h1 → h1.2 = h.2 → k_X (k_J G l y cc mL rt d h0) h1 pc lv st (fun h2 r2 => r2 = r ∧ h2.2 = h'.2 ∧ ∀ H, k_hp G h2 H → k_hp G h' H)) (q : Q h' r) : k_X (k_J G l y cc mL rt d h0) h pc lv st Q := by
  refine ⟨h', r, k_Jopen (fun h1 => k_raw h a xs cap (k_z0 G) h1 ∧ k_wf h1) hle (fun H hp => ?_) (fun h1 r1 e1 => ?_), q⟩
  · obtain ⟨h1, r1, e1, p1⟩ := k_open hz hp ho
    exact ⟨h1, ⟨r1, k_hp_wf p1⟩, e1, p1⟩
  · obtain ⟨h2, r2, K9, rfl, e2, hc⟩ := K h1 r1.1 r1.2 e1
    exact k_Jres K9 e2 hc
/-- nothing was written -/
theorem raw_back {h h1 : k_H} {a cap : Nat} {xs : List Nat} (ho : h.1 a = some (k_l xs cap)) (hr : k_raw h a xs cap (k_z0 G) h1) (e : h1.2 = h.2) : ∀ H, k_hp G h1 H → k_hp G h H := fun H hp => by
  obtain ⟨md, t, o, hx, hc, hta, hcase⟩ := hr
  refine k_close (h := h) hp o hx hc ?_ e.symm ho (fun q c hq hc9 => ?_)
  · rcases hcase with ⟨z1, z2, z3⟩ | ⟨z1, z2, z3, f, z4, z5, z6⟩
    · exact Or.inl ⟨z1, z2⟩
    · exact Or.inr ⟨z1, hta, z3, f, z4, z5⟩
  · rcases hcase with ⟨z1, z2, z3⟩ | ⟨z1, z2, z3, f, z4, z5, z6⟩
    · rw [z3 q hq]; exact hc9
    · by_cases hqt : q = t
      · subst hqt; rw [z3] at hc9; cases hc9
      · rw [z6 q hq hqt]; exact hc9
theorem raw_is {h h1 : k_H} {a cap x ci : Nat} {xs : List Nat} (ho : h.1 a = some (k_l xs cap)) (hr : k_raw h a xs cap (k_z0 G) h1) (hi : k_is h x ci) : k_is h1 x ci := by
  obtain ⟨md, t, o, hx, hc, hta, hcase⟩ := hr
  by_cases hxa : x = a
  · subst hxa
    rcases hi with ⟨fs, h9⟩ | ⟨rfl, xs', cap', h9⟩
    · rw [ho] at h9; cases h9
    · exact k_is_o o
  · have key : h1.1 x = h.1 x := by
      rcases hcase with ⟨z1, z2, z3⟩ | ⟨z1, z2, z3, f, z4, z5, z6⟩
      · exact z3 x hxa
      · by_cases hxt : x = t
        · subst hxt
          rcases hi with ⟨fs, h9⟩ | ⟨-, xs', cap', h9⟩ <;> (rw [z3] at h9; cases h9)
        · exact z6 x hxa hxt
    unfold k_is
    rw [key]
    exact hi
theorem c_size (ok : k_ok G l) {h : k_H} {a cap : Nat} {xs : List Nat} (ho : h.1 a = some (k_l xs cap)) : k_cti (tAL_size G l) [vR (some a)] h (fun h' v => h' = h ∧ v = nI xs.length) := by
  refine k_cti_of (eJx4a65c_size_8abf5 ok.2 (x_open ok.1 ho (h' := h) ⟨Nat.le_refl _, Nat.le_refl _⟩ (fun h1 r1 w1 e1 => ?_) ⟨_, rfl, rfl, rfl⟩))
  obtain ⟨md, t, o, -⟩ := id r1
  exact bJx4a65c_size_8abf5_0 o rfl ⟨rfl, e1, raw_back ho r1 e1⟩
theorem c_checkIndexP (ok : k_ok G l) {h : k_H} {i n : Int32} (h1 : ¬ i < 0) (h2 : i < n) : k_cti (tJ3_checkIndex_8e157 G l) [vI i, vI n, vR none] h (fun h' v => h' = h ∧ v = i) := by
  refine k_cti_of (eJ3_checkIndex_8e157 ok.2 ?_)
  refine bJ3_checkIndex_8e157_0 (fun c => absurd c h1) (fun _ => ?_)
  refine bJ3_checkIndex_8e157_4 (fun _ => ?_) (fun c => absurd h2 c)
  exact bJ3_checkIndex_8e157_16 ⟨_, rfl, rfl, rfl⟩
theorem c_checkIndex (ok : k_ok G l) {h : k_H} {i n : Int32} (h1 : ¬ i < 0) (h2 : i < n) : k_cti (tJ15_checkIndex_7cf53 G l) [vI i, vI n] h (fun h' v => h' = h ∧ v = i) := by
  refine k_cti_of (eJ15_checkIndex_7cf53 ok.2 ?_)
  refine bJ15_checkIndex_7cf53_0 (c_checkIndexP ok h1 h2) ?_
  rintro h1 v ⟨rfl, rfl⟩
  exact bJ15_checkIndex_7cf53_6 ⟨_, rfl, rfl, rfl⟩
theorem c_get (ok : k_ok G l) {h : k_H} {a cap i x : Nat} {xs : List Nat} (ho : h.1 a = some (k_l xs cap)) (hi : xs[i]? = some x) : k_ctr (tAL_get G l) [vR (some a), vI (nI i)] h (fun h' v => h' = h ∧ v = some x) := by
  refine k_ctr_of (eJx4a65c_get_915e3 ok.2 (x_open ok.1 ho (h' := h) ⟨Nat.le_refl _, Nat.le_refl _⟩ (fun h1 r1 w1 e1 => ?_) ⟨_, rfl, rfl, rfl⟩))
  obtain ⟨md, t, o, hx, hc, hta, hcase⟩ := id r1
  have hlt : i < xs.length := (List.getElem?_eq_some_iff.mp hi).1
  refine bJx4a65c_get_915e3_0 o rfl (c_checkIndex ok (nI_pos (by omega)) (nI_lt hlt (by omega))) ?_
  rintro h2 v ⟨rfl, rfl⟩
  rcases hcase with ⟨z1, z2, z3⟩ | ⟨z1, z2, z3, f, z4, z5, z6⟩
  · omega
  · refine bJx4a65c_get_915e3_8 (k_is_o o) (P := fun h' v => h' = h2 ∧ v = some x) (k_ctr_of (eJx4a65c_elementData_915e3 ok.2 (bJx4a65c_elementData_915e3_0 o rfl z4 (nI_in (by omega) (by omega)) ⟨_, rfl, rfl, ?_⟩))) ?_
    · rw [nI_clamp (by omega), z5 i hlt, hi]
    · rintro h3 v ⟨rfl, rfl⟩
      exact bJx4a65c_get_915e3_14 ⟨rfl, e1, raw_back ho r1 e1⟩
end LST
