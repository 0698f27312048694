/-! what a save does, as a chain of single steps: what these keep, it keeps -/
theorem sv_ind {P : s_M → Prop} {t : Nat} (hkc : ∀ M k c v p, P M → P (g_kc M t k c v p)) (hrk : ∀ M c, P M → P (g_rk M t c)) (hsd : ∀ M n, P M → P (g_sdr M t n)) {M : s_M} {n : Int32} {saves : Bool} {field : Int32} (h : P M) : P (sv_w M t n saves field).1 := by
  have h1 : ∀ (c : Bool) (k : Int32) (cd : Nat) (v p : Int32) (M : s_M), P M → P (sv_1 c t k cd v p M) := by
    intro c k cd v p M h
    unfold sv_1
    split
    · exact hkc _ _ _ _ _ h
    · exact h
  have hcls : ∀ (X : List k_K2) (M : s_M), P M → P (g_cls t X M) := by
    intro X
    unfold g_cls
    induction X with
    | nil => intro M h; exact h
    | cons x X ih => intro M h; exact ih _ (hkc _ _ _ _ _ h)
  have hq : ∀ (c : Bool) (M : s_M), P M → P (sv_q c t n M) := by
    intro c M h
    unfold sv_q
    split
    · exact hcls _ _ (hsd _ _ h)
    · exact h
  have h4 : P (sv_r4 M t n) := hrk _ _ (hrk _ _ (hrk _ _ (hrk _ _ h)))
  unfold sv_w
  split
  · exact h4
  · unfold sv_all sv_p sv_f
    exact hkc _ _ _ _ _ (h1 _ _ _ _ _ _ (hq _ _ (h1 _ _ _ _ _ _ (h1 _ _ _ _ _ _ (h1 _ _ _ _ _ _ (h1 _ _ _ _ _ _ h4))))))
theorem i1_save {n g t : Nat} {M : s_M} {x : Int32} {saves : Bool} {field : Int32} (I : i_1 n g M) (ht : t < 4) : i_1 n g (sv_w M t x saves field).1 :=
  sv_ind (P := fun M => i_1 n g M) (fun M k c v p h => i1_kp1 h ht) (fun M c h => i1_tx h (h.2.2.2.1 t ht)) (fun M n h => i1_tx h (h.2.2.2.1 t ht)) I
