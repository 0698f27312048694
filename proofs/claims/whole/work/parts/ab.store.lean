/-! THE STORE BEHIND EACH CALL: puts and clears at one version -/
def z_E (n : Nat) (E E' : e_S) : Prop := ∀ P : e_S → Prop, (∀ F c o, P F → P (e_put n c o F)) → (∀ F lo hi, lo < hi → hi < 2 ^ 60 → P F → P (e_clr n lo hi F)) → P E → P E'
theorem zE_refl (n : Nat) (E : e_S) : z_E n E E := fun _ _ _ h => h
theorem zE_trans {n : Nat} {E F K : e_S} (a : z_E n E F) (b : z_E n F K) : z_E n E K := fun P h1 h2 h => b P h1 h2 (a P h1 h2 h)
theorem zE_put (n c : Nat) (o : Option Int32) (E : e_S) : z_E n E (e_put n c o E) := fun _ h1 _ h => h1 _ _ _ h
theorem zE_clr {n lo hi : Nat} (E : e_S) (h1 : lo < hi) (h2 : hi < 2 ^ 60) : z_E n E (e_clr n lo hi E) := fun _ _ h3 h => h3 _ _ _ h1 h2 h
theorem zE_fold {n : Nat} {A : Type} (f : e_S → A → e_S) : ∀ (X : List A), (∀ E, ∀ x ∈ X, z_E n E (f E x)) → ∀ E, z_E n E (X.foldl f E) := by
  intro X
  induction X with
  | nil => intro _ E; exact zE_refl n E
  | cons x X ih =>
    intro hf E
    exact zE_trans (hf E x List.mem_cons_self) (ih (fun F y hy => hf F y (List.mem_cons_of_mem _ hy)) _)
theorem zE_all {n : Nat} {MC : List k_CH} {E : e_S} (hb : ∀ x ∈ MC, x.2.2.2.1 < 2 ^ 60) : z_E n E (e_all n MC E) := by
  refine zE_trans (zE_fold _ MC (fun F x hx => ?_) E) (zE_fold _ MC (fun F x hx => ?_) _)
  · unfold e_do
    split
    · split
      · rename_i h
        exact zE_clr F (by omega) (hb x hx)
      · exact zE_put _ _ _ _
    · exact zE_refl _ _
  · unfold e_st
    split
    · exact zE_put _ _ _ _
    · exact zE_refl _ _
theorem zE_take {M : s_M} {w : Int32} {c : Nat} : z_E (g_n M + 1) (g_E M) (wk_tE M w c) := zE_put _ _ _ _
theorem zE_finish {M : s_M} {c : Nat} : z_E (g_n M + 1) (g_E M) (wk_fE M c) := zE_trans (zE_put _ _ _ _) (zE_put _ _ _ _)
theorem zE_back {M : s_M} {v : Nat} : z_E (g_n M + 1) (g_E M) (bb_E M v) := zE_fold _ _ (fun F x _ => zE_put _ _ _ _) _
/-- what follows: keys stay, wipes are by version, the log is by version -/
theorem zE_keys {n : Nat} {E E' : e_S} (z : z_E n E E') {c k : Nat} (h : (c, k) ∈ E.1) : (c, k) ∈ E'.1 :=
  z (fun F => (c, k) ∈ F.1) (fun F d o h => m_ins_iff.mpr (Or.inl h)) (fun F lo hi _ _ h => h) h
def i_2 (n : Nat) (E : e_S) : Prop := E.2.1.Pairwise (fun x y => y.2.2.1 ≤ x.2.2.1) ∧ (∀ x ∈ E.2.1, x.2.2.1 ≤ n) ∧ (∀ w ∈ E.2.2, w.1 < w.2.1 ∧ w.2.1 < 2 ^ 60 ∧ w.2.2 ≤ n) ∧ E.2.2.Pairwise (fun x y => x.2.2 ≤ y.2.2)
theorem i2_mono {n m : Nat} {E : e_S} (I : i_2 n E) (h : n ≤ m) : i_2 m E := ⟨I.1, fun x hx => Nat.le_trans (I.2.1 x hx) h, fun w hw => ⟨(I.2.2.1 w hw).1, (I.2.2.1 w hw).2.1, Nat.le_trans (I.2.2.1 w hw).2.2 h⟩, I.2.2.2⟩
theorem i2_put {n c : Nat} {o : Option Int32} {E : e_S} (I : i_2 n E) : i_2 n (e_put n c o E) := by
  refine ⟨List.Pairwise.cons (fun y hy => I.2.1 y hy) I.1, fun x hx => ?_, I.2.2⟩
  rcases List.mem_cons.mp hx with rfl | hx
  · exact Nat.le_refl _
  · exact I.2.1 x hx
theorem i2_pus {n : Nat} : ∀ (X : List (Nat × Option Int32)) (L : List k_E4), (L.Pairwise (fun x y => y.2.2.1 ≤ x.2.2.1) ∧ ∀ x ∈ L, x.2.2.1 ≤ n) → ((r_pus n X L).Pairwise (fun x y => y.2.2.1 ≤ x.2.2.1) ∧ ∀ x ∈ r_pus n X L, x.2.2.1 ≤ n) := by
  intro X
  induction X with
  | nil => intro L h; exact h
  | cons q X ih =>
    intro L h
    refine ih _ ⟨List.Pairwise.cons (fun y hy => h.2 y hy) h.1, fun x hx => ?_⟩
    rcases List.mem_cons.mp hx with rfl | hx
    · exact Nat.le_refl _
    · exact h.2 x hx
theorem i2_clr {n lo hi : Nat} {E : e_S} (I : i_2 n E) (h1 : lo < hi) (h2 : hi < 2 ^ 60) : i_2 n (e_clr n lo hi E) := by
  obtain ⟨p1, p2⟩ := i2_pus (n := n) _ E.2.1 ⟨I.1, I.2.1⟩
  refine ⟨p1, p2, fun w hw => ?_, ?_⟩
  · have hw' : w ∈ E.2.2 ++ [(lo, hi, n)] := hw
    rcases List.mem_append.mp hw' with z | z
    · exact I.2.2.1 w z
    · have : w = (lo, hi, n) := by simpa using z
      rw [this]
      exact ⟨h1, h2, Nat.le_refl _⟩
  · show (E.2.2 ++ [(lo, hi, n)]).Pairwise _
    refine List.pairwise_append.mpr ⟨I.2.2.2, List.pairwise_singleton _ _, fun x hx y hy => ?_⟩
    have : y = (lo, hi, n) := by simpa using hy
    rw [this]
    exact (I.2.2.1 x hx).2.2
theorem zE_i2 {n : Nat} {E E' : e_S} (z : z_E n E E') (I : i_2 n E) : i_2 n E' := z (fun F => i_2 n F) (fun _ _ _ h => i2_put h) (fun _ _ _ h1 h2 h => i2_clr h h1 h2) I
