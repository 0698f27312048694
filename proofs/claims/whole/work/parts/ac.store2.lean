/-! .. the builder -/
theorem zE_one {n : Nat} {x : Int32} {k : Nat} {f : Int32} {E : e_S} : z_E n E (bl_one n x k f E) := by
  unfold bl_one
  split
  · exact zE_put _ _ _ _
  · split
    · exact zE_put _ _ _ _
    · exact zE_put _ _ _ _
theorem zE_bl {n : Nat} {x st most : Int32} : ∀ (K : List Nat) (A : b_S), z_E n A.1 (K.foldl (bl_step n x st most) A).1 := by
  intro K
  induction K with
  | nil => intro A; exact zE_refl _ _
  | cons k K ih =>
    intro A
    refine zE_trans ?_ (ih _)
    unfold bl_step
    split
    · split
      · exact zE_refl _ _
      · exact zE_one
    · exact zE_refl _ _
theorem zE_build {M : s_M} {x most : Int32} : z_E (g_n M + 1) (g_E M) (bl_E M x most) := zE_trans (zE_bl _ (g_E M, 0, bl_st M x, 0)) (zE_put _ _ _ _)
