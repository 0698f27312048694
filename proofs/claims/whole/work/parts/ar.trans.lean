/-! THE TRANSACTIONS' INVARIANT, and all of it together -/
theorem zs_add (f g : k_CH → Nat) (l : List k_CH) : z_sum f l + z_sum g l = z_sum (fun y => f y + g y) l := by
  induction l with
  | nil => rfl
  | cons x l ih => rw [zs_cons, zs_cons, zs_cons, ← ih]; omega
def z_cy (l : List k_CH) : Nat := z_sum z_c1 l + z_sum z_c2 l
theorem c12_le (y : k_CH) : z_c1 y + z_c2 y ≤ 2 := by
  unfold z_c1 z_c2 s_ord
  by_cases e : y.2.1 = 6
  · rw [if_pos e, if_neg (by rw [e]; decide)]; exact Nat.le_refl _
  · rw [if_neg e]
    repeat' split
    all_goals omega
theorem cy_le (l : List k_CH) : z_cy l ≤ 2 * l.length := by
  unfold z_cy
  rw [zs_add]
  exact zs_le _ l (fun x _ => c12_le x)
theorem cy_app (l l' : List k_CH) : z_cy (l ++ l') = z_cy l + z_cy l' := by unfold z_cy; rw [zs_app, zs_app]; omega
theorem cy_flt (p : k_CH → Bool) (l : List k_CH) : z_cy (l.filter p) ≤ z_cy l := Nat.add_le_add (zs_flt _ _ _) (zs_flt _ _ _)
theorem w1_le (l : List k_CH) : z_sum z_w1 l ≤ l.length := by
  have := zs_le z_w1 (b := 1) l (fun x _ => by unfold z_w1; split <;> omega)
  omega
def i_x (K : List k_K2) (W R : List Nat) (i C : Nat) (x : s_X) : Prop := (∀ y ∈ x.2.1, y_y K W R y) ∧ x.2.2.length ≤ 4 * i ∧ x.2.1.length ≤ 17 + C ∧ z_cy x.2.1 ≤ 33 + C ∧ z_sum z_w1 x.2.1 ≤ 12 ∧ z_sum z_s6 x.2.1 ≤ 12
def i_X (W R : List Nat) (i C : Nat) (M : s_M) : Prop := ∀ t, t < 4 → i_x (g_E M).1 W R i C (g_X M t)
theorem ix_mono {K K' : List k_K2} {W R W' R' : List Nat} {i C i' C' : Nat} {x : s_X} (I : i_x K W R i C x) (hK : ∀ c, z_nm c K → z_nm c K') (hW : ∀ c ∈ W, c ∈ W') (hR : ∀ c ∈ R, c ∈ R') (hi : i ≤ i') (hC : C ≤ C') : i_x K' W' R' i' C' x := by
  obtain ⟨h1, h2, h3, h4, h5, h6⟩ := I
  exact ⟨fun y hy => yy_mono hK hW hR (h1 y hy), by omega, by omega, by omega, h5, h6⟩
theorem ix_nil {K : List k_K2} {W R : List Nat} {i C : Nat} {x : s_X} (h1 : x.2.1 = []) (h2 : x.2.2 = []) : i_x K W R i C x := by
  unfold i_x
  rw [h1, h2]
  exact ⟨fun y hy => (by cases hy), Nat.zero_le _, Nat.zero_le _, Nat.zero_le _, Nat.zero_le _, Nat.zero_le _⟩
theorem iX_mono {W R W' R' : List Nat} {i C i' C' : Nat} {M M' : s_M} (I : i_X W R i C M) (hX : g_X M' = g_X M) (hK : ∀ c, z_nm c (g_E M).1 → z_nm c (g_E M').1) (hW : ∀ c ∈ W, c ∈ W') (hR : ∀ c ∈ R, c ∈ R') (hi : i ≤ i') (hC : C ≤ C') : i_X W' R' i' C' M' := fun t ht => by
  rw [hX]
  exact ix_mono (I t ht) hK hW hR hi hC
theorem iX_tx {W R W' R' : List Nat} {i C i' C' : Nat} {M M' : s_M} {t : Nat} {x : s_X} (I : i_X W R i C M) (hX : g_X M' = fun q => if q = t then x else g_X M q) (hx : i_x (g_E M').1 W' R' i' C' x) (hK : ∀ c, z_nm c (g_E M).1 → z_nm c (g_E M').1) (hW : ∀ c ∈ W, c ∈ W') (hR : ∀ c ∈ R, c ∈ R') (hi : i ≤ i') (hC : C ≤ C') : i_X W' R' i' C' M' := fun u hu => by
  rw [hX]
  show i_x _ _ _ _ _ (if u = t then x else g_X M u)
  by_cases e : u = t
  · rw [if_pos e]; exact hx
  · rw [if_neg e]; exact ix_mono (I u hu) hK hW hR hi hC
def i_D (i : Nat) (M : s_M) : Prop := d_ok (g_DS M) ∧ d_many (g_DS M).1 ≤ 9 ∧ (g_DS M).2 ≤ i + 1 ∧ (g_DS M).1.length ≤ 10
/-- all of it, with what is counted beside it -/
def i_A (i : Nat) (M : s_M) (N w : Nat) (W S R V Vs : List Nat) (a s b p C D X Y Np : Nat) : Prop :=
  (i_1 (10 * i) i M ∧ i_D i M ∧ g_ser M ≤ 1000 * i) ∧ i_S W S R V Vs i s b C X Np M ∧ i_X W R i C M ∧ i_C W S R M a s ∧ i_N i a s b p C D X M ∧ (N ≤ 12 * i + Y + Np ∧ Y ≤ p * C ∧ w ≤ 12 * i)
def i_I (i : Nat) (M : s_M) (N w : Nat) : Prop := ∃ (W S R V Vs : List Nat) (a s b p C D X Y Np : Nat), i_A i M N w W S R V Vs a s b p C D X Y Np
/-! .. calls that change nothing -/
theorem I_0 {i N w N' : Nat} {M : s_M} (I : i_I i M N w) (hN : N' ≤ N + 12) : i_I (i + 1) M N' w := by
  obtain ⟨W, S, R, V, Vs, a, s, b, p, C, D, X, Y, Np, ⟨⟨h1, h2, h3⟩, hS, hX, hC, hN', h4, h5, h6⟩⟩ := I
  refine ⟨W, S, R, V, Vs, a, s, b, p, C, D, X, Y, Np, ⟨⟨i1_mono h1 (by omega) (Nat.le_succ _), ⟨h2.1, h2.2.1, by have := h2.2.2.1; omega, h2.2.2.2⟩, by omega⟩, ?_, ?_, hC, iN_i hN' (Nat.le_refl _), by omega, h5, by omega⟩⟩
  · exact S_same hS (Nat.le_succ _) (fun _ h => h) (fun _ h => h) hS.2.2.1.2.2.1.2 (Nat.le_refl _) (Nat.le_refl _) rfl rfl rfl rfl hS.1.2 (fun x hx => Or.inl ⟨x.2, hx⟩) (by have := hS.2.2.2.2.1.1; omega) rfl
  · exact iX_mono hX rfl (fun _ h => h) (fun _ h => h) (fun _ h => h) (Nat.le_succ _) (Nat.le_refl _)
/-! .. calls that change one transaction's numbers and readings, or the state's flags -/
theorem Y_p {p C Y : Nat} (h : Y ≤ p * C) : Y ≤ (p + 1) * C := by rw [Nat.add_mul]; omega
/-- a call that prepares: the log stays -/
theorem I_pre {i N w N' : Nat} {M : s_M} (I : i_I i M N w) (M' : s_M) (hN : N' ≤ N + 12) (e1 : g_n M' = g_n M) (e2 : g_E M' = g_E M) (e3 : g_MK M' = g_MK M) (e4 : g_PT M' = g_PT M) (h1 : ∀ n g, i_1 n g M → i_1 n g M') (h2 : ∀ i, i_D i M → i_D i M') (h3 : g_ser M' = g_ser M)
    (hX : ∀ (W R : List Nat) (C : Nat), i_X W R i C M → i_X W R (i + 1) C M') (hC : z_C M' ≤ z_C M + 11) (hB : (if g_los M' = 0 then 0 else 1) + z_4 (fun t => z_b (g_X M' t).1.1) ≤ (if g_los M = 0 then 0 else 1) + z_4 (fun t => z_b (g_X M t).1.1) + 1) : i_I (i + 1) M' N' w := by
  obtain ⟨W, S, R, V, Vs, a, s, b, p, C, D, X, Y, Np, ⟨⟨g1, g2, g3⟩, hS, gX, gC, gN, g4, g5, g6⟩⟩ := I
  have hd := h2 i g2
  have ev : g_V M' = g_V M := by unfold g_V; rw [e1, e2]
  refine ⟨W, S, R, V, Vs, a + 1, s, b, p + 1, C, D, X, Y, Np, ⟨⟨i1_mono (h1 _ _ g1) (by omega) (Nat.le_succ _), ⟨hd.1, hd.2.1, by have := hd.2.2.1; omega, hd.2.2.2⟩, by omega⟩, ?_, hX W R C gX, ⟨by have := gC.1; omega, by have := gC.2.1; omega, gC.2.2⟩, iN_p gN hB, by omega, Y_p g5, by omega⟩⟩
  exact S_same hS (Nat.le_succ _) (fun _ h => h) (fun _ h => h) hS.2.2.1.2.2.1.2 (Nat.le_refl _) (Nat.le_refl _) e1 (by rw [e2]) e3 e4 (by rw [e2]; exact hS.1.2) (fun x hx => Or.inl ⟨x.2, by rw [e2] at hx; exact hx⟩) (by rw [e2]; have := hS.2.2.2.2.1.1; omega) ev
theorem iX_same {W R : List Nat} {i C : Nat} {M M' : s_M} (hX : g_X M' = g_X M) (hE : g_E M' = g_E M) (I : i_X W R i C M) : i_X W R (i + 1) C M' := iX_mono I hX (fun c h => by rw [hE]; exact h) (fun _ h => h) (fun _ h => h) (Nat.le_succ _) (Nat.le_refl _)
theorem zb_le (x : Bool) : z_b x ≤ 1 := by unfold z_b; split <;> omega
theorem I_begin {i N w : Nat} {M : s_M} {x : Int32} {once : Bool} (I : i_I i M N w) : i_I (i + 1) (F_begin M x once).1 (N + 1) w := by
  rcases z_begin (M := M) (x := x) (once := once) with e | ⟨t, ht, e⟩
  · rw [e]; exact I_0 I (by omega)
  · rw [e]
    refine I_pre I (g_tx M t ((true, once, g_n M, g_gen M, 0), [], [])) (by omega) rfl rfl rfl rfl (fun n g h => i1_tx h ⟨Nat.le_refl _, Nat.le_refl _, Nat.zero_le _⟩) (fun _ h => h) rfl (fun W R C h => iX_tx h rfl (ix_nil rfl rfl) (fun _ h => h) (fun _ h => h) (fun _ h => h) (Nat.le_succ _) (Nat.le_refl _)) (zC_tx ht (by rw [zcr_nil (x := ((true, once, g_n M, g_gen M, 0), [], [])) rfl]; omega)) ?_
    have := z4_up (f := fun u => z_b (g_X M u).1.1) (g := fun u => z_b (g_X (g_tx M t ((true, once, g_n M, g_gen M, 0), [], [])) u).1.1) ht (fun u hu => by show z_b (if u = t then _ else g_X M u).1.1 = _; rw [if_neg hu])
    have e2 : z_b (g_X (g_tx M t ((true, once, g_n M, g_gen M, 0), [], [])) t).1.1 ≤ 1 := zb_le _
    show (if g_los M = 0 then 0 else 1) + z_4 (fun u => z_b (g_X (g_tx M t ((true, once, g_n M, g_gen M, 0), [], [])) u).1.1) ≤ _
    omega
theorem I_rd {i N w N' : Nat} {M M' : s_M} (I : i_I i M N w) (z : z_rd M M') (hN : N' ≤ N + 12) : i_I (i + 1) M' N' w := by
  rcases z with rfl | ⟨t, r, ht, hb, rfl, hr⟩
  · exact I_0 I hN
  · refine I_pre I (g_rdg M t r) hN rfl rfl rfl rfl (fun n g h => i1_tx h (h.2.2.2.1 t ht)) (fun _ h => h) rfl (fun W R C h => ?_) (Nat.le_trans (zC_tx ht (k := 0) (Nat.le_of_eq (zcr_hd rfl rfl))) (by omega)) ?_
    · refine iX_tx h rfl ?_ (fun _ h => h) (fun _ h => h) (fun _ h => h) (Nat.le_succ _) (Nat.le_refl _)
      obtain ⟨a1, a2, a3⟩ := h t ht
      refine ⟨a1, ?_, a3⟩
      show r.length ≤ 4 * (i + 1)
      omega
    · have := z4_up (f := fun u => z_b (g_X M u).1.1) (g := fun u => z_b (g_X (g_rdg M t r) u).1.1) ht (fun u hu => by show z_b (if u = t then _ else g_X M u).1.1 = _; rw [if_neg hu])
      have e2 : z_b (g_X (g_rdg M t r) t).1.1 ≤ 1 := zb_le _
      show (if g_los M = 0 then 0 else 1) + z_4 (fun u => z_b (g_X (g_rdg M t r) u).1.1) ≤ _
      omega
theorem I_lose {i N w : Nat} {M : s_M} {d : Bool} (I : i_I i M N w) : i_I (i + 1) (F_lose M d).1 N w := by
  have hl : (if d = true then 1 else 2 : Nat) ≤ 2 := by split <;> omega
  have hl0 : ¬ (if d = true then 1 else 2 : Nat) = 0 := by split <;> omega
  refine I_pre I (F_lose M d).1 (by omega) rfl rfl rfl rfl (fun n g h => i1_sl h hl) (fun _ h => h) rfl (fun W R C h => iX_same rfl rfl h) ?_ ?_
  · unfold z_C z_los
    show _ + (if (if d = true then 1 else 2 : Nat) = 0 then 0 else 11) ≤ _
    rw [if_neg hl0]
    have : z_4 (fun t => z_cr (g_n (F_lose M d).1) (g_X (F_lose M d).1 t)) = z_4 (fun t => z_cr (g_n M) (g_X M t)) := rfl
    omega
  · show (if (if d = true then 1 else 2 : Nat) = 0 then 0 else 1) + z_4 (fun t => z_b (g_X M t).1.1) ≤ _
    rw [if_neg hl0]
    omega
theorem I_adv {i N w k g N' : Nat} {M : s_M} (I : i_I i M N w) (hk : k ≤ 10) (hg : g_gen M ≤ g) (hg2 : g ≤ g_gen M + 1) (hN : N' ≤ N + 12) : i_I (i + 1) (g_adv M k g) N' w := by
  obtain ⟨W, S, R, V, Vs, a, s, b, p, C, D, X, Y, Np, ⟨⟨g1, g2, g3⟩, hS, gX, gC, gN, g4, g5, g6⟩⟩ := I
  refine ⟨W, S, R, V, Vs, a, s, b, p, C, D, X, Y, Np, ⟨⟨i1_mono (i1_adv g1 hg hg2) (by omega) (Nat.le_refl _), ⟨g2.1, g2.2.1, by have := g2.2.2.1; exact Nat.le_succ_of_le this, g2.2.2.2⟩, ?_⟩, S_adv hS, iX_same rfl rfl gX, iC_le gC (zC_n _ (Nat.le_add_right _ _) rfl rfl), iN_i gN (Nat.le_refl _), by omega, g5, by omega⟩⟩
  show g_ser M ≤ _
  omega
theorem I_watch {i N w : Nat} {M : s_M} {a1 b1 c1 : Int32} (I : i_I i M N w) : i_I (i + 1) (F_watch M a1 b1 c1).1 (N + 2) w := by
  rcases z_watch (M := M) (a := a1) (b := b1) (c := c1) with e | ⟨h, e⟩
  · rw [e]; exact I_0 I (by omega)
  · rw [e]
    exact I_pre I (g_wts M (g_WT M ++ [(s_cd a1 b1 c1, -2147483648)])) (by omega) rfl rfl rfl rfl (fun n g z => i1_wts z h) (fun _ h => h) rfl (fun W R C h => iX_same rfl rfl h) (Nat.le_add_right _ _) (Nat.le_add_right _ _)
theorem I_mark {i N w : Nat} {M : s_M} (I : i_I i M N w) : i_I (i + 1) (F_mark M).1 (N + 1) w := by
  rcases z_mark (M := M) with e | ⟨h, e⟩
  · rw [e]; exact I_0 I (by omega)
  · rw [e]
    obtain ⟨W, S, R, V, Vs, a, s, b, p, C, D, X, Y, Np, ⟨⟨g1, g2, g3⟩, hS, gX, gC, gN, g4, g5, g6⟩⟩ := I
    refine ⟨W ++ S, [], R, V, Vs, a + s, 0, b + 1, p, C, D, X, Y, Np, ⟨⟨i1_mono (i1_mks g1 h) (by omega) (Nat.le_succ _), ⟨g2.1, g2.2.1, by have := g2.2.2.1; exact Nat.le_succ_of_le this, g2.2.2.2⟩, ?_⟩, S_mark hS, iX_mono gX rfl (fun _ h => h) (fun c h => List.mem_append.mpr (Or.inl h)) (fun _ h => h) (Nat.le_succ _) (Nat.le_refl _), iC_mark gC rfl, iN_m gN ⟨rfl, rfl⟩, by omega, g5, by omega⟩⟩
    show g_ser M ≤ _
    omega
