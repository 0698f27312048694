/-! THE CLASS SETTLES A TRANSACTION -/
def e_ex (n : Nat) (E F : e_S) : Prop := ∀ c m, m ≤ n → r_val c m F.2.1 = r_val c m E.2.1
theorem ex_refl (n : Nat) (E : e_S) : e_ex n E E := fun _ _ _ => rfl
theorem ex_trans {n : Nat} {E F K : e_S} (a : e_ex n E F) (b : e_ex n F K) : e_ex n E K := fun c m h => (b c m h).trans (a c m h)
theorem ex_put (n c : Nat) (o : Option Int32) (E : e_S) : e_ex n E (e_put (n + 1) c o E) := fun d m h => by
  show r_val d m ((E.2.1.length, c, n + 1, o) :: E.2.1) = _
  rw [r_val_cons, if_neg (fun z => by have : n + 1 ≤ m := z.2; omega)]
theorem ex_pus (n : Nat) : ∀ (X : List (Nat × Option Int32)) (L : List k_E4) (c m : Nat), m ≤ n → r_val c m (r_pus (n + 1) X L) = r_val c m L := by
  intro X
  induction X with
  | nil => exact fun L c m _ => rfl
  | cons x X ih =>
    intro L c m h
    show r_val c m (r_pus (n + 1) X (r_pu (n + 1) L x)) = _
    rw [ih _ c m h]
    show r_val c m ((L.length, x.1, n + 1, x.2) :: L) = _
    rw [r_val_cons, if_neg (fun z => by have : n + 1 ≤ m := z.2; omega)]
theorem ex_clr (n lo hi : Nat) (E : e_S) : e_ex n E (e_clr (n + 1) lo hi E) := fun d m h => ex_pus n _ _ d m h
theorem ex_do (n : Nat) (E : e_S) (x : k_CH) : e_ex n E (e_do (n + 1) E x) := by
  unfold e_do
  split
  · split
    · exact ex_clr _ _ _ _
    · exact ex_put _ _ _ _
  · exact ex_refl _ _
theorem ex_st (n : Nat) (E : e_S) (x : k_CH) : e_ex n E (e_st (n + 1) E x) := by
  unfold e_st
  split
  · exact ex_put _ _ _ _
  · exact ex_refl _ _
theorem ex_fold {n : Nat} {A : Type} (f : e_S → A → e_S) (hf : ∀ E x, e_ex n E (f E x)) : ∀ (X : List A) (E : e_S), e_ex n E (X.foldl f E) := by
  intro X
  induction X with
  | nil => exact fun E => ex_refl _ _
  | cons x X ih => exact fun E => ex_trans (hf E x) (ih _)
theorem ex_all (n : Nat) (MC : List k_CH) (E : e_S) : e_ex n E (e_all (n + 1) MC E) := ex_trans (ex_fold _ (ex_do n) MC E) (ex_fold _ (ex_st n) MC _)
/-- changes that are gone do nothing -/
theorem mc_do (n : Nat) : ∀ (CX : List k_CX) (E : e_S), (CX.map (fun y => y.1)).foldl (e_do n) E = (c_mc CX).foldl (e_do n) E := by
  intro CX
  induction CX with
  | nil => exact fun _ => rfl
  | cons y t ih =>
    intro E
    by_cases e : y.1.2.1 = 7
    · have e1 : c_mc (y :: t) = c_mc t := by unfold c_mc; rw [List.filter_cons_of_neg (by simp [e])]
      rw [e1, ← ih]
      show (t.map (fun y => y.1)).foldl (e_do n) (e_do n E y.1) = _
      congr 1
      unfold e_do
      rw [if_neg (by unfold s_ord; rw [e]; decide)]
    · have e1 : c_mc (y :: t) = (y.2, y.1.2) :: c_mc t := by unfold c_mc; rw [List.filter_cons_of_pos (by simp [e]), List.map_cons]
      rw [e1, List.foldl_cons, ← ih]
      rfl
theorem mc_st (n : Nat) : ∀ (CX : List k_CX) (E : e_S), (CX.map (fun y => y.1)).foldl (e_st n) E = (c_mc CX).foldl (e_st n) E := by
  intro CX
  induction CX with
  | nil => exact fun _ => rfl
  | cons y t ih =>
    intro E
    by_cases e : y.1.2.1 = 7
    · have e1 : c_mc (y :: t) = c_mc t := by unfold c_mc; rw [List.filter_cons_of_neg (by simp [e])]
      rw [e1, ← ih]
      show (t.map (fun y => y.1)).foldl (e_st n) (e_st n E y.1) = _
      congr 1
      unfold e_st
      rw [if_neg (by rw [e]; decide)]
    · have e1 : c_mc (y :: t) = (y.2, y.1.2) :: c_mc t := by unfold c_mc; rw [List.filter_cons_of_pos (by simp [e]), List.map_cons]
      rw [e1, List.foldl_cons, ← ih]
      rfl
/-- the changes stay while the store moves -/
theorem cs_sto {a o aL cap n S : Nat} {h h' : k_H} {E : e_S} {Q : List k_K2} {CS : List k_CH} (c : r_cs h aL cap CS) (s : c_sE a h E n Q S) (m : k_mo a [6, 7, 11] (c_A5 a) o h h') (hL : ¬ c_A5 a aL) : r_cs h' aL cap CS :=
  ⟨m.1 _ _ c.1 hL (fun ci fs e => by cases e), fun x hx => ⟨m.1 _ _ (c.2.1 x hx).1 (sE_A5 s (c.2.1 x hx).1 (by decide)) (fun ci fs e => by cases e; decide), (c.2.1 x hx).2⟩, c.2.2⟩
section CST2
variable {G : k_G} {l : Launch}
theorem C_settle (ok : k_ok G l) {a t N w : Nat} {B : Nat × Nat} {h : k_H} {M : s_M} (W : c_W a B h M N w) (ht : t < 4) (hb : (g_X M t).1.1 = true) (hn : g_n M + 1 < 9000) (hlim : e_lim (e_all (g_n M + 1) (g_X M t).2.1 (g_E M))) (hpk : g_pk M) (h0 : g_p0 M) (hps : g_ps M (e_all (g_n M + 1) (g_X M t).2.1 (g_E M))) :
    k_ctv (tX11_settle G l) [vR (some a), vR (some (a + c_T t))] h (fun h' => c_W a B h' (g_tx (g_cm M (e_all (g_n M + 1) (g_X M t).2.1 (g_E M))) t (g_dn (g_X M t) (g_n M + 1))) (N + g_sp M (e_all (g_n M + 1) (g_X M t).2.1 (g_E M))) w) := by
  obtain ⟨Q, S, PS, s, r, p, co⟩ := W
  obtain ⟨r1, r2, r3, -⟩ := id r
  obtain ⟨f0, f1, f2, f3, f4, f5, o11⟩ := sE_obj s
  obtain ⟨CXf, x1, -⟩ := r1
  obtain ⟨RS, cap, capR, kept, o1, ⟨c1, c2, c3⟩, c4⟩ := x1 t ht
  obtain ⟨⟨d0, d1⟩, ⟨d2, d3⟩, -⟩ := c4 hb
  have hT := c_T_lt ht
  have nL : ¬ c_A5 a (a + (c_T t + 1)) := fun z => by rcases z with z | z | z | z <;> omega
  have nT : ¬ c_A5 a (a + c_T t) := fun z => by rcases z with z | z | z | z <;> omega
  have eall : e_all (g_n M + 1) ((CXf t).map (fun y => y.1)) (g_E M) = e_all (g_n M + 1) (g_X M t).2.1 (g_E M) := by
    unfold e_all
    rw [mc_st, mc_do, ← d0]
  refine k_ctv_of (eX11_settle ok.2 (bX11_settle_0 r3 rfl (k_is_o o11) (c_E_advance ok (m := 1) s (by omega)) ?_))
  rintro h1 ⟨s1, m1⟩
  have q1 := rs_sto r s m1
  have co1 : c_co a B h1 (S + N) := co_le (co_mo co m1) (Nat.le_refl _)
  have ot1 := m1.1 _ _ o1 nT (fun ci fs e => by cases e; decide)
  have cs1 := cs_sto c1 s m1 nL
  have wc : ∀ x ∈ (CXf t).map (fun y => y.1), c_wc x := fun x hx => by
    obtain ⟨y, hy, rfl⟩ := List.mem_map.mp hx
    exact (d3 y hy).2
  have hCl : ((CXf t).map (fun y => y.1)).length < 2 ^ 18 := c1.2.2
  generalize hCS : (CXf t).map (fun y => y.1) = CS at cs1 wc hCl eall
  refine bX11_settle_8 ?_
  -- behind the second loop
  have tail : ∀ (hh : k_H) (S' : Nat), c_sE a hh (e_all (g_n M + 1) CS (g_E M)) (g_n M + 1) Q S' → c_rs a hh M Q w PS → c_co a B hh (S' + N) →
      k_X (jX11_settle G l h) hh 82 [(0, vR (some a)), (1, vR (some (a + c_T t)))] [] (q_v (fun h' => c_W a B h' (g_tx (g_cm M (e_all (g_n M + 1) (g_X M t).2.1 (g_E M))) t (g_dn (g_X M t) (g_n M + 1))) (N + g_sp M (e_all (g_n M + 1) (g_X M t).2.1 (g_E M))) w)) := by
    intro hh S' s2 q2 co2
    rw [eall] at s2
    obtain ⟨f0, f1, f2, f3, f4, f5, o11⟩ := sE_obj s2
    obtain ⟨y1, y2, y3, -⟩ := id q2
    obtain ⟨CXg, z1, z2, z3, z4⟩ := id y1
    obtain ⟨RS, cap, capR, kept, o1, ⟨c1, c2, c3⟩, c4⟩ := id (z1 t ht)
    refine bX11_settle_82 y3 rfl o11 rfl o1 rfl ?_
    generalize hg : k_up hh (a + c_T t) _ = h3
    have m3 : k_mo a [] (c_At a t) 0 hh h3 := by rw [← hg]; exact mv_o o1 (Or.inr (Or.inl rfl))
    have o3 : h3.1 (a + c_T t) = some (k_o 12 [vR (some (a + (c_T t + 1))), vR (some (a + (c_T t + 2))), vI (kB (X_up (g_X M) t (g_dn (g_X M t) (g_n M + 1)) t).1.1), vI (kB (g_X M t).1.2.1), vI (nI (g_X M t).1.2.2.1), vI (nI (g_X M t).1.2.2.2.1), vI (c_dn (g_n M + 1)), vI (nI kept)]) := by
      rw [← hg, k_up_self]
      have e1 : c_dn (g_n M + 1) = nI (g_n M + 1) := by unfold c_dn; rw [if_neg (by omega)]
      have e2 : X_up (g_X M) t (g_dn (g_X M t) (g_n M + 1)) t = g_dn (g_X M t) (g_n M + 1) := by unfold X_up; rw [if_pos rfl]
      rw [e1, e2]
      rfl
    have ne : ∀ q c, hh.1 q = some c → q ≠ a + c_T t → h3.1 q = some c := fun q c hq hne => by rw [← hg, k_up_ne _ _ hne]; exact hq
    have x3 : c_TX a h3 (X_up (g_X M) t (g_dn (g_X M t) (g_n M + 1))) (g_ser M) w := by
      refine TX_one z1 z2 z3 z4 ht m3 (CX' := CXg t) (x' := g_dn (g_X M t) (g_n M + 1)) ⟨RS, cap, capR, kept, ?_, ⟨⟨ne _ _ c1.1 (by omega), fun y hy => ⟨?_, (c1.2.1 y hy).2⟩, c1.2.2⟩, ⟨ne _ _ c2.1 (by omega), fun y hy => ⟨?_, (c2.2.1 y hy).2⟩, c2.2.2⟩, c3⟩, fun e => c4 hb⟩ (Nat.le_refl _) (Nat.le_refl _) (fun y hy => Or.inl ⟨y, hy, rfl⟩)
      · have e2 : X_up (g_X M) t (g_dn (g_X M t) (g_n M + 1)) t = g_dn (g_X M t) (g_n M + 1) := by unfold X_up; rw [if_pos rfl]
        rw [e2] at o3
        exact o3
      · have := (c1.2.1 y hy).1
        exact ne _ _ this (fun z => by rw [z, o1] at this; cases this)
      · have := (c2.2.1 y hy).1
        exact ne _ _ this (fun z => by rw [z, o1] at this; cases this)
    obtain ⟨s3, q3⟩ := rs_tx (M' := g_tx M t (g_dn (g_X M t) (g_n M + 1))) s2 q2 ht m3 (by simp) x3 ⟨rfl, rfl, rfl, rfl, rfl, rfl⟩
    have co3 : c_co a B h3 (S' + N) := co_le (co_mo co2 m3) (Nat.le_refl _)
    refine bX11_settle_93 (k_is_o q3.2.2.1) (C_close ok (M := g_tx M t (g_dn (g_X M t) (g_n M + 1))) s3 q3 p.1 co3 (fun c => ex_all _ _ _ c _ (Nat.le_refl _)) hlim hpk h0 hps) ?_
    rintro h4 W4
    exact bX11_settle_97 ⟨rfl, W4⟩
  have loop2 : ∀ (todo pre : List k_CH) (hh : k_H) (E : e_S) (S' : Nat), CS = pre ++ todo → todo.foldl (e_st (g_n M + 1)) E = e_all (g_n M + 1) CS (g_E M) → c_sE a hh E (g_n M + 1) Q S' → c_rs a hh M Q w PS → c_co a B hh (S' + N) → r_cs hh (a + (c_T t + 1)) cap CS → (∃ fs, hh.1 (a + c_T t) = some (k_o 12 fs) ∧ fs[0]? = some (vR (some (a + (c_T t + 1))))) →
      k_X (jX11_settle G l h) hh 47 [(0, vR (some a)), (1, vR (some (a + c_T t))), (2, vI (nI pre.length))] [] (q_v (fun h' => c_W a B h' (g_tx (g_cm M (e_all (g_n M + 1) (g_X M t).2.1 (g_E M))) t (g_dn (g_X M t) (g_n M + 1))) (N + g_sp M (e_all (g_n M + 1) (g_X M t).2.1 (g_E M))) w)) := by
    intro todo
    induction todo with
    | nil =>
      rintro pre hh E S' hp hE s2 q2 co2 cs2 ⟨fs, ot, g0⟩
      rw [List.append_nil] at hp
      subst hp
      refine bX11_settle_47 ot g0 (Or.inr ⟨rfl, _, _, cs2.1⟩) (c_size ok cs2.1) ?_
      rintro _ _ ⟨hh2, rfl⟩
      rw [hh2, List.length_map]
      refine bX11_settle_55 (fun _ => ?_) (fun c => absurd (nI_le (Nat.le_refl _) (by omega)) c)
      rw [← hE] at tail
      exact tail hh S' s2 q2 co2
    | cons x todo ih =>
      rintro pre hh E S' hp hE s2 q2 co2 cs2 ⟨fs, ot, g0⟩
      have hlt : pre.length < CS.length := by rw [hp, List.length_append, List.length_cons]; omega
      have hx : (CS.map (fun x => x.1))[pre.length]? = some x.1 := by rw [hp]; simp
      have hxm : x ∈ CS := by rw [hp]; simp
      obtain ⟨w1, w2, w3, w4, w5⟩ := wc x hxm
      obtain ⟨f0, f1, f2, f3, f4, f5, o11⟩ := sE_obj s2
      have hxo := (cs2.2.1 x hxm).1
      refine bX11_settle_47 ot g0 (Or.inr ⟨rfl, _, _, cs2.1⟩) (c_size ok cs2.1) ?_
      rintro _ _ ⟨hh2, rfl⟩
      rw [hh2, List.length_map]
      refine bX11_settle_55 (fun c => absurd c (nI_ge hlt (by omega))) (fun _ => ?_)
      refine bX11_settle_58 q2.2.2.1 rfl ot g0 (Or.inr ⟨rfl, _, _, cs2.1⟩) (c_get ok cs2.1 hx) ?_
      rintro _ _ ⟨hh2, rfl⟩
      rw [hh2]
      have hlim2 : e_lim (e_st (g_n M + 1) E x) := by
        rw [← eall, ← hE] at hlim
        exact e_lim_le hlim (e_le_sts _ todo _)
      refine bX11_settle_70 hxo (k_is_o o11) (c_E_applyStamped ok s2 hxo (by omega) hn w4 hlim2) ?_
      rintro h3 ⟨S3, s3, hS3, m3⟩
      have q3 := rs_sto q2 s2 m3
      refine bX11_settle_76 ?_
      rw [nI_1]
      have := ih (pre ++ [x]) h3 (e_st (g_n M + 1) E x) S3 (by rw [hp]; simp) hE s3 q3 (co_le (co_mo co2 m3) (by omega)) (cs_sto cs2 s2 m3 nL) ⟨fs, m3.1 _ _ ot nT (fun ci fs e => by cases e; decide), g0⟩
      rw [List.length_append, List.length_singleton] at this
      exact this
  have loop1 : ∀ (todo pre : List k_CH) (hh : k_H) (E : e_S) (S' : Nat), CS = pre ++ todo → todo.foldl (e_do (g_n M + 1)) E = CS.foldl (e_do (g_n M + 1)) (g_E M) → c_sE a hh E (g_n M + 1) Q S' → c_rs a hh M Q w PS → c_co a B hh (S' + N) → r_cs hh (a + (c_T t + 1)) cap CS → (∃ fs, hh.1 (a + c_T t) = some (k_o 12 fs) ∧ fs[0]? = some (vR (some (a + (c_T t + 1))))) →
      k_X (jX11_settle G l h) hh 10 [(0, vR (some a)), (1, vR (some (a + c_T t))), (2, vI (nI pre.length))] [] (q_v (fun h' => c_W a B h' (g_tx (g_cm M (e_all (g_n M + 1) (g_X M t).2.1 (g_E M))) t (g_dn (g_X M t) (g_n M + 1))) (N + g_sp M (e_all (g_n M + 1) (g_X M t).2.1 (g_E M))) w)) := by
    intro todo
    induction todo with
    | nil =>
      rintro pre hh E S' hp hE s2 q2 co2 cs2 ⟨fs, ot, g0⟩
      rw [List.append_nil] at hp
      have hpl : pre.length = CS.length := by rw [hp]
      refine bX11_settle_10 ot g0 (Or.inr ⟨rfl, _, _, cs2.1⟩) (c_size ok cs2.1) ?_
      rintro _ _ ⟨hh2, rfl⟩
      rw [hh2, List.length_map]
      refine bX11_settle_18 (fun _ => bX11_settle_45 ?_) (fun c => absurd (nI_le (Nat.le_of_eq hpl.symm) (by omega)) c)
      exact loop2 CS [] hh E S' rfl (by unfold e_all; rw [← hE]; rfl) s2 q2 co2 cs2 ⟨fs, ot, g0⟩
    | cons x todo ih =>
      rintro pre hh E S' hp hE s2 q2 co2 cs2 ⟨fs, ot, g0⟩
      have hlt : pre.length < CS.length := by rw [hp, List.length_append, List.length_cons]; omega
      have hx : (CS.map (fun x => x.1))[pre.length]? = some x.1 := by rw [hp]; simp
      have hxm : x ∈ CS := by rw [hp]; simp
      obtain ⟨w1, w2, w3, w4, w5⟩ := wc x hxm
      obtain ⟨f0, f1, f2, f3, f4, f5, o11⟩ := sE_obj s2
      have hxo := (cs2.2.1 x hxm).1
      refine bX11_settle_10 ot g0 (Or.inr ⟨rfl, _, _, cs2.1⟩) (c_size ok cs2.1) ?_
      rintro _ _ ⟨hh2, rfl⟩
      rw [hh2, List.length_map]
      refine bX11_settle_18 (fun c => absurd c (nI_ge hlt (by omega))) (fun _ => ?_)
      refine bX11_settle_21 q2.2.2.1 rfl ot g0 (Or.inr ⟨rfl, _, _, cs2.1⟩) (c_get ok cs2.1 hx) ?_
      rintro _ _ ⟨hh2, rfl⟩
      rw [hh2]
      have hlim2 : e_lim (e_do (g_n M + 1) E x) := by
        have h1 : e_le (e_do (g_n M + 1) E x) (e_all (g_n M + 1) CS (g_E M)) := by
          unfold e_all
          rw [← hE]
          exact e_le_trans (e_le_dos _ todo _) (e_le_sts _ CS _)
        rw [eall] at h1
        exact e_lim_le hlim h1
      refine bX11_settle_33 hxo (k_is_o o11) (c_E_applyInOrder ok s2 hxo w1 w2 w3 hlim2) ?_
      rintro h3 ⟨S3, s3, hS3, m3⟩
      have q3 := rs_sto q2 s2 m3
      refine bX11_settle_39 ?_
      rw [nI_1]
      have := ih (pre ++ [x]) h3 (e_do (g_n M + 1) E x) S3 (by rw [hp]; simp) hE s3 q3 (co_le (co_mo co2 m3) (by omega)) (cs_sto cs2 s2 m3 nL) ⟨fs, m3.1 _ _ ot nT (fun ci fs e => by cases e; decide), g0⟩
      rw [List.length_append, List.length_singleton] at this
      exact this
  exact loop1 CS [] h1 (g_E M) S rfl rfl s1 q1 co1 cs1 ⟨_, ot1, rfl⟩
end CST2
