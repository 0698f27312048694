/-! THE CLASS'S STORE WRITES AND ALTERS -/
theorem k_up_cell {h : k_H} {q ci : Nat} {fs : List k_V} {p : Nat} {c : k_C} (ho : h.1 q = some (k_o ci fs)) (hp : h.1 p = some c) (hne : ∀ gs, c ≠ k_o ci gs) (d : k_C) : (k_up h q d).1 p = some c := by
  rw [k_up_ne _ _ (fun z => by subst z; rw [ho] at hp; exact hne fs (Option.some.inj hp).symm)]
  exact hp
theorem st_cell {a : Nat} {h : k_H} {KS : List k_K2} {L : List k_E4} {WS : List k_SP} {n : Nat} {z : Option Int32 × Bool} (hs : c_st a h KS L WS n z) : h.1 (a + 5) = some (o_cel z.1 z.2) := by
  obtain ⟨cK, cW, cH, xs, ka, ⟨s1, s2, s3, s4, s5⟩, -⟩ := hs
  exact s5
theorem st_obj {a : Nat} {h : k_H} {KS : List k_K2} {L : List k_E4} {WS : List k_SP} {n : Nat} {z : Option Int32 × Bool} (hs : c_st a h KS L WS n z) : h.1 (a + 1) = some (k_o 11 [vR (some (a + 2)), vR (some (a + 3)), vR (some (a + 4)), vR (some (a + 5)), vI (nI L.length), vR (L.head?.map (fun y => y.1)), vI (nI n)]) := by
  obtain ⟨cK, cW, cH, xs, ka, ⟨s1, s2, s3, s4, s5⟩, -⟩ := hs
  exact s1
/-- the store's cell changes -/
theorem st_setcell {a : Nat} {h : k_H} {KS : List k_K2} {L : List k_E4} {WS : List k_SP} {n : Nat} {z : Option Int32 × Bool} (hs : c_st a h KS L WS n z) (y : Option Int32 × Bool) : c_st a (k_up h (a + 5) (o_cel y.1 y.2)) KS L WS n y ∧ k_mo a [] (fun q => q = a + 5) 0 h (k_up h (a + 5) (o_cel y.1 y.2)) := by
  obtain ⟨cK, cW, cH, xs, ka, ⟨s1, s2, s3, s4, s5⟩, ⟨t1, t2, t3, t4⟩, tL, tW, tn, ta, tw⟩ := hs
  have m : k_mo a [] (fun q => q = a + 5) 0 h (k_up h (a + 5) (o_cel y.1 y.2)) := mv_o s5 (Or.inr rfl)
  have n1 : ∀ p c, h.1 p = some c → (∀ gs, c ≠ k_o 3 gs) → (k_up h (a + 5) (o_cel y.1 y.2)).1 p = some c := fun p c hp hne => k_up_cell s5 hp hne _
  refine ⟨⟨cK, cW, cH, xs, ka, ⟨n1 _ _ s1 (fun gs e => by cases e), n1 _ _ s2 (fun gs e => by cases e), n1 _ _ s3 (fun gs e => by cases e), n1 _ _ s4 (fun gs e => by cases e), k_up_self _ _ _⟩, ⟨⟨fun x hx => ⟨(t1.1 x hx).1, n1 _ _ (t1.1 x hx).2 (fun gs e => by cases e)⟩, t1.2⟩, t2, r_log_keep6 (fun q fs hq => n1 _ _ hq (fun gs e => by cases e)) t3, t4⟩, tL, fun x hx => ⟨n1 _ _ (tW x hx).1 (fun gs e => by cases e), (tW x hx).2⟩, tn, ta, wf_up tw s5⟩, m⟩
theorem st_setcell_h {a : Nat} {h h' : k_H} {KS : List k_K2} {L : List k_E4} {WS : List k_SP} {n : Nat} {z : Option Int32 × Bool} (hs : c_st a h KS L WS n z) (y : Option Int32 × Bool) (e : h' = k_up h (a + 5) (o_cel y.1 y.2)) : c_st a h' KS L WS n y ∧ k_mo a [] (fun q => q = a + 5) 0 h h' := by
  subst e
  exact st_setcell hs y
section CAL
variable {G : k_G} {l : Launch}
theorem c_S_write (ok : k_ok G l) {a : Nat} {h : k_H} {KS : List k_K2} {L : List k_E4} {WS : List k_SP} {n c k : Nat} {z : Option Int32 × Bool} (hs : c_st a h KS L WS n z) (hk : (c, k) ∈ KS) (hL : L.length < 1048576) :
    k_ctv (tX8_write G l) [vR (some (a + 1)), vR (some k), vR (some (a + 5))] h (fun h' => ∃ L', c_st a h' KS L' WS n z ∧ w_lg c n z.1 L L' ∧ k_mo a [6, 7, 11] (fun _ => False) (L'.length - L.length) h h') := by
  obtain ⟨cK, cW, cH, xs, ka, ⟨s1, s2, s3, s4, s5⟩, ⟨t1, t2, t3, t4⟩, ⟨l1, l2, l3⟩, tW, tn, ta, tw⟩ := id hs
  have hkc := (t1.1 _ hk).2
  have hka : ka c = k := t4 _ hk
  by_cases hcase : ∃ x, L.find? (fun x => x.2.1 == c) = some x ∧ x.2.2.1 = n
  · obtain ⟨x, hx, hv⟩ := hcase
    have hxm := List.mem_of_find?_eq_some hx
    have hxc : x.2.1 = c := by have := List.find?_some hx; simpa using this
    obtain ⟨h', t, b, e, he, rfl⟩ := c_X8_writeS ok s1 s5 hkc t3 hx hv
    have n1 : ∀ p d, h.1 p = some d → (∀ gs, d ≠ k_o 6 gs) → (k_up h x.1 (o_ent (ka x.2.1) x.2.2.1 b e z.1)).1 p = some d := fun p d hp hne => k_up_cell he hp hne _
    have elen : (r_set x.1 z.1 L).length = L.length := List.length_map _
    have ehd := r_set_head x.1 z.1 L
    refine ⟨_, t, r_set x.1 z.1 L, ⟨cK, cW, cH, xs, ka, ⟨?_, n1 _ _ s2 (fun gs e => by cases e), n1 _ _ s3 (fun gs e => by cases e), n1 _ _ s4 (fun gs e => by cases e), n1 _ _ s5 (fun gs e => by cases e)⟩, ⟨ks_set he t1, fun y hy => ?_, log_set he t3, t4⟩, ⟨fun y hy => ?_, ?_, ?_⟩, fun y hy => ⟨n1 _ _ (tW y hy).1 (fun gs e => by cases e), (tW y hy).2⟩, tn, ta, wf_up tw he⟩, w_lg_set l3 hx hv, ?_⟩
    · rw [elen, ehd]
      exact n1 _ _ s1 (fun gs e => by cases e)
    · obtain ⟨w, hw, rfl⟩ := List.mem_map.mp hy
      rw [r_st1_c]
      exact t2 w hw
    · obtain ⟨w, hw, rfl⟩ := List.mem_map.mp hy
      rw [r_st1_v]
      exact l1 w hw
    · unfold r_set
      rw [List.pairwise_map]
      exact l2.imp (fun h => by rw [r_st1_v, r_st1_v]; exact h)
    · unfold r_set
      rw [List.pairwise_map]
      exact l3.imp (fun h => by rw [r_st1_a, r_st1_a]; exact h)
    · rw [elen, Nat.sub_self]
      exact mv_o he (Or.inl (by simp))
  · have hx : ∀ x, L.find? (fun x => x.2.1 == c) = some x → x.2.2.1 ≠ n ∧ x.2.2.1 < 2 ^ 31 := fun x hx => ⟨fun e => hcase ⟨x, hx, e⟩, by have := l1 x (List.mem_of_find?_eq_some hx); omega⟩
    obtain ⟨h', t, e⟩ := c_X8_writeN ok tw s1 s5 hkc t3 hx (by omega) hL
    have eN : h' = h_new h (a + 1) k c n L.length (r_fst c L) (L.head?.map (fun y => y.1)) z.1 (vR (some (a + 2))) (vR (some (a + 3))) (vR (some (a + 4))) (vR (some (a + 5))) := e
    have hknew : k ≠ h.2.1 := fun e9 => by have := tw _ _ hkc; omega
    have hk1 : k ≠ a + 1 := fun e9 => by rw [e9, s1] at hkc; cases hkc
    have n1 : ∀ p d, h.1 p = some d → (∀ gs, d ≠ k_o 7 gs) → (∀ gs, d ≠ k_o 11 gs) → h'.1 p = some d := fun p d hp h7 h11 => by
      rw [eN, h_new_ne (fun e9 => by rw [e9, s1] at hp; exact h11 _ (Option.some.inj hp).symm) (fun e9 => by rw [e9, hkc] at hp; exact h7 _ (Option.some.inj hp).symm) (fun e9 => by have := tw _ _ hp; omega)]
      exact hp
    have hlog := log_new (s := a + 1) (n := n) (en := L.length) (o := z.1) (f0 := vR (some (a + 2))) (f1 := vR (some (a + 3))) (f2 := vR (some (a + 4))) (f3 := vR (some (a + 5))) tw s1 hkc hka t3
    have hks := ks_new (s := a + 1) (n := n) (en := L.length) (p := r_fst c L) (nw := L.head?.map (fun y => y.1)) (o := z.1) (f0 := vR (some (a + 2))) (f1 := vR (some (a + 3))) (f2 := vR (some (a + 4))) (f3 := vR (some (a + 5))) tw s1 hk t1
    rw [← eN] at hlog hks
    have hs1 : h'.1 (a + 1) = some (k_o 11 [vR (some (a + 2)), vR (some (a + 3)), vR (some (a + 4)), vR (some (a + 5)), vI (nI (L.length + 1)), vR (some h.2.1), vI (nI n)]) := by
      rw [e, k_up_ne _ _ (by omega), k_up_self]
    have mv : k_mo a [6, 7, 11] (fun _ => False) 1 h h' := by
      rw [e]
      have w1 : k_wf (k_nw h 6 (k_o 6 [vR (some k), vI (nI n), vR (r_fst c L), vR (L.head?.map (fun y => y.1)), vI 0, vI 0])) := wf_nw tw
      have m1 : k_mo a [6, 7, 11] (fun _ => False) 1 h (k_nw h 6 (k_o 6 [vR (some k), vI (nI n), vR (r_fst c L), vR (L.head?.map (fun y => y.1)), vI 0, vI 0])) := mv_nw tw ta (Nat.le_refl _)
      have hk9 : (k_nw h 6 (k_o 6 [vR (some k), vI (nI n), vR (r_fst c L), vR (L.head?.map (fun y => y.1)), vI 0, vI 0])).1 k = some (o_key c L) := nw_old tw hkc
      have m2 := mv_o (a := a) (K := [6, 7, 11]) (A := fun _ => False) (fs' := [vJ (lN c), vR (some h.2.1)]) hk9 (Or.inl (by simp))
      have hs9 : (k_up (k_nw h 6 (k_o 6 [vR (some k), vI (nI n), vR (r_fst c L), vR (L.head?.map (fun y => y.1)), vI 0, vI 0])) k (k_o 7 [vJ (lN c), vR (some h.2.1)])).1 (a + 1) = some (k_o 11 [vR (some (a + 2)), vR (some (a + 3)), vR (some (a + 4)), vR (some (a + 5)), vI (nI L.length), vR (L.head?.map (fun y => y.1)), vI (nI n)]) := by
        rw [k_up_ne _ _ (Ne.symm hk1)]
        exact nw_old tw s1
      have m3 := mv_o (a := a) (K := [6, 7, 11]) (A := fun _ => False) (fs' := [vR (some (a + 2)), vR (some (a + 3)), vR (some (a + 4)), vR (some (a + 5)), vI (nI (L.length + 1)), vR (some h.2.1), vI (nI n)]) hs9 (Or.inl (by simp))
      have he9 : (k_up (k_up (k_nw h 6 (k_o 6 [vR (some k), vI (nI n), vR (r_fst c L), vR (L.head?.map (fun y => y.1)), vI 0, vI 0])) k (k_o 7 [vJ (lN c), vR (some h.2.1)])) (a + 1) (k_o 11 [vR (some (a + 2)), vR (some (a + 3)), vR (some (a + 4)), vR (some (a + 5)), vI (nI (L.length + 1)), vR (some h.2.1), vI (nI n)])).1 h.2.1 = some (k_o 6 [vR (some k), vI (nI n), vR (r_fst c L), vR (L.head?.map (fun y => y.1)), vI 0, vI 0]) := by
        rw [k_up_ne _ _ (by omega), k_up_ne _ _ (Ne.symm hknew), k_nw_self]
      have m4 := mv_o (a := a) (K := [6, 7, 11]) (A := fun _ => False) (fs' := [vR (some k), vI (nI n), vR (r_fst c L), vR (L.head?.map (fun y => y.1)), vI (kB z.1.isSome), vI (z.1.getD 0)]) he9 (Or.inl (by simp))
      exact mv_mono (mv_trans (mv_trans (mv_trans m1 m2) m3) m4) (fun _ h => h) (fun _ h => h) (by omega)
    refine ⟨_, t, (h.2.1, c, n, z.1) :: L, ⟨cK, cW, cH, xs, ka, ⟨hs1, n1 _ _ s2 (fun gs e => by cases e) (fun gs e => by cases e), n1 _ _ s3 (fun gs e => by cases e) (fun gs e => by cases e), n1 _ _ s4 (fun gs e => by cases e) (fun gs e => by cases e), n1 _ _ s5 (fun gs e => by cases e) (fun gs e => by cases e)⟩, ⟨hks, fun y hy => ?_, hlog, t4⟩, ⟨fun y hy => ?_, List.pairwise_cons.mpr ⟨fun y hy => l1 y hy, l2⟩, List.pairwise_cons.mpr ⟨fun y hy e9 => ?_, l3⟩⟩, fun y hy => ⟨n1 _ _ (tW y hy).1 (fun gs e => by cases e) (fun gs e => by cases e), (tW y hy).2⟩, tn, Nat.le_trans ta mv.2.2.1, mv.2.1 tw⟩, w_lg_new, ?_⟩
    · rcases List.mem_cons.mp hy with rfl | hy
      · exact ⟨k, hk⟩
      · exact t2 y hy
    · rcases List.mem_cons.mp hy with rfl | hy
      · exact Nat.le_refl _
      · exact l1 y hy
    · obtain ⟨b, e8, he8⟩ := r_log_mem t3 hy
      have := tw _ _ he8
      have e7 : h.2.1 = y.1 := e9
      omega
    · rw [List.length_cons, Nat.add_sub_cancel_left]
      exact mv
theorem r_fst_ok {h : k_H} {ka : Nat → Nat} {L : List k_E4} (hL : r_log h ka L) (c : Nat) : (r_fst c L = none ∧ r_now c L = none) ∨ (∃ a k v b e, r_fst c L = some a ∧ h.1 a = some (o_ent k v b e (r_now c L))) := now_ok hL c
theorem c_S_alter (ok : k_ok G l) {a : Nat} {h : k_H} {KS : List k_K2} {L : List k_E4} {WS : List k_SP} {n c : Nat} {z : Option Int32 × Bool} {kd g : Int32} (hs : c_st a h KS L WS n z) (hc : c < 1331000000000) (hb : KS.length ≤ 12600) (hL : L.length < 1048576) :
    k_ctv (tX8_alter G l) [vR (some (a + 1)), vI kd, vJ (lN c), vI g] h (fun h' => ∃ k L' z', c_st a h' (c_ins c k KS) L' WS n z' ∧ w_lg c n (s_apO kd g (nI n) (r_val c n L)) L L' ∧ k_mo a [6, 7, 11] (fun q => q = a + 2 ∨ q = a + 5) ((c_ins c k KS).length + L'.length - (KS.length + L.length)) h h') := by
  refine k_ctv_of (eX8_alter ok.2 (bX8_alter_0 (k_is_o (st_obj hs)) (c_S_keyFor ok hs hc hb) ?_))
  rintro h1 _ ⟨k, rfl, hs1, hk, m1⟩
  obtain ⟨cK, cW, cH, xs, ka, ⟨s1, s2, s3, s4, s5⟩, ⟨t1, t2, t3, t4⟩, ⟨l1, l2, l3⟩, tW, tn, ta, tw⟩ := id hs1
  have hkc := (t1.1 _ hk).2
  refine bX8_alter_5 (fun e => by cases e) (fun x e => ?_)
  cases e
  refine bX8_alter_12 s1 rfl hkc rfl (k_is_o s5) (c_X0_load ok s5 (o := r_now c L) (r_fst_ok t3 c)) ?_
  rintro h2 e2
  obtain ⟨hs2, m2⟩ := st_setcell_h hs1 (r_now c L, false) e2
  refine bX8_alter_24 (st_obj hs2) rfl rfl (k_is_o (st_cell hs2)) (c_X0_apply ok (st_cell hs2)) ?_
  rintro h3 e3
  rw [o_cel_ap] at e3
  obtain ⟨hs3, m3⟩ := st_setcell_h hs2 (s_apO kd g (nI n) (r_now c L), s_apS kd false) e3
  refine bX8_alter_38 (st_obj hs3) rfl (c_S_write ok hs3 hk hL) ?_
  rintro h4 ⟨L', hs4, hw, m4⟩
  have en : r_now c L = r_val c n L := r_now_val l1
  rw [en] at hw
  have lk := c_ins_le c k KS
  have ll := hw.2.2
  refine bX8_alter_48 ⟨rfl, k, L', _, hs4, hw, ?_⟩
  have m12 := mv_trans (mv_mono m1 (K' := [6, 7, 11]) (A' := fun q => q = a + 2 ∨ q = a + 5) (fun _ h => by cases h) (fun q h => Or.inl h) (Nat.le_refl _)) (mv_mono m2 (fun _ h => by cases h) (fun q h => Or.inr h) (Nat.le_refl _))
  have m123 := mv_trans m12 (mv_mono m3 (fun _ h => by cases h) (fun q h => Or.inr h) (Nat.le_refl _))
  have m1234 := mv_trans m123 (mv_mono m4 (fun _ h => h) (fun q h => h.elim) (Nat.le_refl _))
  exact mv_mono m1234 (fun _ h => h) (fun _ h => h) (by omega)
end CAL
