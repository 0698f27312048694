/-! THE CLASS MAKES AND MOVES DIRECTORIES -/
theorem d_len {D : List s_D × Nat} (w : d_wf D) : D.1.length = d_many D.1 + 1 := by
  have h1 := d_ge_1 w
  have h2 : d_ge D.1 0 = D.1 := by
    unfold d_ge
    rw [List.filter_eq_self]
    intro d _
    simp
  have h3 := d_ge_take w.1 w.2.1
  rw [show ((0, none, 0, 0) : s_D).1 = 0 from rfl, h2, Nat.zero_add, h1] at h3
  have := congrArg List.length h3
  rw [List.length_cons, ← List.countP_eq_length_filter] at this
  exact this
theorem el_dir {h : k_H} {a : Nat} {fs : List k_V} (ho : h.1 a = some (k_o 5 fs)) : k_el h a := ⟨5, k_is_o ho, k_to rfl (by decide)⟩
theorem d_used_root {D : List s_D × Nat} (w : d_wf D) {n : Nat} (h : 0 < n) : d_used D.1 n = D.1.any (fun d => decide (d.2.2.2 = n)) := by
  unfold d_used
  rw [Bool.eq_iff_iff, List.any_eq_true, List.any_eq_true]
  constructor
  · rintro ⟨d, hd, hc⟩
    rw [Bool.and_eq_true] at hc
    exact ⟨d, hd, hc.2⟩
  · rintro ⟨d, hd, hc⟩
    refine ⟨d, hd, ?_⟩
    rw [hc, Bool.and_true]
    by_cases h0 : d.1 = 0
    · rw [d_root w hd h0] at hc
      simp at hc
      omega
    · simp [h0]
section CD2
variable {G : k_G} {l : Launch}
theorem c_hasShort (ok : k_ok G l) {a n : Nat} {h : k_H} {fs : List k_V} {D : List s_D × Nat} {da : Nat → Nat} (o14 : h.1 a = some (k_o 14 fs)) (g5 : fs[5]? = some (vR (some (a + 13)))) (dp : c_dp a h D.1 da) (hd : d_ok D) (hn : 0 < n ∧ n < 100) :
    k_cti (tX11_hasShortName G l) [vR (some a), vI (nI n)] h (fun h' v => h' = h ∧ v = kB (d_used D.1 n)) := by
  obtain ⟨⟨cap, b1⟩, b2, b3⟩ := dp
  obtain ⟨w, h1, h2, h3⟩ := hd
  rw [d_used_root w hn.1]
  refine k_cti_of (eX11_hasShortName ok.2 (bX11_hasShortName_0 ?_))
  have key : ∀ (todo pre : List s_D), D.1 = pre ++ todo → pre.any (fun d => decide (d.2.2.2 = n)) = false → k_X (jX11_hasShortName G l h) h 2 [(0, vR (some a)), (1, vI (nI n)), (2, vI (nI pre.length))] [] (q_i (fun h' v => h' = h ∧ v = kB (D.1.any (fun d => decide (d.2.2.2 = n))))) := by
    intro todo
    induction todo with
    | nil =>
      intro pre hp hf
      rw [List.append_nil] at hp
      have hpl : D.1.length = pre.length := by rw [hp]
      refine bX11_hasShortName_2 o14 g5 (Or.inr ⟨rfl, _, _, b1⟩) (c_size ok b1) ?_
      rintro _ _ ⟨hh, rfl⟩
      rw [hh, List.length_map]
      refine bX11_hasShortName_10 (fun _ => bX11_hasShortName_39 ⟨_, rfl, rfl, ?_⟩) (fun c => absurd (nI_le (Nat.le_of_eq hpl) (by omega)) c)
      rw [hp, hf]; rfl
    | cons y todo ih =>
      intro pre hp hf
      have hlt : pre.length < D.1.length := by rw [hp, List.length_append, List.length_cons]; omega
      have hy : (D.1.map (fun x => da x.1))[pre.length]? = some (da y.1) := by rw [hp]; simp
      have hym : y ∈ D.1 := by rw [hp]; simp
      have hy9 := (w.2.2.2.2 y hym).2
      refine bX11_hasShortName_2 o14 g5 (Or.inr ⟨rfl, _, _, b1⟩) (c_size ok b1) ?_
      rintro _ _ ⟨hh, rfl⟩
      rw [hh, List.length_map]
      refine bX11_hasShortName_10 (fun c => absurd c (nI_ge hlt (by omega))) (fun _ => ?_)
      refine bX11_hasShortName_13 o14 g5 (Or.inr ⟨rfl, _, _, b1⟩) (c_get ok b1 hy) ?_
      rintro _ _ ⟨hh, rfl⟩
      rw [hh]
      refine bX11_hasShortName_21 (b2 y hym) rfl (fun c => bX11_hasShortName_33 ?_) (fun c => bX11_hasShortName_31 ⟨_, rfl, rfl, ?_⟩)
      · rw [nI_1]
        have hne : ¬ y.2.2.2 = n := fun z => c (by rw [z])
        have := ih (pre ++ [y]) (by rw [hp]; simp) (by rw [List.any_append, hf]; simp [hne])
        rw [List.length_append, List.length_singleton] at this
        exact this
      · have c' := (nI_eq (by omega) (by omega)).mp c
        have : D.1.any (fun d => decide (d.2.2.2 = n)) = true := by
          rw [List.any_eq_true]
          exact ⟨y, hym, decide_eq_true c'⟩
        rw [this]; rfl
  exact key D.1 [] rfl rfl
theorem c_freeShort (ok : k_ok G l) {a : Nat} {h : k_H} {fs : List k_V} {D : List s_D × Nat} {da : Nat → Nat} (o14 : h.1 a = some (k_o 14 fs)) (g5 : fs[5]? = some (vR (some (a + 13)))) (dp : c_dp a h D.1 da) (hd : d_ok D) (hf : d_free D.1 12 1 ≤ 9) (hfk : d_fok D.1) :
    k_cti (tX11_freeShortName G l) [vR (some a)] h (fun h' v => h' = h ∧ v = nI (d_free D.1 12 1)) := by
  refine k_cti_of (eX11_freeShortName ok.2 (bX11_freeShortName_0 ?_))
  have key : ∀ (d n k : Nat), 9 - n = d → 0 < n → n ≤ 9 → 12 ≤ k + n → d_free D.1 12 1 = d_free D.1 k n → k_X (jX11_freeShortName G l h) h 2 [(0, vR (some a)), (1, vI (nI n))] [] (q_i (fun h' v => h' = h ∧ v = nI (d_free D.1 12 1))) := by
    intro d
    induction d with
    | zero =>
      intro n k hdn h0 h9 hk he
      have en : n = 9 := by omega
      subst en
      refine bX11_freeShortName_2 (fun c => absurd c (by decide)) (fun _ => bX11_freeShortName_8 (k_is_o o14) (c_hasShort ok o14 g5 dp hd ⟨by omega, by omega⟩) ?_)
      rintro _ _ ⟨hh, rfl⟩
      rw [hh]
      cases hu : d_used D.1 9 with
      | false =>
        refine bX11_freeShortName_13 (fun c => absurd rfl c) (fun _ => bX11_freeShortName_16 ⟨_, rfl, rfl, ?_⟩)
        have : d_free D.1 k 9 = 9 := by
          cases k with
          | zero => rfl
          | succ k => unfold d_free; rw [hu, if_neg (by decide)]
        rw [he, this]
      | true =>
        exfalso
        obtain ⟨k, rfl⟩ : ∃ k', k = k' + 1 := ⟨k - 1, by omega⟩
        have ge : ∀ (k n : Nat), n ≤ d_free D.1 k n := by
          intro k
          induction k with
          | zero => exact fun n => Nat.le_refl _
          | succ k ih =>
            intro n
            unfold d_free
            split
            · exact Nat.le_trans (Nat.le_succ n) (ih _)
            · exact Nat.le_refl _
        have : d_free D.1 (k + 1) 9 = d_free D.1 k 10 := by
          show (if d_used D.1 9 = true then d_free D.1 k (9 + 1) else 9) = _
          rw [hu, if_pos rfl]
        have := ge k 10
        omega
    | succ d ih =>
      intro n k hdn h0 h9 hk he
      refine bX11_freeShortName_2 (fun c => absurd ((nI_ltI (a := 9) (by omega) (by omega)).mp c) (by omega)) (fun _ => bX11_freeShortName_8 (k_is_o o14) (c_hasShort ok o14 g5 dp hd ⟨h0, by omega⟩) ?_)
      rintro _ _ ⟨hh, rfl⟩
      rw [hh]
      obtain ⟨k, rfl⟩ : ∃ k', k = k' + 1 := ⟨k - 1, by omega⟩
      cases hu : d_used D.1 n with
      | false =>
        refine bX11_freeShortName_13 (fun c => absurd rfl c) (fun _ => bX11_freeShortName_16 ⟨_, rfl, rfl, ?_⟩)
        have : d_free D.1 (k + 1) n = n := by unfold d_free; rw [hu, if_neg (by decide)]
        rw [he, this]
      | true =>
        refine bX11_freeShortName_13 (fun _ => bX11_freeShortName_18 ?_) (fun c => absurd c (by decide))
        rw [nI_1]
        have : d_free D.1 (k + 1) n = d_free D.1 k (n + 1) := by
          show (if d_used D.1 n = true then d_free D.1 k (n + 1) else n) = _
          rw [hu, if_pos rfl]
        exact ih (n + 1) k (by omega) (by omega) (by omega) (by omega) (by rw [he, this])
  exact key 8 1 12 rfl (by omega) (by omega) (by omega) rfl
theorem C_directory (ok : k_ok G l) {a N w : Nat} {B : Nat × Nat} {h : k_H} {M : s_M} {x nm : Int32} (W : c_W a B h M N w) (hd : d_ok (g_DS M)) (hlim : (g_DS M).2 < 1024) (hmany : d_many (g_DS M).1 ≤ 9) (hf : d_many (g_DS M).1 < 9 → d_free (g_DS M).1 12 1 ≤ 9 ∧ d_fok (g_DS M).1) : k_ct (tX11_directory G l) [vR (some a), vI x, vI nm] h (c_R a B (F_directory M x nm) x_3 (N + 1) w) := by
  obtain ⟨o14, -⟩ := W_ob W
  obtain ⟨da, dp⟩ := W_dp W
  refine eX11_directory ok.2 ?_
  cases hx : d_is (g_DS M) x with
  | false =>
    refine bX11_directory_0x (k_is_o o14) (c_dirAtX ok o14 rfl dp hd hx) ?_
    rintro _ rfl
    exact R_x (k := 1) (X := x_3) W (by unfold F_directory; rw [if_pos hx]) (by decide)
  | true =>
    obtain ⟨d, hm, he, ht, hfd, hc⟩ := c_dirAt ok o14 rfl dp hd hx
    refine bX11_directory_0 (k_is_o o14) hc ?_
    rintro _ _ ⟨hh, rfl⟩
    rw [hh]
    cases hn : s_inB nm 0 9 with
    | false =>
      refine bX11_directory_5x (x_X11_requireName ok (in9_not hn)) ?_
      rintro _ rfl
      exact R_x (k := 2) (X := x_3) W (by unfold F_directory; rw [if_neg (by rw [hx]; decide), if_pos hn]) (by decide)
    | true =>
      refine bX11_directory_5 (c_X11_requireName ok (in9 hn)) ?_
      rintro _ hh
      rw [hh]
      obtain ⟨w9, h91, h92, h93⟩ := id hd
      have hnmc := d_nm_ch hd ⟨d, hm, rfl⟩ nm
      have hlen := d_len w9
      have bad : (¬ d_nm (g_DS M).1 x nm = -2147483648 ∨ d_many (g_DS M).1 = 9) → k_X (jX11_directory G l h) h 31 [] [] (c_R a B (F_directory M x nm) x_3 (N + 1) w) := fun hc =>
        bX11_directory_31 (R_x (k := 3) (X := x_3) W (by unfold F_directory; rw [if_neg (by rw [hx]; decide), if_neg (by rw [hn]; decide), if_pos hc]) (by decide))
      refine bX11_directory_10 (k_is_o o14) (c_childOf ok o14 rfl dp hd ⟨d, hm, rfl⟩) ?_
      rintro _ _ ⟨hh, rfl⟩
      rw [hh]
      cases hch : d_ch (g_DS M).1 d.1 nm with
      | some c =>
        refine bX11_directory_16 (fun e => by cases e) (fun a' _ => bad (Or.inl ?_))
        rw [he, hnmc, hch]
        have := h92 c (d_ch_mem hch)
        exact wk_ne (by omega)
      | none =>
        have hnone : d_nm (g_DS M).1 x nm = -2147483648 := by rw [he, hnmc, hch]
        obtain ⟨⟨cap, b1⟩, b2, b3⟩ := id dp
        refine bX11_directory_16 (fun _ => bX11_directory_19 o14 rfl (Or.inr ⟨rfl, _, _, b1⟩) (c_size ok b1) ?_) (fun a' e => by cases e)
        rintro _ _ ⟨hh, rfl⟩
        rw [hh, List.length_map]
        refine bX11_directory_26 (fun c1 => ?_) (fun c1 => bad (Or.inr ?_))
        · have c1' : (g_DS M).1.length ≤ 9 := (nI_leI (b := 9) (by omega) (by omega)).mp c1
          obtain ⟨hf1, hf2⟩ := hf (by omega)
          obtain ⟨hnm1, hnm2⟩ := s_inN (m := 9) (by decide) hn
          have hF : F_directory M x nm = (g_dset M ((g_DS M).1 ++ [((g_DS M).2, some d.1, nm.toInt.toNat, d_free (g_DS M).1 12 1)], (g_DS M).2 + 1), 0, nI (g_DS M).2) := by
            unfold F_directory
            rw [if_neg (by rw [hx]; decide), if_neg (by rw [hn]; decide), if_neg (fun z => by rcases z with z | z; exact z hnone; omega), ht]
            rfl
          obtain ⟨Q, S, PS, s, r, p, co⟩ := id W
          obtain ⟨r1, r2, r3, r4, r5, r6, r7⟩ := id r
          have h0lt := h92 _ w9.2.1
          have hD2 : 0 < (g_DS M).2 := Nat.lt_of_le_of_lt (Nat.zero_le _) h0lt
          have efld : nI ((g_DS M).2 - 1) + 1 = nI (g_DS M).2 := by rw [nI_1, Nat.sub_add_cancel hD2]
          refine bX11_directory_41 o14 rfl rfl ?_
          rw [efld]
          have m1 : k_mo a [] (fun q => q = a ∨ q = a + 13) 0 h (k_up h a (k_o 14 (([vR (some (a + 1)), vR (some (a + 6)), vR (some (a + 10)), vR (some (a + 11)), vR (some (a + 12)), vR (some (a + 13)), vR (some (a + 14)), vR (some (a + 15)), vI (nI (g_MK M).length), vI (nI (g_gen M)), vI (nI (g_los M)), vI (g_why M), vI (nI ((g_DS M).2 - 1))] : List k_V).set 12 (vI (nI (g_DS M).2))))) := mv_o o14 (Or.inr (Or.inl rfl))
          have o1 : (k_up h a (k_o 14 (([vR (some (a + 1)), vR (some (a + 6)), vR (some (a + 10)), vR (some (a + 11)), vR (some (a + 12)), vR (some (a + 13)), vR (some (a + 14)), vR (some (a + 15)), vI (nI (g_MK M).length), vI (nI (g_gen M)), vI (nI (g_los M)), vI (g_why M), vI (nI ((g_DS M).2 - 1))] : List k_V).set 12 (vI (nI (g_DS M).2))))).1 a = some (k_o 14 [vR (some (a + 1)), vR (some (a + 6)), vR (some (a + 10)), vR (some (a + 11)), vR (some (a + 12)), vR (some (a + 13)), vR (some (a + 14)), vR (some (a + 15)), vI (nI (g_MK M).length), vI (nI (g_gen M)), vI (nI (g_los M)), vI (g_why M), vI (nI (g_DS M).2)]) := k_up_self _ _ _
          obtain ⟨hwf, ha31⟩ : k_wf h ∧ a + 31 ≤ h.2.1 := by
            obtain ⟨CXf, -, -, x3, x4⟩ := r1
            exact ⟨x4, x3⟩
          have hnew : ∀ y ∈ (g_DS M).1, da y.1 ≠ h.2.1 := fun y hy z => by
            have := hwf _ _ (b2 y hy)
            omega
          have eaddr : (k_up h a (k_o 14 (([vR (some (a + 1)), vR (some (a + 6)), vR (some (a + 10)), vR (some (a + 11)), vR (some (a + 12)), vR (some (a + 13)), vR (some (a + 14)), vR (some (a + 15)), vI (nI (g_MK M).length), vI (nI (g_gen M)), vI (nI (g_los M)), vI (g_why M), vI (nI ((g_DS M).2 - 1))] : List k_V).set 12 (vI (nI (g_DS M).2))))).2.1 = h.2.1 := rfl
          generalize hg1 : k_up h a _ = h1 at m1 o1 eaddr
          have wf1 := m1.2.1 hwf
          refine bX11_directory_51 o1 rfl ?_
          rw [eaddr]
          generalize hq : h.2.1 = q at hnew eaddr ha31
          have o2 : (k_nw h1 4 (k_o 5 [vI 0, vI 0, vR none, vI 0])).1 a = some (k_o 14 [vR (some (a + 1)), vR (some (a + 6)), vR (some (a + 10)), vR (some (a + 11)), vR (some (a + 12)), vR (some (a + 13)), vR (some (a + 14)), vR (some (a + 15)), vI (nI (g_MK M).length), vI (nI (g_gen M)), vI (nI (g_los M)), vI (g_why M), vI (nI (g_DS M).2)]) := nw_old wf1 o1
          have m2 : k_mo a [] (fun _ => False) 1 h1 (k_nw h1 4 (k_o 5 [vI 0, vI 0, vR none, vI 0])) := mv_nw wf1 (by omega) (by omega)
          have nO : ∀ p ci fs, h.1 p = some (k_o ci fs) → ci ≠ 14 → ¬ (p = a ∨ p = a + 13) := fun p ci fs hp hc z => by
            rcases z with z | z
            · rw [z, o14] at hp; cases hp; exact hc rfl
            · rw [z, b1] at hp; cases hp
          have dpl : ∃ cap, h1.1 (a + 13) = some (k_l ((g_DS M).1.map (fun x => da x.1)) cap) := ⟨cap, by rw [← hg1, k_up_ne _ _ (by omega)]; exact b1⟩
          have dp1 : c_dp a h1 (g_DS M).1 da := ⟨dpl, fun y hy => m1.1 _ _ (b2 y hy) (nO _ _ _ (b2 y hy) (by decide)) (fun _ _ _ => List.not_mem_nil), b3⟩
          have dp2 : c_dp a (k_nw h1 4 (k_o 5 [vI 0, vI 0, vR none, vI 0])) (g_DS M).1 da := dp_fr dp1 m2.1 (by simp) id (fun _ _ _ z => z)
          refine bX11_directory_58 o2 rfl (c_freeShort ok o2 rfl dp2 hd hf1 hf2) ?_
          rintro _ _ ⟨hh, rfl⟩
          rw [hh]
          have oq : (k_nw h1 4 (k_o 5 [vI 0, vI 0, vR none, vI 0])).1 q = some (k_o 5 [vI 0, vI 0, vR none, vI 0]) := by rw [← eaddr]; exact k_nw_self _ _ _
          refine bX11_directory_69 (c_X2_init ok oq) ?_
          rintro h3 hh3
          have hh3' : h3 = k_nw h1 4 (k_o 5 [vI (nI (g_DS M).2), vI (nI (d_free (g_DS M).1 12 1)), vR (some (da d.1)), vI nm]) := by
            rw [hh3, ← eaddr]
            exact up_nw _ _ _ _
          have m3 : k_mo a [] (fun _ => False) 1 h1 h3 := by rw [hh3']; exact mv_nw wf1 (by omega) (by omega)
          have o3 := m3.1 _ _ o1 id (fun _ _ _ => List.not_mem_nil)
          have oq3 : h3.1 q = some (k_o 5 [vI (nI (g_DS M).2), vI (nI (d_free (g_DS M).1 12 1)), vR (some (da d.1)), vI nm]) := by rw [hh3', ← eaddr]; exact k_nw_self _ _ _
          have dp3 := dp_fr dp1 m3.1 (by simp) id (fun _ _ _ z => z)
          obtain ⟨⟨cap3, e3⟩, e32, -⟩ := id dp3
          have wf3 := m3.2.1 wf1
          have hadd := c_add ok wf3 e3 (by rw [List.length_map]; omega) (fun z hz => by
            obtain ⟨y, hy, rfl⟩ := List.mem_map.mp hz
            exact el_dir (e32 y hy)) (el_dir oq3)
          refine bX11_directory_72 (Or.inr ⟨rfl, _, _, e3⟩) hadd ?_
          rintro h4 _ ⟨hh4, -⟩
          rw [List.length_map] at hh4
          have m4 : k_mo a [] (fun q => q = a + 13) 0 h3 h4 := by rw [hh4]; exact mv_gr e3 (by omega) rfl (by show _ ≤ 30; omega)
          obtain ⟨cap4, e4⟩ := gr_at h3 (a + 13) ((g_DS M).1.map (fun x => da x.1) ++ [q]) (g_DS M).1.length cap3
          rw [← hh4] at e4
          have m : k_mo a [] (fun q => q = a ∨ q = a + 13) 1 h h4 := mv_mono (mv_trans (mv_trans m1 (mv_mono m3 (fun _ h => h) (fun _ z => z.elim) (Nat.le_refl _))) (mv_mono m4 (fun _ h => h) (fun _ z => Or.inr z) (Nat.le_refl _))) (fun _ h => h) (fun _ h => h) (Nat.le_refl _)
          have o4 : h4.1 a = some (k_o 14 [vR (some (a + 1)), vR (some (a + 6)), vR (some (a + 10)), vR (some (a + 11)), vR (some (a + 12)), vR (some (a + 13)), vR (some (a + 14)), vR (some (a + 15)), vI (nI (g_MK M).length), vI (nI (g_gen M)), vI (nI (g_los M)), vI (g_why M), vI (nI (g_DS M).2)]) := m4.1 _ _ o3 (by omega) (fun _ _ _ => List.not_mem_nil)
          have old : ∀ p ci fs, h.1 p = some (k_o ci fs) → ci ≠ 14 → h4.1 p = some (k_o ci fs) := fun p ci fs hp hc => m.1 _ _ hp (nO p ci fs hp hc) (fun _ _ _ => List.not_mem_nil)
          have dda : ∀ y ∈ (g_DS M).1, (fun k => if k = (g_DS M).2 then q else da k) y.1 = da y.1 := fun y hy => by
            have := h92 y hy
            show (if y.1 = (g_DS M).2 then q else da y.1) = _
            rw [if_neg (by omega)]
          have hDS : g_DS (g_dset M ((g_DS M).1 ++ [((g_DS M).2, some d.1, nm.toInt.toNat, d_free (g_DS M).1 12 1)], (g_DS M).2 + 1)) = ((g_DS M).1 ++ [((g_DS M).2, some d.1, nm.toInt.toNat, d_free (g_DS M).1 12 1)], (g_DS M).2 + 1) := rfl
          have q4 : c_rs a h4 (g_dset M ((g_DS M).1 ++ [((g_DS M).2, some d.1, nm.toInt.toNat, d_free (g_DS M).1 12 1)], (g_DS M).2 + 1)) Q w PS := by
            refine ⟨TX_fr r1 m (by simp) (fun q ci fs hq hc => nO q ci fs hq (by rcases hc with e | e <;> rw [e] <;> decide)) (fun i h1 h2 z => by omega), pa_fr r2 m (by simp) ⟨by omega, by omega⟩ (fun q fs hq => nO q 8 fs hq (by decide)), ?_, cl_fr r4 m.1 (by simp) ⟨by omega, by omega, by omega⟩, mk_fr r5 m.1 (by omega), ?_, wa_fr r7 m.1 (by simp) (by omega) (fun q fs hq => nO q 13 fs hq (by decide))⟩
            · unfold c_ob
              rw [hDS]
              exact o4
            · rw [hDS]
              refine ⟨fun k => if k = (g_DS M).2 then q else da k, cap4, ?_, fun y hy => ?_, fun y hy z hz e => ?_⟩
              · rw [e4]
                show _ = some (k_l (((g_DS M).1 ++ [((g_DS M).2, some d.1, nm.toInt.toNat, d_free (g_DS M).1 12 1)]).map _) cap4)
                rw [List.map_append, List.map_congr_left dda]
                show some (k_l (_ ++ [q]) cap4) = some (k_l (_ ++ [if (g_DS M).2 = (g_DS M).2 then q else _]) cap4)
                rw [if_pos rfl]
              · rcases List.mem_append.mp hy with hy | hy
                · rw [dda y hy]
                  have hpp : y.2.1.map (fun k => if k = (g_DS M).2 then q else da k) = y.2.1.map da := by
                    cases hq2 : y.2.1 with
                    | none => rfl
                    | some u =>
                      obtain ⟨v, hv, rfl⟩ := d_par w9 hy hq2
                      exact congrArg some (dda v hv)
                  rw [hpp]
                  exact old _ _ _ (b2 y hy) (by decide)
                · rw [List.mem_singleton.mp hy]
                  show h4.1 (if (g_DS M).2 = (g_DS M).2 then q else _) = _
                  rw [if_pos rfl]
                  have e9 : nI nm.toInt.toNat = nm := hnm1.symm
                  have e8 : Option.map (fun k => if k = (g_DS M).2 then q else da k) (some d.1) = some (da d.1) := congrArg some (dda d hm)
                  show h4.1 q = some (k_o 5 [vI (nI (g_DS M).2), vI (nI (d_free (g_DS M).1 12 1)), vR (Option.map (fun k => if k = (g_DS M).2 then q else da k) (some d.1)), vI (nI nm.toInt.toNat)])
                  rw [e8, e9]
                  exact m4.1 _ _ oq3 (fun z => by rw [z, e3] at oq3; cases oq3) (fun _ _ _ => List.not_mem_nil)
              · rcases List.mem_append.mp hy with hy | hy <;> rcases List.mem_append.mp hz with hz | hz
                · rw [dda y hy, dda z hz] at e
                  exact b3 y hy z hz e
                · rw [List.mem_singleton.mp hz] at e ⊢
                  rw [dda y hy] at e
                  have e : da y.1 = if (g_DS M).2 = (g_DS M).2 then q else _ := e
                  rw [if_pos rfl] at e
                  exact absurd e (hnew y hy)
                · rw [List.mem_singleton.mp hy] at e ⊢
                  rw [dda z hz] at e
                  have e : (if (g_DS M).2 = (g_DS M).2 then q else _) = da z.1 := e
                  rw [if_pos rfl] at e
                  exact absurd e.symm (hnew z hz)
                · rw [List.mem_singleton.mp hy, List.mem_singleton.mp hz]
          have s4 := sE_fr s m (by simp) (fun i h1 h2 z => by omega) (fun q ci fs hq hc => nO q ci fs hq (by rcases hc with e | e | e <;> rw [e] <;> decide))
          have W4 : c_W a B h4 (g_dset M ((g_DS M).1 ++ [((g_DS M).2, some d.1, nm.toInt.toNat, d_free (g_DS M).1 12 1)], (g_DS M).2 + 1)) (N + 1) w := ⟨Q, S, PS, s4, q4, p, co_le (co_mo co m) (by omega)⟩
          exact bX11_directory_75 o4 rfl (R_ok W4 hF)
        · have : ¬ (g_DS M).1.length ≤ 9 := fun z => c1 ((nI_leI (b := 9) (by omega) (by omega)).mpr z)
          omega
end CD2
