/-! THE CLASS MOVES AND REMOVES DIRECTORIES -/
theorem R_xv {a N w k : Nat} {B : Nat × Nat} {h : k_H} {M : s_M} {R : s_M × Nat × Int32} {X : Nat → String} (W : c_W a B h M N w) (hF : R = (M, k, 0)) (hk : k ≠ 0) : c_Rv a B R X (N + 1) w (k_sk h 1 6) (.inr (X k)) := by
  rw [hF]
  refine ⟨W_sk W, ?_⟩
  show _ = if k = 0 then _ else _
  rw [if_neg hk]
theorem rm_hi_eq {x : s_D} (h : x.2.2.2 ≤ 9) : rm_hi x + 1 = s_hi (nI x.2.2.2) 10000 ∧ rm_lo x = s_lo (nI x.2.2.2) 10000 := by
  refine ⟨?_, rfl⟩
  have hne : ¬ nI x.2.2.2 = 10000 := fun z => by
    have := (nI_eq (a := x.2.2.2) (b := 10000) (by omega) (by omega)).mp z
    omega
  unfold rm_hi s_la s_hi
  rw [if_neg hne, if_neg hne, if_pos rfl]
  omega
theorem era_mid {A : Type} (y : A) (r : List A) : ∀ l : List A, (l ++ y :: r).eraseIdx l.length = l ++ r := by
  intro l
  induction l with
  | nil => rfl
  | cons x l ih =>
    show x :: (l ++ y :: r).eraseIdx l.length = x :: (l ++ r)
    rw [ih]
/-- the directories' list changes -/
theorem W_dset {a N w : Nat} {B : Nat × Nat} {h h' : k_H} {M : s_M} {D : List s_D × Nat} {ys : List Nat} {cap : Nat} (W : c_W a B h M N w) (e : h.1 (a + 13) = some (k_l ys cap)) (m : k_mo a [] (fun q => q = a + 13) 0 h h') (d : c_dr a h' D.1) (h2 : D.2 = (g_DS M).2) : c_W a B h' (g_dset M D) N w := by
  obtain ⟨Q, S, PS, s, r, p, co⟩ := W
  obtain ⟨r1, r2, r3, r4, r5, r6, r7⟩ := r
  have nO : ∀ p ci fs, h.1 p = some (k_o ci fs) → ¬ (p = a + 13) := fun p ci fs hp z => by rw [z, e] at hp; cases hp
  have s4 := sE_fr s m (by simp) (fun i h1 h2 z => by omega) (fun q ci fs hq hc => nO q ci fs hq)
  refine ⟨Q, S, PS, s4, ⟨TX_fr r1 m (by simp) (fun q ci fs hq hc => nO q ci fs hq) (fun i h1 h2 z => by omega), pa_fr r2 m (by simp) ⟨by omega, by omega⟩ (fun q fs hq => nO q 8 fs hq), ?_, cl_fr r4 m.1 (by simp) ⟨by omega, by omega, by omega⟩, mk_fr r5 m.1 (by omega), d, wa_fr r7 m.1 (by simp) (by omega) (fun q fs hq => nO q 13 fs hq)⟩, p, co_le (co_mo co m) (Nat.le_refl _)⟩
  have o := ob_fr r3 m.1 (by simp) (show ¬ a = a + 13 by omega)
  have e9 : g_DS (g_dset M D) = D := rfl
  unfold c_ob at o ⊢
  rw [e9, h2]
  exact o
section CRM
variable {G : k_G} {l : Launch}
theorem C_move (ok : k_ok G l) {a N w : Nat} {B : Nat × Nat} {h : k_H} {M : s_M} {x y nm : Int32} (W : c_W a B h M N w) (hd : d_ok (g_DS M)) : k_ct (tX11_move G l) [vR (some a), vI x, vI y, vI nm] h (c_Rv a B (F_move M x y nm) x_3 (N + 1) w) := by
  obtain ⟨o14, -⟩ := W_ob W
  obtain ⟨da, dp⟩ := W_dp W
  refine eX11_move ok.2 ?_
  cases hx : d_is (g_DS M) x with
  | false =>
    refine bX11_move_0x (k_is_o o14) (c_dirAtX ok o14 rfl dp hd hx) ?_
    rintro _ rfl
    exact R_xv (k := 1) (X := x_3) W (by unfold F_move; rw [hx, Bool.false_and, if_pos rfl]) (by decide)
  | true =>
    obtain ⟨d, hm, he, ht, hf, hc⟩ := c_dirAt ok o14 rfl dp hd hx
    refine bX11_move_0 (k_is_o o14) hc ?_
    rintro _ _ ⟨hh, rfl⟩
    rw [hh]
    cases hy : d_is (g_DS M) y with
    | false =>
      refine bX11_move_5x (k_is_o o14) (c_dirAtX ok o14 rfl dp hd hy) ?_
      rintro _ rfl
      exact R_xv (k := 1) (X := x_3) W (by unfold F_move; rw [hy, Bool.and_false, if_pos rfl]) (by decide)
    | true =>
      obtain ⟨e, em, ee, et, ef, ec⟩ := c_dirAt ok o14 rfl dp hd hy
      refine bX11_move_5 (k_is_o o14) ec ?_
      rintro _ _ ⟨hh, rfl⟩
      rw [hh]
      have hxy : ¬ (d_is (g_DS M) x && d_is (g_DS M) y) = false := by rw [hx, hy]; decide
      cases hn : s_inB nm 0 9 with
      | false =>
        refine bX11_move_12x (x_X11_requireName ok (in9_not hn)) ?_
        rintro _ rfl
        exact R_xv (k := 2) (X := x_3) W (by unfold F_move; rw [if_neg hxy, if_pos hn]) (by decide)
      | true =>
        refine bX11_move_12 (c_X11_requireName ok (in9 hn)) ?_
        rintro _ hh
        rw [hh]
        obtain ⟨w9, h91, h92, h93⟩ := id hd
        have hdl := h92 d hm
        obtain ⟨⟨cap, b1⟩, b2, b3⟩ := id dp
        have F0 : ∀ c, (mv_can (g_DS M) x y nm && (decide (d_nm (g_DS M).1 y nm = -2147483648) || decide (d_nm (g_DS M).1 y nm = x))) = c → F_move M x y nm = if c = true then (g_dset M (d_mv (g_DS M).1 d.1 e.1 (t_of nm), (g_DS M).2), 0, 0) else (M, 3, 0) := fun c hc => by
          unfold F_move
          rw [if_neg hxy, if_neg (by rw [hn]; decide), hc, ht, et]
        have can : mv_can (g_DS M) x y nm = (decide (¬ d.1 = 0) && !(d_bel (g_DS M).1 e.1 d.1)) := by
          unfold mv_can
          rw [hx, hy, hn, ht, et]
          have : (decide (¬ x ≤ 0)) = decide (¬ d.1 = 0) := by
            rw [he]
            refine decide_eq_decide.mpr ?_
            have hz : nI d.1 ≤ 0 ↔ d.1 ≤ 0 := nI_leI (a := d.1) (b := 0) (by omega) (by omega)
            rw [hz]
            omega
          rw [this]
          rfl
        have bad36 : mv_can (g_DS M) x y nm = false → k_X (jX11_move G l h) h 36 [] [] (c_Rv a B (F_move M x y nm) x_3 (N + 1) w) := fun hc =>
          bX11_move_36 (R_xv (k := 3) (X := x_3) W (by rw [F0 false (by rw [hc]; rfl), if_neg (by decide)]) (by decide))
        refine bX11_move_18 (b2 d hm) rfl (fun c0 => bad36 ?_) (fun c0 => ?_)
        · have : d.1 = 0 := (nI_eq (a := d.1) (b := 0) (by omega) (by omega)).mp c0
          rw [can, decide_eq_false (show ¬ ¬ d.1 = 0 from fun z => z this), Bool.false_and]
        have hd0 : ¬ d.1 = 0 := fun z => c0 (by rw [z]; rfl)
        refine bX11_move_26 (c_isWithin ok dp hd ⟨d, hm, rfl⟩ em) ?_
        rintro _ _ ⟨hh, rfl⟩
        rw [hh]
        refine bX11_move_33 (fun c1 => ?_) (fun c1 => bad36 ?_)
        · rw [kB_0] at c1
          have can2 : mv_can (g_DS M) x y nm = true := by rw [can, c1, decide_eq_true hd0]; rfl
          have hnmc := d_nm_ch hd ⟨e, em, rfl⟩ nm
          obtain ⟨hnm1, hnm2⟩ := s_inN (m := 9) (by decide) hn
          -- the move itself
          have go : (decide (d_nm (g_DS M).1 y nm = -2147483648) || decide (d_nm (g_DS M).1 y nm = x)) = true → k_X (jX11_move G l h) h 79 [(3, vI nm), (4, vR (some (da d.1))), (5, vR (some (da e.1)))] [] (c_Rv a B (F_move M x y nm) x_3 (N + 1) w) := fun hg => by
            rw [F0 true (by rw [can2, hg]; rfl), if_pos rfl]
            refine bX11_move_79 (b2 d hm) rfl ?_
            refine bX11_move_86 (k_up_self _ _ _) rfl ?_
            rw [k_uu]
            generalize hg1 : k_up h (da d.1) _ = h1
            have m : k_mo a [5] (fun _ => False) 0 h h1 := by rw [← hg1]; exact mv_o (b2 d hm) (Or.inl (by simp))
            obtain ⟨Q, S, PS, s, r, p, co⟩ := W
            obtain ⟨r1, r2, r3, r4, r5, r6, r7⟩ := r
            have s1 := sE_fr s m (by decide) (fun _ _ _ z => z) (fun _ _ _ _ _ z => z)
            have hDS : g_DS (g_dset M (d_mv (g_DS M).1 d.1 e.1 (t_of nm), (g_DS M).2)) = (d_mv (g_DS M).1 d.1 e.1 (t_of nm), (g_DS M).2) := rfl
            have mk1 : ∀ z : s_D, (if z.1 = d.1 then ((z.1, some e.1, t_of nm, z.2.2.2) : s_D) else z).1 = z.1 := fun z => by split <;> rfl
            have emem : ∀ z ∈ d_mv (g_DS M).1 d.1 e.1 (t_of nm), ∃ u ∈ (g_DS M).1, z = (if u.1 = d.1 then ((u.1, some e.1, t_of nm, u.2.2.2) : s_D) else u) ∧ z.1 = u.1 := fun z hz => by
              obtain ⟨u, hu, rfl⟩ := List.mem_map.mp hz
              exact ⟨u, hu, rfl, mk1 u⟩
            have q1 : c_rs a h1 (g_dset M (d_mv (g_DS M).1 d.1 e.1 (t_of nm), (g_DS M).2)) Q w PS := by
              refine ⟨TX_fr r1 m (by decide) (fun _ _ _ _ _ z => z) (fun _ _ _ z => z), pa_fr r2 m (by decide) ⟨id, id⟩ (fun _ _ _ z => z), ?_, cl_fr r4 m.1 (by decide) ⟨id, id, id⟩, mk_fr r5 m.1 id, ?_, wa_fr r7 m.1 (by decide) id (fun _ _ _ z => z)⟩
              · have o := ob_fr r3 m.1 (by decide) id
                unfold c_ob at o ⊢
                rw [hDS]
                exact o
              · rw [hDS]
                refine ⟨da, cap, ?_, fun z hz => ?_, fun z hz v hv ev => ?_⟩
                · have e13 := m.1 _ _ b1 id (fun ci fs e => by cases e)
                  rw [e13]
                  show _ = some (k_l ((d_mv (g_DS M).1 d.1 e.1 (t_of nm)).map (fun x => da x.1)) cap)
                  unfold d_mv
                  rw [List.map_map]
                  congr 2
                  refine List.map_congr_left fun u _ => ?_
                  show da u.1 = da (if u.1 = d.1 then ((u.1, some e.1, t_of nm, u.2.2.2) : s_D) else u).1
                  rw [mk1]
                · obtain ⟨u, hu, ez, e1⟩ := emem z hz
                  rw [e1]
                  by_cases eu : u.1 = d.1
                  · have euv := d_uniq w9.1 hu hm eu
                    subst euv
                    rw [if_pos rfl] at ez
                    rw [ez, ← hg1, k_up_self]
                    have e9 : nI (t_of nm) = nm := hnm1.symm
                    show some (k_o 5 [vI (nI u.1), vI (nI u.2.2.2), vR (some (da e.1)), vI nm]) = some (k_o 5 [vI (nI u.1), vI (nI u.2.2.2), vR (some (da e.1)), vI (nI (t_of nm))])
                    rw [e9]
                  · rw [if_neg eu] at ez
                    rw [ez, ← hg1, k_up_ne _ _ (fun z => eu (b3 u hu d hm z))]
                    exact b2 u hu
                · obtain ⟨u, hu, ez, e1⟩ := emem z hz
                  obtain ⟨u2, hu2, ez2, e2⟩ := emem v hv
                  rw [e1, e2] at ev ⊢
                  exact b3 u hu u2 hu2 ev
            exact bX11_move_92 ⟨⟨Q, S, PS, s1, q1, p, co_le (co_mo co m) (by omega)⟩, rfl⟩
          refine bX11_move_47 (k_is_o o14) (c_childOf ok o14 rfl dp hd ⟨e, em, rfl⟩) ?_
          rintro _ _ ⟨hh, rfl⟩
          rw [hh]
          rw [← ee] at hnmc
          cases hch : d_ch (g_DS M).1 e.1 nm with
          | none =>
            rw [hch] at hnmc
            refine bX11_move_54 (fun _ => go ?_) (fun a' z => by cases z)
            rw [hnmc]; rfl
          | some c =>
            rw [hch] at hnmc
            have hnmc2 : d_nm (g_DS M).1 y nm = nI c.1 := hnmc
            have hcm := d_ch_mem hch
            have hcl := h92 c hcm
            refine bX11_move_54 (fun z => by cases z) (fun a' _ => bX11_move_61 (fun c2 => go ?_) (fun c2 => bX11_move_68 (R_xv (k := 3) (X := x_3) W ?_ (by decide))))
            · have : c.1 = d.1 := b3 c hcm d hm (by simpa using c2)
              rw [hnmc2, this, ← he, decide_eq_true rfl, Bool.or_true]
            · have hne : ¬ c.1 = d.1 := fun z => c2 (congrArg (fun q => some (da q)) z)
              rw [F0 false, if_neg (by decide)]
              rw [hnmc2, decide_eq_false (wk_ne (by omega)), he, decide_eq_false (fun z => hne ((nI_eq (by omega) (by omega)).mp z)), Bool.or_false, Bool.and_false]
        · rw [kB_n0] at c1
          rw [can, c1, Bool.not_true, Bool.and_false]
end CRM
