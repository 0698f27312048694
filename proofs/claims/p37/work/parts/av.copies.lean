section
/-! CONTRACTS ONCE MORE (printed by wip/whole/gencopy.py): their premises speak of the call itself -/
section CP1
variable {G : k_G} {l : Launch}
theorem C_commit1 (ok : k_ok G l) {a N w k : Nat} {B : Nat × Nat} {h : k_H} {M : s_M} {x : Int32} (W : c_W a B h M N w) (hn : g_n M + 1 < 9000) (hgen : g_gen M < 2 ^ 31) (hlos : g_los M ≤ 2) (hx : ∀ t, t < 4 → (g_X M t).1.2.2.1 ≤ g_n M ∧ (g_X M t).1.2.2.2.1 < 2 ^ 31 ∧ (g_X M t).1.2.2.2.2 ≤ g_n M ∧ (g_X M t).2.1.length < 2 ^ 20) (hlim : e_lim (g_E M)) (hws : g_ws M) (hpk : g_pk M) (h0 : g_p0 M)
    (hgo : s_inB x 0 3 = true → (g_X M (t_of x)).1.1 = true → g_goes M (t_of x) = true → g_ps M (e_all (g_n M + 1) (g_X M (t_of x)).2.1 (g_E M)) ∧ e_lim (e_all (g_n M + 1) (g_X M (t_of x)).2.1 (g_E M)))
    (hk : s_inB x 0 3 = true → (g_X M (t_of x)).1.1 = true → f_td M (t_of x) = (M, -2147483648) → ¬ g_los M = 2 → g_sp M (e_all (g_n M + 1) (g_X M (t_of x)).2.1 (g_E M)) ≤ k) :
    k_ct (tX11_commit G l) [vR (some a), vI x] h (c_R a B (F_commit M x) x_I (N + 1 + k) w) := by
  obtain ⟨Q, S, PS, s, r, p, co⟩ := id W
  obtain ⟨r1, r2, r3, r4, r5, r6, r7⟩ := id r
  refine eX11_commit ok.2 ?_
  cases hin : s_inB x 0 3 with
  | false =>
    refine bX11_commit_0x (k_is_o r3) (c_trAtX ok r3 r4 hin) ?_
    rintro _ rfl
    have hF : F_commit M x = (M, 1, 0) := by unfold F_commit; rw [if_pos hin]
    rw [hF]
    exact ⟨W_le (W_sk W) (by omega), rfl⟩
  | true =>
    obtain ⟨t, ht, rfl, e9⟩ := s_in4 hin
    have e9 : t_of (nI t) = t := e9
    refine bX11_commit_0 (k_is_o r3) (c_trAt ok r3 r4 r1 ht) ?_
    rintro _ _ ⟨hh, rfl⟩
    rw [hh]
    cases hb : (g_X M t).1.1 with
    | false =>
      refine bX11_commit_5x (c_begunX ok r1 ht hb) ?_
      rintro _ rfl
      have hF : F_commit M (nI t) = (M, 2, 0) := by unfold F_commit; rw [if_neg (by rw [hin]; decide), e9, if_pos hb]
      rw [hF]
      exact ⟨W_le (W_sk W) (by omega), rfl⟩
    | true =>
      have hF : F_commit M (nI t) = ((f_commit M t).1, 0, (f_commit M t).2) := by unfold F_commit; rw [if_neg (by rw [hin]; decide), e9, if_neg (by rw [hb]; decide)]
      rw [hF]
      obtain ⟨x1, x2, x3, x4⟩ := hx t ht
      have hn9 := (sE_n s).1
      refine bX11_commit_5 (c_begun ok r1 ht hb) ?_
      rintro _ hh
      rw [hh]
      refine bX11_commit_10 (k_is_o r3) (C_told ok W ht hb x1 ⟨hgen, x2, by omega⟩ x4 hlim hws) ?_
      rintro h1 _ ⟨W1, rfl⟩
      rcases td_cm (M := M) (t := t) (by omega) x1 x3 with ⟨c1, ef⟩ | ⟨c1, hg, ef⟩
      · refine bX11_commit_15 (fun z => absurd z c1) (fun _ => ?_)
        obtain ⟨fs, o2, o3, o4⟩ := W_obj W1 ht
        refine bX11_commit_22 o2 o3 ?_
        generalize hh : k_up h1 (a + c_T t) _ = h2
        have W2 := W_over W1 ht o2 hh.symm
        rw [ef]
        exact bX11_commit_27 ⟨W_le W2 (by omega), rfl⟩
      · have W0 := W1
        rw [c1] at W1 ⊢
        have hgo := hgo hin (by rw [e9]; exact hb) (by rw [e9]; exact hg)
        have hk := hk hin (by rw [e9]; exact hb) (by rw [e9]; exact c1)
        rw [e9] at hgo hk
        obtain ⟨g1, g2⟩ := hgo
        refine bX11_commit_15 (fun _ => ?_) (fun z => absurd rfl z)
        obtain ⟨o1, -⟩ := W_ob W1
        -- the losing is forgotten
        have los : ∀ (z : Int32) (d : Int32), (z = if g_los M = 0 then 0 else 1) → (d = if g_los M = 2 then 0 else 1) → k_X (jX11_commit G l h) h1 56 [(0, vR (some a)), (2, vR (some (a + c_T t))), (4, vI z)] [vI d] (c_R a B ((f_commit M t).1, 0, (f_commit M t).2) x_I (N + 1 + k) w) := by
          intro z d hz hd
          refine bX11_commit_56 o1 rfl ?_
          generalize hh : k_up h1 a _ = h2
          have ho : c_ob a h2 (g_sl M 0) := by rw [← hh]; exact k_up_self _ _ _
          have W2 : c_W a B h2 (g_sl M 0) N w := W_own W1 hh.symm ho ⟨rfl, rfl, rfl, rfl, rfl⟩ ⟨rfl, rfl, rfl⟩
          refine bX11_commit_63 (fun c2 => ?_) (fun c2 => ?_)
          · have l2 : g_los M = 2 := by
              by_cases e : g_los M = 2
              · exact e
              · rw [hd, if_neg e] at c2; exact absurd c2 (by decide)
            rw [if_pos l2] at ef
            have ez : z = 1 := by rw [hz, if_neg (by omega)]
            obtain ⟨fs, o2, o3, o4⟩ := W_obj W2 ht
            have hb2 : (g_X (g_sl M 0) t).1.1 = true := hb
            rw [hb2] at o4
            refine bX11_commit_73 o2 (by rw [ez]; exact Or.inr rfl) o3 ?_
            have es : k_up h2 (a + c_T t) (k_o 12 (fs.set 2 (vI z))) = h2 := by
              rw [ez]
              have : fs.set 2 (vI 1) = fs := o4
              rw [this]
              exact up_same o2
            rw [es]
            refine bX11_commit_79 (fun c3 => absurd c3 (by rw [ez]; decide)) (fun _ => bX11_commit_84 (bX11_commit_96 ?_))
            rw [ef]
            exact ⟨W_le W2 (by omega), rfl⟩
          · have l2 : ¬ g_los M = 2 := fun e => c2 (by rw [hd, if_pos e])
            rw [if_neg l2] at ef
            have g3 := hk l2
            refine bX11_commit_68 (k_is_o ho) (C_settle ok W2 ht hb hn g2 hpk h0 g1) ?_
            rintro h3 W3
            have W3 : c_W a B h3 (g_did M t) (N + g_sp M (e_all (g_n M + 1) (g_X M t).2.1 (g_E M))) w := W3
            obtain ⟨fs, o2, o3, o4⟩ := W_obj W3 ht
            have hX : g_X (g_did M t) t = g_dn (g_X M t) (g_n M + 1) := by
              show (if t = t then _ else _) = _
              rw [if_pos rfl]
            have hb2 : (g_X (g_did M t) t).1.1 = true := by rw [hX]; exact hb
            rw [hb2] at o4
            by_cases l1 : g_los M = 1
            · rw [if_pos l1] at ef
              have ez : z = 1 := by rw [hz, if_neg (by omega)]
              refine bX11_commit_73 o2 (by rw [ez]; exact Or.inr rfl) o3 ?_
              have es : k_up h3 (a + c_T t) (k_o 12 (fs.set 2 (vI z))) = h3 := by
                rw [ez]
                have : fs.set 2 (vI 1) = fs := o4
                rw [this]
                exact up_same o2
              rw [es]
              refine bX11_commit_79 (fun c3 => absurd c3 (by rw [ez]; decide)) (fun _ => bX11_commit_84 (bX11_commit_96 ?_))
              rw [ef]
              exact ⟨W_le W3 (by omega), rfl⟩
            · rw [if_neg l1] at ef
              have ez : z = 0 := by rw [hz, if_pos (by omega)]
              refine bX11_commit_73 o2 (by rw [ez]; exact Or.inl rfl) o3 ?_
              rw [ez]
              generalize hh : k_up h3 (a + c_T t) _ = h4
              have W4 := W_over W3 ht o2 hh.symm
              obtain ⟨o5, f0, f1, f2, f3, f4, f5, o11⟩ := W_ob W4
              refine bX11_commit_79 (fun _ => bX11_commit_89 o5 rfl o11 rfl (bX11_commit_96 ?_)) (fun c3 => absurd rfl c3)
              rw [ef]
              exact ⟨W_le W4 (by omega), rfl⟩
        have lost : ∀ z : Int32, (z = if g_los M = 0 then 0 else 1) → k_X (jX11_commit G l h) h1 41 [(0, vR (some a)), (2, vR (some (a + c_T t)))] [vI z] (c_R a B ((f_commit M t).1, 0, (f_commit M t).2) x_I (N + 1 + k) w) := by
          intro z hz
          refine bX11_commit_41 o1 rfl (fun c2 => bX11_commit_55 (los z 0 hz ?_)) (fun c2 => bX11_commit_51 (los z 1 hz ?_))
          · rw [if_pos ((nI_eq (a := g_los M) (b := 2) (by omega) (by decide)).mp c2)]
          · rw [if_neg (fun e => c2 (by rw [e]; rfl))]
        refine bX11_commit_29 o1 rfl (fun c2 => bX11_commit_40 (lost 0 ?_)) (fun c2 => bX11_commit_36 (lost 1 ?_))
        · rw [if_pos ((nI_eq (a := g_los M) (b := 0) (by omega) (by decide)).mp c2)]
        · rw [if_neg (fun e => c2 (by rw [e]; rfl))]
theorem C_bringBack1 (ok : k_ok G l) {a N w k : Nat} {B : Nat × Nat} {h : k_H} {M : s_M} {x : Int32} (W : c_W a B h M N w) (hmk : (g_MK M).length ≤ 10) (hv : ∀ v ∈ g_MK M, v ≤ g_n M) (hlim0 : e_lim (g_E M)) (hn : g_n M + 1 < 9000) (hpk : g_pk M) (h0 : g_p0 M) (hlim : ∀ v ∈ g_MK M, s_inB x 0 (nI (g_MK M).length - 1) = true → v = (g_MK M).getD (t_of x) 0 → 0 < (bb_list M v).length → g_ps M (bb_E M v) ∧ e_lim (bb_E M v) ∧ g_sp M (bb_E M v) ≤ k) :
    k_ct (tX11_bringBack G l) [vR (some a), vI x] h (c_R a B (F_bringBack M x) x_I (N + 1 + k) w) := by
  obtain ⟨Q, S, PS, s, r, p, co⟩ := id W
  obtain ⟨r1, r2, r3, r4, ⟨f, k1, k2⟩, r6, r7⟩ := id r
  obtain ⟨f0, f1, f2, f3, f4, f5, o11⟩ := sE_obj s
  have hin := inB_k (x := x) (k := (g_MK M).length) (by omega)
  have bad : s_inB x 0 (nI (g_MK M).length - 1) = false → k_X (jX11_bringBack G l h) h 21 [] [] (c_R a B (F_bringBack M x) x_I (N + 1 + k) w) := fun hc => by
    refine bX11_bringBack_21 ?_
    have hF : F_bringBack M x = (M, 1, 0) := by unfold F_bringBack; rw [if_pos hc]
    rw [hF]
    exact ⟨W_le (W_sk W) (by omega), rfl⟩
  refine eX11_bringBack ok.2 (bX11_bringBack_0 (fun c => bad ?_) (fun c1 => bX11_bringBack_4 r3 rfl (fun c => bad ?_) (fun c2 => bX11_bringBack_12 r3 rfl k1 (fun c3 => ?_) (fun c3 => bad ?_))))
  · rw [hin, decide_eq_false (show ¬ ¬ x < 0 from fun z => z c), Bool.false_and]
  · rw [hin, decide_eq_false (show ¬ x < nI (g_MK M).length from Int32.not_lt.mpr c), Bool.and_false]
  · have hi : s_inB x 0 (nI (g_MK M).length - 1) = true := by rw [hin, decide_eq_true c1, decide_eq_true (Int32.not_le.mp c2)]; rfl
    obtain ⟨j, hj, rfl, ht⟩ := s_in_ (by omega) hi
    obtain ⟨v, hv1⟩ : ∃ v, (g_MK M)[j]? = some v := ⟨_, List.getElem?_eq_getElem hj⟩
    have hvm := List.mem_of_getElem? hv1
    have hvn := hv v hvm
    have hn9 := (sE_n s).1
    have ef := k2 j v hv1
    have hgd : (g_MK M).getD j 0 = v := by rw [List.getD_eq_getElem?_getD, hv1]; rfl
    have hF : F_bringBack M (nI j) = (if 0 < (bb_list M v).length then g_cm M (bb_E M v) else M, 0, nI (bb_list M v).length) := by
      unfold F_bringBack
      rw [if_neg (by rw [hi]; decide), ht, hgd]
    have hbl : (bb_list M v).length ≤ 12000 := Nat.le_trans (List.length_filter_le _ _) hlim0.1
    have hcd : k_cti (tX8_countDiffering G l) [vR (some (a + 1)), vI (f (nI j).toNatClampNeg)] h (fun h' w => h' = h ∧ w = nI (bb_list M v).length) := by
      rw [nI_clamp (by omega), ef]
      exact c_E_countDiffering ok s (by omega)
    refine bX11_bringBack_32 r3 rfl k1 (nI_in (by omega) (by omega)) rfl (k_is_o o11) hcd ?_
    rintro _ _ ⟨hh, rfl⟩
    rw [hh, nI_clamp (by omega), ef]
    refine bX11_bringBack_47 (fun c4 => ?_) (fun c4 => ?_)
    · have : (bb_list M v).length ≤ 0 := (nI_leI (b := 0) (by omega) (by omega)).mp c4
      exact bX11_bringBack_72 (R_ok (W_le W (by omega)) (by rw [hF, if_neg (by omega)]))
    · have hpos : 0 < (bb_list M v).length := by
        by_cases e : (bb_list M v).length ≤ 0
        · exact absurd ((nI_leI (b := 0) (by omega) (by omega)).mpr e) c4
        · omega
      obtain ⟨g1, g2, g3⟩ := hlim v hvm hi (by rw [ht, hgd]) hpos
      refine bX11_bringBack_52 r3 rfl (k_is_o o11) (O_open ok W (by omega)) ?_
      rintro h2 ⟨O2, -⟩
      obtain ⟨o14, f0, f1, f2, f3, f4, f5, o11⟩ := O_ob O2
      obtain ⟨Q2, S2, PS2, s2, q2, p2, co2⟩ := O2
      have eb := bb_eq (v := v) W
      refine bX11_bringBack_60 o14 rfl (k_is_o o11) (c_E_restore ok s2 (v := v) (by omega) (by rw [eb]; exact g2)) ?_
      rintro h3 ⟨S3, s3, hS3, m3⟩
      rw [eb] at s3
      have O3 : c_O a B h3 M (bb_E M v) N w := ⟨Q2, S3, PS2, s3, rs_sto q2 s2 m3, p2, co_le (co_mo co2 m3) (by omega)⟩
      obtain ⟨o14, -⟩ := O_ob O3
      refine bX11_bringBack_68 (k_is_o o14) (O_close ok O3 ?_ g2 hpk h0 g1) ?_
      · exact ex_foldp _ (fun c => r_val c v (g_E M).2.1) _ _
      rintro h4 ⟨W4, -⟩
      exact bX11_bringBack_72 (R_ok (W_le W4 (by omega)) (by rw [hF, if_pos hpos]))
  · exact absurd ((nI_ltI (a := 0) (b := 10) (by omega) (by omega)).mpr (by omega)) (fun _ => c3 (by
      have hx : 0 ≤ x.toInt := by
        have := Int32.le_iff_toInt_le.mp (Int32.not_lt.mp c1)
        simpa using this
      have hj := nI_ofN hx
      have hlt : x.toInt.toNat < 2 ^ 31 := by have := Int32.toInt_lt x; omega
      have c2' := Int32.not_le.mp c2
      generalize x.toInt.toNat = j at hj hlt
      rw [hj] at c2' ⊢
      have := (nI_ltI hlt (by omega)).mp c2'
      exact (nI_ltI hlt (by omega)).mpr (by omega)))
theorem C_remove1 (ok : k_ok G l) {a N w k : Nat} {B : Nat × Nat} {h : k_H} {M : s_M} {x : Int32} (W : c_W a B h M N w) (hd : d_ok (g_DS M)) (hlim0 : e_lim (g_E M)) (hn : g_n M + 1 < 9000) (hpk : g_pk M) (h0 : g_p0 M) (hml : ∀ o, rm_many M o < 2 ^ 31) (hlim : d_is (g_DS M) x = true → ¬ x = 0 → 0 < rm_many M (t_of x) → g_ps M (rm_E M (t_of x)) ∧ e_lim (rm_E M (t_of x)) ∧ g_sp M (rm_E M (t_of x)) ≤ k) :
    k_ct (tX11_remove G l) [vR (some a), vI x] h (c_R a B (F_remove M x) x_I (N + 1 + k) w) := by
  obtain ⟨o14, -⟩ := W_ob W
  obtain ⟨da, dp⟩ := W_dp W
  refine eX11_remove ok.2 ?_
  cases hx : d_is (g_DS M) x with
  | false =>
    refine bX11_remove_0x (k_is_o o14) (c_dirAtX ok o14 rfl dp hd hx) ?_
    rintro _ rfl
    have hF : F_remove M x = (M, 1, 0) := by unfold F_remove; rw [if_pos hx]
    rw [hF]
    exact ⟨W_le (W_sk W) (by omega), rfl⟩
  | true =>
    obtain ⟨d, hm, he, ht, hf, hc⟩ := c_dirAt ok o14 rfl dp hd hx
    obtain ⟨w9, h91, h92, h93⟩ := id hd
    have hdl := h92 d hm
    have hd0 : x = 0 ↔ d.1 = 0 := by rw [he]; exact nI_eq (a := d.1) (b := 0) (by omega) (by omega)
    refine bX11_remove_0 (k_is_o o14) hc ?_
    rintro _ _ ⟨hh, rfl⟩
    rw [hh]
    refine bX11_remove_5 (dp.2.1 d hm) rfl (fun c0 => ?_) (fun c0 => ?_)
    · have c0' : ¬ d.1 = 0 := fun z => c0 (by rw [z]; rfl)
      have hF : F_remove M x = (g_dset (if 0 < rm_many M d.1 then g_cm M (rm_E M d.1) else M) (rm_D M d.1), 0, nI (rm_many M d.1)) := by
        unfold F_remove; rw [if_neg (by rw [hx]; decide), if_neg (fun z => c0' (hd0.mp z)), ht]
      refine bX11_remove_24 (k_is_o o14) (c_heldWithin ok W dp hd ⟨d, hm, rfl⟩ hlim0) ?_
      rintro h1 _ ⟨W1, dp1, rfl⟩
      -- taking them out of the list
      have tail : ∀ (h2 : k_H) (M2 : s_M) (N2 : Nat), c_W a B h2 M2 N2 w → N2 ≤ N + 1 + k → c_dp a h2 (g_DS M).1 da → g_DS M2 = g_DS M → F_remove M x = (g_dset M2 (rm_D M d.1), 0, nI (rm_many M d.1)) → k_X (jX11_remove G l h) h2 39 [(0, vR (some a)), (2, vR (some (da d.1))), (3, vI (nI (rm_many M d.1)))] [] (c_R a B (F_remove M x) x_I (N + 1 + k) w) := by
        intro h2 M2 N2 W2 hN dp2 hM2 hF2
        obtain ⟨o14, -⟩ := W_ob W2
        obtain ⟨⟨cap, b1⟩, b2, b3⟩ := id dp2
        refine bX11_remove_39 o14 rfl (Or.inr ⟨rfl, _, _, b1⟩) (c_size ok b1) ?_
        rintro _ _ ⟨hh2, rfl⟩
        rw [hh2, List.length_map]
        refine bX11_remove_46 ?_
        have key : ∀ (k0 : Nat) (pre suf : List s_D) (hh : k_H) (v : Int32), pre.length = k0 → v = nI k0 + (-1) → (g_DS M).1 = pre ++ suf → k_mo a [] (fun q => q = a + 13) 0 h2 hh → hh.1 (a + 13) = some (k_l ((pre ++ suf.filter (fun x => !(d_bel (g_DS M).1 x.1 d.1))).map (fun x => da x.1)) cap) →
            k_X (jX11_remove G l h) hh 50 [(0, vR (some a)), (2, vR (some (da d.1))), (3, vI (nI (rm_many M d.1))), (4, vI v)] [] (c_R a B (F_remove M x) x_I (N + 1 + k) w) := by
          intro k0
          induction k0 with
          | zero =>
            rintro pre suf hh v hk rfl hp m e13
            have hpre : pre = [] := List.length_eq_zero_iff.mp hk
            subst hpre
            have hp : (g_DS M).1 = suf := hp
            refine bX11_remove_50 (fun _ => bX11_remove_90 ?_) (fun c => absurd (by decide) c)
            rw [List.nil_append, ← hp] at e13
            have nO : ∀ p ci fs, h2.1 p = some (k_o ci fs) → ¬ (p = a + 13) := fun p ci fs hp z => by rw [z, b1] at hp; cases hp
            have W3 : c_W a B hh (g_dset M2 (rm_D M d.1)) N2 w := by
              refine W_dset W2 b1 m ⟨da, cap, e13, fun y hy => ?_, fun y hy z hz e => ?_⟩ (by rw [hM2]; rfl)
              · have hy2 := (List.mem_filter.mp hy).1
                exact m.1 _ _ (b2 y hy2) (nO _ _ _ (b2 y hy2)) (fun _ _ _ => List.not_mem_nil)
              · exact b3 y (List.mem_filter.mp hy).1 z (List.mem_filter.mp hz).1 e
            exact R_ok (W_le W3 hN) hF2
          | succ k0 ih =>
            rintro pre suf hh v hk rfl hp m e13
            rw [nI_m1 (by omega), Nat.add_sub_cancel]
            obtain ⟨pre', y, rfl⟩ : ∃ pre' y, pre = pre' ++ [y] := by
              rcases List.eq_nil_or_concat pre with e | ⟨l, y, e⟩
              · rw [e] at hk; cases hk
              · exact ⟨l, y, by rw [e, List.concat_eq_append]⟩
            have hk' : pre'.length = k0 := by rw [List.length_append, List.length_singleton] at hk; omega
            have hym : y ∈ (g_DS M).1 := by rw [hp]; simp
            have hkl : k0 < 2 ^ 31 := by
              have := congrArg List.length hp
              rw [List.length_append, List.length_append] at this
              omega
            have o14h : hh.1 a = h2.1 a := by
              have := m.1 _ _ o14 (by omega) (fun _ _ _ => List.not_mem_nil)
              rw [this, o14]
            have nO : ∀ p ci fs, h2.1 p = some (k_o ci fs) → ¬ (p = a + 13) := fun p ci fs hp z => by rw [z, b1] at hp; cases hp
            have b2h : ∀ x ∈ (g_DS M).1, hh.1 (da x.1) = some (k_o 5 [vI (nI x.1), vI (nI x.2.2.2), vR (x.2.1.map da), vI (nI x.2.2.1)]) := fun x hx => m.1 _ _ (b2 x hx) (nO _ _ _ (b2 x hx)) (fun _ _ _ => List.not_mem_nil)
            have e13' : hh.1 (a + 13) = some (k_l (pre'.map (fun x => da x.1) ++ da y.1 :: (suf.filter (fun x => !(d_bel (g_DS M).1 x.1 d.1))).map (fun x => da x.1)) cap) := by
              rw [e13, List.map_append, List.map_append, List.append_assoc]
              rfl
            have hg : (pre'.map (fun x => da x.1) ++ da y.1 :: (suf.filter (fun x => !(d_bel (g_DS M).1 x.1 d.1))).map (fun x => da x.1))[k0]? = some (da y.1) := by
              rw [← hk']
              have : pre'.length = (pre'.map (fun x => da x.1)).length := by rw [List.length_map]
              rw [this]
              simp
            refine bX11_remove_50 (fun c => absurd c (fun z => ?_)) (fun _ => ?_)
            · have := (nI_ltI (a := k0) (b := 0) hkl (by omega)).mp z
              omega
            refine bX11_remove_55 (o14h.trans o14) rfl (Or.inr ⟨rfl, _, _, e13'⟩) (c_get ok e13' hg) ?_
            rintro _ _ ⟨hh3, rfl⟩
            rw [hh3]
            refine bX11_remove_64 (b2h y hym) (c_isWithin2 ok b2h b3 hd ⟨d, hm, rfl⟩ hym) ?_
            rintro _ _ ⟨hh3, rfl⟩
            rw [hh3]
            have hp' : (g_DS M).1 = pre' ++ y :: suf := by rw [hp, List.append_assoc]; rfl
            refine bX11_remove_71 (fun c => ?_) (fun c => ?_)
            · rw [kB_0] at c
              refine bX11_remove_84 (ih pre' (y :: suf) hh _ hk' rfl hp' m ?_)
              rw [e13', List.filter_cons_of_pos (by rw [c]; rfl), List.map_append]
              rfl
            · rw [kB_n0] at c
              refine bX11_remove_74 (o14h.trans o14) rfl (Or.inr ⟨rfl, _, _, e13'⟩) (c_removeAt ok e13' hg (fun z hz => ?_)) ?_
              · have hz2 : ∃ u ∈ (g_DS M).1, z = da u.1 := by
                  rcases List.mem_append.mp hz with hz | hz
                  · obtain ⟨u, hu, rfl⟩ := List.mem_map.mp hz
                    exact ⟨u, by rw [hp']; exact List.mem_append_left _ hu, rfl⟩
                  · rcases List.mem_cons.mp hz with rfl | hz
                    · exact ⟨y, hym, rfl⟩
                    · obtain ⟨u, hu, rfl⟩ := List.mem_map.mp hz
                      exact ⟨u, by rw [hp']; exact List.mem_append_right _ (List.mem_cons_of_mem _ (List.mem_filter.mp hu).1), rfl⟩
                obtain ⟨u, hu, rfl⟩ := hz2
                exact el_dir (b2h u hu)
              rintro h3 _ ⟨hh3, -⟩
              have m3 : k_mo a [] (fun q => q = a + 13) 0 hh h3 := by rw [hh3]; exact mv_lu e13' (by omega) rfl
              refine bX11_remove_83 (bX11_remove_84 (ih pre' (y :: suf) h3 _ hk' rfl hp' (mv_mono (mv_trans m m3) (fun _ h => h) (fun _ h => h) (Nat.le_refl _)) ?_))
              have era : (pre'.map (fun x => da x.1) ++ da y.1 :: (suf.filter (fun x => !(d_bel (g_DS M).1 x.1 d.1))).map (fun x => da x.1)).eraseIdx k0 = pre'.map (fun x => da x.1) ++ (suf.filter (fun x => !(d_bel (g_DS M).1 x.1 d.1))).map (fun x => da x.1) := by
                rw [← hk']
                have : pre'.length = (pre'.map (fun x => da x.1)).length := by rw [List.length_map]
                rw [this]
                exact era_mid _ _ _
              rw [hh3, k_up_self, era, List.filter_cons_of_neg (by rw [c]; decide), List.map_append]
        refine key (g_DS M).1.length (g_DS M).1 [] h2 _ rfl (by rw [Int32.sub_eq_add_neg]) (List.append_nil _).symm (mv_refl _ _ _ _) ?_
        rw [b1, List.filter_nil, List.append_nil]
      refine bX11_remove_29 (fun c1 => ?_) (fun c1 => ?_)
      · have c1' : rm_many M d.1 ≤ 0 := (nI_leI (b := 0) (hml _) (by omega)).mp c1
        exact tail h1 M N W1 (by omega) dp1 rfl (by rw [hF, if_neg (by omega)])
      · have c1' : 0 < rm_many M d.1 := by
          by_cases e : rm_many M d.1 ≤ 0
          · exact absurd ((nI_leI (b := 0) (hml _) (by omega)).mpr e) c1
          · omega
        obtain ⟨g1, g2, g3⟩ := (ht ▸ hlim hx (fun z => c0' (hd0.mp z))) c1'
        obtain ⟨o14, -⟩ := W_ob W1
        refine bX11_remove_34 (k_is_o o14) (c_wipeWithin ok W1 dp1 hd ⟨d, hm, rfl⟩ hn g2 hpk h0 g1) ?_
        rintro h2 ⟨W2, dp2⟩
        exact tail h2 _ _ W2 (by omega) dp2 rfl (by rw [hF, if_pos c1'])
    · have c0' : d.1 = 0 := (nI_eq (a := d.1) (b := 0) (by omega) (by omega)).mp c0
      refine bX11_remove_13 ?_
      have hF : F_remove M x = (M, 2, 0) := by unfold F_remove; rw [if_neg (by rw [hx]; decide), if_pos (hd0.mpr c0')]
      rw [hF]
      exact ⟨W_le (W_sk W) (by omega), rfl⟩
theorem C_build1 (ok : k_ok G l) {a N w k : Nat} {B : Nat × Nat} {h : k_H} {M : s_M} {x most : Int32} (W : c_W a B h M N w) (hn : g_n M + 1 < 9000) (hpk : g_pk M) (h0 : g_p0 M) (hrec : ∀ j, j < 100 → ∀ v, r_val (sv_re (nI j)) (g_n M + 1) (g_E M).2.1 = some v → s_na v)
    (hst : s_inB x 0 2 = true → ∀ v, rk_v M (sv_co x) = some v → v = 1000 ∨ v = -1000 ∨ ∃ j, j < 100 ∧ v = nI j)
    (hlim : s_inB x 0 2 = true → s_inB most 1 20 = true → ¬ (bl_st M x = -2147483648 ∨ bl_st M x = 1000) → g_ps M (bl_E M x most) ∧ e_lim (bl_E M x most) ∧ g_sp M (bl_E M x most) ≤ k) :
    k_ct (tX11_build G l) [vR (some a), vI x, vI most] h (c_R a B (F_build M x most) x_3 (N + 1 + k) w) := by
  have X1 : ∀ {q : Nat}, q ≠ 0 → F_build M x most = (M, q, 0) → ∀ {h2 : k_H}, c_W a B h2 M N w → c_R a B (F_build M x most) x_3 (N + 1 + k) w (k_sk h2 1 6) (.inr (x_3 q)) := fun {q} hk hF {h2} W => by
    rw [hF]
    refine ⟨W_le (W_sk W) (by omega), ?_⟩
    show _ = if _ = 0 then _ else _
    rw [if_neg hk]
  refine eX11_build ok.2 ?_
  cases hin : s_inB x 0 2 with
  | false =>
    refine bX11_build_0x (x_X11_requireIndex ok (in3_not hin)) ?_
    rintro _ rfl
    exact X1 (q := 1) (by decide) (by unfold F_build; rw [if_pos hin]) W
  | true =>
    obtain ⟨na, nn, nx, hx⟩ := s_na_m2 hin
    refine bX11_build_0 (c_X11_requireIndex ok hx) ?_
    rintro _ hh
    rw [hh]
    have bad : s_inB most 1 20 = false → k_X (jX11_build G l h) h 15 [] [] (c_R a B (F_build M x most) x_3 (N + 1 + k) w) := fun hc =>
      bX11_build_15 (X1 (q := 2) (by decide) (by unfold F_build; rw [if_neg (by rw [hin]; decide), if_pos hc]) W)
    refine bX11_build_4 (fun c => bad ?_) (fun c1 => bX11_build_9 (fun c2 => ?_) (fun c => bad ?_))
    · unfold s_inB; rw [decide_eq_false (by simpa using c), Bool.false_and]
    · have hm : s_inB most 1 20 = true := by unfold s_inB; rw [decide_eq_true c1, decide_eq_true (Int32.not_lt.mpr c2)]; rfl
      obtain ⟨hm1, hm2, hm3⟩ := s_inA (a := 1) (m := 20) (by decide) (by decide) hm
      obtain ⟨o14, f0, f1, f2, f3, f4, f5, o11⟩ := W_ob W
      have hco := s_cd_lt na_m6.1 nx na_m6.2.2.2.2.2.2.2
      refine bX11_build_26 o14 rfl (c_X11_codeOf_ ok na_m6.1 nx) ?_
      rintro _ _ ⟨hh, rfl⟩
      rw [hh]
      refine bX11_build_36 (k_is_o o11) (W_value ok W (by omega)) ?_
      rintro h1 _ ⟨W1, rfl, -, -⟩
      have est : o_told (rk_v M (s_cd (-6) x 10000)) = bl_st M x := rfl
      rw [est]
      refine bX11_build_39 (c_X11_indexGoesTo ok) ?_
      rintro _ _ ⟨hh, rfl⟩
      rw [hh]
      have hon : ((if bl_st M x = -2147483648 then (1000 : Int32) else bl_st M x) = 1000) ↔ (bl_st M x = -2147483648 ∨ bl_st M x = 1000) := by
        by_cases c : bl_st M x = -2147483648
        · rw [if_pos c]; exact ⟨fun _ => Or.inl c, fun _ => rfl⟩
        · rw [if_neg c]; exact ⟨fun z => Or.inr z, fun z => by rcases z with z | z; exact absurd z c; exact z⟩
      refine bX11_build_42 (fun c => ?_) (fun c => bX11_build_50 (X1 (q := 3) (by decide) (by unfold F_build; rw [if_neg (by rw [hin]; decide), if_neg (by rw [hm]; decide), if_pos (hon.mp c)]) W1))
      have c' : ¬ (bl_st M x = -2147483648 ∨ bl_st M x = 1000) := fun z => c (hon.mpr z)
      obtain ⟨g1, g2, g3⟩ := hlim hin hm c'
      rw [if_neg (fun z => c' (Or.inl z))]
      have hF : F_build M x most = (g_cm M (bl_E M x most), 0, nI (bl_run M x most).2.1) := by
        unfold F_build; rw [if_neg (by rw [hin]; decide), if_neg (by rw [hm]; decide), if_neg c']
      -- where it starts
      have hstart : ∃ s0 : Nat, s0 ≤ 100 ∧ (if (bl_st M x + 1) < 0 then (0 : Int32) else (bl_st M x + 1)) = nI s0 ∧ (∀ j, j < 100 → (nI j ≤ bl_st M x ↔ j < s0)) := by
        have hv : bl_st M x = -1000 ∨ ∃ j, j < 100 ∧ bl_st M x = nI j := by
          have e : bl_st M x = o_told (rk_v M (sv_co x)) := rfl
          cases hr : rk_v M (sv_co x) with
          | none => rw [hr] at e; exact absurd (Or.inl e) c'
          | some v =>
            rw [hr] at e
            have e : bl_st M x = v := e
            rcases hst hin v hr with z | z | ⟨j, hj, z⟩
            · exact absurd (Or.inr (by rw [e, z])) c'
            · exact Or.inl (by rw [e, z])
            · exact Or.inr ⟨j, hj, by rw [e, z]⟩
        rcases hv with e | ⟨j, hj, e⟩
        · refine ⟨0, by omega, by rw [e]; decide, fun i hi => ?_⟩
          rw [e]
          constructor
          · intro z
            have z1 := Int32.le_iff_toInt_le.mp z
            rw [nI_toInt (by omega)] at z1
            have e1 : (-1000 : Int32).toInt = -1000 := by decide
            omega
          · intro z; omega
        · refine ⟨j + 1, by omega, ?_, fun i hi => ?_⟩
          · rw [e, nI_1, if_neg]
            intro z
            have := (nI_ltI (a := j + 1) (b := 0) (by omega) (by omega)).mp z
            omega
          · rw [e, nI_leI (by omega) (by omega)]
            omega
      obtain ⟨s0, hs0, es0, hs1⟩ := hstart
      obtain ⟨o14, f0, f1, f2, f3, f4, f5, o11⟩ := W_ob W1
      have hbb : k_cti (tX11_buildBehind G l) [vR (some a), vI x, vI (bl_st M x), vI most] h1 (fun h' v => c_W a B h' (g_cm M (bl_E M x most)) (N + g_sp M (bl_E M x most)) w ∧ v = nI (bl_run M x most).2.1) := by
        refine k_cti_of (eX11_buildBehind ok.2 (bX11_buildBehind_0 o14 rfl (k_is_o o11) (O_open ok W1 (by omega)) ?_))
        rintro h2 ⟨O2, -⟩
        refine bX11_buildBehind_8 ?_
        rw [es0]
        -- the end
        have fin : ∀ (hh : k_H) (x6 : Int32) (E : e_S) (b : Nat) (la : Int32), c_O a B hh M E N w → e_ex (g_n M) (g_E M) E → (bl_run M x most).1 = E → (bl_run M x most).2.1 = b → (bl_run M x most).2.2.1 = la → (x6 = 0 ↔ (bl_run M x most).2.2.2 = 0) →
            k_X (jX11_buildBehind G l h1) hh 101 [(0, vR (some a)), (1, vI x), (4, vI (nI b)), (5, vI la), (6, vI x6)] [] (q_i (fun h' v => c_W a B h' (g_cm M (bl_E M x most)) (N + g_sp M (bl_E M x most)) w ∧ v = nI (bl_run M x most).2.1)) := by
          intro hh x6 E b la O3 hex e1 e2 e3 e4
          obtain ⟨o14, f0, f1, f2, f3, f4, f5, o11⟩ := O_ob O3
          refine bX11_buildBehind_101 o14 rfl (c_X11_codeOf_ ok na_m6.1 nx) ?_
          rintro _ _ ⟨hh3, rfl⟩
          rw [hh3]
          have put : ∀ v : Int32, v = (if 0 < (bl_run M x most).2.2.2 then (bl_run M x most).2.2.1 else 1000) → k_X (jX11_buildBehind G l h1) hh 125 [(0, vR (some a)), (4, vI (nI b))] [vI v, vJ (lN (s_cd (-6) x 10000)), vI 0, vR (some (a + 1))] (q_i (fun h' v => c_W a B h' (g_cm M (bl_E M x most)) (N + g_sp M (bl_E M x most)) w ∧ v = nI (bl_run M x most).2.1)) := fun v hv => by
            have eE : bl_E M x most = e_put (g_n M + 1) (s_cd (-6) x 10000) (s_apO 0 v (nI (g_n M + 1)) (r_val (s_cd (-6) x 10000) (g_n M + 1) E.2.1)) E := by
              unfold bl_E
              rw [← hv, e1, ap_set]
              rfl
            refine bX11_buildBehind_125 (k_is_o o11) (O_alter ok O3 hco (by rw [← eE]; exact g2)) ?_
            rintro h4 ⟨O4, -⟩
            rw [← eE] at O4
            obtain ⟨o14, -⟩ := O_ob O4
            refine bX11_buildBehind_128 (k_is_o o14) (O_close ok O4 ?_ g2 hpk h0 g1) ?_
            · rw [eE]; exact ex_trans hex (ex_put _ _ _ _)
            rintro h5 ⟨W5, -⟩
            exact bX11_buildBehind_132 ⟨_, rfl, W5, by rw [e2]⟩
          refine bX11_buildBehind_112 (fun c => bX11_buildBehind_122 (put 1000 ?_)) (fun c => bX11_buildBehind_117 (put la ?_))
          · rw [e4.mp c, if_neg (Nat.lt_irrefl 0)]
          · rw [if_pos (Nat.pos_of_ne_zero (fun z => c (e4.mpr z))), e3]
        -- the loop
        have key : ∀ (d j : Nat) (hh : k_H) (A : b_S), 100 - j = d → s0 ≤ j → j ≤ 100 → (List.range' 0 j).foldl (bl_step (g_n M + 1) x (bl_st M x) most) (g_E M, 0, bl_st M x, 0) = A → A.2.2.2 = 0 → A.2.1 ≤ most.toInt.toNat → (∀ i, i < 100 → r_val (sv_re (nI i)) (g_n M + 1) A.1.2.1 = r_val (sv_re (nI i)) (g_n M + 1) (g_E M).2.1) → e_ex (g_n M) (g_E M) A.1 → c_O a B hh M A.1 N w →
            k_X (jX11_buildBehind G l h1) hh 26 [(0, vR (some a)), (1, vI x), (3, vI most), (4, vI (nI A.2.1)), (5, vI A.2.2.1), (6, vI 0), (7, vI (nI j))] [] (q_i (fun h' v => c_W a B h' (g_cm M (bl_E M x most)) (N + g_sp M (bl_E M x most)) w ∧ v = nI (bl_run M x most).2.1)) := by
          intro d
          induction d with
          | zero =>
            intro j hh A hd hj1 hj2 hA hm0 hmo hr hex O3
            have ej : j = 100 := by omega
            subst ej
            refine bX11_buildBehind_26 (fun _ => ?_) (fun c => absurd (by decide) c)
            have hA2 : bl_run M x most = A := hA
            exact fin hh 0 _ _ _ O3 hex (by rw [hA2]) (by rw [hA2]) (by rw [hA2]) (by rw [hA2]; exact ⟨fun _ => hm0, fun _ => rfl⟩)
          | succ d ih =>
            intro j hh A hd hj1 hj2 hA hm0 hmo hr hex O3
            have hj100 : j < 100 := by omega
            have hnj : s_na (nI j) := na_100 (by omega)
            have hcr := s_cd_lt na_m6.2.2.2.2.2.2.1 hnj na_m6.2.2.2.2.2.2.2
            have hsplit : List.range' 0 100 = List.range' 0 (j + 1) ++ List.range' (j + 1) (100 - (j + 1)) := by
              have := List.range'_append (s := 0) (m := j + 1) (n := 100 - (j + 1)) (step := 1)
              rw [show j + 1 + (100 - (j + 1)) = 100 by omega, Nat.one_mul, Nat.zero_add] at this
              exact this.symm
            have hstep : (List.range' 0 (j + 1)).foldl (bl_step (g_n M + 1) x (bl_st M x) most) (g_E M, 0, bl_st M x, 0) = bl_step (g_n M + 1) x (bl_st M x) most A j := by
              rw [List.range'_concat, List.foldl_append, hA]
              show bl_step _ _ _ _ A (0 + 1 * j) = _
              rw [Nat.one_mul, Nat.zero_add]
            have hrun : bl_run M x most = (List.range' (j + 1) (100 - (j + 1))).foldl (bl_step (g_n M + 1) x (bl_st M x) most) (bl_step (g_n M + 1) x (bl_st M x) most A j) := by
              unfold bl_run
              rw [hsplit, List.foldl_append, hstep]
            have hcond : decide (¬ nI j ≤ bl_st M x) = true := decide_eq_true (fun z => by have := (hs1 j hj100).mp z; omega)
            obtain ⟨o14, f0, f1, f2, f3, f4, f5, o11⟩ := O_ob O3
            refine bX11_buildBehind_26 (fun c => absurd ((nI_ltI (a := 99) (by omega) (by omega)).mp c) (by omega)) (fun _ => bX11_buildBehind_33 (fun c => absurd rfl c) (fun _ => bX11_buildBehind_38 o14 rfl (c_X11_codeOf_ ok na_m6.2.2.2.2.2.2.1 hnj) ?_))
            rintro _ _ ⟨hh3, rfl⟩
            rw [hh3]
            refine bX11_buildBehind_48 (k_is_o o11) (O_value ok O3 (by omega)) ?_
            rintro h3 _ ⟨O4, rfl⟩
            have esr : r_val (s_cd (-1) (nI j) 10000) (g_n M + 1) A.1.2.1 = r_val (sv_re (nI j)) (g_n M + 1) A.1.2.1 := rfl
            rw [esr]
            cases hv : r_val (sv_re (nI j)) (g_n M + 1) A.1.2.1 with
            | none =>
              have hs2 : bl_step (g_n M + 1) x (bl_st M x) most A j = A := by
                unfold bl_step
                rw [hv, Option.isSome_none, Bool.and_false, if_neg (by decide)]
              rw [hs2] at hstep
              refine bX11_buildBehind_51 (fun _ => bX11_buildBehind_72 (fun _ => bX11_buildBehind_95 ?_) (fun c => absurd rfl c)) (fun c => absurd rfl c)
              rw [nI_1]
              exact ih (j + 1) h3 A (by omega) (by omega) (by omega) hstep hm0 hmo hr hex O4
            | some f =>
              have hfna : s_na f := hrec j hj100 f (by rw [← hr j hj100, hv])
              have hfne := na_ne hfna
              have e5 : o_told (some f) = f := rfl
              rw [e5]
              refine bX11_buildBehind_51 (fun c => absurd c hfne) (fun _ => bX11_buildBehind_60 (fun c => ?_) (fun c => bX11_buildBehind_66 (bX11_buildBehind_95 ?_)))
              · have hlt : A.2.1 < most.toInt.toNat := by
                  by_cases e : A.2.1 = most.toInt.toNat
                  · exact absurd (by rw [e]; exact hm1.symm) c
                  · omega
                have hs2 : bl_step (g_n M + 1) x (bl_st M x) most A j = (bl_one (g_n M + 1) x j f A.1, A.2.1 + 1, nI j, A.2.2.2) := by
                  unfold bl_step
                  rw [hv, Option.isSome_some, Bool.and_true, if_pos hcond, if_neg]
                  · rfl
                  · intro z
                    rw [hm1] at z
                    have := (nI_leI (by omega) (by omega)).mp z
                    omega
                have le1 : e_lim (bl_one (g_n M + 1) x j f A.1) := by
                  have h9 := bl_run_le (g_n M + 1) x (bl_st M x) most (List.range' (j + 1) (100 - (j + 1))) (bl_step (g_n M + 1) x (bl_st M x) most A j)
                  rw [← hrun, hs2] at h9
                  exact e_lim_le g2 (e_le_trans h9 (e_le_put _ _ _ _))
                obtain ⟨o14, -⟩ := O_ob O4
                refine bX11_buildBehind_72 (fun c2 => absurd c2 hfne) (fun _ => bX11_buildBehind_79 (k_is_o o14) (C_putNow ok O4 hin hj100 hfna le1) ?_)
                rintro h4 O5
                refine bX11_buildBehind_88 (bX11_buildBehind_95 ?_)
                rw [nI_1, nI_1]
                rw [hs2] at hstep
                exact ih (j + 1) h4 _ (by omega) (by omega) (by omega) hstep hm0 (by show A.2.1 + 1 ≤ _; omega) (fun i hi => by
                  show r_val _ _ (bl_one (g_n M + 1) x j f A.1).2.1 = _
                  rw [bl_one_rec hfna hj100 hn i hi]
                  exact hr i hi) (ex_trans hex bl_one_ex) O5
              · have hle : most ≤ nI A.2.1 := by rw [c]; exact Int32.le_refl _
                have hs2 : bl_step (g_n M + 1) x (bl_st M x) most A j = (A.1, A.2.1, A.2.2.1, A.2.2.2 + 1) := by
                  unfold bl_step
                  rw [hv, Option.isSome_some, Bool.and_true, if_pos hcond, if_pos hle]
                obtain ⟨m1, m2, m3, m4⟩ := bl_more (g_n M + 1) x (bl_st M x) most (List.range' (j + 1) (100 - (j + 1))) (bl_step (g_n M + 1) x (bl_st M x) most A j) (by rw [hs2]; exact hle)
                rw [← hrun] at m1 m2 m3 m4
                rw [hs2] at m1 m2 m3 m4
                have F := fin h3 1 _ _ _ O4 hex m1 m2 m3 ⟨fun z => absurd z (by decide), fun z => by
                  have m4 : A.2.2.2 + 1 ≤ (bl_run M x most).2.2.2 := m4
                  omega⟩
                refine bX11_buildBehind_26 (fun _ => F) (fun _ => bX11_buildBehind_33 (fun _ => F) (fun c2 => absurd c2 (by decide)))
        refine key (100 - s0) s0 h2 (g_E M, 0, bl_st M x, 0) rfl (Nat.le_refl _) hs0 ?_ rfl (Nat.zero_le _) (fun _ _ => rfl) (ex_refl _ _) O2
        refine bl_skip _ _ _ _ _ _ (fun j hj => ?_)
        have hj2 := List.mem_range'_1.mp hj
        exact (hs1 j (by omega)).mpr (by omega)
      refine bX11_build_61 (k_is_o o14) hbb ?_
      rintro h2 _ ⟨W2, rfl⟩
      exact bX11_build_68 (R_ok (W_le W2 (by omega)) hF)
    · unfold s_inB; rw [decide_eq_false (show ¬ ¬ (20 : Int32) < most from fun z => c (Int32.not_lt.mp z)), Bool.and_false]
def wk_ok1 (M : s_M) : Prop := ∀ (x v : Int32), s_na x → rk_v M (s_cd (-7) x 10000) = some v → ¬ v < 0
end CP1
end
section
/-! CONTRACTS ONCE MORE, 2 (printed by wip/whole/gencopy2.py) -/
section CP2
variable {G : k_G} {l : Launch}
theorem C_take1 (ok : k_ok G l) {a N w k : Nat} {B : Nat × Nat} {h : k_H} {M : s_M} {x : Int32} (W : c_W a B h M N w) (hn : g_n M + 1 < 9000) (hlim0 : e_lim (g_E M)) (hpk : g_pk M) (h0 : g_p0 M) (hlim : s_inB x 0 2 = true → ∀ y, (wk_list M (-2147483648)).head? = some y → g_ps M (wk_tE M x y.1) ∧ e_lim (wk_tE M x y.1) ∧ g_sp M (wk_tE M x y.1) ≤ k ∧ r_val y.1 (g_n M + 1) (wk_tE M x y.1).2.1 = rk_v M y.1) :
    k_ct (tX11_take G l) [vR (some a), vI x] h (c_R a B (F_take M x) x_I (N + 1 + k) w) := by
  refine eX11_take ok.2 ?_
  cases hin : s_inB x 0 2 with
  | false =>
    refine bX11_take_0x (x_X11_requireWorker ok (in3_not hin)) ?_
    rintro _ rfl
    have hF : F_take M x = (M, 1, 0) := by unfold F_take; rw [if_pos hin]
    rw [hF]
    exact ⟨W_le (W_sk W) (by omega), rfl⟩
  | true =>
    obtain ⟨o14, -⟩ := W_ob W
    refine bX11_take_0 (c_X11_requireWorker ok (in3_yes hin)) ?_
    rintro _ hh
    rw [hh]
    refine bX11_take_4 (k_is_o o14) (C_firstWork ok W hlim0) ?_
    rintro h1 _ ⟨W1, ⟨rfl, hw⟩ | ⟨q, y, rfl, hw, hy, pn⟩⟩
    · have hF : F_take M x = (M, 0, -2147483648) := by unfold F_take; rw [if_neg (by rw [hin]; decide), hw]
      exact bX11_take_10 (fun _ => bX11_take_15 (R_ok (W_le W1 (by omega)) hF)) (fun a e => by cases e)
    · have hF : F_take M x = (g_cm M (wk_tE M x y.1), 0, o_told (rk_v M y.1)) := by unfold F_take; rw [if_neg (by rw [hin]; decide), hw]
      obtain ⟨g1, g2, g3, g4⟩ := hlim hin y hw
      refine bX11_take_10 (fun e => by cases e) (fun a' _ => ?_)
      obtain ⟨o14, f0, f1, f2, f3, f4, f5, o11⟩ := W_ob W1
      refine bX11_take_18 o14 rfl (k_is_o o11) (O_open ok W1 (by omega)) ?_
      rintro h2 ⟨O2, pn2⟩
      obtain ⟨o14, f0, f1, f2, f3, f4, f5, o11⟩ := O_ob O2
      refine bX11_take_26 o14 rfl (O_lease ok (pn2 _ _ pn) hy) ?_
      rintro _ _ ⟨hh, rfl⟩
      rw [hh]
      have eE : wk_tE M x y.1 = e_put (g_n M + 1) (s_cd (-7) (s_no y.1 1) 10000) (s_apO 0 (10000 * x + nI (g_n M + 1) + 10) (nI (g_n M + 1)) (r_val (s_cd (-7) (s_no y.1 1) 10000) (g_n M + 1) (g_E M).2.1)) (g_E M) := by
        rw [ap_set]; rfl
      refine bX11_take_35 o14 rfl o11 rfl (k_is_o o11) (O_alter ok O2 (s_cd_lt na_m6.2.1 (s_no_na y.1 1) na_m6.2.2.2.2.2.2.2) (by rw [← eE]; exact g2)) ?_
      rintro h3 ⟨O3, pn3⟩
      rw [← eE] at O3
      obtain ⟨o14, -⟩ := O_ob O3
      refine bX11_take_54 (k_is_o o14) (O_close ok O3 (ex_put _ _ _ _) g2 hpk h0 g1) ?_
      rintro h4 ⟨W4, pn4⟩
      obtain ⟨o14, f0, f1, f2, f3, f4, f5, o11⟩ := W_ob W4
      obtain ⟨f, o7⟩ := pin_o (pn4 _ _ (pn3 _ _ (by omega) (pn2 _ _ pn)))
      refine bX11_take_58 o14 rfl o7 rfl (k_is_o o11) (W_value ok W4 (by omega)) ?_
      rintro h5 _ ⟨W5, rfl, -⟩
      have ev : rk_v (g_cm M (wk_tE M x y.1)) y.1 = rk_v M y.1 := g4
      rw [ev]
      exact bX11_take_69 (R_ok (W_le W5 (by omega)) hF)
theorem C_finish1 (ok : k_ok G l) {a N w k : Nat} {B : Nat × Nat} {h : k_H} {M : s_M} {x : Int32} (W : c_W a B h M N w) (hn : g_n M + 1 < 9000) (hlim0 : e_lim (g_E M)) (hpk : g_pk M) (h0 : g_p0 M) (hlim : s_inB x 0 2 = true → ∀ y, (wk_list M x).head? = some y → g_ps M (wk_fE M y.1) ∧ e_lim (wk_fE M y.1) ∧ g_sp M (wk_fE M y.1) ≤ k ∧ s_cd (-5) (s_no y.1 1) 10000 = y.1) :
    k_ct (tX11_finish G l) [vR (some a), vI x] h (c_R a B (F_finish M x) x_I (N + 1 + k) w) := by
  refine eX11_finish ok.2 ?_
  cases hin : s_inB x 0 2 with
  | false =>
    refine bX11_finish_0x (x_X11_requireWorker ok (in3_not hin)) ?_
    rintro _ rfl
    have hF : F_finish M x = (M, 1, 0) := by unfold F_finish; rw [if_pos hin]
    rw [hF]
    exact ⟨W_le (W_sk W) (by omega), rfl⟩
  | true =>
    obtain ⟨o14, -⟩ := W_ob W
    refine bX11_finish_0 (c_X11_requireWorker ok (in3_yes hin)) ?_
    rintro _ hh
    rw [hh]
    refine bX11_finish_4 (k_is_o o14) (C_firstWork ok W hlim0) ?_
    rintro h1 _ ⟨W1, ⟨rfl, hw⟩ | ⟨q, y, rfl, hw, hy, pn⟩⟩
    · have hF : F_finish M x = (M, 0, -2147483648) := by unfold F_finish; rw [if_neg (by rw [hin]; decide), hw]
      exact bX11_finish_9 (fun _ => bX11_finish_14 (R_ok (W_le W1 (by omega)) hF)) (fun a e => by cases e)
    · have hF : F_finish M x = (g_cm M (wk_fE M y.1), 0, o_told (rk_v M y.1)) := by unfold F_finish; rw [if_neg (by rw [hin]; decide), hw]
      obtain ⟨g1, g2, g3, g4⟩ := hlim hin y hw
      refine bX11_finish_9 (fun e => by cases e) (fun a' _ => ?_)
      obtain ⟨o14, f0, f1, f2, f3, f4, f5, o11⟩ := W_ob W1
      obtain ⟨f, o7⟩ := pin_o pn
      refine bX11_finish_17 o14 rfl o7 rfl (k_is_o o11) (W_value ok W1 (by omega)) ?_
      rintro h1 _ ⟨W1, rfl, pn1, -⟩
      obtain ⟨o14, f0, f1, f2, f3, f4, f5, o11⟩ := W_ob W1
      refine bX11_finish_28 o14 rfl (k_is_o o11) (O_open ok W1 (by omega)) ?_
      rintro h2 ⟨O2, pn2⟩
      obtain ⟨o14, f0, f1, f2, f3, f4, f5, o11⟩ := O_ob O2
      have p2 := pn2 _ _ (pn1 _ _ pn)
      obtain ⟨f, o7⟩ := pin_o p2
      have e1 : ∀ (c : Nat) (E : e_S), e_put (g_n M + 1) c (s_apO 1 0 (nI (g_n M + 1)) (r_val c (g_n M + 1) E.2.1)) E = e_put (g_n M + 1) c none E := fun c E => by
        unfold s_apO
        rw [if_pos rfl]
      have eE : wk_fE M y.1 = e_put (g_n M + 1) (s_cd (-7) (s_no y.1 1) 10000) none (e_put (g_n M + 1) y.1 none (g_E M)) := by
        unfold wk_fE
        rw [g4]
      have l1 : e_lim (e_put (g_n M + 1) y.1 none (g_E M)) := by
        rw [eE] at g2
        exact e_lim_le g2 (e_le_put _ _ _ _)
      refine bX11_finish_37 o14 rfl o7 rfl (k_is_o o11) (O_alter ok O2 hy (by rw [e1]; exact l1)) ?_
      rintro h3 ⟨O3, pn3⟩
      rw [e1] at O3
      have p3 := pn3 _ _ (by omega) p2
      obtain ⟨o14, f0, f1, f2, f3, f4, f5, o11⟩ := O_ob O3
      refine bX11_finish_50 o14 rfl (O_lease ok p3 hy) ?_
      rintro _ _ ⟨hh, rfl⟩
      rw [hh]
      refine bX11_finish_59 (k_is_o o11) (O_alter ok O3 (s_cd_lt na_m6.2.1 (s_no_na y.1 1) na_m6.2.2.2.2.2.2.2) (by rw [e1, ← eE]; exact g2)) ?_
      rintro h4 ⟨O4, -⟩
      rw [e1, ← eE] at O4
      obtain ⟨o14, -⟩ := O_ob O4
      refine bX11_finish_63 (k_is_o o14) (O_close ok O4 (ex_trans (ex_put _ _ _ _) (ex_put _ _ _ _)) g2 hpk h0 g1) ?_
      rintro h5 ⟨W5, -⟩
      exact bX11_finish_67 (R_ok (W_le W5 (by omega)) hF)
end CP2
end
