/-! THE CLASS'S COMMIT -/
theorem up_same {h : k_H} {q : Nat} {c : k_C} (e : h.1 q = some c) : k_up h q c = h := by
  obtain ⟨f, n, m⟩ := h
  unfold k_up
  refine Prod.ext (funext fun p => ?_) rfl
  show (if p = q then some c else f p) = f p
  by_cases z : p = q
  · rw [if_pos z, z]; exact e.symm
  · rw [if_neg z]
theorem W_over {a t N w : Nat} {B : Nat × Nat} {h h' : k_H} {M : s_M} {fs : List k_V} (W : c_W a B h M N w) (ht : t < 4) (ho : h.1 (a + c_T t) = some (k_o 12 fs)) (hh : h' = k_up h (a + c_T t) (k_o 12 (fs.set 2 (vI 0)))) : c_W a B h' (g_tx M t (g_ov (g_X M t))) N w := by
  obtain ⟨Q, S, PS, s, r, p, co⟩ := W
  obtain ⟨r1, -⟩ := id r
  obtain ⟨CXg, z1, z2, z3, z4⟩ := id r1
  obtain ⟨RS, cap, capR, kept, o1, ⟨c1, c2, c3⟩, c4⟩ := id (z1 t ht)
  rw [o1] at ho
  have hfs : fs = [vR (some (a + (c_T t + 1))), vR (some (a + (c_T t + 2))), vI (kB (g_X M t).1.1), vI (kB (g_X M t).1.2.1), vI (nI (g_X M t).1.2.2.1), vI (nI (g_X M t).1.2.2.2.1), vI (c_dn (g_X M t).1.2.2.2.2), vI (nI kept)] := by
    injection ho with h1; injection h1 with h2; exact (Prod.mk.inj h2).2.symm
  subst hfs
  have m3 : k_mo a [] (c_At a t) 0 h h' := by rw [hh]; exact mv_o o1 (Or.inr (Or.inl rfl))
  have ne : ∀ q c, h.1 q = some c → q ≠ a + c_T t → h'.1 q = some c := fun q c hq hne => by rw [hh, k_up_ne _ _ hne]; exact hq
  have x3 : c_TX a h' (X_up (g_X M) t (g_ov (g_X M t))) (g_ser M) w := by
    refine TX_one z1 z2 z3 z4 ht m3 (CX' := CXg t) (x' := g_ov (g_X M t)) ⟨RS, cap, capR, kept, by rw [hh]; exact k_up_self _ _ _, ⟨⟨ne _ _ c1.1 (by omega), fun y hy => ⟨?_, (c1.2.1 y hy).2⟩, c1.2.2⟩, ⟨ne _ _ c2.1 (by omega), fun y hy => ⟨?_, (c2.2.1 y hy).2⟩, c2.2.2⟩, c3⟩, fun e => by cases e⟩ (Nat.le_refl _) (Nat.le_refl _) (fun y hy => Or.inl ⟨y, hy, rfl⟩)
    · have := (c1.2.1 y hy).1
      exact ne _ _ this (fun z => by rw [z, o1] at this; cases this)
    · have := (c2.2.1 y hy).1
      exact ne _ _ this (fun z => by rw [z, o1] at this; cases this)
  obtain ⟨s3, q3⟩ := rs_tx (M' := g_tx M t (g_ov (g_X M t))) s r ht m3 (by simp) x3 ⟨rfl, rfl, rfl, rfl, rfl, rfl⟩
  exact ⟨Q, S, PS, s3, q3, p, co_le (co_mo co m3) (Nat.le_refl _)⟩
theorem W_obj {a t N w : Nat} {B : Nat × Nat} {h : k_H} {M : s_M} (W : c_W a B h M N w) (ht : t < 4) : ∃ fs, h.1 (a + c_T t) = some (k_o 12 fs) ∧ fs.length = 8 ∧ fs.set 2 (vI (kB (g_X M t).1.1)) = fs := by
  obtain ⟨Q, S, PS, s, r, p, co⟩ := W
  obtain ⟨kept, o, -⟩ := tx_obj r.1 ht
  exact ⟨_, o, rfl, rfl⟩
theorem W_ob {a N w : Nat} {B : Nat × Nat} {h : k_H} {M : s_M} (W : c_W a B h M N w) : c_ob a h M ∧ ∃ f0 f1 f2 f3 f4 f5, h.1 (a + 1) = some (k_o 11 [f0, f1, f2, f3, f4, f5, vI (nI (g_n M))]) := by
  obtain ⟨Q, S, PS, s, r, p, co⟩ := W
  exact ⟨r.2.2.1, sE_obj s⟩
theorem nI_n3 {i : Nat} (h : i < 2 ^ 31) : ¬ nI i = -3 := fun e => by
  have h1 := congrArg Int32.toInt e
  rw [nI_toInt h] at h1
  have h2 : (-3 : Int32).toInt = -3 := by decide
  rw [h2] at h1
  omega
/-- the state behind the doing -/
def g_did (M : s_M) (t : Nat) : s_M := g_tx (g_cm (g_sl M 0) (e_all (g_n M + 1) (g_X M t).2.1 (g_E M))) t (g_dn (g_X M t) (g_n M + 1))
theorem td_cm {M : s_M} {t : Nat} (hn : g_n M < 2 ^ 20) (hra : (g_X M t).1.2.2.1 ≤ g_n M) (hd : (g_X M t).1.2.2.2.2 ≤ g_n M) :
    (¬ (f_td M t).2 = -2147483648 ∧ f_commit M t = (g_tx (f_td M t).1 t (g_ov (g_X (f_td M t).1 t)), (f_td M t).2)) ∨
    (f_td M t = (M, -2147483648) ∧ g_goes M t = true ∧ f_commit M t = if g_los M = 2 then (g_sl M 0, -3) else if g_los M = 1 then (g_did M t, -3) else (g_tx (g_did M t) t (g_ov (g_X (g_did M t) t)), nI (g_n M + 1))) := by
  by_cases c0 : (g_X M t).1.2.1 = true ∧ 0 < (g_X M t).1.2.2.2.2
  · have e : f_td M t = (M, nI (g_X M t).1.2.2.2.2) := by unfold f_td; rw [if_pos c0]
    rw [e]
    exact Or.inl ⟨wk_ne (by omega), by unfold f_commit; rw [if_pos c0]⟩
  · have ec : f_commit M t = if (f_cmd M t).2 = -3 then f_cmd M t else (g_tx (f_cmd M t).1 t (g_ov (g_X (f_cmd M t).1 t)), (f_cmd M t).2) := by unfold f_commit; rw [if_neg c0]
    by_cases c1 : (g_X M t).2.1.length = 0
    · have e : f_td M t = (M, nI (g_X M t).1.2.2.1) := by unfold f_td; rw [if_neg c0, if_pos c1]
      have e2 : f_cmd M t = (M, nI (g_X M t).1.2.2.1) := by unfold f_cmd; rw [if_pos c1]
      rw [e]
      refine Or.inl ⟨wk_ne (by omega), ?_⟩
      rw [ec, e2, if_neg]
      exact nI_n3 (by omega)
    · by_cases c2 : 30 < g_n M - (g_X M t).1.2.2.1 ∨ ¬ (g_X M t).1.2.2.2.1 = g_gen M
      · have e : f_td M t = (M, -2) := by unfold f_td; rw [if_neg c0, if_neg c1, if_pos c2]
        have e2 : f_cmd M t = (M, -2) := by unfold f_cmd; rw [if_neg c1, if_pos c2]
        rw [e]
        refine Or.inl ⟨by show ¬ (-2 : Int32) = -2147483648; decide, ?_⟩
        rw [ec, e2, if_neg (show ¬ (-2 : Int32) = -3 by decide)]
      · cases hf : (g_X M t).2.2.findIdx? (s_met (g_X M t).2.1 (g_X M t).1.2.2.1 (g_E M).2.1 (g_E M).2.2) with
        | some k =>
          have e : f_td M t = (g_sw M (nI k), -1) := by unfold f_td; rw [if_neg c0, if_neg c1, if_neg c2, hf]
          have e2 : f_cmd M t = (g_sw M (nI k), -1) := by unfold f_cmd; rw [if_neg c1, if_neg c2, hf]
          rw [e]
          refine Or.inl ⟨by show ¬ (-1 : Int32) = -2147483648; decide, ?_⟩
          rw [ec, e2, if_neg (show ¬ (-1 : Int32) = -3 by decide)]
        | none =>
          have e : f_td M t = (M, -2147483648) := by unfold f_td; rw [if_neg c0, if_neg c1, if_neg c2, hf]
          have e2 : f_cmd M t = if g_los M = 2 then (g_sl M 0, -3) else (g_did M t, if g_los M = 1 then -3 else nI (g_n M + 1)) := by unfold f_cmd; rw [if_neg c1, if_neg c2, hf]; rfl
          refine Or.inr ⟨e, ?_, ?_⟩
          · have c3 : ¬ 30 < g_n M - (g_X M t).1.2.2.1 := fun z => c2 (Or.inl z)
            have c4 : (g_X M t).1.2.2.2.1 = g_gen M := Classical.not_not.mp (fun z => c2 (Or.inr z))
            unfold g_goes
            rw [hf, decide_eq_false c1, decide_eq_false c3, decide_eq_true c4]
            rfl
          · rw [ec, e2]
            by_cases l2 : g_los M = 2
            · rw [if_pos l2, if_pos l2]; rfl
            · rw [if_neg l2, if_neg l2]
              by_cases l1 : g_los M = 1
              · rw [if_pos l1, if_pos l1]; rfl
              · rw [if_neg l1, if_neg l1, if_neg]
                exact nI_n3 (by omega)
section CCM
variable {G : k_G} {l : Launch}
theorem C_commit (ok : k_ok G l) {a N w k : Nat} {B : Nat × Nat} {h : k_H} {M : s_M} {x : Int32} (W : c_W a B h M N w) (hn : g_n M + 1 < 9000) (hgen : g_gen M < 2 ^ 31) (hlos : g_los M ≤ 2) (hx : ∀ t, t < 4 → (g_X M t).1.2.2.1 ≤ g_n M ∧ (g_X M t).1.2.2.2.1 < 2 ^ 31 ∧ (g_X M t).1.2.2.2.2 ≤ g_n M ∧ (g_X M t).2.1.length < 2 ^ 20) (hlim : e_lim (g_E M)) (hws : g_ws M) (hpk : g_pk M) (h0 : g_p0 M)
    (hgo : ∀ t, t < 4 → g_goes M t = true → g_ps M (e_all (g_n M + 1) (g_X M t).2.1 (g_E M)) ∧ e_lim (e_all (g_n M + 1) (g_X M t).2.1 (g_E M)) ∧ g_sp M (e_all (g_n M + 1) (g_X M t).2.1 (g_E M)) ≤ k) :
    k_ct (tX11_commit G l) [vR (some a), vI x] h (c_R a B (F_commit M x) x_I (N + 1 + k) w) := by
  obtain ⟨Q, S, PS, s, r, p, co⟩ := id W
  obtain ⟨r1, r2, r3, r4, r5, r6, r7⟩ := id r
  refine eX11_commit ok.2 ?_
  cases hin : s_inB x 0 3 with
  | false =>
    refine bX11_commit_0x (k_is_o r3) (c_trAtX ok r3 r4 hin) ?_
    rintro _ rfl
    have hF : F_commit M x = (M, 1, 0) := by unfold F_commit; rw [if_pos hin]
    rw [hF]
    exact ⟨W_le (W_sk W) (by omega), rfl⟩
  | true =>
    obtain ⟨t, ht, rfl, e9⟩ := s_in4 hin
    have e9 : t_of (nI t) = t := e9
    refine bX11_commit_0 (k_is_o r3) (c_trAt ok r3 r4 r1 ht) ?_
    rintro _ _ ⟨hh, rfl⟩
    rw [hh]
    cases hb : (g_X M t).1.1 with
    | false =>
      refine bX11_commit_5x (c_begunX ok r1 ht hb) ?_
      rintro _ rfl
      have hF : F_commit M (nI t) = (M, 2, 0) := by unfold F_commit; rw [if_neg (by rw [hin]; decide), e9, if_pos hb]
      rw [hF]
      exact ⟨W_le (W_sk W) (by omega), rfl⟩
    | true =>
      have hF : F_commit M (nI t) = ((f_commit M t).1, 0, (f_commit M t).2) := by unfold F_commit; rw [if_neg (by rw [hin]; decide), e9, if_neg (by rw [hb]; decide)]
      rw [hF]
      obtain ⟨x1, x2, x3, x4⟩ := hx t ht
      have hn9 := (sE_n s).1
      refine bX11_commit_5 (c_begun ok r1 ht hb) ?_
      rintro _ hh
      rw [hh]
      refine bX11_commit_10 (k_is_o r3) (C_told ok W ht hb x1 ⟨hgen, x2, by omega⟩ x4 hlim hws) ?_
      rintro h1 _ ⟨W1, rfl⟩
      rcases td_cm (M := M) (t := t) (by omega) x1 x3 with ⟨c1, ef⟩ | ⟨c1, hg, ef⟩
      · refine bX11_commit_15 (fun z => absurd z c1) (fun _ => ?_)
        obtain ⟨fs, o2, o3, o4⟩ := W_obj W1 ht
        refine bX11_commit_22 o2 o3 ?_
        generalize hh : k_up h1 (a + c_T t) _ = h2
        have W2 := W_over W1 ht o2 hh.symm
        rw [ef]
        exact bX11_commit_27 ⟨W_le W2 (by omega), rfl⟩
      · rw [c1] at W1 ⊢
        obtain ⟨g1, g2, g3⟩ := hgo t ht hg
        refine bX11_commit_15 (fun _ => ?_) (fun z => absurd rfl z)
        obtain ⟨o1, -⟩ := W_ob W1
        -- the losing is forgotten
        have los : ∀ (z : Int32) (d : Int32), (z = if g_los M = 0 then 0 else 1) → (d = if g_los M = 2 then 0 else 1) → k_X (jX11_commit G l h) h1 56 [(0, vR (some a)), (2, vR (some (a + c_T t))), (4, vI z)] [vI d] (c_R a B ((f_commit M t).1, 0, (f_commit M t).2) x_I (N + 1 + k) w) := by
          intro z d hz hd
          refine bX11_commit_56 o1 rfl ?_
          generalize hh : k_up h1 a _ = h2
          have ho : c_ob a h2 (g_sl M 0) := by rw [← hh]; exact k_up_self _ _ _
          have W2 : c_W a B h2 (g_sl M 0) N w := W_own W1 hh.symm ho ⟨rfl, rfl, rfl, rfl, rfl⟩ ⟨rfl, rfl, rfl⟩
          refine bX11_commit_63 (fun c2 => ?_) (fun c2 => ?_)
          · have l2 : g_los M = 2 := by
              by_cases e : g_los M = 2
              · exact e
              · rw [hd, if_neg e] at c2; exact absurd c2 (by decide)
            rw [if_pos l2] at ef
            have ez : z = 1 := by rw [hz, if_neg (by omega)]
            obtain ⟨fs, o2, o3, o4⟩ := W_obj W2 ht
            have hb2 : (g_X (g_sl M 0) t).1.1 = true := hb
            rw [hb2] at o4
            refine bX11_commit_73 o2 (by rw [ez]; exact Or.inr rfl) o3 ?_
            have es : k_up h2 (a + c_T t) (k_o 12 (fs.set 2 (vI z))) = h2 := by
              rw [ez]
              have : fs.set 2 (vI 1) = fs := o4
              rw [this]
              exact up_same o2
            rw [es]
            refine bX11_commit_79 (fun c3 => absurd c3 (by rw [ez]; decide)) (fun _ => bX11_commit_84 (bX11_commit_96 ?_))
            rw [ef]
            exact ⟨W_le W2 (by omega), rfl⟩
          · have l2 : ¬ g_los M = 2 := fun e => c2 (by rw [hd, if_pos e])
            rw [if_neg l2] at ef
            refine bX11_commit_68 (k_is_o ho) (C_settle ok W2 ht hb hn g2 hpk h0 g1) ?_
            rintro h3 W3
            have W3 : c_W a B h3 (g_did M t) (N + g_sp M (e_all (g_n M + 1) (g_X M t).2.1 (g_E M))) w := W3
            obtain ⟨fs, o2, o3, o4⟩ := W_obj W3 ht
            have hX : g_X (g_did M t) t = g_dn (g_X M t) (g_n M + 1) := by
              show (if t = t then _ else _) = _
              rw [if_pos rfl]
            have hb2 : (g_X (g_did M t) t).1.1 = true := by rw [hX]; exact hb
            rw [hb2] at o4
            by_cases l1 : g_los M = 1
            · rw [if_pos l1] at ef
              have ez : z = 1 := by rw [hz, if_neg (by omega)]
              refine bX11_commit_73 o2 (by rw [ez]; exact Or.inr rfl) o3 ?_
              have es : k_up h3 (a + c_T t) (k_o 12 (fs.set 2 (vI z))) = h3 := by
                rw [ez]
                have : fs.set 2 (vI 1) = fs := o4
                rw [this]
                exact up_same o2
              rw [es]
              refine bX11_commit_79 (fun c3 => absurd c3 (by rw [ez]; decide)) (fun _ => bX11_commit_84 (bX11_commit_96 ?_))
              rw [ef]
              exact ⟨W_le W3 (by omega), rfl⟩
            · rw [if_neg l1] at ef
              have ez : z = 0 := by rw [hz, if_pos (by omega)]
              refine bX11_commit_73 o2 (by rw [ez]; exact Or.inl rfl) o3 ?_
              rw [ez]
              generalize hh : k_up h3 (a + c_T t) _ = h4
              have W4 := W_over W3 ht o2 hh.symm
              obtain ⟨o5, f0, f1, f2, f3, f4, f5, o11⟩ := W_ob W4
              refine bX11_commit_79 (fun _ => bX11_commit_89 o5 rfl o11 rfl (bX11_commit_96 ?_)) (fun c3 => absurd rfl c3)
              rw [ef]
              exact ⟨W_le W4 (by omega), rfl⟩
        have lost : ∀ z : Int32, (z = if g_los M = 0 then 0 else 1) → k_X (jX11_commit G l h) h1 41 [(0, vR (some a)), (2, vR (some (a + c_T t)))] [vI z] (c_R a B ((f_commit M t).1, 0, (f_commit M t).2) x_I (N + 1 + k) w) := by
          intro z hz
          refine bX11_commit_41 o1 rfl (fun c2 => bX11_commit_55 (los z 0 hz ?_)) (fun c2 => bX11_commit_51 (los z 1 hz ?_))
          · rw [if_pos ((nI_eq (a := g_los M) (b := 2) (by omega) (by decide)).mp c2)]
          · rw [if_neg (fun e => c2 (by rw [e]; rfl))]
        refine bX11_commit_29 o1 rfl (fun c2 => bX11_commit_40 (lost 0 ?_)) (fun c2 => bX11_commit_36 (lost 1 ?_))
        · rw [if_pos ((nI_eq (a := g_los M) (b := 0) (by omega) (by decide)).mp c2)]
        · rw [if_neg (fun e => c2 (by rw [e]; rfl))]
end CCM
