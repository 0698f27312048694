/-! THE CLASS CLOSES ITS COMMITS -/
def g_p0 (M : s_M) : Prop := ∀ p ∈ (g_PT M).head?, p.1 = 0
/-- how many parts a commit makes -/
def g_sp (M : s_M) (E : e_S) : Nat := (p_split (m_V E.1 (g_n M + 1) E.2.1) ((g_PT M).length + (m_V E.1 (g_n M + 1) E.2.1).length) [] (g_PT M)).length - (g_PT M).length
def c_r6 (a : Nat) (h : k_H) (M : s_M) (w : Nat) (PS : List k_PT) : Prop := c_TX a h (g_X M) (g_ser M) w ∧ c_pa a h PS ∧ c_ob a h M ∧ c_cl a h ∧ c_mk a h (g_MK M) ∧ c_dr a h (g_DS M).1
theorem r6_wat {a b w n S : Nat} {h h' : k_H} {M : s_M} {E : e_S} {Q : List k_K2} {PS : List k_PT} {fs fs' : List k_V} (s : c_sE a h E n Q S) (r : c_r6 a h M w PS) (hb : h.1 b = some (k_o 13 fs)) (hh : h' = k_up h b (k_o 13 fs')) : c_sE a h' E n Q S ∧ c_r6 a h' M w PS ∧ k_mo a [13] (fun _ => False) 0 h h' := by
  obtain ⟨r1, r2, r3, r4, r5, r6⟩ := r
  have m : k_mo a [13] (fun _ => False) 0 h h' := by rw [hh]; exact mv_o hb (Or.inl (by simp))
  exact ⟨sE_fr s m (by decide) (fun _ _ _ z => z) (fun _ _ _ _ _ z => z), ⟨TX_fr r1 m (by decide) (fun _ _ _ _ _ z => z) (fun _ _ _ z => z), pa_fr r2 m (by decide) ⟨id, id⟩ (fun _ _ _ z => z), ob_fr r3 m.1 (by decide) id, cl_fr r4 m.1 (by decide) ⟨id, id, id⟩, mk_fr r5 m.1 id, dr_fr r6 m.1 (by decide) id (fun _ _ _ z => z)⟩, m⟩
/-- the parts move -/
theorem rs_par {a o w n S : Nat} {h h' : k_H} {M : s_M} {E : e_S} {Q : List k_K2} {PS PS' : List k_PT} (s : c_sE a h E n Q S) (r : c_rs a h M Q w PS) (m : k_mo a [8] (fun q => q = a + 7) o h h') (p : c_pa a h' PS') : c_sE a h' E n Q S ∧ c_rs a h' M Q w PS' := by
  obtain ⟨r1, r2, r3, r4, r5, r6, r7⟩ := r
  obtain ⟨-, ⟨cap, p1, -⟩, -⟩ := id r2
  have nO : ∀ q ci fs, h.1 q = some (k_o ci fs) → ¬ (q = a + 7) := fun q ci fs hq z => by rw [z, p1] at hq; cases hq
  exact ⟨sE_fr s m (by decide) (fun i h1 h2 z => by omega) (fun q ci fs hq _ => nO q ci fs hq), TX_fr r1 m (by decide) (fun q ci fs hq _ => nO q ci fs hq) (fun i h1 h2 z => by omega), p, ob_fr r3 m.1 (by decide) (by omega), cl_fr r4 m.1 (by decide) ⟨by omega, by omega, by omega⟩, mk_fr r5 m.1 (by omega), dr_fr r6 m.1 (by decide) (by omega) (fun q fs hq => nO q 5 fs hq), wa_fr r7 m.1 (by decide) (by omega) (fun q fs hq => nO q 13 fs hq)⟩
theorem sE_V {a n S : Nat} {h : k_H} {E : e_S} {Q : List k_K2} (s : c_sE a h E n Q S) : (c_hl 0 1331000000000 n E.1 E.2.1).map (fun x => x.1) = m_V E.1 n E.2.1 ∧ (m_V E.1 n E.2.1).Pairwise (fun x y => x < y) := by
  obtain ⟨-, E9, Es, -⟩ := sE_n s
  refine ⟨?_, List.pairwise_map.mpr (Es.sublist List.filter_sublist)⟩
  unfold m_V c_hl r_flt
  congr 1
  refine List.filter_congr fun y hy => ?_
  rw [decide_eq_true (Nat.zero_le _), decide_eq_true (E9 y hy)]
  rfl
/-- a key of the store stays one -/
def c_pin (a : Nat) (h : k_H) (c q : Nat) : Prop := ∃ (xs : List Nat) (cap : Nat), h.1 (a + 2) = some (k_l xs cap) ∧ q ∈ xs ∧ ∃ f, h.1 q = some (k_o 7 [vJ (lN c), f])
theorem pin_fr {a o c q : Nat} {K : List Nat} {A : Nat → Prop} {h h' : k_H} (p : c_pin a h c q) (m : k_mo a K A o h h') (hK : 7 ∉ K) (hA : ¬ A (a + 2)) (hO : ∀ q fs, h.1 q = some (k_o 7 fs) → ¬ A q) : c_pin a h' c q := by
  obtain ⟨xs, cap, p1, p2, f, p3⟩ := p
  exact ⟨xs, cap, m.1 _ _ p1 hA (fun ci fs e => by cases e), p2, f, m.1 _ _ p3 (hO _ _ p3) (fun ci fs e => by cases e; exact hK)⟩
theorem pin_st {a n c q : Nat} {h : k_H} {KS : List k_K2} {L : List k_E4} {WS : List k_SP} {z : Option Int32 × Bool} (st : c_st a h KS L WS n z) (hc : c < 2 ^ 62) : c_pin a h c q ↔ (c, q) ∈ KS := by
  obtain ⟨cK, cW, cH, xs, ka, ⟨s1, s2, s3, s4, s5⟩, ⟨t1, t2, t3, t4⟩, -⟩ := st
  constructor
  · rintro ⟨ys, cap, p1, p2, f, p3⟩
    rw [s2] at p1
    cases p1
    obtain ⟨y, hy, rfl⟩ := List.mem_map.mp p2
    have h1 := t1.1 y hy
    rw [h1.2] at p3
    have e : lN y.1 = lN c := by
      have := Option.some.inj p3
      injection this with h2
      have h3 := (Prod.mk.inj h2).2
      injection h3 with h4
      injection h4 with h5
      injection h5
    have := (lX_eq (by omega) hc).mp e
    rw [← this]
    exact hy
  · intro hm
    exact ⟨_, cK, s2, List.mem_map.mpr ⟨_, hm, rfl⟩, _, (t1.1 _ hm).2⟩
section CLF
variable {G : k_G} {l : Launch}
theorem c_E_listHeldP (ok : k_ok G l) {a : Nat} {h : k_H} {E : e_S} {n lo hi S : Nat} {Q : List k_K2} (hs : c_sE a h E n Q S) (hlo : lo < 2 ^ 62) (hhi : hi < 2 ^ 62) (hlim : e_lim E) : k_ctr (tX8_listHeld G l) [vR (some (a + 1)), vJ (lN lo), vJ (lN hi)] h (fun h' v => v = some (a + 4) ∧ c_sE a h' E n Q S ∧ (∃ (X : List k_K2) (cap : Nat), h'.1 (a + 4) = some (k_l (X.map (fun x => x.2)) cap) ∧ X.map (fun x => x.1) = (c_hl lo hi n E.1 E.2.1).map (fun x => x.1) ∧ ∀ y ∈ X, y.1 < 1331000000000 ∧ c_pin a h' y.1 y.2 ∧ ∃ f, h'.1 y.2 = some (k_o 7 [vJ (lN y.1), f])) ∧ k_mo a [] (fun q => q = a + 4) 0 h h') := by
  obtain ⟨KS, L, WS, z, st, r, q, e⟩ := hs
  obtain ⟨b1, b2, b3, b4⟩ := sE_lim st r q.2 hlim (e_le_refl E)
  obtain ⟨h', v, t, rfl, st', ⟨cap, e4⟩, mv⟩ := c_S_listHeld ok st hlo hhi (by omega)
  refine ⟨h', _, t, rfl, ⟨KS, L, WS, z, st', r, q, e⟩, ⟨c_hl lo hi n KS L, cap, e4, rE_hl r b4 lo hi n, fun y hy => ?_⟩, mv⟩
  have hm := (r_flt_of hy).1
  obtain ⟨cK, cW, cH, xs, ka, -, ⟨t1, t2, t3, t4⟩, -⟩ := id st'
  have h1 := t1.1 _ hm
  exact ⟨h1.1, (pin_st st' (by omega)).mpr hm, _, h1.2⟩
theorem c_E_valueNowP (ok : k_ok G l) {a : Nat} {h : k_H} {E : e_S} {n c S : Nat} {Q : List k_K2} (hs : c_sE a h E n Q S) (hc : c < 2 ^ 62) : k_cti (tX8_valueNow G l) [vR (some (a + 1)), vJ (lN c)] h (fun h' v => c_sE a h' E n Q S ∧ v = o_told (r_val c n E.2.1) ∧ k_mo a [] (fun q => q = a + 5) 0 h h') := by
  obtain ⟨KS, L, WS, z, st, r, q, e⟩ := hs
  obtain ⟨cK, cW, cH, xs, ka, ⟨s1, s2, s3, s4, s5⟩, ⟨t1, t2, t3, t4⟩, ⟨l1, l2, l3⟩, tW, tn, ta, tw⟩ := id st
  obtain ⟨h', v, t, e1, rfl⟩ := c_X8_valueNow ok s1 s5 s2 t1 t2 t3 (fun x hx => by have := l1 x hx; omega) hc (by omega)
  obtain ⟨st', mv⟩ := st_setcell_h st (r_val c n L, false) e1
  exact ⟨h', _, t, ⟨KS, L, WS, _, st', r, q, e⟩, by rw [r.1.1], mv⟩
theorem c_E_alterP (ok : k_ok G l) {a : Nat} {h : k_H} {E : e_S} {n c S : Nat} {Q : List k_K2} {kd g : Int32} (hs : c_sE a h E n Q S) (hc : c < 1331000000000) (hlim : e_lim (e_put n c (s_apO kd g (nI n) (r_val c n E.2.1)) E)) :
    k_ctv (tX8_alter G l) [vR (some (a + 1)), vI kd, vJ (lN c), vI g] h (fun h' => ∃ S', c_sE a h' (e_put n c (s_apO kd g (nI n) (r_val c n E.2.1)) E) n Q S' ∧ S ≤ S' ∧ k_mo a [6, 7, 11] (c_A5 a) (S' - S) h h' ∧ ∀ c0 q0, c0 < 2 ^ 62 → c_pin a h c0 q0 → c_pin a h' c0 q0) := by
  obtain ⟨KS, L, WS, z, st, r, q, e⟩ := hs
  obtain ⟨b1, b2, b3, b4⟩ := sE_lim st r q.2 hlim (e_le_put _ _ _ _)
  obtain ⟨h', t, k, L', z', st', w, mv⟩ := c_S_alter ok (kd := kd) (g := g) st hc (by omega) (by omega)
  have hl := c_ins_le c k KS
  rw [r.1.1] at w
  have hw := w.2.2.1
  exact ⟨h', t, _, ⟨_, L', WS, z', st', rE_put r b4 w, ⟨fun y hy => c_ins_mem (q.1 y hy), q.2⟩, rfl⟩, by omega, mv_mono mv (fun _ h => h) (fun p h => by rcases h with h | h; exact Or.inl h; exact Or.inr (Or.inr (Or.inr h))) (by omega), fun c0 q0 h0 hp => (pin_st st' h0).mpr (c_ins_mem ((pin_st st h0).mp hp))⟩
end CLF
section CCL
variable {G : k_G} {l : Launch}
theorem C_closeP (ok : k_ok G l) {a w S N : Nat} {B : Nat × Nat} {h : k_H} {M : s_M} {E : e_S} {Q : List k_K2} {PS : List k_PT} (s : c_sE a h E (g_n M + 1) Q S) (r : c_rs a h M Q w PS) (p : PS.map k_pr = g_PT M) (co : c_co a B h (S + N)) (hext : ∀ c, r_val c (g_n M) E.2.1 = r_val c (g_n M) (g_E M).2.1) (hlim : e_lim E) (hpk : g_pk M) (h0 : g_p0 M) (hps : g_ps M E) :
    k_ctv (tX11_closeCommit G l) [vR (some a)] h (fun h' => c_W a B h' (g_cm M E) (N + g_sp M E) w ∧ k_mo a [8, 13] (fun q => q = a + 4 ∨ q = a + 7) (g_sp M E) h h') := by
  obtain ⟨r1, r2, r3, r4, r5, r6, WA, capW, w1, ⟨w2, w3, w4⟩, w5⟩ := id r
  obtain ⟨hn9, -⟩ := sE_n s
  have hQ : Q.length ≤ 20 := by obtain ⟨KS, L, WS, z, st, rE, q, e⟩ := s; exact q.2
  refine k_ctv_of (eX11_closeCommit ok.2 (bX11_closeCommit_0 ?_))
  -- behind the watches
  have tail : ∀ hh : k_H, k_mo a [8, 13] (fun q => q = a + 4 ∨ q = a + 7) 0 h hh → c_sE a hh E (g_n M + 1) Q S → c_r6 a hh M w PS → c_co a B hh (S + N) → c_wa a hh ((g_WT M).map (m_fire (g_n M) (g_n M + 1) (g_E M).2.1 E.2.1)) Q → k_X (jX11_closeCommit G l h) hh 75 [(0, vR (some a))] [] (q_v (fun h' => c_W a B h' (g_cm M E) (N + g_sp M E) w ∧ k_mo a [8, 13] (fun q => q = a + 4 ∨ q = a + 7) (g_sp M E) h h')) := by
    intro hh pn s1 q6 co1 qw
    have q1 : c_rs a hh (g_cm M E) Q w PS := ⟨q6.1, q6.2.1, q6.2.2.1, q6.2.2.2.1, q6.2.2.2.2.1, q6.2.2.2.2.2, qw⟩
    obtain ⟨f0, f1, f2, f3, f4, f5, o11⟩ := sE_obj s1
    have hl := c_E_listHeldP ok (lo := 0) (hi := 1331000000000) s1 (by omega) (by omega) hlim
    refine bX11_closeCommit_75 q1.2.2.1 rfl rfl (k_is_o o11) hl ?_
    rintro h2 _ ⟨rfl, s2, ⟨X, cap, e4, eX, hX⟩, m2⟩
    have q2 := rs_sto q1 s1 (mv_mono m2 (fun _ h => by cases h) (fun p h => Or.inr (Or.inr (Or.inl h))) (Nat.le_refl _))
    have co2 : c_co a B h2 (S + N) := co_le (co_mo co1 m2) (Nat.le_refl _)
    obtain ⟨eV, sV⟩ := sE_V s2
    rw [eV] at eX
    have hlenX : X.length = (m_V E.1 (g_n M + 1) E.2.1).length := by rw [← eX, List.length_map]
    have hlen9 : X.length ≤ 12000 := by
      rw [hlenX]
      unfold m_V
      rw [List.length_map]
      exact Nat.le_trans (List.length_filter_le _ _) hlim.1
    have hPl : PS.length = (g_PT M).length := by rw [← p, List.length_map]
    have hne : PS ≠ [] := fun z => hpk.2 (by rw [← p, z]; rfl)
    obtain ⟨o9, -⟩ := id q2.2.1
    refine bX11_closeCommit_90 (k_is_o o9) (c_X6_split ok (X := X) q2.2.1 ⟨⟨cap, e4⟩, fun y hy => ⟨(hX y hy).1, (hX y hy).2.2⟩⟩ (by rw [eX]; exact sV) (by omega) (by rw [p]; exact hpk.1) hne (fun x hx => ?_) (by rw [hPl, hlenX]; exact hps)) ?_
    · have := h0 (k_pr x) (by rw [← p, List.head?_map]; rw [Option.mem_def] at hx; rw [hx]; rfl)
      exact this
    rintro h3 ⟨PS2, p2, e2, sp2, ho2, hle2, m3⟩
    obtain ⟨s3, q3⟩ := rs_par s2 q2 m3 p2
    have co3 := co_mo co2 m3
    obtain ⟨x, rest, ex⟩ : ∃ x rest, PS2 = x :: rest := by
      cases PS2 with
      | nil => exact absurd (List.length_eq_zero_iff.mp (Nat.le_zero.mp hle2)) hne
      | cons x rest => exact ⟨x, rest, rfl⟩
    obtain ⟨o93, -⟩ := id q3.2.1
    rw [eX, hlenX, p] at e2
    rw [eX, hlenX] at ho2
    refine bX11_closeCommit_93 q3.2.2.1 rfl (k_is_o o93) (c_X6_join ok (V := m_V E.1 (g_n M + 1) E.2.1) ex p2 (by omega) sp2 ho2) ?_
    rintro h4 ⟨PS3, p3, e3, sp3, ho3, m4⟩
    obtain ⟨s4, q4⟩ := rs_par s3 q3 m4 p3
    have co4 := co_mo co3 m4
    have e5 : PS3.map k_pr = p_arr (m_V E.1 (g_n M + 1) E.2.1) (g_PT M) := by
      unfold p_arr
      rw [hPl] at e2
      rw [← e2, ex, List.map_cons]
      exact e3
    have e6 : PS2.length - PS.length = g_sp M E := by
      unfold g_sp
      rw [hPl] at e2
      rw [← e2, List.length_map, hPl]
    have mA := mv_mono (mv_trans pn (mv_mono m2 (fun _ h => by cases h) (fun p h => Or.inl h) (Nat.le_refl _))) (fun _ h => h) (fun _ h => h) (Nat.le_refl 0)
    have mB := mv_trans mA (mv_mono m3 (fun k h => by simp at h; simp [h]) (fun p h => Or.inr h) (Nat.le_refl _))
    have mC := mv_trans mB (mv_mono m4 (fun k h => by simp at h; simp [h]) (fun p h => Or.inr h) (Nat.le_refl _))
    exact bX11_closeCommit_100 ⟨rfl, ⟨Q, S, PS3, s4, q4, ⟨e5, ho3⟩, co_le co4 (by rw [e6]; omega)⟩, mv_mono mC (fun _ h => h) (fun _ h => h) (by rw [e6]; omega)⟩
  have key : ∀ (d i : Nat) (hh : k_H), k_mo a [8, 13] (fun q => q = a + 4 ∨ q = a + 7) 0 h hh → WA.length - i = d → i ≤ WA.length → c_sE a hh E (g_n M + 1) Q S → c_r6 a hh M w PS → c_co a B hh (S + N) → hh.1 (a + 14) = some (k_l WA capW) →
      (∀ (j b : Nat) (x : Nat × Int32) (q : k_K2), WA[j]? = some b → (g_WT M)[j]? = some x → Q[j]? = some q → q.1 = x.1 ∧ hh.1 b = some (k_o 13 [vR (some q.2), vI (if j < i then (m_fire (g_n M) (g_n M + 1) (g_E M).2.1 E.2.1 x).2 else x.2)])) →
      k_X (jX11_closeCommit G l h) hh 2 [(0, vR (some a)), (1, vI (nI i))] [] (q_v (fun h' => c_W a B h' (g_cm M E) (N + g_sp M E) w ∧ k_mo a [8, 13] (fun q => q = a + 4 ∨ q = a + 7) (g_sp M E) h h')) := by
    intro d
    induction d with
    | zero =>
      intro i hh pn hd hi s1 q6 co1 e14 pt
      refine bX11_closeCommit_2 q6.2.2.1 rfl (Or.inr ⟨rfl, _, _, e14⟩) (c_size ok e14) ?_
      rintro _ _ ⟨hh2, rfl⟩
      rw [hh2]
      refine bX11_closeCommit_10 (fun _ => tail hh pn s1 q6 co1 ⟨WA, capW, e14, ⟨by rw [List.length_map]; exact w2, by rw [List.length_map]; exact w3, w4⟩, fun j b x q h1 h2 h3 => ?_⟩) (fun c => absurd (nI_le (by omega) (by omega)) c)
      rw [List.getElem?_map] at h2
      cases hx : (g_WT M)[j]? with
      | none => rw [hx] at h2; cases h2
      | some y =>
        rw [hx] at h2
        have h2' : m_fire (g_n M) (g_n M + 1) (g_E M).2.1 E.2.1 y = x := by simpa using h2
        have hj := (List.getElem?_eq_some_iff.mp h1).1
        obtain ⟨u1, u2⟩ := pt j b y q h1 hx h3
        rw [if_pos (by omega), h2'] at u2
        exact ⟨by rw [← h2']; exact u1, u2⟩
    | succ d ih =>
      intro i hh pn hd hi s1 q6 co1 e14 pt
      have hlt : i < WA.length := by omega
      obtain ⟨b, hb⟩ : ∃ b, WA[i]? = some b := ⟨_, List.getElem?_eq_getElem hlt⟩
      obtain ⟨x, hx⟩ : ∃ x, (g_WT M)[i]? = some x := ⟨_, List.getElem?_eq_getElem (by omega)⟩
      obtain ⟨q, hq⟩ : ∃ q, Q[i]? = some q := ⟨_, List.getElem?_eq_getElem (by omega)⟩
      obtain ⟨u1, u2⟩ := pt i b x q hb hx hq
      rw [if_neg (Nat.lt_irrefl i)] at u2
      obtain ⟨KS, L, WS, z, st, rE, qq, ee⟩ := id s1
      obtain ⟨cK, cW, cH, xs, ka, ⟨o11, -⟩, ⟨t1, t2, t3, t4⟩, ⟨g1, g2, g3⟩, tW, tn, ta, tw⟩ := id st
      have hqK := qq.1 q (List.mem_of_getElem? hq)
      have hkey := (t1.1 q hqK).2
      refine bX11_closeCommit_2 q6.2.2.1 rfl (Or.inr ⟨rfl, _, _, e14⟩) (c_size ok e14) ?_
      rintro _ _ ⟨hh2, rfl⟩
      rw [hh2]
      refine bX11_closeCommit_10 (fun c => absurd c (nI_ge hlt (by omega))) (fun _ => ?_)
      refine bX11_closeCommit_13 q6.2.2.1 rfl (Or.inr ⟨rfl, _, _, e14⟩) (c_get ok e14 hb) ?_
      rintro _ _ ⟨hh2, rfl⟩
      rw [hh2]
      have same : (m_fire (g_n M) (g_n M + 1) (g_E M).2.1 E.2.1 x).2 = x.2 → k_X (jX11_closeCommit G l h) hh 69 [(0, vR (some a)), (1, vI (nI i))] [] (q_v (fun h' => c_W a B h' (g_cm M E) (N + g_sp M E) w ∧ k_mo a [8, 13] (fun q => q = a + 4 ∨ q = a + 7) (g_sp M E) h h')) := fun hs => by
        refine bX11_closeCommit_69 ?_
        rw [nI_1]
        refine ih (i + 1) hh pn (by omega) (by omega) s1 q6 co1 e14 (fun j b' x' q' h1 h2 h3 => ?_)
        obtain ⟨v1, v2⟩ := pt j b' x' q' h1 h2 h3
        refine ⟨v1, ?_⟩
        by_cases e : j = i
        · subst e
          rw [hx] at h2
          cases h2
          rw [if_pos (by omega), hs]
          rw [if_neg (Nat.lt_irrefl _)] at v2
          exact v2
        · by_cases e2 : j < i
          · rw [if_pos (by omega)]; rw [if_pos e2] at v2; exact v2
          · rw [if_neg (by omega)]; rw [if_neg e2] at v2; exact v2
      refine bX11_closeCommit_21 u2 rfl (fun c => same ?_) (fun c => ?_)
      · show (if x.2 = -2147483648 ∧ _ then _ else x.2) = x.2
        rw [if_neg (fun z => c z.1)]
      refine bX11_closeCommit_34 u2 rfl (fun e => by cases e) (fun a' e => ?_)
      refine bX11_closeCommit_41 u2 rfl q6.2.2.1 rfl o11 rfl (k_is_o hkey) (c_X4_turnedIn ok hkey t3 (fun x hx => by have := g1 x hx; omega) (by omega) (by omega)) ?_
      rintro _ _ ⟨hh2, rfl⟩
      rw [hh2]
      have hv : r_val q.1 (g_n M + 1) L = r_val x.1 (g_n M + 1) E.2.1 ∧ r_val q.1 (g_n M + 1 - 1) L = r_val x.1 (g_n M) (g_E M).2.1 := by
        rw [rE.1.1, rE.1.1, u1]
        exact ⟨rfl, hext x.1⟩
      refine bX11_closeCommit_55 (fun c2 => same ?_) (fun c2 => ?_)
      · rw [kB_0, hv.1, hv.2, Bool.not_eq_false', decide_eq_true_eq] at c2
        show (if x.2 = -2147483648 ∧ _ then _ else x.2) = x.2
        rw [if_neg (fun z => z.2 c2)]
      · rw [kB_n0, hv.1, hv.2, Bool.not_eq_true', decide_eq_false_iff_not] at c2
        have hfire : (m_fire (g_n M) (g_n M + 1) (g_E M).2.1 E.2.1 x).2 = nI (g_n M + 1) := by
          show (if x.2 = -2147483648 ∧ _ then _ else x.2) = _
          rw [if_pos ⟨c, c2⟩]
        refine bX11_closeCommit_58 q6.2.2.1 rfl o11 rfl u2 rfl ?_
        generalize hg : k_up hh b _ = h3
        have u3 : h3.1 b = some (k_o 13 [vR (some q.2), vI (nI (g_n M + 1))]) := by rw [← hg]; exact k_up_self _ _ _
        obtain ⟨s3, q3, m3⟩ := r6_wat s1 q6 u2 hg.symm
        have e143 : h3.1 (a + 14) = some (k_l WA capW) := m3.1 _ _ e14 id (fun ci fs e => by cases e)
        refine bX11_closeCommit_69 ?_
        rw [nI_1]
        refine ih (i + 1) h3 (mv_mono (mv_trans pn (mv_mono m3 (fun k h => by simp at h; simp [h]) (fun _ z => z.elim) (Nat.le_refl _))) (fun _ h => h) (fun _ h => h) (Nat.le_refl 0)) (by omega) (by omega) s3 q3 (co_le (co_mo co1 m3) (Nat.le_refl _)) e143 (fun j b' x' q' h1 h2 h3' => ?_)
        obtain ⟨v1, v2⟩ := pt j b' x' q' h1 h2 h3'
        refine ⟨v1, ?_⟩
        by_cases e : j = i
        · subst e
          rw [hx] at h2
          rw [hb] at h1
          rw [hq] at h3'
          cases h2
          cases h1
          cases h3'
          rw [if_pos (by omega), hfire]
          exact u3
        · have hne : b' ≠ b := fun z => by
            rw [z] at h1
            have hj := (List.getElem?_eq_some_iff.mp h1)
            have hi2 := (List.getElem?_eq_some_iff.mp hb)
            exact e ((List.getElem_inj w4).mp (hj.2.trans hi2.2.symm))
          have old : h3.1 b' = hh.1 b' := by rw [← hg]; exact k_up_ne _ _ hne
          rw [old]
          by_cases e2 : j < i
          · rw [if_pos (by omega)]; rw [if_pos e2] at v2; exact v2
          · rw [if_neg (by omega)]; rw [if_neg e2] at v2; exact v2
  exact key WA.length 0 h (mv_refl _ _ _ _) (by omega) (Nat.zero_le _) s ⟨r1, r2, r3, r4, r5, r6⟩ co w1 (fun j b x q h1 h2 h3 => by
    rw [if_neg (Nat.not_lt_zero j)]
    exact w5 j b x q h1 h2 h3)
theorem C_close (ok : k_ok G l) {a w S N : Nat} {B : Nat × Nat} {h : k_H} {M : s_M} {E : e_S} {Q : List k_K2} {PS : List k_PT} (s : c_sE a h E (g_n M + 1) Q S) (r : c_rs a h M Q w PS) (p : PS.map k_pr = g_PT M) (co : c_co a B h (S + N)) (hext : ∀ c, r_val c (g_n M) E.2.1 = r_val c (g_n M) (g_E M).2.1) (hlim : e_lim E) (hpk : g_pk M) (h0 : g_p0 M) (hps : g_ps M E) :
    k_ctv (tX11_closeCommit G l) [vR (some a)] h (fun h' => c_W a B h' (g_cm M E) (N + g_sp M E) w) := by
  obtain ⟨h', t, W, -⟩ := C_closeP ok s r p co hext hlim hpk h0 hps
  exact ⟨h', t, W⟩
end CCL
