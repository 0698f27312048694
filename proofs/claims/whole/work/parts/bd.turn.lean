/-! ONE TURN OF THE LAW'S LOOP (printed by wip/whole/genturn.py) -/
theorem I_eq {i N w N' : Nat} {M M' : s_M} (I : i_I i M N w) (e : M' = M) (hN : N' ≤ N + 12) : i_I (i + 1) M' N' w := by rw [e]; exact I_0 I hN
theorem I_recover {i N w : Nat} {M : s_M} (I : i_I i M N w) : i_I (i + 1) (F_recover M).1 N w := I_adv I (k := 10) (g := g_gen M + 1) (by decide) (Nat.le_succ _) (Nat.le_refl _) (by omega)
theorem I_pass {i N w : Nat} {M : s_M} {x : Int32} (I : i_I i M N w) : i_I (i + 1) (F_pass M x).1 (N + 1) w := by
  rcases z_pass (M := M) (x := x) with e | ⟨k, hk, e⟩
  · rw [e]; exact I_0 I (by omega)
  · rw [e]; exact I_adv I hk (Nat.le_refl _) (Nat.le_succ _) (by omega)
theorem I_ver {i N w : Nat} {M : s_M} (I : i_I i M N w) : ∀ x ∈ (g_E M).2.1, x.2.2.1 ≤ g_n M := by
  obtain ⟨W, S, R, V, Vs, a, s, b, p, C, D, X, Y, Np, I⟩ := I
  exact I.2.1.1.1.2.1
theorem lo5 : s_lo (-5) 10000 = 120395000000 ∧ s_la (-5) 10000 + 1 = 120516000000 := by decide +kernel
theorem wk_at {M : s_M} {x : Int32} {y : k_K2} (h : (wk_list M x).head? = some y) : y ∈ (g_E M).1 ∧ y.1 / 121000000 = 995 := by
  have h1 := List.mem_of_mem_head? h
  obtain ⟨h2, h3⟩ := List.mem_filter.mp h1
  simp only [Bool.and_eq_true, decide_eq_true_eq] at h3
  have := lo5
  exact ⟨h2, by omega⟩
theorem take_val {M : s_M} {x z : Int32} {y : k_K2} (hv : ∀ x ∈ (g_E M).2.1, x.2.2.1 ≤ g_n M) (h : (wk_list M z).head? = some y) : r_val y.1 (g_n M + 1) (wk_tE M x y.1).2.1 = rk_v M y.1 := by
  have hl := (wk_at h).2
  have l7 := (c75 y.1).1
  unfold wk_tE
  rw [put_val, if_neg (fun e => by
    have e1 : c7 y.1 = y.1 := e.1
    rw [e1] at l7
    omega), r_val_adv hv (Nat.le_succ _)]
  rfl
theorem fin_val {M : s_M} {x : Int32} {y : k_K2} (hK : ∀ x ∈ (g_E M).1, y_K x.1) (h : (wk_list M x).head? = some y) : s_cd (-5) (s_no y.1 1) 10000 = y.1 := by
  obtain ⟨h1, h2⟩ := wk_at h
  exact (hK y h1 h2).symm
section TRN
variable {G : k_G} {l : Launch} {nm : String} {h0 : k_H}
theorem no_cJ {b : Nat} {s : m_S} {g : Nat → Int64} {h : k_H} {H : Heap} (hh : ¬ b + 38 ≤ h.2.1) (hp : k_hp G (c_J b s g h) H) : False := by
  have h1 := k_hp_j hp (J_out (b := b) (s := s) (g := g) (h := h))
  have h2 : H[b + 37]? = some _ := h1
  have h3 := (Array.getElem?_eq_some_iff.mp h2).1
  have h4 : H.size = h.2.1 := hp.1
  omega
theorem j_nc {b : Nat} {s : m_S} {g : Nat → Int64} {h : k_H} {pc : Nat} {lv : k_L} {st : List k_V} {r : k_R} (hh : ¬ b + 38 ≤ h.2.1) : jW G l nm h0 (c_J b s g h) pc lv st (c_J b s g h) r :=
  ⟨Nat.le_refl _, Nat.le_refl _, fun p e s m args below meth c C ht H locs k n ls hp hl hk hn hv => (no_cJ hh hp).elim⟩
set_option maxHeartbeats 4000000 in
theorem turn_all (ok : k_ok G l) (g0 : k_fh G = 0) {a n N w : Nat} {s : m_S} {g : Nat → Int64} {h : k_H} {M : s_M} {Q : k_H → k_R → Prop} (hL : k_sL G ≤ 3584) (hi : 7 * n + 7 ≤ k_sL G) (W : c_W a (l_B a) h M N w) (hM : m_M s M) (cn : k_cn (a + 31) (a + 31 + 38) h) (hb : a + 31 + 38 ≤ h.2.1) (I : i_I n M N w) (hn : n < 512)
    (K : ∀ s1 g1 h1 M1 N1 w1, i_I (n + 1) M1 N1 w1 → m_M s1 M1 → c_W a (l_B a) h1 M1 N1 w1 → k_cn (a + 31) (a + 31 + 38) h1 → k_X (jW G l nm h0) (c_J (a + 31) s1 g1 h1) 2369 (lvW G a (a + 31) (7 * n)) [] Q)
    (Kn : ∀ h1 M1 N1 w1, i_I (n + 1) M1 N1 w1 → c_W a (l_B a) h1 M1 N1 w1 → ∃ r, Q (k_no h1) r) : ∀ k, k < 34 → k_X (jW G l nm h0) (c_J (a + 31) s g h) (l_pc k) (lvW G a (a + 31) (7 * n)) [] Q := by
  have hn2 : n ≤ 512 := by omega
  obtain ⟨⟨lim, nmd, pk, p0, wk, ws⟩, ⟨un, ug, ul, us, uw⟩, ut, ⟨mkn, mkl, wtl⟩, ⟨dok, dm, d2, d10⟩, ⟨ptl, lows⟩, uk, Wl, Rl, lE, lK, KK⟩ := I_use I hn2
  have okF : k_ok (k_fG G (a + 31) (a + 31 + 38)) l := k_fG_ok ok
  have hsL : k_sL G < 2 ^ 31 := by omega
  have hab : a < a + 31 := by omega
  have ho : k_is h a 14 := k_is_o (W_ob W).1
  have n9 : g_n M + 1 < 9000 := by omega
  have gen20 : g_gen M < 2 ^ 20 := by omega
  have gen31 : g_gen M < 2 ^ 31 := by omega
  have ser30 : g_ser M < 2 ^ 30 := by omega
  have ser31 : g_ser M + 1 < 2 ^ 30 := by omega
  have w13 : w ≤ 13000 := by omega
  have w8 : w ≤ 8000 := by omega
  have hra : ∀ t, t < 4 → (g_X M t).1.2.2.1 ≤ g_n M := fun t ht => (ut t ht).1.1
  have hra2 : ∀ t, t < 4 → (g_X M t).1.2.2.1 ≤ g_n M ∧ (g_X M t).1.2.2.2.2 ≤ g_n M := fun t ht => ⟨(ut t ht).1.1, (ut t ht).1.2.2⟩
  have rd : ∀ t, t < 4 → (g_X M t).2.2.length < 2048 := fun t ht => by have := (ut t ht).2.2; omega
  have hl9 : ∀ t, t < 4 → (g_X M t).2.1.length < 2 ^ 20 := fun t ht => by have := (ut t ht).2.1; omega
  have hx : ∀ t, t < 4 → (g_X M t).1.2.2.1 ≤ g_n M ∧ (g_X M t).1.2.2.2.1 < 2 ^ 31 ∧ (g_X M t).1.2.2.2.2 ≤ g_n M ∧ (g_X M t).2.1.length < 2 ^ 20 := fun t ht => ⟨(ut t ht).1.1, by have := (ut t ht).1.2.1; omega, (ut t ht).1.2.2, hl9 t ht⟩
  have hkm : ∀ cd : Nat, (m_ins cd (g_E M).1).length ≤ 12000 := fun cd => by have := m_ins_len cd (g_E M).1; omega
  have df := dfree_ok dm
  have ver := I_ver I
  have hrec : ∀ j, j < 100 → ∀ v, r_val (sv_re (nI j)) (g_n M + 1) (g_E M).2.1 = some v → s_na v := fun j hj v e => by
    obtain ⟨q, h1, h2⟩ := re_rec lE hj e
    rw [h2]; exact na_100 (by have := h1.2.1; omega)
  have hst : ∀ {x : Int32}, s_inB x 0 2 = true → ∀ {v : Int32}, rk_v M (sv_co x) = some v → v = 1000 ∨ v = -1000 ∨ ∃ j, j < 100 ∧ v = nI j := fun {x} h {v} e => by
    obtain ⟨y, hy, e1, -, e3⟩ := val_mem e
    have := lE y hy
    rw [e1, e3] at this
    obtain ⟨o1, o2, o3, o4, o5, o6⟩ := of_cl h
    exact (this v rfl).2.1 (by omega)
  have hwk : wk_ok1 M := fun x v hx e => by
    obtain ⟨y, hy, e1, -, e3⟩ := val_mem e
    have := lE y hy
    rw [e1, e3] at this
    exact (this v rfl).2.2 (by rw [s_cd_div hx (Or.inl rfl)]; rfl)
  have Kx : ∀ {M1 : s_M} {N1 w1 : Nat}, i_I (n + 1) M1 N1 w1 → ∀ s1 g1 h1, m_M s1 M1 → c_W a (l_B a) h1 M1 N1 w1 → k_cn (a + 31) (a + 31 + 38) h1 → k_X (jW G l nm h0) (c_J (a + 31) s1 g1 h1) 2369 (lvW G a (a + 31) (7 * n)) [] Q := fun {M1 N1 w1} J s1 g1 h1 m c d => K s1 g1 h1 M1 N1 w1 J m c d
  have Kz : ∀ {M1 : s_M} {N1 w1 : Nat}, i_I (n + 1) M1 N1 w1 → ∀ h1, c_W a (l_B a) h1 M1 N1 w1 → ∃ r, Q (k_no h1) r := fun {M1 N1 w1} J h1 c => Kn h1 M1 N1 w1 J c
  intro k hk
  have hc : k = 0 ∨ k = 1 ∨ k = 2 ∨ k = 3 ∨ k = 4 ∨ k = 5 ∨ k = 6 ∨ k = 7 ∨ k = 8 ∨ k = 9 ∨ k = 10 ∨ k = 11 ∨ k = 12 ∨ k = 13 ∨ k = 14 ∨ k = 15 ∨ k = 16 ∨ k = 17 ∨ k = 18 ∨ k = 19 ∨ k = 20 ∨ k = 21 ∨ k = 22 ∨ k = 23 ∨ k = 24 ∨ k = 25 ∨ k = 26 ∨ k = 27 ∨ k = 28 ∨ k = 29 ∨ k = 30 ∨ k = 31 ∨ k = 32 ∨ k = 33 := by omega
  rcases hc with rfl | rfl | rfl | rfl | rfl | rfl | rfl | rfl | rfl | rfl | rfl | rfl | rfl | rfl | rfl | rfl | rfl | rfl | rfl | rfl | rfl | rfl | rfl | rfl | rfl | rfl | rfl | rfl | rfl | rfl | rfl | rfl | rfl | rfl
  · rw [show l_pc 0 = 192 from by decide +kernel]
    exact case_begin ok g0 hsL hi hab ho cn hb (rr_begin _ _ _) (by rfl) (c_begin okF W) (fun _ => c_X12_begin ok hM gen20) (Kx (I_begin I)) (Kz (I_begin I))
  · rw [show l_pc 1 = 276 from by decide +kernel]
    exact case_get ok g0 hsL hi hab ho cn hb (rr_get _ _ _ _ _ _) (by rfl) (by rfl) (by rfl) (C_get okF W hra rd) (fun _ => c_X12_get ok hM ser30 rd) (Kx (I_rd I z_get (by omega))) (Kz (I_rd I z_get (by omega)))
  · rw [show l_pc 2 = 396 from by decide +kernel]
    exact case_range ok g0 hsL hi hab ho cn hb (rr_range _ _ _ _ _) (by rfl) (by rfl) (by rfl) (C_range okF W lim nmd hra rd) (fun _ => c_X12_range ok hM ser30 rd) (Kx (I_rd I z_range (by omega))) (Kz (I_rd I z_range (by omega)))
  · rw [show l_pc 3 = 504 from by decide +kernel]
    exact case_rangeAt ok g0 hsL hi hab ho cn hb (rr_rangeAt _ _ _ _ _ _) (by rfl) (by rfl) (by rfl) (C_rangeAt okF W lim nmd hra rd) (fun _ => c_X12_rangeAt ok hM ser30 rd) (Kx (I_rd I z_rangeAt (by omega))) (Kz (I_rd I z_rangeAt (by omega)))
  · rw [show l_pc 4 = 608 from by decide +kernel]
    exact case_change ok g0 hsL hi hab ho cn hb (rr_change _ _ _ _ _ _ _) (by rfl) (by rfl) (by rfl) (C_change okF W lim w13 hl9) (fun _ => c_X12_change ok hM ser31 hkm) (Kx (I_kp I z_change (by omega))) (Kz (I_kp I z_change (by omega)))
  · rw [show l_pc 5 = 726 from by decide +kernel]
    exact case_clear ok g0 hsL hi hab ho cn hb (rr_clear _ _ _ _) (by rfl) (by rfl) (by rfl) (C_clear okF W w13 hl9) (fun _ => c_X12_clear ok hM ser31) (Kx (I_kp I z_clear (by omega))) (Kz (I_kp I z_clear (by omega)))
  · rw [show l_pc 6 = 806 from by decide +kernel]
    obtain ⟨k, ck, cI⟩ := I_commit (x := k_sx G (7 * n + 1)) I hn
    exact case_commit ok g0 hsL hi hab ho cn hb (rr_commit _ _) (by rfl) (by rfl) (C_commit1 okF W n9 gen31 ul hx lim ws pk p0 (fun h1 h2 h3 => cm_lim I hn (z_t4 h1) h2 h3) ck) (fun _ => c_X12_commit1 ok hM n9 gen20 hra2 pk wk (fun t ht h1 h2 => cm_lim I hn ht h1 h2)) (Kx (cI)) (Kz (cI))
  · rw [show l_pc 7 = 862 from by decide +kernel]
    exact case_why ok g0 hsL hi hab ho cn hb (by rfl)  (C_why okF W) (fun _ => c_X12_why ok hM) (Kx (I_eq I rfl (by omega))) (Kz (I_eq I rfl (by omega)))
  · rw [show l_pc 8 = 875 from by decide +kernel]
    exact case_lose ok g0 hsL hi hab ho cn hb (by rfl)  (C_lose okF W) (fun _ => c_X12_lose ok hM) (Kx (I_lose I)) (Kz (I_lose I))
  · rw [show l_pc 9 = 914 from by decide +kernel]
    exact case_recover ok g0 hsL hi hab ho cn hb (by rfl)  (C_recover okF W (by omega)) (fun _ => c_X12_recover ok hM (by omega)) (Kx (I_recover I)) (Kz (I_recover I))
  · rw [show l_pc 10 = 927 from by decide +kernel]
    exact case_pass ok g0 hsL hi hab ho cn hb (rr_pass _ _) (by rfl) (C_pass okF W (by omega)) (fun _ => c_X12_pass ok hM (by omega)) (Kx (I_pass I)) (Kz (I_pass I))
  · rw [show l_pc 11 = 983 from by decide +kernel]
    exact case_value ok g0 hsL hi hab ho cn hb (rr_value _ _ _ _ _) (by rfl) (C_value okF W) (fun _ => c_X12_value ok hM) (Kx (I_eq I z_value (by omega))) (Kz (I_eq I z_value (by omega)))
  · rw [show l_pc 12 = 1075 from by decide +kernel]
    exact case_packed ok g0 hsL hi hab ho cn hb (rr_packed _ _ _ _ _) (by rfl) (by rfl) (C_packed okF W) (fun _ => c_X12_packed ok hM) (Kx (I_eq I z_packed (by omega))) (Kz (I_eq I z_packed (by omega)))
  · rw [show l_pc 13 = 1167 from by decide +kernel]
    exact case_version ok g0 hsL hi hab ho cn hb (by rfl)  (C_version okF W) (fun _ => c_X12_version ok hM) (Kx (I_eq I rfl (by omega))) (Kz (I_eq I rfl (by omega)))
  · rw [show l_pc 14 = 1180 from by decide +kernel]
    exact case_directory ok g0 hsL hi hab ho cn hb (rr_directory _ _ _) (by rfl) (by rfl) (by rfl) (C_directory okF W dok (by omega) dm (fun z => ⟨df.2.2 z, df.1⟩)) (fun _ => c_X12_directory ok hM dok.1 df.1 (by omega) (by omega)) (Kx (I_directory I hn)) (Kz (I_directory I hn))
  · rw [show l_pc 15 = 1248 from by decide +kernel]
    exact case_move ok g0 hsL hi hab ho cn hb (rr_move _ _ _ _) (by rfl) (by rfl) (by rfl) (C_move okF W dok) (fun _ => c_X12_move ok hM dok.1) (Kx (I_move I)) (Kz (I_move I))
  · rw [show l_pc 16 = 1308 from by decide +kernel]
    obtain ⟨k, ck, cI⟩ := I_remove (x := k_sx G (7 * n + 1)) I hn
    exact case_remove ok g0 hsL hi hab ho cn hb (rr_remove _ _) (by rfl) (by rfl) (C_remove1 okF W dok lim n9 pk p0 (rm_small I hn2) (fun h1 h2 h3 => ⟨(I_rE I hn (Nat.le_refl _)).2.1, (I_rE I hn (Nat.le_refl _)).2.2, ck h1 h2 h3⟩)) (fun _ => c_X12_remove ok hM dok.1 dok.2.2.2 n9 pk (fun d _ _ => (I_rE I hn (Nat.le_refl _)).2)) (Kx (cI)) (Kz (cI))
  · rw [show l_pc 17 = 1364 from by decide +kernel]
    exact case_shortName ok g0 hsL hi hab ho cn hb (rr_shortName _ _) (by rfl) (C_shortName okF W dok) (fun _ => c_X12_shortName ok hM dok.1) (Kx (I_eq I z_shortName (by omega))) (Kz (I_eq I z_shortName (by omega)))
  · rw [show l_pc 18 = 1420 from by decide +kernel]
    exact case_named ok g0 hsL hi hab ho cn hb (rr_named _ _ _) (by rfl) (by rfl) (C_named okF W dok) (fun _ => c_X12_named ok hM dok.1) (Kx (I_eq I z_named (by omega))) (Kz (I_eq I z_named (by omega)))
  · rw [show l_pc 19 = 1488 from by decide +kernel]
    obtain ⟨sl, sC, sI, sL⟩ := I_saved (x := k_sx G (7 * n + 1)) (n := k_sx G (7 * n + 2)) (saves := true) (field := k_sx G (7 * n + 3)) I hn (fun z => by cases z)
    exact case_save ok g0 hsL hi hab ho cn hb (rr_save _ _ _ _) (by rfl) (by rfl) (by rfl) (C_save okF W w8 hl9 sC) (fun _ => c_X12_save ok hM (fun t ht h1 h2 h3 => sL t ht h1 (fun _ => h2) h3)) (Kx (sI)) (Kz (sI))
  · rw [show l_pc 20 = 1568 from by decide +kernel]
    obtain ⟨sl, sC, sI, sL⟩ := I_saved (x := k_sx G (7 * n + 1)) (n := k_sx G (7 * n + 2)) (saves := false) (field := 0) I hn (fun _ => rfl)
    exact case_erase ok g0 hsL hi hab ho cn hb (rr_erase _ _ _) (by rfl) (by rfl) (by rfl) (C_erase okF W w8 hl9 sC) (fun _ => c_X12_erase ok hM (fun t ht h1 h3 => sL t ht h1 (fun z => by cases z) h3)) (Kx (sI)) (Kz (sI))
  · rw [show l_pc 21 = 1636 from by decide +kernel]
    obtain ⟨k, ck, cI⟩ := I_build (x := k_sx G (7 * n + 1)) (most := k_sx G (7 * n + 2)) I hn
    exact case_build ok g0 hsL hi hab ho cn hb (rr_build _ _ _) (by rfl) (by rfl) (by rfl) (C_build1 okF W n9 pk p0 hrec (fun h v e => hst h e) (fun h1 h2 h3 => ⟨(I_bl I hn h1 h2 h3 (Nat.le_refl _)).2.1, (I_bl I hn h1 h2 h3 (Nat.le_refl _)).2.2, ck h1 h2 h3⟩)) (fun _ => c_X12_build1 ok hM n9 pk hrec (fun h1 h2 h3 => (I_bl I hn h1 h2 h3 (Nat.le_refl _)).2)) (Kx (cI)) (Kz (cI))
  · rw [show l_pc 22 = 1704 from by decide +kernel]
    obtain ⟨k, ck, cI⟩ := I_off (x := k_sx G (7 * n + 1)) I hn
    exact case_off ok g0 hsL hi hab ho cn hb (rr_off _ _) (by rfl) (C_off okF W n9 lim pk p0 (fun h => ⟨(I_of I hn h (Nat.le_refl _)).2.1, (I_of I hn h (Nat.le_refl _)).2.2, ck h⟩)) (fun _ => c_X12_off ok hM n9 pk (fun h => (I_of I hn h (Nat.le_refl _)).2)) (Kx (cI)) (Kz (cI))
  · rw [show l_pc 23 = 1760 from by decide +kernel]
    exact case_rank ok g0 hsL hi hab ho cn hb (rr_rank _ _) (by rfl) (C_rank okF W) (fun _ => c_X12_rank ok hM) (Kx (I_eq I z_ranked (by omega))) (Kz (I_eq I z_ranked (by omega)))
  · rw [show l_pc 24 = 1816 from by decide +kernel]
    exact case_rankAnew ok g0 hsL hi hab ho cn hb (rr_rankAnew _ _) (by rfl) (C_rankAnew okF W) (fun _ => c_X12_rankAnew ok hM) (Kx (I_eq I z_ranked (by omega))) (Kz (I_eq I z_ranked (by omega)))
  · rw [show l_pc 25 = 1872 from by decide +kernel]
    exact case_watch ok g0 hsL hi hab ho cn hb (rr_watch _ _ _ _) (by rfl) (by rfl) (C_watch okF W wtl lim) (fun _ => c_X12_watch ok hM) (Kx (I_watch I)) (Kz (I_watch I))
  · rw [show l_pc 26 = 1952 from by decide +kernel]
    exact case_fired ok g0 hsL hi hab ho cn hb (rr_fired _ _) (by rfl) (C_fired okF W wtl) (fun _ => c_X12_fired ok hM) (Kx (I_eq I z_fired (by omega))) (Kz (I_eq I z_fired (by omega)))
  · rw [show l_pc 27 = 2008 from by decide +kernel]
    exact case_offer ok g0 hsL hi hab ho cn hb (rr_offer _ _ _) (by rfl) (by rfl) (by rfl) (C_offer okF W w13 hl9) (fun _ => c_X12_offer ok hM ser31) (Kx (I_kp I z_offer (by omega))) (Kz (I_kp I z_offer (by omega)))
  · rw [show l_pc 28 = 2076 from by decide +kernel]
    obtain ⟨k, ck, cI⟩ := I_take (x := k_sx G (7 * n + 1)) I hn
    exact case_take ok g0 hsL hi hab ho cn hb (rr_take _ _) (by rfl) (C_take1 okF W n9 lim pk p0 (fun h y hy => ⟨(I_tk I hn h (Nat.le_refl _)).2.1, (I_tk I hn h (Nat.le_refl _)).2.2, ck h y hy, take_val ver hy⟩)) (fun _ => c_X12_take1 ok hM hwk n9 pk (fun h y hy => (I_tk I hn h (Nat.le_refl _)).2)) (Kx (cI)) (Kz (cI))
  · rw [show l_pc 29 = 2132 from by decide +kernel]
    obtain ⟨k, ck, cI⟩ := I_finish (x := k_sx G (7 * n + 1)) I hn
    exact case_finish ok g0 hsL hi hab ho cn hb (rr_finish _ _) (by rfl) (C_finish1 okF W n9 lim pk p0 (fun h y hy => ⟨(I_fn I hn (Nat.le_refl _)).2.1, (I_fn I hn (Nat.le_refl _)).2.2, ck h y hy, fin_val lK hy⟩)) (fun _ => c_X12_finish1 ok hM hwk n9 pk (fun h y hy => (I_fn I hn (Nat.le_refl _)).2)) (Kx (cI)) (Kz (cI))
  · rw [show l_pc 30 = 2188 from by decide +kernel]
    exact case_parts ok g0 hsL hi hab ho cn hb (by rfl)  (C_parts okF W) (fun _ => c_X12_parts ok hM) (Kx (I_eq I rfl (by omega))) (Kz (I_eq I rfl (by omega)))
  · rw [show l_pc 31 = 2201 from by decide +kernel]
    exact case_part ok g0 hsL hi hab ho cn hb (rr_part _ _ _) (by rfl) (by rfl) (C_part okF W (by omega) lows) (fun _ => c_X12_part ok hM pk) (Kx (I_eq I z_part (by omega))) (Kz (I_eq I z_part (by omega)))
  · rw [show l_pc 32 = 2269 from by decide +kernel]
    exact case_mark ok g0 hsL hi hab ho cn hb (rr_mark _) (by rfl) (C_mark okF W mkl) (fun _ => c_X12_mark ok hM) (Kx (I_mark I)) (Kz (I_mark I))
  · rw [show l_pc 33 = 2313 from by decide +kernel]
    obtain ⟨k, ck, cI⟩ := I_bringBack (x := k_sx G (7 * n + 1)) I hn
    exact case_bringBack ok g0 hsL hi hab ho cn hb (rr_bringBack _ _) (by rfl) (C_bringBack1 okF W mkl mkn lim n9 pk p0 (fun v hv h1 h2 h3 => ⟨(I_bb I hn hv (Nat.le_refl _)).2.1, (I_bb I hn hv (Nat.le_refl _)).2.2, ck v hv h1 h2 h3⟩)) (fun _ => c_X12_bringBack ok hM n9 pk mkn (fun v hv => (I_bb I hn hv (Nat.le_refl _)).2)) (Kx (cI)) (Kz (cI))
end TRN
