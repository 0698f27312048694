/-! THE REFERENCE'S SAVE AND ERASE -/
def sv_mid (M : s_M) (t : Nat) (n : Int32) (saves : Bool) (field : Int32) : s_M := sv_p (sv_go M t 0 n) (sv_go M t 1 n) (g_see M t (sv_re n)).1.isSome saves t n (o_told (g_see M t (sv_re n)).1) field (sv_r4 M t n)
def sv_L (M : s_M) (t : Nat) (n : Int32) (saves : Bool) (field : Int32) : Prop :=
  (∀ v, (g_see M t (sv_re n)).1 = some v → s_na v) ∧ sv_B M t 4090 11990 (2 ^ 29) ∧ (g_X M t).2.2.length + 4 ≤ 2048 ∧
  ((sv_go M t 2 n && (g_see M t (sv_re n)).1.isSome) = true → (g_X (sv_mid M t n saves field) t).2.1.length + (sv_seen (g_sdr (sv_mid M t n saves field) t n) t n).length ≤ 4094)
section MSX
variable {G : k_G} {l : Launch}
theorem c_X12_saved (ok : k_ok G l) {b : Nat} {s : m_S} {h : k_H} {M : s_M} {x n field : Int32} {saves : Bool} (hM : m_M s M) (hL : ∀ t, t < 4 → s_inB n 0 99 = true → (saves = true → s_inB field 0 99 = true) → g_shut M t = false → sv_L M t n saves field) :
    k_cti (tX12_saved G l) [vR (some b), vI x, vI n, vI (kB saves), vI field] (m_hp b s h) (m_p b h (m_R (F_saved M x n saves field))) := by
  refine k_cti_of (eX12_saved ok.2 (mX12_saved_0 (m_stI (c_X12_isIn ok)) ?_))
  rintro _ _ ⟨hr, rfl⟩
  rw [hr]
  -- the codes
  have thr : ∀ (r : m_S) (k : Nat), m_M r M → ¬ k = 0 → k < 9 → F_saved M x n saves field = (M, k, 0) → k_X (jX12_saved G l (m_hp b s h)) (m_hp b r h) 99 [(0, vR (some b)), (1, vI x), (2, vI n), (3, vI (kB saves)), (4, vI field)] [vI (nI k), vR (some b)] (q_i (m_p b h (m_R (F_saved M x n saves field)))) := by
    intro r k hMr hk hk9 he
    refine mX12_saved_99 (c_X12_goes ok) ?_
    rintro _ _ ⟨hr, rfl⟩
    rw [hr, he]
    have hne : ¬ nI k = 0 := fun z => hk ((nI_eq (b := 0) (by omega) (by omega)).mp z)
    exact bX12_saved_102 (fun z => absurd (by rw [decide_eq_false hne]; rfl) z) (fun _ => bX12_saved_105 ⟨_, rfl, _, rfl, m_thr hMr hk⟩)
  -- behind the tests of the numbers
  have st : ∀ u : Bool, u = (s_inB n 0 99 && (!saves || s_inB field 0 99)) → k_X (jX12_saved G l (m_hp b s h)) (m_hp b s h) 30 [(0, vR (some b)), (1, vI x), (2, vI n), (3, vI (kB saves)), (4, vI field)] [vI (kB u)] (q_i (m_p b h (m_R (F_saved M x n saves field)))) := by
    intro u hu
    refine mX12_saved_30 (m_stI (c_X12_isTransaction ok)) ?_
    rintro _ _ ⟨hr, rfl⟩
    rw [hr]
    -- behind the test of the transaction
    have st2 : ∀ (r : m_S) (w : Bool), m_M r M → w = (s_inB x 0 3 && u && !(g_shut M (t_of x) || sv_st M (t_of x) n)) → k_X (jX12_saved G l (m_hp b s h)) (m_hp b r h) 66 [(0, vR (some b)), (1, vI x), (2, vI n), (3, vI (kB saves)), (4, vI field), (5, vI (kB u))] [vI (kB w)] (q_i (m_p b h (m_R (F_saved M x n saves field)))) := by
      intro r w hMr hw
      refine mX12_saved_66 (m_stI (c_X12_isTransaction ok)) ?_
      rintro _ _ ⟨hr, rfl⟩
      rw [hr]
      cases hin : s_inB x 0 3 with
      | false => exact bX12_saved_73 (fun z => absurd rfl z) (fun _ => bX12_saved_76 (thr r 1 hMr (by decide) (by decide) (by unfold F_saved; rw [if_pos hin])))
      | true =>
        refine bX12_saved_73 (fun _ => bX12_saved_80 (fun c1 => ?_) (fun c1 => bX12_saved_85 (thr r 2 hMr (by decide) (by decide) ?_))) (fun z => absurd z (by decide))
        · rw [kB_n0] at c1
          rw [hin, c1, Bool.true_and, Bool.true_and] at hw
          rw [c1] at hu
          refine bX12_saved_89 (fun c2 => bX12_saved_98 (thr r 3 hMr (by decide) (by decide) ?_)) (fun c2 => bX12_saved_94 ?_)
          · rw [kB_0] at c2
            rw [c2, eq_comm, Bool.not_eq_false'] at hw
            unfold F_saved
            rw [hin, if_neg (by decide), if_neg (by rw [← hu]; decide), if_pos hw]
          · rw [kB_n0] at c2
            rw [c2, eq_comm, Bool.not_eq_true'] at hw
            have hF : F_saved M x n saves field = ((sv_w M (t_of x) n saves field).1, 0, (sv_w M (t_of x) n saves field).2) := by
              unfold F_saved
              rw [hin, if_neg (by decide), if_neg (by rw [← hu]; decide), if_neg (by rw [hw]; decide)]
            rw [hF]
            refine mX12_saved_99 (c_X12_goes ok) ?_
            rintro _ _ ⟨hr, rfl⟩
            rw [hr]
            obtain ⟨a1, a2⟩ := m_ok hMr
            generalize m_si r 52 0 = r1 at a1 a2
            obtain ⟨t, ht, rfl, e9⟩ := s_in4 hin
            have eto : t_of (nI t) = t := e9
            rw [eto] at hw ⊢
            obtain ⟨hsh, -⟩ := Bool.or_eq_false_iff.mp hw
            obtain ⟨u1, u2⟩ := Bool.and_eq_true_iff.mp hu.symm
            have hf : saves = true → s_inB field 0 99 = true := fun e => by rw [e] at u2; exact u2
            obtain ⟨i1, i2, i3, i4⟩ := hL t ht u1 hf hsh
            refine bX12_saved_102 (fun _ => mX12_saved_107 (c_X12_writes ok a1 ht (sv_n99 u1) (fun e => sv_n99 (hf e)) i1 i2 i3 i4) ?_) (fun z => absurd z (by decide))
            rintro r2 _ ⟨w1, rfl, w3⟩
            exact bX12_saved_116 ⟨_, rfl, r2, rfl, w1, w3.trans a2, fun _ => rfl⟩
        · rw [kB_0] at c1
          rw [c1] at hu
          unfold F_saved
          rw [hin, if_neg (by decide), if_pos hu.symm]
    cases hin : s_inB x 0 3 with
    | false => exact bX12_saved_36 (fun _ => bX12_saved_65 (st2 s false hM (by rw [hin]; rfl))) (fun z => absurd rfl z)
    | true =>
      obtain ⟨t, ht, rfl, e9⟩ := s_in4 hin
      have eto : t_of (nI t) = t := e9
      refine bX12_saved_36 (fun z => absurd z (by decide)) (fun _ => bX12_saved_39 (fun c1 => bX12_saved_65 (st2 s false hM ?_)) (fun c1 => mX12_saved_44 (c_X12_isShut ok ht (hM.2.2.1 t ht)) ?_))
      · rw [kB_0] at c1
        rw [c1, Bool.and_false]
        rfl
      · rintro _ _ ⟨hr, rfl⟩
        rw [hr]
        rw [kB_n0] at c1
        have e1 : (!(g_X M t).1.1 || decide (12 ≤ (g_X M t).2.1.length)) = g_shut M t := rfl
        rw [e1]
        rw [c1] at hu
        obtain ⟨u1, -⟩ := Bool.and_eq_true_iff.mp hu.symm
        refine bX12_saved_49 (fun c2 => bX12_saved_65 (st2 s false hM ?_)) (fun c2 => mX12_saved_52 (c_X12_isAnyStamped ok hM ht (sv_n99 u1)) ?_)
        · rw [kB_n0] at c2
          rw [eto, c2]
          simp
        · rw [kB_0] at c2
          rintro r2 _ ⟨rfl, hf2⟩
          have hM2 := m_M_fr hM hf2 (by simp) (by simp)
          refine bX12_saved_58 (fun c3 => bX12_saved_65 (st2 r2 false hM2 ?_)) (fun c3 => bX12_saved_61 (st2 r2 true hM2 ?_))
          · rw [kB_n0] at c3
            rw [eto, c3]
            simp
          · rw [kB_0] at c3
            rw [eto, c3, c2, c1, hin]
            rfl
  cases h1 : s_inB n 0 99 with
  | false => exact bX12_saved_7 (fun _ => bX12_saved_29 (st false (by rw [h1]; rfl))) (fun z => absurd rfl z)
  | true =>
    refine bX12_saved_7 (fun z => absurd z (by decide)) (fun _ => bX12_saved_10 (fun c1 => bX12_saved_25 (st true ?_)) (fun c1 => mX12_saved_14 (m_stI (c_X12_isIn ok)) ?_))
    · rw [kB_0] at c1
      rw [h1, c1]
      rfl
    · rw [kB_n0] at c1
      rintro _ _ ⟨hr, rfl⟩
      rw [hr]
      refine bX12_saved_22 (fun c2 => bX12_saved_29 (st false ?_)) (fun c2 => bX12_saved_25 (st true ?_))
      · rw [kB_0] at c2
        rw [c2, c1]
        simp
      · rw [kB_n0] at c2
        rw [c2, c1, h1]
        rfl
theorem c_X12_save (ok : k_ok G l) {b : Nat} {s : m_S} {h : k_H} {M : s_M} {x n field : Int32} (hM : m_M s M) (hL : ∀ t, t < 4 → s_inB n 0 99 = true → s_inB field 0 99 = true → g_shut M t = false → sv_L M t n true field) :
    k_cti (tX12_save G l) [vR (some b), vI x, vI n, vI field] (m_hp b s h) (m_p b h (m_R (F_save M x n field))) := by
  refine k_cti_of (eX12_save ok.2 (mX12_save_0 (c_X12_saved (saves := true) ok hM (fun t ht a c d => hL t ht a (c rfl) d)) ?_))
  intro r v hR
  exact bX12_save_8 ⟨_, rfl, r, rfl, hR⟩
theorem c_X12_erase (ok : k_ok G l) {b : Nat} {s : m_S} {h : k_H} {M : s_M} {x n : Int32} (hM : m_M s M) (hL : ∀ t, t < 4 → s_inB n 0 99 = true → g_shut M t = false → sv_L M t n false 0) :
    k_cti (tX12_erase G l) [vR (some b), vI x, vI n] (m_hp b s h) (m_p b h (m_R (F_erase M x n))) := by
  refine k_cti_of (eX12_erase ok.2 (mX12_erase_0 (c_X12_saved (saves := false) ok hM (fun t ht a _ d => hL t ht a d)) ?_))
  intro r v hR
  exact bX12_erase_8 ⟨_, rfl, r, rfl, hR⟩
end MSX
