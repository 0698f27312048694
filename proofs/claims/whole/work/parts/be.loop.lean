/-! THE LAW'S LOOP, from its entry to its end -/
def q_end (a : Nat) : k_H → k_R → Prop := fun h' r => r = .inl (some (vI 1)) ∧ h'.2.1 ≤ a + 601024 ∧ h'.2.2 ≤ 7293033
section LOOP
variable {G : k_G} {l : Launch} {nm : String}
theorem law_loop (ok : k_ok G l) (g0 : k_fh G = 0) {a : Nat} (hL : k_sL G ≤ 3584) : ∀ (d n N w : Nat) (s : m_S) (g : Nat → Int64) (h : k_H) (M : s_M), d + n = 513 → i_I n M N w → n ≤ 512 → m_M s M → c_W a (l_B a) h M N w → k_cn (a + 31) (a + 31 + 38) h →
    k_X (jW G l nm (l_h0 a)) (c_J (a + 31) s g h) 23 (lvW G a (a + 31) (7 * n)) [] (q_end a) := by
  intro d
  induction d with
  | zero => intro n N w s g h M hd I hn; omega
  | succ d ih =>
    intro n N w s g h M hd I hn hM W cn
    have rm := W_room W I hn
    by_cases he : k_sL G < 7 * n + 7
    · exact ⟨_, _, x_end (by omega) (by omega) he, rfl, rm⟩
    · by_cases hb : a + 31 + 38 ≤ h.2.1
      · have hn' : n < 512 := by omega
        have next : ∀ s1 g1 h1 M1 N1 w1, i_I (n + 1) M1 N1 w1 → m_M s1 M1 → c_W a (l_B a) h1 M1 N1 w1 → k_cn (a + 31) (a + 31 + 38) h1 → k_X (jW G l nm (l_h0 a)) (c_J (a + 31) s1 g1 h1) 2369 (lvW G a (a + 31) (7 * n)) [] (q_end a) := by
          intro s1 g1 h1 M1 N1 w1 J m c cn1
          obtain ⟨h9, r, j, q⟩ := ih (n + 1) N1 w1 s1 g1 h1 M1 (by omega) J (by omega) m c cn1
          exact ⟨h9, r, x_next j, q⟩
        refine x_turn (by omega) (by omega) (by omega) (fun k hk _ => turn_all ok g0 hL (by omega) W hM cn hb I hn' next (fun h1 M1 N1 w1 J c => ?_) k hk) (next s g h M N w (I_0 I (by omega)) hM W cn)
        have rm1 := W_room c J (by omega)
        exact ⟨.inl (some (vI 1)), rfl, rm1⟩
      · exact ⟨_, _, j_nc hb, rfl, rm⟩
theorem law_start (ok : k_ok G l) (g0 : k_fh G = 0) {a : Nat} (hL : k_sL G ≤ 3584) (hz : k_z0 G < a) : k_X (jW G l nm (l_h0 a)) (l_h0 a) 0 [(0, vR (some (k_sb G)))] [] (q_end a) :=
  x_entry ok hz (law_loop ok g0 hL 513 0 0 0 m_R0 (fun _ => 0) (l_hc a) g_0 rfl I_g0 (by omega) m_M_0 (l_W a) (l_cn a))
end LOOP
