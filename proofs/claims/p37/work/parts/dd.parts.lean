/-! PARTS: not too many keys, not too few; what every call does to versions, watches, parts -/
def p_8 (V : List Nat) : List p_T → Prop
  | [] => True
  | p :: r => p_end V r - p_lt p.1 V ≤ 8 ∧ p_8 V r
def p_8x (V : List Nat) : List p_T → Nat → Prop
  | [], _ => True
  | p :: r, e => (match r with | [] => e | q :: _ => p_lt q.1 V) - p_lt p.1 V ≤ 8 ∧ p_8x V r e
def p_sv (PT : List p_T) : Prop := ∀ p ∈ PT, p.2 = 0 ∨ p.2 = 1 ∨ p.2 = 2
theorem p8_app {V : List Nat} : ∀ (pre todo : List p_T), p_8x V pre (p_end V todo) → p_8 V todo → p_8 V (pre ++ todo) := by
  intro pre
  induction pre with
  | nil => intro todo _ h; exact h
  | cons p r ih =>
    intro todo h1 h2
    refine ⟨?_, ih todo h1.2 h2⟩
    cases r with
    | nil => exact h1.1
    | cons q r => exact h1.1
theorem p8x_snoc {V : List Nat} {p : p_T} {e : Nat} : ∀ pre : List p_T, p_8x V pre (p_lt p.1 V) → e - p_lt p.1 V ≤ 8 → p_8x V (pre ++ [p]) e := by
  intro pre
  induction pre with
  | nil => intro _ h; exact ⟨h, True.intro⟩
  | cons q r ih =>
    intro h1 h2
    refine ⟨?_, ih h1.2 h2⟩
    cases r with
    | nil => exact h1.1
    | cons q r => exact h1.1
theorem lt_mono {V : List Nat} {a b : Nat} (h : a ≤ b) : p_lt a V ≤ p_lt b V := by
  unfold p_lt
  rw [← List.countP_eq_length_filter, ← List.countP_eq_length_filter]
  exact List.countP_mono_left fun x _ hx => by
    have := of_decide_eq_true hx
    exact decide_eq_true (by omega)
theorem split_8 {V : List Nat} (hV : V.Pairwise (fun x y => x < y)) : ∀ (k : Nat) (pre todo : List p_T), todo.Pairwise (fun x y => x.1 < y.1) → p_ms V todo ≤ k → p_8x V pre (p_end V todo) → p_8 V (p_split V k pre todo) := by
  intro k
  induction k with
  | zero =>
    intro pre todo _ hm h
    cases todo with
    | nil => exact p8_app pre [] h True.intro
    | cons p r =>
      have hm : r.length + 1 + (V.length - p_lt p.1 V) ≤ 0 := hm
      omega
  | succ k ih =>
    intro pre todo hs hm h
    cases todo with
    | nil =>
      show p_8 V pre
      have := p8_app pre [] h True.intro
      rw [List.append_nil] at this
      exact this
    | cons p rest =>
      show p_8 V (if 8 < p_end V rest - p_lt p.1 V then p_split V k (pre ++ [p]) ((V.getD (p_lt p.1 V + 4) 0, p_idle (pre ++ p :: rest)) :: rest) else p_split V k (pre ++ [p]) rest)
      have h : p_8x V pre (p_lt p.1 V) := h
      have hm : rest.length + 1 + (V.length - p_lt p.1 V) ≤ k + 1 := hm
      by_cases h8 : 8 < p_end V rest - p_lt p.1 V
      · rw [if_pos h8]
        obtain ⟨n1, n2, n3, n4⟩ := p_new hV h8
        have hle := p_end_le V rest
        refine ih _ _ (List.pairwise_cons.mpr ⟨fun q hq => ?_, (List.pairwise_cons.mp hs).2⟩) ?_ ?_
        · cases rest with
          | nil => cases hq
          | cons q0 r =>
            have a := n4 q0 rfl
            rcases List.mem_cons.mp hq with e | e
            · rw [e]; exact a
            · have := (List.pairwise_cons.mp (List.pairwise_cons.mp hs).2).1 q e
              show V.getD _ 0 < q.1
              omega
        · show rest.length + 1 + (V.length - p_lt (V.getD (p_lt p.1 V + 4) 0) V) ≤ k
          rw [n1]; omega
        · refine p8x_snoc pre h ?_
          show p_lt (V.getD (p_lt p.1 V + 4) 0) V - p_lt p.1 V ≤ 8
          rw [n1]; omega
      · rw [if_neg h8]
        refine ih _ _ (List.pairwise_cons.mp hs).2 ?_ (p8x_snoc pre h (by omega))
        cases rest with
        | nil => exact Nat.zero_le _
        | cons q r =>
          show r.length + 1 + (V.length - p_lt q.1 V) ≤ k
          have := lt_mono (V := V) (Nat.le_of_lt ((List.pairwise_cons.mp hs).1 q List.mem_cons_self))
          have hm : r.length + 1 + 1 + (V.length - p_lt p.1 V) ≤ k + 1 := hm
          omega
theorem join_8 {V : List Nat} : ∀ (r : List p_T) (p : p_T), p_8 V (p :: r) → p_8 V (p_join V p r) := by
  intro r
  induction r with
  | nil => intro p h; exact h
  | cons q r ih =>
    intro p h
    show p_8 V (if p_end V r - p_lt p.1 V < 4 then p_join V p r else p :: p_join V q r)
    by_cases c : p_end V r - p_lt p.1 V < 4
    · rw [if_pos c]
      exact ih p ⟨by omega, h.2.2⟩
    · rw [if_neg c]
      refine ⟨?_, ih q h.2⟩
      obtain ⟨t, e, -⟩ := p_join_hd V r q
      rw [e]
      exact h.1
theorem idle_sv (PT : List p_T) : p_idle PT = 0 ∨ p_idle PT = 1 ∨ p_idle PT = 2 := by
  unfold p_idle
  split
  · split
    · exact Or.inr (Or.inr rfl)
    · exact Or.inr (Or.inl rfl)
  · split
    · exact Or.inr (Or.inr rfl)
    · exact Or.inl rfl
theorem split_sv (V : List Nat) : ∀ (k : Nat) (pre todo : List p_T), p_sv (pre ++ todo) → p_sv (p_split V k pre todo) := by
  intro k
  induction k with
  | zero => intro pre todo h; exact h
  | succ k ih =>
    intro pre todo h
    cases todo with
    | nil => exact fun p hp => h p (List.mem_append.mpr (Or.inl hp))
    | cons p rest =>
      show p_sv (if 8 < p_end V rest - p_lt p.1 V then p_split V k (pre ++ [p]) ((V.getD (p_lt p.1 V + 4) 0, p_idle (pre ++ p :: rest)) :: rest) else p_split V k (pre ++ [p]) rest)
      split
      · refine ih _ _ fun q hq => ?_
        rcases List.mem_append.mp hq with g | g
        · exact h q (by rcases List.mem_append.mp g with g | g; exact List.mem_append.mpr (Or.inl g); rw [List.mem_singleton.mp g]; exact List.mem_append.mpr (Or.inr List.mem_cons_self))
        · rcases List.mem_cons.mp g with g | g
          · rw [g]; exact idle_sv _
          · exact h q (List.mem_append.mpr (Or.inr (List.mem_cons_of_mem _ g)))
      · refine ih _ _ fun q hq => ?_
        rw [List.append_assoc] at hq
        exact h q hq
theorem join_sv (V : List Nat) : ∀ (r : List p_T) (p : p_T), p_sv (p :: r) → p_sv (p_join V p r) := by
  intro r p h
  obtain ⟨t, e, ht⟩ := p_join_hd V r p
  rw [e]
  intro q hq
  rcases List.mem_cons.mp hq with g | g
  · rw [g]; exact h p List.mem_cons_self
  · exact h q (List.mem_cons_of_mem _ (ht q g))
theorem arr_8 {V : List Nat} (hV : V.Pairwise (fun x y => x < y)) (hb : ∀ x ∈ V, x < 1331000000000) {PT : List p_T} (h : p_gd PT) (hne : PT ≠ []) (hs : p_sv PT) : p_8 V (p_arr V PT) ∧ p_ad V (p_arr V PT) ∧ p_sv (p_arr V PT) := by
  have g := gd_split hV hb (PT.length + V.length) [] PT h
  have hn := p_split_ne V (PT.length + V.length) [] PT (Or.inr hne)
  have s8 := split_8 hV (PT.length + V.length) [] PT h.1 (by
    cases PT with
    | nil => exact Nat.zero_le _
    | cons p r => show r.length + 1 + (V.length - p_lt p.1 V) ≤ r.length + 1 + V.length; omega) True.intro
  have sv := split_sv V (PT.length + V.length) [] PT hs
  unfold p_arr
  generalize p_split V (PT.length + V.length) [] PT = S at g hn s8 sv
  cases S with
  | nil => exact absurd rfl hn
  | cons p r => exact ⟨join_8 r p s8, ad_join V r p g.1, join_sv V r p sv⟩
def J_p (M : s_M) : Prop := p_8 (g_V M) (g_PT M) ∧ p_ad (g_V M) (g_PT M) ∧ p_sv (g_PT M)
/-! .. what every call does -/
def J_k (M M' : s_M) : Prop := (∃ k, g_n M' = g_n M + k ∧ (g_E M').2.1 = (g_E M).2.1 ∧ g_WT M' = g_WT M ∧ g_PT M' = g_PT M) ∨
  (∃ E', z_E (g_n M + 1) (g_E M) E' ∧ g_n M' = g_n M + 1 ∧ g_E M' = E' ∧ g_WT M' = (g_WT M).map (m_fire (g_n M) (g_n M + 1) (g_E M).2.1 E'.2.1) ∧ g_PT M' = p_arr (m_V E'.1 (g_n M + 1) E'.2.1) (g_PT M)) ∨
  (g_n M' = g_n M ∧ (g_E M').2.1 = (g_E M).2.1 ∧ g_PT M' = g_PT M ∧ ∃ c, g_WT M' = g_WT M ++ [(c, -2147483648)])
def J_r (M M' : s_M) : Prop := g_n M ≤ g_n M' ∧ (∀ v c, v ≤ g_n M → r_val c v (g_E M').2.1 = r_val c v (g_E M).2.1) ∧ ∀ (k : Nat) (w : Nat × Int32), (g_WT M)[k]? = some w → ∃ w' : Nat × Int32, (g_WT M')[k]? = some w' ∧ (w'.2 = w.2 ∨ (w.2 = -2147483648 ∧ ∃ u, g_n M < u ∧ u ≤ g_n M' ∧ w'.2 = nI u))
theorem Jr_0 (M : s_M) : J_r M M := ⟨Nat.le_refl _, fun _ _ _ => rfl, fun k w h => ⟨w, h, Or.inl rfl⟩⟩
theorem Jr_k {M M' : s_M} (h : J_k M M') : J_r M M' := by
  rcases h with ⟨k, h1, h2, h3, h4⟩ | ⟨E', z, h1, h2, h3, h4⟩ | ⟨h1, h2, h3, c, h4⟩
  · exact ⟨by omega, fun v c _ => by rw [h2], fun k w h => ⟨w, by rw [h3]; exact h, Or.inl rfl⟩⟩
  · refine ⟨by omega, fun v c hv => by rw [h2]; exact zE_ext z (by omega), fun k w h => ⟨m_fire (g_n M) (g_n M + 1) (g_E M).2.1 E'.2.1 w, by rw [h3, List.getElem?_map, h]; rfl, ?_⟩⟩
    unfold m_fire
    by_cases c : w.2 = -2147483648 ∧ ¬ r_val w.1 (g_n M + 1) E'.2.1 = r_val w.1 (g_n M) (g_E M).2.1
    · right
      exact ⟨c.1, g_n M + 1, by omega, by omega, if_pos c⟩
    · left
      exact if_neg c
  · refine ⟨by omega, fun v c _ => by rw [h2], fun k w h => ⟨w, ?_, Or.inl rfl⟩⟩
    rw [h4, List.getElem?_append_left (List.getElem?_eq_some_iff.mp h).1]
    exact h
theorem nI_none {u : Nat} (h : u < 9000) : ¬ nI u = -2147483648 := fun z => by
  have := congrArg Int32.toInt z
  rw [nI_toInt (by omega), show (-2147483648 : Int32).toInt = -2147483648 from by decide] at this
  omega
theorem Jr_trans {A B C : s_M} (h : J_r A B) (h2 : J_r B C) (hB : g_n B < 9000) : J_r A C := by
  obtain ⟨a1, a2, a3⟩ := h
  obtain ⟨b1, b2, b3⟩ := h2
  refine ⟨by omega, fun v c hv => (b2 v c (by omega)).trans (a2 v c hv), fun k w hw => ?_⟩
  obtain ⟨w1, e1, c1⟩ := a3 k w hw
  obtain ⟨w2, e2, c2⟩ := b3 k w1 e1
  refine ⟨w2, e2, ?_⟩
  rcases c1 with c1 | ⟨c1, u, u1, u2, u3⟩
  · rcases c2 with c2 | ⟨c2, u, u1, u2, u3⟩
    · exact Or.inl (c2.trans c1)
    · exact Or.inr ⟨by rw [← c1]; exact c2, u, by omega, u2, u3⟩
  · rcases c2 with c2 | ⟨c2, -⟩
    · exact Or.inr ⟨c1, u, u1, by omega, c2.trans u3⟩
    · rw [u3] at c2
      exact absurd c2 (nI_none (by omega))
theorem srt_eq : ∀ (l m : List Nat), l.Pairwise (fun x y => x < y) → m.Pairwise (fun x y => x < y) → (∀ x, x ∈ l ↔ x ∈ m) → l = m := by
  intro l
  induction l with
  | nil =>
    intro m _ _ h
    cases m with
    | nil => rfl
    | cons y m => have := (h y).mpr List.mem_cons_self; cases this
  | cons x l ih =>
    intro m h1 h2 h
    cases m with
    | nil => have := (h x).mp List.mem_cons_self; cases this
    | cons y m =>
      obtain ⟨a1, a2⟩ := List.pairwise_cons.mp h1
      obtain ⟨b1, b2⟩ := List.pairwise_cons.mp h2
      have e : x = y := by
        have hx := (h x).mp List.mem_cons_self
        have hy := (h y).mpr List.mem_cons_self
        rcases List.mem_cons.mp hx with g | g
        · exact g
        · rcases List.mem_cons.mp hy with q | q
          · exact q.symm
          · have := b1 x g
            have := a1 y q
            omega
      subst e
      rw [ih m a2 b2 (fun z => ⟨fun hz => ?_, fun hz => ?_⟩)]
      · rcases List.mem_cons.mp ((h z).mp (List.mem_cons_of_mem _ hz)) with q | q
        · have := a1 z hz; omega
        · exact q
      · rcases List.mem_cons.mp ((h z).mpr (List.mem_cons_of_mem _ hz)) with q | q
        · have := b1 z hz; omega
        · exact q
theorem V_srt {K : List k_K2} {n : Nat} {L : List k_E4} (s : K.Pairwise (fun x y => x.1 < y.1)) : (m_V K n L).Pairwise (fun x y => x < y) := by
  unfold m_V
  exact List.pairwise_map.mpr (s.filter _)
theorem V_mem {K : List k_K2} {n c : Nat} {L : List k_E4} (h : r_in K L) : c ∈ m_V K n L ↔ (r_val c n L).isSome = true := by
  unfold m_V
  constructor
  · intro hc
    obtain ⟨x, hx, rfl⟩ := List.mem_map.mp hc
    exact (List.mem_filter.mp hx).2
  · intro hc
    obtain ⟨q, hq⟩ := val_in (E := (K, L, [])) h hc
    exact List.mem_map.mpr ⟨(c, q), List.mem_filter.mpr ⟨hq, hc⟩, rfl⟩
theorem V_can {K K' : List k_K2} {n n' : Nat} {L L' : List k_E4} (s : K.Pairwise (fun x y => x.1 < y.1)) (s' : K'.Pairwise (fun x y => x.1 < y.1)) (h : r_in K L) (h' : r_in K' L') (hv : ∀ c, r_val c n' L' = r_val c n L) : m_V K' n' L' = m_V K n L :=
  srt_eq _ _ (V_srt s') (V_srt s) fun c => by rw [V_mem h', V_mem h, hv]
theorem J_gd {i N w : Nat} {M : s_M} (I : i_I i M N w) : p_gd (g_PT M) ∧ g_PT M ≠ [] := by
  obtain ⟨W, S, R, V, Vs, a, s, b, p, C, D, X, Y, Np, I⟩ := I
  exact ⟨I.2.1.2.2.2.1.1, I.2.1.2.2.2.1.2.1⟩
theorem Jp_k {i N w : Nat} {M M' : s_M} (I : i_I i M N w) (e : J_e M) (K' : i_K (g_E M')) (h : J_k M M') (J : J_p M) : J_p M' := by
  rcases h with ⟨k, h1, h2, h3, h4⟩ | ⟨E', z, h1, h2, h3, h4⟩ | ⟨h1, h2, h3, c, h4⟩
  · have hV : g_V M' = g_V M := V_can e.1.1 K'.1 e.1.2.1 K'.2.1 (fun c => by rw [h2, h1]; exact r_val_adv e.2.1 (Nat.le_add_right _ _))
    unfold J_p
    rw [hV, h4]; exact J
  · obtain ⟨g1, g2⟩ := J_gd I
    have a := arr_8 (V := g_V M') (V_srt K'.1) (fun x hx => by
      obtain ⟨y, hy, rfl⟩ := List.mem_map.mp hx
      exact K'.2.2 y (List.mem_filter.mp hy).1) g1 g2 J.2.2
    have e4 : g_PT M' = p_arr (g_V M') (g_PT M) := by
      rw [h4]
      unfold g_V
      rw [h1, h2]
    unfold J_p
    rw [e4]; exact a
  · have hV : g_V M' = g_V M := V_can e.1.1 K'.1 e.1.2.1 K'.2.1 (fun c => by rw [h2, h1])
    unfold J_p
    rw [hV, h3]; exact J
/-! .. of each call -/
section JK
variable {M : s_M}
theorem Jk_same {M' : s_M} (h1 : g_n M' = g_n M) (h2 : (g_E M').2.1 = (g_E M).2.1) (h3 : g_WT M' = g_WT M) (h4 : g_PT M' = g_PT M) : J_k M M' := Or.inl ⟨0, h1, h2, h3, h4⟩
theorem Jk_0 : J_k M M := Jk_same rfl rfl rfl rfl
theorem Jk_cm {E' : e_S} (z : z_E (g_n M + 1) (g_E M) E') : J_k M (g_cm M E') := Or.inr (Or.inl ⟨E', z, rfl, rfl, rfl, rfl⟩)
theorem Jk_begin {x : Int32} {once : Bool} : J_k M (F_begin M x once).1 := by unfold F_begin; split <;> exact Jk_same rfl rfl rfl rfl
theorem Jk_get {x a b c : Int32} {counts : Bool} : J_k M (F_get M x a b c counts).1 := by
  unfold F_get
  repeat' split
  all_goals exact Jk_same rfl rfl rfl rfl
theorem Jk_range {x a b : Int32} {counts : Bool} : J_k M (F_range M x a b counts).1 := by
  unfold F_range
  repeat' split
  all_goals exact Jk_same rfl rfl rfl rfl
theorem Jk_rangeAt {x a b p w : Int32} : J_k M (F_rangeAt M x a b p w).1 := by
  unfold F_rangeAt
  repeat' split
  all_goals exact Jk_same rfl rfl rfl rfl
theorem Jk_change {x k a b c v : Int32} : J_k M (F_change M x k a b c v).1 := by
  unfold F_change
  repeat' split
  all_goals exact Jk_same rfl rfl rfl rfl
theorem Jk_clear {x a b : Int32} : J_k M (F_clear M x a b).1 := by
  unfold F_clear
  repeat' split
  all_goals exact Jk_same rfl rfl rfl rfl
theorem Jk_offer {x v : Int32} : J_k M (F_offer M x v).1 := by
  unfold F_offer
  repeat' split
  all_goals exact Jk_same rfl rfl rfl rfl
theorem Jk_lose {d : Bool} : J_k M (F_lose M d).1 := Jk_same rfl rfl rfl rfl
theorem Jk_recover : J_k M (F_recover M).1 := Or.inl ⟨10, rfl, rfl, rfl, rfl⟩
theorem Jk_pass {x : Int32} : J_k M (F_pass M x).1 := by
  unfold F_pass
  split
  · exact Jk_0
  · exact Or.inl ⟨_, rfl, rfl, rfl, rfl⟩
theorem Jk_watch {a b c : Int32} : J_k M (F_watch M a b c).1 := by
  unfold F_watch
  repeat' split
  · exact Jk_0
  · exact Jk_0
  · exact Or.inr (Or.inr ⟨rfl, rfl, rfl, _, rfl⟩)
theorem Jk_mark : J_k M (F_mark M).1 := by unfold F_mark; split <;> exact Jk_same rfl rfl rfl rfl
theorem Jk_directory {p nm : Int32} : J_k M (F_directory M p nm).1 := by
  unfold F_directory
  repeat' split
  all_goals exact Jk_same rfl rfl rfl rfl
theorem Jk_move {d p nm : Int32} : J_k M (F_move M d p nm).1 := by
  unfold F_move
  repeat' split
  all_goals exact Jk_same rfl rfl rfl rfl
theorem Jk_remove {x : Int32} (w : d_wf (g_DS M)) : J_k M (F_remove M x).1 := by
  unfold F_remove
  split
  · exact Jk_0
  · split
    · exact Jk_0
    · split
      · exact Jk_cm (zE_rm w)
      · exact Jk_same rfl rfl rfl rfl
theorem Jk_off {x : Int32} : J_k M (F_off M x).1 := by
  unfold F_off
  split
  · exact Jk_0
  · rename_i h; exact Jk_cm (zE_off (by simpa using h))
theorem Jk_build {x most : Int32} : J_k M (F_build M x most).1 := by
  unfold F_build
  repeat' split
  all_goals first | exact Jk_0 | exact Jk_cm zE_build
theorem Jk_take {x : Int32} : J_k M (F_take M x).1 := by
  unfold F_take
  repeat' split
  all_goals first | exact Jk_0 | exact Jk_cm zE_take
theorem Jk_finish {x : Int32} : J_k M (F_finish M x).1 := by
  unfold F_finish
  repeat' split
  all_goals first | exact Jk_0 | exact Jk_cm zE_finish
theorem Jk_bringBack {x : Int32} : J_k M (F_bringBack M x).1 := by
  unfold F_bringBack
  split
  · exact Jk_0
  · split
    · exact Jk_cm zE_back
    · exact Jk_0
theorem Jk_tx {M1 : s_M} (h : J_k M M1) (t : Nat) (x : s_X) : J_k M (g_tx M1 t x) := h
theorem Jk_commit {x : Int32} (hy : ∀ t, t < 4 → ∀ y ∈ s_CS M t, y3 y) : J_k M (F_commit M x).1 := by
  unfold F_commit
  split
  · exact Jk_0
  · rename_i h1
    split
    · exact Jk_0
    · have ht := z_t4 (eq_true_of_ne_false h1)
      have step : J_k M (f_cmd M (t_of x)).1 := by
        unfold f_cmd
        repeat' split
        all_goals first | exact Jk_0 | exact Jk_same rfl rfl rfl rfl | exact Or.inr (Or.inl ⟨_, cm_zE (hy _ ht), rfl, rfl, rfl, rfl⟩)
      unfold f_commit
      split
      · exact Jk_tx Jk_0 _ _
      · split
        · exact step
        · exact Jk_tx step _ _
theorem Jk_saved {i N w : Nat} (I : i_I i M N w) (J6 : ∀ t, t < 3 → j_6 (s_Z M t)) (hy : ∀ t, t < 3 → ∀ y ∈ s_CS M t, y3 y) {x : Int32} {n j : Nat} {saves : Bool} (hx : t_of x < 3) (hn : n < 12) (hj : j < 100) : J_k M (F_saved M x (nI n) saves (nI j)).1 := by
  unfold F_saved
  repeat' split
  all_goals first | exact Jk_0 | skip
  unfold sv_w
  split
  · exact Jk_same rfl rfl rfl rfl
  · obtain ⟨-, ro, r1, r2⟩ := see_rec I (t := t_of x) (by omega) (k := n) (by omega)
    have h : sv_h M (t_of x) n j ro := ⟨hy _ hx, hn, hj, by rw [← r1, see_ord, wR_eq (by omega)], r2⟩
    obtain ⟨m1, m2, m3, ⟨m4, m5, m6, m7, m8, m9, m10⟩, -⟩ := em_all (saves := saves) h (J6 _ hx)
    exact Jk_same m6 (by rw [m5]) (congrArg (fun z => z.1) m10) (congrArg (fun z => z.2.2.1) m10)
end JK
