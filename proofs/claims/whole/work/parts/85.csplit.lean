/-! THE CLASS'S PARTS ARE SPLIT AND JOINED -/
theorem pa_cnt (V : List Nat) (c : Nat) (e : List p_T) : p_end V e - p_lt c V ≤ V.length := Nat.le_trans (Nat.sub_le _ _) (p_end_le V e)
/-- a part is added behind another one -/
theorem pa_ins {a : Nat} {h : k_H} {pre rest : List k_PT} {x : k_PT} {lo : Nat} {sv : Int32} {cap : Nat} (hp : c_pa a h (pre ++ x :: rest)) (hc : h.1 (a + 7) = some (k_l ((pre ++ x :: rest).map (fun x => x.1)) cap)) (hlo : lo < 2 ^ 62) (hb : (pre ++ x :: rest).length ≤ 4300) :
    c_pa a (k_gr (k_nw h 3 (o_prt (h.2.1, lo, sv, 0))) (a + 7) (((pre ++ x :: rest).map (fun x => x.1)).insertIdx (pre.length + 1) h.2.1) (pre ++ x :: rest).length cap) (pre ++ x :: (h.2.1, lo, sv, 0) :: rest) ∧
    k_mo a [8] (fun q => q = a + 7) 1 h (k_gr (k_nw h 3 (o_prt (h.2.1, lo, sv, 0))) (a + 7) (((pre ++ x :: rest).map (fun x => x.1)).insertIdx (pre.length + 1) h.2.1) (pre ++ x :: rest).length cap) := by
  obtain ⟨h1, ⟨cap9, p1, p2, p3⟩, h3, h4, h5⟩ := hp
  have m1 : k_mo a [8] (fun q => q = a + 7) 1 h (k_nw h 3 (o_prt (h.2.1, lo, sv, 0))) := mv_nw h5 h4 (by omega)
  have old : ∀ p c, h.1 p = some c → (k_nw h 3 (o_prt (h.2.1, lo, sv, 0))).1 p = some c := fun p c hp => nw_old h5 hp
  have m2 : k_mo a [8] (fun q => q = a + 7) 0 (k_nw h 3 (o_prt (h.2.1, lo, sv, 0))) (k_gr (k_nw h 3 (o_prt (h.2.1, lo, sv, 0))) (a + 7) (((pre ++ x :: rest).map (fun x => x.1)).insertIdx (pre.length + 1) h.2.1) (pre ++ x :: rest).length cap) := mv_gr (old _ _ hc) (by decide) rfl (by show _ ≤ 6500; omega)
  have m := mv_trans m1 m2
  obtain ⟨cap', es⟩ := gr_at (k_nw h 3 (o_prt (h.2.1, lo, sv, 0))) (a + 7) (((pre ++ x :: rest).map (fun x => x.1)).insertIdx (pre.length + 1) h.2.1) (pre ++ x :: rest).length cap
  have ne : ∀ p c, h.1 p = some c → p ≠ a + 7 → (k_gr (k_nw h 3 (o_prt (h.2.1, lo, sv, 0))) (a + 7) (((pre ++ x :: rest).map (fun x => x.1)).insertIdx (pre.length + 1) h.2.1) (pre ++ x :: rest).length cap).1 p = some c := fun p c hp hne => by
    rw [gr_ne _ _ _ _ hne]; exact old _ _ hp
  have enew : (k_gr (k_nw h 3 (o_prt (h.2.1, lo, sv, 0))) (a + 7) (((pre ++ x :: rest).map (fun x => x.1)).insertIdx (pre.length + 1) h.2.1) (pre ++ x :: rest).length cap).1 h.2.1 = some (o_prt (h.2.1, lo, sv, 0)) := by
    rw [gr_ne _ _ _ _ (by omega), k_nw_self]
  have eins : ((pre ++ x :: rest).map (fun x => x.1)).insertIdx (pre.length + 1) h.2.1 = (pre ++ x :: (h.2.1, lo, sv, 0) :: rest).map (fun x => x.1) := by
    have : ∀ (u : List k_PT), ((u ++ x :: rest).map (fun x => x.1)).insertIdx (u.length + 1) h.2.1 = (u ++ x :: (h.2.1, lo, sv, 0) :: rest).map (fun x => x.1) := by
      intro u
      induction u with
      | nil => rfl
      | cons y t ih =>
        rw [List.cons_append, List.map_cons, List.length_cons, List.insertIdx_succ_cons, ih]
        rfl
    exact this pre
  rw [eins] at es enew ne m ⊢
  generalize k_gr (k_nw h 3 (o_prt (h.2.1, lo, sv, 0))) (a + 7) ((pre ++ x :: (h.2.1, lo, sv, 0) :: rest).map (fun x => x.1)) (pre ++ x :: rest).length cap = h' at es enew ne m
  have mem : ∀ y, y ∈ pre ++ x :: (h.2.1, lo, sv, 0) :: rest → y = (h.2.1, lo, sv, 0) ∨ y ∈ pre ++ x :: rest := fun y hy => by
    simp only [List.mem_append, List.mem_cons] at hy ⊢
    rcases hy with hy | hy | hy | hy
    · exact Or.inr (Or.inl hy)
    · exact Or.inr (Or.inr (Or.inl hy))
    · exact Or.inl hy
    · exact Or.inr (Or.inr (Or.inr hy))
  have fresh : ∀ y ∈ pre ++ x :: rest, y.1 ≠ h.2.1 := fun y hy z => by
    have := h5 _ _ (p2 y hy).1
    omega
  refine ⟨⟨ne _ _ h1 (by omega), ⟨cap', es, fun y hy => ?_, ?_⟩, ?_, Nat.le_trans h4 m.2.2.1, m.2.1 h5⟩, m⟩
  · rcases mem y hy with rfl | hy
    · exact ⟨enew, hlo, by show (0 : Nat) < 2 ^ 30; decide⟩
    · have := p2 y hy
      exact ⟨ne _ _ this.1 (fun z => by have h9 := this.1; rw [z, p1] at h9; cases h9), this.2⟩
  · have : (pre ++ x :: (h.2.1, lo, sv, 0) :: rest).length = (pre ++ x :: rest).length + 1 := by simp only [List.length_append, List.length_cons]; omega
    omega
  · rw [List.pairwise_append, List.pairwise_cons] at h3 ⊢
    rw [List.pairwise_cons]
    refine ⟨h3.1, ⟨fun y hy => ?_, fun y hy => ?_, h3.2.1.2⟩, fun y hy w hw => ?_⟩
    · rcases List.mem_cons.mp hy with rfl | hy
      · exact fresh x (by simp)
      · exact h3.2.1.1 y hy
    · exact (fresh y (by simp [hy])).symm
    · rcases List.mem_cons.mp hw with rfl | hw
      · exact h3.2.2 y hy w (List.mem_cons_self ..)
      · rcases List.mem_cons.mp hw with rfl | hw
        · exact fresh y (by simp [hy])
        · exact h3.2.2 y hy w (List.mem_cons_of_mem _ hw)
/-- the keys that are listed -/
def c_kl (a : Nat) (h : k_H) (X : List k_K2) : Prop := (∃ cap, h.1 (a + 4) = some (k_l (X.map (fun x => x.2)) cap)) ∧ ∀ y ∈ X, y.1 < 1331000000000 ∧ ∃ g, h.1 y.2 = some (k_o 7 [vJ (lN y.1), g])
theorem kl_mo {a o : Nat} {h h' : k_H} {X : List k_K2} {PS : List k_PT} (k : c_kl a h X) (hp : c_pa a h PS) (m : k_mo a [8] (fun q => q = a + 7) o h h') : c_kl a h' X := by
  obtain ⟨⟨cap, k1⟩, k2⟩ := k
  obtain ⟨h1, ⟨cap9, p1, p2, p3⟩, h3, h4, h5⟩ := hp
  refine ⟨⟨cap, m.1 _ _ k1 (by omega) (fun ci fs e => by cases e)⟩, fun y hy => ⟨(k2 y hy).1, ?_⟩⟩
  obtain ⟨g, hg⟩ := (k2 y hy).2
  exact ⟨g, m.1 _ _ hg (fun e => by rw [e, p1] at hg; cases hg) (fun ci fs e => by cases e; decide)⟩
section CSP
variable {G : k_G} {l : Launch}
theorem c_P_split (ok : k_ok G l) {a : Nat} {h0 : k_H} {X : List k_K2} (hX : (X.map (fun x => x.1)).Pairwise (fun x y => x < y)) (hlen : X.length ≤ 12600) {R : k_H → k_R → Prop} :
    ∀ (k : Nat) (pre todo : List k_PT) (h : k_H), c_pa a h (pre ++ todo) → c_kl a h X → ((pre ++ todo).map k_pr).Pairwise (fun x y => x.1 < y.1) → p_ms (X.map (fun x => x.1)) (todo.map k_pr) ≤ k → pre.length + p_sz (X.map (fun x => x.1)) (todo.map k_pr) ≤ 4096 → p_ho (X.map (fun x => x.1)) (p_end (X.map (fun x => x.1)) (todo.map k_pr)) pre →
      (∀ (h2 : k_H) (PS2 : List k_PT), c_pa a h2 PS2 → PS2.map k_pr = p_split (X.map (fun x => x.1)) k (pre.map k_pr) (todo.map k_pr) → (PS2.map k_pr).Pairwise (fun x y => x.1 < y.1) → p_ho (X.map (fun x => x.1)) X.length PS2 → (pre ++ todo).length ≤ PS2.length → k_mo a [8] (fun q => q = a + 7) (PS2.length - (pre ++ todo).length) h h2 → R h2 (.inl none)) →
      k_X (jX6_split G l h0) h 4 [(0, vR (some (a + 6))), (1, vR (some (a + 4))), (2, vI (nI (p_end (X.map (fun x => x.1)) (todo.map k_pr)))), (3, vI (nI pre.length))] [] R := by
  have hVl : (X.map (fun x => x.1)).length = X.length := List.length_map _
  intro k
  have nilcase : ∀ (k : Nat) (pre : List k_PT) (h : k_H), c_pa a h (pre ++ []) → ((pre ++ []).map k_pr).Pairwise (fun (x y : p_T) => x.1 < y.1) → p_ho (X.map (fun x => x.1)) (p_end (X.map (fun x => x.1)) (([] : List k_PT).map k_pr)) pre →
      (∀ (h2 : k_H) (PS2 : List k_PT), c_pa a h2 PS2 → PS2.map k_pr = p_split (X.map (fun x => x.1)) k (pre.map k_pr) (([] : List k_PT).map k_pr) → (PS2.map k_pr).Pairwise (fun x y => x.1 < y.1) → p_ho (X.map (fun x => x.1)) X.length PS2 → (pre ++ []).length ≤ PS2.length → k_mo a [8] (fun q => q = a + 7) (PS2.length - (pre ++ []).length) h h2 → R h2 (.inl none)) →
      k_X (jX6_split G l h0) h 4 [(0, vR (some (a + 6))), (1, vR (some (a + 4))), (2, vI (nI (p_end (X.map (fun x => x.1)) (([] : List k_PT).map k_pr)))), (3, vI (nI pre.length))] [] R := by
    intro k pre h hp hs hho K
    obtain ⟨h1, ⟨cap, p1, p2, p3⟩, -⟩ := id hp
    have e : pre ++ [] = pre := List.append_nil _
    refine bX6_split_4 h1 rfl (Or.inr ⟨rfl, _, _, p1⟩) (c_size ok p1) ?_
    rintro _ _ ⟨hh, rfl⟩
    rw [hh, List.length_map]
    rw [e] at p3
    refine bX6_split_12 (fun _ => bX6_split_119 (K h pre (by rw [e] at hp; exact hp) ?_ (by rw [e] at hs; exact hs) (by rw [← hVl]; exact hho) (by rw [e]; exact Nat.le_refl _) (by rw [e, Nat.sub_self]; exact mv_refl _ _ _ _))) (fun z => absurd (by rw [e]; exact nI_le (Nat.le_refl _) (by omega)) z)
    cases k with
    | zero => show pre.map k_pr = pre.map k_pr ++ []; rw [List.append_nil]
    | succ k => rfl
  induction k with
  | zero =>
    intro pre todo h hp hk hs hms hsz hho K
    cases todo with
    | nil => exact nilcase 0 pre h hp hs hho K
    | cons p rest =>
      have : rest.length + 1 + ((X.map (fun x => x.1)).length - p_lt p.2.1 (X.map (fun x => x.1))) ≤ 0 := by
        have h9 : (rest.map k_pr).length + 1 + ((X.map (fun x => x.1)).length - p_lt (k_pr p).1 (X.map (fun x => x.1))) ≤ 0 := hms
        rw [List.length_map] at h9
        exact h9
      omega
  | succ k ih =>
    intro pre todo h hp hk hs hms hsz hho K
    cases todo with
    | nil => exact nilcase (k + 1) pre h hp hs hho K
    | cons x rest =>
      obtain ⟨h1, ⟨cap, p1, p2, p3⟩, h3, h4, h5⟩ := id hp
      have hl : (pre ++ x :: rest).length = pre.length + (rest.length + 1) := by simp
      have hg : (pre ++ x :: rest)[pre.length]? = some x := by rw [List.getElem?_append_right (Nat.le_refl _), Nat.sub_self]; rfl
      have eS : p_end (X.map (fun x => x.1)) ((x :: rest).map k_pr) = p_lt x.2.1 (X.map (fun x => x.1)) := rfl
      rw [eS] at hho ⊢
      have eML : (rest.map k_pr).length = rest.length := List.length_map _
      have hms2 : rest.length + 1 + (X.length - p_lt x.2.1 (X.map (fun x => x.1))) ≤ k + 1 := by
        have h9 : (rest.map k_pr).length + 1 + ((X.map (fun x => x.1)).length - p_lt (k_pr x).1 (X.map (fun x => x.1))) ≤ k + 1 := hms
        rw [eML, hVl] at h9
        exact h9
      have hsz2 : pre.length + (rest.length + 1 + (X.length - p_lt x.2.1 (X.map (fun x => x.1))) / 4) ≤ 4096 := by
        have h9 : pre.length + ((rest.map k_pr).length + 1 + ((X.map (fun x => x.1)).length - p_lt (k_pr x).1 (X.map (fun x => x.1))) / 4) ≤ 4096 := hsz
        rw [eML, hVl] at h9
        exact h9
      rw [List.map_append, List.map_cons] at hs
      have hs2 := List.pairwise_append.mp hs
      have hs3 := List.pairwise_cons.mp hs2.2.1
      have hle : p_lt x.2.1 (X.map (fun x => x.1)) ≤ p_end (X.map (fun x => x.1)) (rest.map k_pr) := by
        cases rest with
        | nil => exact p_lt_le _ _
        | cons q t => exact p_lt_mono (Nat.le_of_lt (hs3.1 (k_pr q) (by simp))) _
      have hel := p_end_le (X.map (fun x => x.1)) (rest.map k_pr)
      rw [hVl] at hel
      have hsplit : p_split (X.map (fun x => x.1)) (k + 1) (pre.map k_pr) ((x :: rest).map k_pr) = if 8 < p_end (X.map (fun x => x.1)) (rest.map k_pr) - p_lt x.2.1 (X.map (fun x => x.1)) then p_split (X.map (fun x => x.1)) k (pre.map k_pr ++ [k_pr x]) (((X.map (fun x => x.1)).getD (p_lt x.2.1 (X.map (fun x => x.1)) + 4) 0, p_idle (pre.map k_pr ++ k_pr x :: rest.map k_pr)) :: rest.map k_pr) else p_split (X.map (fun x => x.1)) k (pre.map k_pr ++ [k_pr x]) (rest.map k_pr) := rfl
      obtain ⟨⟨cap4, q1⟩, q2⟩ := id hk
      have is7 : k_is h (a + 7) 2 := Or.inr ⟨rfl, _, _, p1⟩
      have is4 : k_is h (a + 4) 2 := Or.inr ⟨rfl, _, _, q1⟩
      refine bX6_split_4 h1 rfl is7 (c_size ok p1) ?_
      rintro _ _ ⟨hh, rfl⟩
      rw [hh, List.length_map]
      refine bX6_split_12 (fun z => absurd z (nI_ge (by omega) (by omega))) (fun _ => bX6_split_15 (fun z => absurd ((nI_ltI (a := 65536) (by omega) (by omega)).mp z) (by omega)) (fun _ => bX6_split_21 h1 rfl is7 (c_get ok p1 (by rw [List.getElem?_map, hg]; rfl)) ?_))
      rintro _ _ ⟨hh, rfl⟩
      rw [hh]
      refine bX6_split_29 (p2 x (by simp)).1 (k_is_o h1) (c_P_endOf ok h1 ⟨p1, p2, p3⟩ q1 hX (by omega) q2 hle) ?_
      rintro _ _ ⟨hh, rfl⟩
      rw [hh]
      -- the part's count, and on
      have go : ∀ (h2 : k_H) (rest2 : List k_PT) (o : Nat), c_pa a h2 (pre ++ x :: rest2) → c_kl a h2 X → k_mo a [8] (fun q => q = a + 7) o h h2 → (pre ++ x :: rest2).length = (pre ++ x :: rest).length + o → ((pre ++ x :: rest2).map k_pr).Pairwise (fun x y => x.1 < y.1) → p_lt x.2.1 (X.map (fun x => x.1)) ≤ p_end (X.map (fun x => x.1)) (rest2.map k_pr) → p_ms (X.map (fun x => x.1)) (rest2.map k_pr) ≤ k → pre.length + 1 + p_sz (X.map (fun x => x.1)) (rest2.map k_pr) ≤ 4096 →
          p_split (X.map (fun x => x.1)) (k + 1) (pre.map k_pr) ((x :: rest).map k_pr) = p_split (X.map (fun x => x.1)) k (pre.map k_pr ++ [k_pr x]) (rest2.map k_pr) →
          k_X (jX6_split G l h0) h2 101 [(0, vR (some (a + 6))), (1, vR (some (a + 4))), (2, vI (nI (p_lt x.2.1 (X.map (fun x => x.1))))), (3, vI (nI pre.length)), (4, vR (some x.1)), (5, vI (nI (p_end (X.map (fun x => x.1)) (rest2.map k_pr))))] [] R := by
        intro h2 rest2 o hp2 hk2 hm2 hlen2 hs2 hle2 hms2 hsz2 hsp2
        have hel2 := p_end_le (X.map (fun x => x.1)) (rest2.map k_pr)
        rw [hVl] at hel2
        obtain ⟨g1, ⟨cap2, r1, r2, r3⟩, -⟩ := id hp2
        obtain ⟨u1, u2⟩ := pa_upd hp2 (k := p_end (X.map (fun x => x.1)) (rest2.map k_pr) - p_lt x.2.1 (X.map (fun x => x.1))) (by omega)
        refine bX6_split_101 (r2 x (by simp)).1 rfl ?_
        rw [nI_sub hle2]
        refine bX6_split_110 ?_
        rw [nI_1]
        have ecell : (k_o 8 (List.set [vJ (lN x.2.1), vI x.2.2.1, vI (nI x.2.2.2)] 2 (vI (nI (p_end (X.map (fun x => x.1)) (rest2.map k_pr) - p_lt x.2.1 (X.map (fun x => x.1))))))) = o_prt (x.1, x.2.1, x.2.2.1, p_end (X.map (fun x => x.1)) (rest2.map k_pr) - p_lt x.2.1 (X.map (fun x => x.1))) := rfl
        rw [ecell]
        have hk3 := kl_mo hk2 hp2 u2
        generalize k_up h2 x.1 (o_prt (x.1, x.2.1, x.2.2.1, p_end (X.map (fun x => x.1)) (rest2.map k_pr) - p_lt x.2.1 (X.map (fun x => x.1)))) = h3 at u1 u2 hk3
        have eap : pre ++ (x.1, x.2.1, x.2.2.1, p_end (X.map (fun x => x.1)) (rest2.map k_pr) - p_lt x.2.1 (X.map (fun x => x.1))) :: rest2 = (pre ++ [(x.1, x.2.1, x.2.2.1, p_end (X.map (fun x => x.1)) (rest2.map k_pr) - p_lt x.2.1 (X.map (fun x => x.1)))]) ++ rest2 := by simp
        have elen : (pre ++ [(x.1, x.2.1, x.2.2.1, p_end (X.map (fun x => x.1)) (rest2.map k_pr) - p_lt x.2.1 (X.map (fun x => x.1)))]).length = pre.length + 1 := by simp
        rw [eap] at u1
        rw [← elen]
        refine ih _ rest2 h3 u1 hk3 ?_ hms2 (by rw [elen]; exact hsz2) (p_ho_snoc rfl hho) (fun h4 PS4 v1 v2 v3 v4 v5 v6 => K h4 PS4 v1 ?_ v3 v4 ?_ ?_)
        · rw [List.map_append, List.map_append, List.append_assoc]
          rw [List.map_append, List.map_cons] at hs2
          exact hs2
        · rw [v2, hsp2, List.map_append]
          rfl
        · have : ((pre ++ [(x.1, x.2.1, x.2.2.1, p_end (X.map (fun x => x.1)) (rest2.map k_pr) - p_lt x.2.1 (X.map (fun x => x.1)))]) ++ rest2).length = (pre ++ x :: rest2).length := by simp
          omega
        · have : ((pre ++ [(x.1, x.2.1, x.2.2.1, p_end (X.map (fun x => x.1)) (rest2.map k_pr) - p_lt x.2.1 (X.map (fun x => x.1)))]) ++ rest2).length = (pre ++ x :: rest2).length := by simp
          exact mv_mono (mv_trans (mv_trans hm2 u2) v6) (fun _ h => h) (fun _ h => h) (by omega)
      have hs' : ((pre ++ x :: rest).map k_pr).Pairwise (fun x y => x.1 < y.1) := by rw [List.map_append, List.map_cons]; exact hs
      refine bX6_split_41 (fun c1 => ?_) (fun c1 => ?_)
      · rw [nI_sub hle] at c1
        have c2 := (nI_leI (b := 8) (by omega) (by omega)).mp c1
        rw [if_neg (by omega)] at hsplit
        refine go h rest 0 hp hk (mv_refl _ _ _ _) rfl hs' hle ?_ ?_ hsplit
        · cases rest with
          | nil => exact Nat.zero_le _
          | cons q t =>
            have := p_lt_mono (Nat.le_of_lt (hs3.1 (k_pr q) (by simp))) (X.map (fun x => x.1))
            show (t.map k_pr).length + 1 + ((X.map (fun x => x.1)).length - p_lt (k_pr q).1 (X.map (fun x => x.1))) ≤ k
            rw [List.length_map, hVl]
            simp only [List.length_cons] at hms2
            have e9 : (k_pr x).1 = x.2.1 := rfl
            rw [e9] at this
            omega
        · cases rest with
          | nil => show pre.length + 1 + 0 ≤ 4096; omega
          | cons q t =>
            have := p_lt_mono (Nat.le_of_lt (hs3.1 (k_pr q) (by simp))) (X.map (fun x => x.1))
            show pre.length + 1 + ((t.map k_pr).length + 1 + ((X.map (fun x => x.1)).length - p_lt (k_pr q).1 (X.map (fun x => x.1))) / 4) ≤ 4096
            rw [List.length_map, hVl]
            simp only [List.length_cons] at hsz2
            have e9 : (k_pr x).1 = x.2.1 := rfl
            rw [e9] at this
            omega
      · rw [nI_sub hle] at c1
        have c2 : ¬ (p_end (X.map (fun x => x.1)) (rest.map k_pr) - p_lt x.2.1 (X.map (fun x => x.1))) ≤ 8 := fun z => c1 ((nI_leI (b := 8) (by omega) (by omega)).mpr z)
        rw [if_pos (by omega)] at hsplit
        have h5' : p_lt x.2.1 (X.map (fun x => x.1)) + 4 < X.length := by omega
        obtain ⟨y, hy⟩ : ∃ y, X[p_lt x.2.1 (X.map (fun x => x.1)) + 4]? = some y := ⟨_, List.getElem?_eq_getElem h5'⟩
        have hyV : (X.map (fun x => x.1))[p_lt x.2.1 (X.map (fun x => x.1)) + 4]? = some y.1 := by rw [List.getElem?_map, hy]; rfl
        have hyD : (X.map (fun x => x.1)).getD (p_lt x.2.1 (X.map (fun x => x.1)) + 4) 0 = y.1 := by rw [List.getD_eq_getElem?_getD, hyV]; rfl
        have hyat := p_lt_at hX hyV
        obtain ⟨hy1, gg, hy2⟩ := q2 y (List.mem_of_getElem? hy)
        rw [hyD] at hsplit
        refine bX6_split_52 is4 (c_size ok q1) ?_
        rintro _ _ ⟨hh, rfl⟩
        rw [hh, List.length_map, show (4 : Int32) = nI 4 from rfl, nI_add]
        refine bX6_split_59 (fun z => absurd z (nI_ge h5' (by omega))) (fun _ => bX6_split_62 h1 rfl ?_)
        have old : ∀ p c, h.1 p = some c → (k_nw h 3 (k_o 8 [vJ 0, vI 0, vI 0])).1 p = some c := fun p c hp => nw_old h5 hp
        rw [nI_1]
        refine bX6_split_72 (Or.inr ⟨rfl, _, _, old _ _ q1⟩) (by rw [show (4 : Int32) = nI 4 from rfl, nI_add]; exact c_get ok (old _ _ q1) (by rw [List.getElem?_map, hy]; rfl)) ?_
        rintro _ _ ⟨hh, rfl⟩
        rw [hh]
        refine bX6_split_80 (old _ _ hy2) rfl (k_is_o (old _ _ h1)) (c_P_idlest ok (old _ _ h1) ⟨old _ _ p1, fun z hz => ⟨old _ _ (p2 z hz).1, (p2 z hz).2⟩, p3⟩) ?_
        rintro _ _ ⟨hh, rfl⟩
        rw [hh]
        refine bX6_split_90 (c_X5_init ok (k_nw_self _ _ _)) ?_
        rintro h6 e6
        rw [up_nw] at e6
        have eP : (k_o 8 [vJ (lN y.1), vI (p_idle ((pre ++ x :: rest).map k_pr)), vI 0]) = o_prt (h.2.1, y.1, p_idle ((pre ++ x :: rest).map k_pr), 0) := rfl
        rw [eP] at e6
        obtain ⟨v1, v2⟩ := pa_ins (lo := y.1) (sv := p_idle ((pre ++ x :: rest).map k_pr)) hp p1 (by omega) (by omega)
        rw [← e6] at v1 v2
        have old6 : ∀ p c, h.1 p = some c → h6.1 p = some c := fun p c hp => by rw [e6]; exact nw_old h5 hp
        have w6 : k_wf h6 := by rw [e6]; exact wf_nw h5
        have enew : h6.1 h.2.1 = some (o_prt (h.2.1, y.1, p_idle ((pre ++ x :: rest).map k_pr), 0)) := by rw [e6]; exact k_nw_self _ _ _
        refine bX6_split_93 (Or.inr ⟨rfl, _, _, old6 _ _ p1⟩) (c_addAt ok w6 (old6 _ _ p1) (by rw [List.length_map]; exact p3) (by rw [List.length_map]; omega) (fun z hz => by
          obtain ⟨w, hw, rfl⟩ := List.mem_map.mp hz
          exact el_prt (old6 _ _ (p2 w hw).1)) (el_prt enew)) ?_
        rintro h7 e7
        rw [List.length_map] at e7
        rw [← e7] at v1 v2
        refine bX6_split_96 ?_
        rw [show (4 : Int32) = nI 4 from rfl, nI_add]
        have hE2 : p_end (X.map (fun x => x.1)) (((h.2.1, y.1, p_idle ((pre ++ x :: rest).map k_pr), 0) :: rest : List k_PT).map k_pr) = p_lt x.2.1 (X.map (fun x => x.1)) + 4 := hyat
        have G := go h7 ((h.2.1, y.1, p_idle ((pre ++ x :: rest).map k_pr), 0) :: rest) 1 v1 (kl_mo hk hp v2) v2 (by simp only [List.length_append, List.length_cons]; omega) ?_ (by rw [hE2]; omega) ?_ ?_ ?_
        · rw [hE2] at G
          exact G
        · have hxy : x.2.1 < y.1 := by
            refine Nat.lt_of_not_le fun z => ?_
            have := p_lt_mono z (X.map (fun x => x.1))
            omega
          have hyr : ∀ q ∈ rest, y.1 < q.2.1 := fun q hq => by
            cases rest with
            | nil => cases hq
            | cons q0 t =>
              have h9 : p_end (X.map (fun x => x.1)) ((q0 :: t).map k_pr) = p_lt q0.2.1 (X.map (fun x => x.1)) := rfl
              rw [h9] at c2
              have h10 : y.1 < q0.2.1 := by
                refine Nat.lt_of_not_le fun z => ?_
                have := p_lt_mono z (X.map (fun x => x.1))
                omega
              rcases List.mem_cons.mp hq with rfl | hq
              · exact h10
              · have h11 := (List.pairwise_cons.mp hs3.2).1 (k_pr q) (List.mem_map.mpr ⟨q, hq, rfl⟩)
                exact Nat.lt_trans h10 h11
          rw [List.map_append, List.map_cons, List.map_cons, List.pairwise_append, List.pairwise_cons, List.pairwise_cons]
          refine ⟨hs2.1, ⟨fun z hz => ?_, fun z hz => ?_, hs3.2⟩, fun z hz u hu => ?_⟩
          · rcases List.mem_cons.mp hz with rfl | hz
            · exact hxy
            · exact hs3.1 z hz
          · obtain ⟨q, hq, rfl⟩ := List.mem_map.mp hz
            exact hyr q hq
          · rcases List.mem_cons.mp hu with rfl | hu
            · exact hs2.2.2 z hz _ (List.mem_cons_self ..)
            · rcases List.mem_cons.mp hu with rfl | hu
              · have h12 := hs2.2.2 z hz (k_pr x) (List.mem_cons_self ..)
                exact Nat.lt_trans h12 hxy
              · exact hs2.2.2 z hz u (List.mem_cons_of_mem _ hu)
        · show (rest.map k_pr).length + 1 + ((X.map (fun x => x.1)).length - p_lt y.1 (X.map (fun x => x.1))) ≤ k
          rw [List.length_map, hVl, hyat]
          omega
        · show pre.length + 1 + ((rest.map k_pr).length + 1 + ((X.map (fun x => x.1)).length - p_lt y.1 (X.map (fun x => x.1))) / 4) ≤ 4096
          rw [List.length_map, hVl, hyat]
          omega
        · rw [hsplit, List.map_append, List.map_cons]
          rfl
end CSP
