/-! WHAT MUST HOLD OF THE VALUES IN A VERSION; a commit keeps it -/
def j_5 (U : j_U) : Prop := ∀ c v, c / 121000000 = 995 → U c = some v → ∃ j, j < 1000 ∧ v = nI j
def bd_ (B : Nat) (x : Int32) : Prop := -(B : Int) ≤ x.toInt ∧ x.toInt ≤ B
def j_B (B : Nat) (U : j_U) : Prop := ∀ c x, y_o c (c + 1) → U c = some x → bd_ B x
def j_P (n : Nat) (U : j_U) : Prop := j_A U ∧ j_6 U ∧ j_5 U ∧ j_B (10000 + 64 * n) U
theorem bd_mono {B B' : Nat} {x : Int32} (h : bd_ B x) (hB : B ≤ B') : bd_ B' x := ⟨by have := h.1; omega, by have := h.2; omega⟩
theorem bd_add {B : Nat} {x g : Int32} (hx : bd_ B x) (hg : y3v g) (hB : B < 2 ^ 24) : bd_ (B + 4) (x + g) := by
  obtain ⟨a, b⟩ := hx
  obtain ⟨c, d⟩ := hg
  unfold bd_
  rw [Int32.toInt_add]
  have : (x.toInt + g.toInt).bmod (2 ^ 32) = x.toInt + g.toInt := by
    rw [Int.bmod_eq_of_le] <;> omega
  rw [this]
  constructor <;> omega
theorem bd_apO {B : Nat} {k g s x : Int32} {o : Option Int32} (ho : ∀ z, o = some z → bd_ B z) (hg : y3v g) (hs : bd_ B s) (hB : B < 2 ^ 24) (h4 : 4 ≤ B) (h : s_apO k g s o = some x) : bd_ (B + 4) x := by
  have hgB : bd_ (B + 4) g := ⟨by have := hg.1; omega, by have := hg.2; omega⟩
  unfold s_apO at h
  split at h
  · cases h
  · have h := Option.some.inj h
    rw [← h]
    cases e : o with
    | none =>
      unfold ap_v
      show bd_ (B + 4) (if k = 1 then 0 else if k = 2 then (if kB false = 0 then g else (0 : Int32) + g) else if k = 3 then (if kB false = 0 then g else _) else if k = 4 then (if kB false = 0 then g else _) else if k = 5 then s else g)
      rw [if_pos (show kB false = 0 from rfl), if_pos (show kB false = 0 from rfl), if_pos (show kB false = 0 from rfl)]
      split
      · exact ⟨by show -((B + 4 : Nat) : Int) ≤ 0; omega, by show (0 : Int) ≤ _; omega⟩
      · repeat' split
        all_goals first | exact hgB | exact bd_mono hs (by omega)
    | some z =>
      have hz := ho z e
      have hzB := bd_mono hz (show B ≤ B + 4 by omega)
      unfold ap_v
      show bd_ (B + 4) (if k = 1 then 0 else if k = 2 then (if kB true = 0 then g else z + g) else if k = 3 then (if kB true = 0 then g else if z < g then g else z) else if k = 4 then (if kB true = 0 then g else if g < z then g else z) else if k = 5 then s else g)
      have k1 : ¬ kB true = 0 := by decide
      rw [if_neg k1, if_neg k1, if_neg k1]
      split
      · exact ⟨by show -((B + 4 : Nat) : Int) ≤ 0; omega, by show (0 : Int) ≤ _; omega⟩
      · repeat' split
        all_goals first | exact bd_add hz hg hB | exact hgB | exact hzB | exact bd_mono hs (by omega)
def y_up (y : k_CH) : Bool := decide (y.2.2.1 + 1 ≤ 120153000000) || decide (121000000000 ≤ y.2.2.1)
theorem up_iff {y : k_CH} : y_up y = true ↔ y_o y.2.2.1 (y.2.2.1 + 1) := by
  unfold y_up y_o
  rw [Bool.or_eq_true, decide_eq_true_eq, decide_eq_true_eq]
theorem up_v {y : k_CH} (h : y3 y) (e : y.2.2.2.1 = y.2.2.1 + 1) (u : y_o y.2.2.1 (y.2.2.1 + 1)) : y3v y.2.2.2.2.1 := by
  obtain ⟨-, -, a | ⟨-, a⟩⟩ := h
  · have := a.2.1; omega
  · rcases a with ⟨-, a, -⟩ | ⟨-, a, -⟩ | ⟨-, j, k, a1, a2, a⟩ | ⟨-, j, a1, a⟩ | ⟨-, w, k, a1, a2, a⟩ | ⟨-, k, a1, a⟩ | ⟨-, k, a1, a⟩
    · exact a
    · exfalso; rw [a, cd5] at u; rcases u with u | u <;> omega
    · exfalso; rw [a] at u; unfold wF at u; rcases u with u | u <;> omega
    · exfalso; rw [a] at u; unfold wN at u; rcases u with u | u <;> omega
    · exfalso; rw [a] at u; unfold wW at u; rcases u with u | u <;> omega
    · exfalso; rw [a] at u; unfold wW at u; rcases u with u | u <;> omega
    · exfalso; rw [a] at u; unfold wR at u; rcases u with u | u <;> omega
theorem bd_nI {n : Nat} (hn : n < 9000) : bd_ 10000 (nI n) := by
  unfold bd_
  rw [nI_toInt (by omega)]
  omega
theorem do1_B {n B : Nat} {E : e_S} {y : k_CH} (hn : n < 9000) (K : i_K E) (h : y3 y) (h1 : 10000 ≤ B) (h2 : B < 2 ^ 24) (hB : j_B B (fun c => r_val c n E.2.1)) : j_B (B + (if y_up y = true then 4 else 0)) (fun c => r_val c n (e_do n E y).2.1) := by
  have up : ∀ c x, y_o c (c + 1) → r_val c n E.2.1 = some x → bd_ (B + (if y_up y = true then 4 else 0)) x := fun c x hc hx => bd_mono (hB c x hc hx) (Nat.le_add_right _ _)
  intro c x hc hx
  have hx : r_val c n (e_do n E y).2.1 = some x := hx
  unfold e_do at hx
  by_cases ho : s_ord y.2.1 = true
  · rw [if_pos ho] at hx
    by_cases hw : 1 < y.2.2.2.1 - y.2.2.1
    · rw [if_pos hw] at hx
      by_cases hr : y.2.2.1 ≤ c ∧ c < y.2.2.2.1
      · rw [clr_none K hr.1 hr.2] at hx; cases hx
      · rw [clr_ne hr] at hx
        exact up c x hc hx
    · rw [if_neg hw, put_val] at hx
      by_cases e : y.2.2.1 = c
      · rw [if_pos ⟨e, Nat.le_refl _⟩] at hx
        rw [← e] at hc
        have hh : y.2.2.2.1 = y.2.2.1 + 1 := by
          rcases (y3_s h).2.2 with ⟨-, g⟩ | g
          · exact absurd g hw
          · exact g
        rw [if_pos (up_iff.mpr hc)]
        exact bd_apO (fun z hz => hB _ z hc hz) (up_v h hh hc) (bd_mono (bd_nI hn) h1) h2 (by omega) hx
      · rw [if_neg (fun z => e z.1)] at hx
        exact up c x hc hx
  · rw [if_neg ho] at hx
    exact up c x hc hx
theorem do_B {n : Nat} (hn : n < 9000) : ∀ (MC : List k_CH) (E : e_S) (B : Nat), i_K E → (∀ y ∈ MC, y3 y) → 10000 ≤ B → B + 4 * MC.countP y_up < 2 ^ 24 → j_B B (fun c => r_val c n E.2.1) → j_B (B + 4 * MC.countP y_up) (fun c => r_val c n (MC.foldl (e_do n) E).2.1) := by
  intro MC
  induction MC with
  | nil => intro E B _ _ _ _ h; exact h
  | cons y MC ih =>
    intro E B K h h1 h2 hB
    rw [List.countP_cons] at h2 ⊢
    have hy := h y List.mem_cons_self
    have s := do1_B hn K hy h1 (by omega) hB
    have K2 : i_K (e_do n E y) := do_iK [y] E K (fun z hz => by rw [List.mem_singleton.mp hz]; exact y3_s hy)
    have := ih (e_do n E y) (B + (if y_up y = true then 4 else 0)) K2 (fun z hz => h z (List.mem_cons_of_mem _ hz)) (by omega) (by split at h2 <;> rename_i g <;> simp only [g, if_true, if_false, Bool.false_eq_true] <;> omega) s
    have e : B + (if y_up y = true then 4 else 0) + 4 * MC.countP y_up = B + 4 * (MC.countP y_up + if y_up y = true then 1 else 0) := by split <;> omega
    rw [e] at this
    exact this
theorem st_B {n : Nat} (hn : n < 9000) : ∀ (MC : List k_CH) (E : e_S) (B : Nat), (∀ y ∈ MC, y3 y) → 10000 ≤ B → j_B B (fun c => r_val c n E.2.1) → j_B B (fun c => r_val c n (MC.foldl (e_st n) E).2.1) := by
  intro MC
  induction MC with
  | nil => intro E B _ _ h; exact h
  | cons y MC ih =>
    intro E B h h1 hB
    refine ih (e_st n E y) B (fun z hz => h z (List.mem_cons_of_mem _ hz)) h1 ?_
    intro c x hc hx
    have hx : r_val c n (e_st n E y).2.1 = some x := hx
    unfold e_st at hx
    by_cases h6 : y.2.1 = 6
    · rw [if_pos h6, put_val] at hx
      by_cases e : e_sc y n = c
      · rw [if_pos ⟨e, Nat.le_refl _⟩] at hx
        rw [← e] at hc
        rcases y3_sc (h y List.mem_cons_self) h6 hn with ⟨-, a⟩ | ⟨a, -⟩ | ⟨k, b1, b2, b3⟩
        · rw [← Option.some.inj hx]
          exact ⟨by have := a.1; omega, by have := a.2; omega⟩
        · exfalso; rcases hc with hc | hc <;> omega
        · exfalso; rw [b3] at hc; unfold wW at hc; rcases hc with hc | hc <;> omega
      · rw [if_neg (fun z => e z.1)] at hx
        exact hB c x hc hx
    · rw [if_neg h6] at hx
      exact hB c x hc hx
/-- what a transaction sees above the layers -/
theorem see_B {c : Nat} (hc : y_o c (c + 1)) : ∀ (MC : List k_CH) (z : Option Int32) (b : Bool) (B : Nat) (x : Int32), (∀ y ∈ MC, y3 y) → 10000 ≤ B → B + 4 * MC.countP y_up < 2 ^ 24 → (∀ w, z = some w → bd_ B w) → (s_see c MC (z, b)).1 = some x → bd_ (B + 4 * MC.countP y_up) x := by
  intro MC
  induction MC with
  | nil => intro z b B x _ _ _ h e; exact h x e
  | cons y MC ih =>
    intro z b B x h h1 h2 hz e
    rw [List.countP_cons] at h2 ⊢
    have hy := h y List.mem_cons_self
    have e : (s_see c MC (if s_cov y c = true then (s_apO y.2.1 y.2.2.2.2.1 0 z, s_apS y.2.1 b) else (z, b))).1 = some x := e
    have hB' : B + (if y_up y = true then 4 else 0) + 4 * MC.countP y_up = B + 4 * (MC.countP y_up + if y_up y = true then 1 else 0) := by split <;> omega
    rw [← hB'] at h2 ⊢
    have hb : ∀ w, z = some w → bd_ (B + (if y_up y = true then 4 else 0)) w := fun w hw => bd_mono (hz w hw) (Nat.le_add_right _ _)
    by_cases hv : s_cov y c = true
    · rw [if_pos hv] at e
      refine ih _ _ _ x (fun z hz => h z (List.mem_cons_of_mem _ hz)) (by omega) h2 (fun w hw => ?_) e
      obtain ⟨o, v1, v2⟩ := cov_of hv
      rcases (y3_s hy).2.2 with ⟨g, -⟩ | g
      · rw [g] at hw; cases hw
      · have ec : y.2.2.1 = c := by omega
        rw [← ec] at hc
        rw [if_pos (up_iff.mpr hc)]
        exact bd_apO hz (up_v hy g hc) ⟨by show -(B : Int) ≤ 0; omega, by show (0 : Int) ≤ B; omega⟩ (by omega) (by omega) hw
    · rw [if_neg hv] at e
      exact ih _ _ _ x (fun z hz => h z (List.mem_cons_of_mem _ hz)) (by omega) h2 hb e
/-! .. what is written -/
theorem do_log {n : Nat} : ∀ (MC : List k_CH) (E : e_S), (∀ y ∈ MC, y3s y) → ∀ x ∈ (MC.foldl (e_do n) E).2.1, x ∈ E.2.1 ∨ (x.2.2.1 = n ∧ ∃ y ∈ MC, s_cov y x.2.1 = true) := by
  intro MC
  induction MC with
  | nil => intro E _ x hx; exact Or.inl hx
  | cons y MC ih =>
    intro E h x hx
    rcases ih (e_do n E y) (fun z hz => h z (List.mem_cons_of_mem _ hz)) x hx with g | ⟨g1, z, g2, g3⟩
    · unfold e_do at g
      by_cases ho : s_ord y.2.1 = true
      · rw [if_pos ho] at g
        by_cases hw : 1 < y.2.2.2.1 - y.2.2.1
        · rw [if_pos hw] at g
          have key : ∀ (X : List (Nat × Option Int32)) (L : List k_E4), ∀ x ∈ r_pus n X L, x ∈ L ∨ (x.2.2.1 = n ∧ ∃ q ∈ X, q.1 = x.2.1) := by
            intro X
            induction X with
            | nil => intro L x hx; exact Or.inl hx
            | cons q X ih2 =>
              intro L x hx
              rcases ih2 (r_pu n L q) x hx with g | ⟨g1, q', g2, g3⟩
              · rcases List.mem_cons.mp g with e | e
                · exact Or.inr ⟨by rw [e], q, List.mem_cons_self, by rw [e]⟩
                · exact Or.inl e
              · exact Or.inr ⟨g1, q', List.mem_cons_of_mem _ g2, g3⟩
          rcases key _ _ x g with g | ⟨g1, q, g2, g3⟩
          · exact Or.inl g
          · right
            refine ⟨g1, y, List.mem_cons_self, ?_⟩
            obtain ⟨w, hw1, rfl⟩ := List.mem_map.mp g2
            obtain ⟨-, hw2⟩ := List.mem_filter.mp hw1
            simp only [Bool.and_eq_true, decide_eq_true_eq] at hw2
            rw [← g3]
            unfold s_cov
            rw [ho, decide_eq_true hw2.1.1, decide_eq_true hw2.1.2]
            rfl
        · rw [if_neg hw] at g
          rcases List.mem_cons.mp g with e | e
          · right
            refine ⟨by rw [e], y, List.mem_cons_self, ?_⟩
            have hh : y.2.2.2.1 = y.2.2.1 + 1 := by
              rcases (h y List.mem_cons_self).2.2 with ⟨-, g⟩ | g
              · exact absurd g hw
              · exact g
            rw [e]
            exact (s_cov_1 hh).mpr ⟨ho, rfl⟩
          · exact Or.inl e
      · rw [if_neg ho] at g
        exact Or.inl g
    · exact Or.inr ⟨g1, z, List.mem_cons_of_mem _ g2, g3⟩
theorem st_log {n : Nat} : ∀ (MC : List k_CH) (E : e_S), ∀ x ∈ (MC.foldl (e_st n) E).2.1, x ∈ E.2.1 ∨ (x.2.2.1 = n ∧ ∃ y ∈ MC, y.2.1 = 6 ∧ e_sc y n = x.2.1) := by
  intro MC
  induction MC with
  | nil => intro E x hx; exact Or.inl hx
  | cons y MC ih =>
    intro E x hx
    rcases ih (e_st n E y) x hx with g | ⟨g1, z, g2, g3⟩
    · unfold e_st at g
      by_cases h6 : y.2.1 = 6
      · rw [if_pos h6] at g
        rcases List.mem_cons.mp g with e | e
        · exact Or.inr ⟨by rw [e], y, List.mem_cons_self, h6, by rw [e]⟩
        · exact Or.inl e
      · rw [if_neg h6] at g
        exact Or.inl g
    · exact Or.inr ⟨g1, z, List.mem_cons_of_mem _ g2, g3⟩
theorem zE_sub {n : Nat} {E E' : e_S} (z : z_E n E E') {x : k_E4} (h : x ∈ E.2.1) : x ∈ E'.2.1 := by
  refine z (fun F => x ∈ F.2.1) (fun F c o ih => List.mem_cons_of_mem _ ih) (fun F lo hi _ _ ih => ?_) h
  show x ∈ r_pus n _ F.2.1
  have key : ∀ (X : List (Nat × Option Int32)) (L : List k_E4), x ∈ L → x ∈ r_pus n X L := by
    intro X
    induction X with
    | nil => intro L h; exact h
    | cons q X ih2 => intro L h; exact ih2 _ (List.mem_cons_of_mem _ h)
  exact key _ _ ih
/-- a change of one key is written -/
theorem all_has {n : Nat} : ∀ (MC : List k_CH) (E : e_S), (∀ y ∈ MC, y3s y) → ∀ y ∈ MC, s_ord y.2.1 = true → y.2.2.2.1 = y.2.2.1 + 1 → ∃ x ∈ (e_all n MC E).2.1, x.2.1 = y.2.2.1 ∧ x.2.2.1 = n := by
  intro MC E h y hy ho hh
  have hb : ∀ x ∈ MC, x.2.2.2.1 < 2 ^ 60 := fun x hx => by have := (h x hx).2.1; omega
  have sub : ∀ x ∈ (MC.foldl (e_do n) E).2.1, x ∈ (e_all n MC E).2.1 := fun x hx => by
    have z : z_E n (MC.foldl (e_do n) E) (e_all n MC E) := zE_fold _ _ (fun F y _ => by
      unfold e_st
      split
      · exact zE_put _ _ _ _
      · exact zE_refl _ _) _
    exact zE_sub z hx
  have key : ∀ (M1 : List k_CH) (E1 : e_S), (∀ x ∈ M1, x.2.2.2.1 < 2 ^ 60 ∧ (1 < x.2.2.2.1 - x.2.2.1 → x.2.2.1 < x.2.2.2.1)) → y ∈ M1 → ∃ x ∈ (M1.foldl (e_do n) E1).2.1, x.2.1 = y.2.2.1 ∧ x.2.2.1 = n := by
    intro M1
    induction M1 with
    | nil => intro E1 _ z; cases z
    | cons w M1 ih =>
      intro E1 hb z
      rcases List.mem_cons.mp z with e | e
      · have zz : z_E n (e_do n E1 w) (M1.foldl (e_do n) (e_do n E1 w)) := zE_fold _ _ (fun F y hy => by
          obtain ⟨b1, b2⟩ := hb y (List.mem_cons_of_mem _ hy)
          unfold e_do
          split
          · split
            · rename_i q; exact zE_clr _ (b2 q) b1
            · exact zE_put _ _ _ _
          · exact zE_refl _ _) _
        refine ⟨((E1.2.1.length, w.2.2.1, n, s_apO w.2.1 w.2.2.2.2.1 (nI n) (r_val w.2.2.1 n E1.2.1)) : k_E4), zE_sub zz ?_, by rw [e], rfl⟩
        subst e
        unfold e_do
        rw [if_pos ho, if_neg (by omega)]
        exact List.mem_cons_self
      · exact ih _ (fun x hx => hb x (List.mem_cons_of_mem _ hx)) e
  obtain ⟨x, hx, hx2⟩ := key MC E (fun x hx => ⟨hb x hx, fun q => by omega⟩) hy
  exact ⟨x, sub x hx, hx2⟩
