/-! PUTS AT ONE VERSION, COUNTED: k what they cost, m the ranges, f the keys that are new -/
def z_nm (c : Nat) (K : List k_K2) : Prop := ∃ a, (c, a) ∈ K
def y_K (c : Nat) : Prop := c / 121000000 = 995 → c = s_cd (-5) (s_no c 1) 10000
/-- what a key that is new, and gets no value, is -/
def y_F (c : Nat) : Prop := y_K c ∧ ¬ c / 121000000 = 996
def z_P (n : Nat) (A : Nat → Int32 → Prop) (B : Nat → Prop) (E E' : e_S) (k m f : Nat) : Prop := ∀ P : e_S → Nat → Nat → Nat → Prop,
  (∀ F k m f c v, P F k m f → A c v → z_nm c F.1 → P (e_put n c (some v) F) (k + 2) m f) →
  (∀ F k m f c v, P F k m f → A c v → P (e_put n c (some v) F) (k + 2) m (f + 1)) →
  (∀ F k m f c, P F k m f → B c → z_nm c F.1 → P (e_put n c none F) (k + 1) m f) →
  (∀ F k m f c, P F k m f → B c → y_F c → P (e_put n c none F) (k + 1) m (f + 1)) →
  (∀ F k m f c, P F k m f → B c → z_nm c F.1 → z_l n F c = true → P (e_put n c none F) k m f) →
  (∀ F k m f lo hi, P F k m f → lo < hi → hi < 2 ^ 60 → P (F.1, F.2.1, F.2.2 ++ [(lo, hi, n)]) k (m + 1) f) →
  (∀ F k m f k' m' f', P F k m f → k ≤ k' → m ≤ m' → f ≤ f' → P F k' m' f') →
  P E 0 0 0 → P E' k m f
theorem zP_refl {n : Nat} {A : Nat → Int32 → Prop} {B : Nat → Prop} {E : e_S} : z_P n A B E E 0 0 0 := fun _ _ _ _ _ _ _ _ h => h
theorem zP_mono {n k m f k' m' f' : Nat} {A : Nat → Int32 → Prop} {B : Nat → Prop} {E E' : e_S} (z : z_P n A B E E' k m f) (h1 : k ≤ k') (h2 : m ≤ m') (h3 : f ≤ f') : z_P n A B E E' k' m' f' :=
  fun P r1 r2 r3 r4 r5 r6 rm h => rm _ _ _ _ _ _ _ (z P r1 r2 r3 r4 r5 r6 rm h) h1 h2 h3
theorem zP_trans {n k m f k' m' f' : Nat} {A : Nat → Int32 → Prop} {B : Nat → Prop} {E F G : e_S} (a : z_P n A B E F k m f) (b : z_P n A B F G k' m' f') : z_P n A B E G (k + k') (m + m') (f + f') :=
  fun P r1 r2 r3 r4 r5 r6 rm h => b (fun X k2 m2 f2 => P X (k + k2) (m + m2) (f + f2)) (fun F a b c d v h z1 z2 => r1 F _ _ _ d v h z1 z2) (fun F a b c d v h z1 => r2 F _ _ _ d v h z1) (fun F a b c d h z1 z2 => r3 F _ _ _ d h z1 z2) (fun F a b c d h z1 z2 => r4 F _ _ _ d h z1 z2) (fun F a b c d h z1 z2 z3 => r5 F _ _ _ d h z1 z2 z3) (fun F a b c lo hi h z1 z2 => r6 F _ _ _ lo hi h z1 z2)
    (fun F a b c a' b' c' h z1 z2 z3 => rm F _ _ _ _ _ _ h (Nat.add_le_add_left z1 _) (Nat.add_le_add_left z2 _) (Nat.add_le_add_left z3 _)) (a P r1 r2 r3 r4 r5 r6 rm h)
theorem zP_imp {n k m f : Nat} {A A' : Nat → Int32 → Prop} {B B' : Nat → Prop} {E E' : e_S} (z : z_P n A B E E' k m f) (ha : ∀ c v, A c v → A' c v) (hb : ∀ c, B c → B' c) : z_P n A' B' E E' k m f :=
  fun P r1 r2 r3 r4 r5 r6 rm h => z P (fun F a b c d v h z1 z2 => r1 F a b c d v h (ha _ _ z1) z2) (fun F a b c d v h z1 => r2 F a b c d v h (ha _ _ z1)) (fun F a b c d h z1 z2 => r3 F a b c d h (hb _ z1) z2) (fun F a b c d h z1 z2 => r4 F a b c d h (hb _ z1) z2) (fun F a b c d h z1 z2 z3 => r5 F a b c d h (hb _ z1) z2 z3) r6 rm h
section ZP
variable {n k m f : Nat} {A : Nat → Int32 → Prop} {B : Nat → Prop} {E E' : e_S}
theorem zP_s {c : Nat} {v : Int32} (h : A c v) (hn : z_nm c E.1) : z_P n A B E (e_put n c (some v) E) 2 0 0 := fun _ r1 _ _ _ _ _ _ z => r1 _ _ _ _ _ _ z h hn
theorem zP_sf {c : Nat} {v : Int32} (h : A c v) : z_P n A B E (e_put n c (some v) E) 2 0 1 := fun _ _ r2 _ _ _ _ _ z => r2 _ _ _ _ _ _ z h
theorem zP_n {c : Nat} (h : B c) (hn : z_nm c E.1) : z_P n A B E (e_put n c none E) 1 0 0 := fun _ _ _ r3 _ _ _ _ z => r3 _ _ _ _ _ z h hn
theorem zP_nf {c : Nat} (h : B c) (hf : y_F c) : z_P n A B E (e_put n c none E) 1 0 1 := fun _ _ _ _ r4 _ _ _ z => r4 _ _ _ _ _ z h hf
theorem zP_nl {c : Nat} (h : B c) (hn : z_nm c E.1) (hl : z_l n E c = true) : z_P n A B E (e_put n c none E) 0 0 0 := fun _ _ _ _ _ r5 _ _ z => r5 _ _ _ _ _ z h hn hl
theorem zP_w {lo hi : Nat} (h1 : lo < hi) (h2 : hi < 2 ^ 60) : z_P n A B E (E.1, E.2.1, E.2.2 ++ [(lo, hi, n)]) 0 1 0 := fun _ _ _ _ _ _ r6 _ z => r6 _ _ _ _ _ _ z h1 h2
/-- a property that each put and each range keeps -/
theorem zP_ind (z : z_P n A B E E' k m f) (P : e_S → Prop) (hp : ∀ F c o, P F → (∀ v, o = some v → A c v) → (o = none → B c ∧ (z_nm c F.1 ∨ y_F c)) → P (e_put n c o F)) (hw : ∀ F lo hi, P F → lo < hi → hi < 2 ^ 60 → P (F.1, F.2.1, F.2.2 ++ [(lo, hi, n)])) (h : P E) : P E' :=
  z (fun F _ _ _ => P F) (fun F _ _ _ c v h z1 _ => hp F c _ h (fun v' e => by injection e with e; rw [← e]; exact z1) (fun e => by cases e)) (fun F _ _ _ c v h z1 => hp F c _ h (fun v' e => by injection e with e; rw [← e]; exact z1) (fun e => by cases e))
    (fun F _ _ _ c h z1 z2 => hp F c _ h (fun v' e => by cases e) (fun _ => ⟨z1, Or.inl z2⟩)) (fun F _ _ _ c h z1 z2 => hp F c _ h (fun v' e => by cases e) (fun _ => ⟨z1, Or.inr z2⟩)) (fun F _ _ _ c h z1 z2 _ => hp F c _ h (fun v' e => by cases e) (fun _ => ⟨z1, Or.inl z2⟩)) (fun F _ _ _ lo hi h a b => hw F lo hi h a b) (fun _ _ _ _ _ _ _ h _ _ _ => h) h
theorem zP_keys (z : z_P n A B E E' k m f) {c : Nat} (h : z_nm c E.1) : z_nm c E'.1 :=
  zP_ind z (fun F => z_nm c F.1) (fun F d o h _ _ => by obtain ⟨a, h⟩ := h; exact ⟨a, m_ins_mem h⟩) (fun F lo hi h _ _ => h) h
/-- codes are codes -/
def z_cd (A : Nat → Int32 → Prop) (B : Nat → Prop) : Prop := (∀ c v, A c v → c < 1331000000000) ∧ ∀ c, B c → c < 1331000000000
theorem zP_iK (z : z_P n A B E E' k m f) (hc : z_cd A B) (I : i_K E) : i_K E' :=
  zP_ind z i_K (fun F d o h h1 h2 => iK_put h (by
    cases o with
    | none => exact hc.2 d (h2 rfl).1
    | some v => exact hc.1 d v (h1 v rfl))) (fun F lo hi h _ _ => h) I
theorem zP_ext (z : z_P n A B E E' k m f) {c v : Nat} (hv : v < n) : r_val c v E'.2.1 = r_val c v E.2.1 :=
  zP_ind z (fun F => r_val c v F.2.1 = r_val c v E.2.1) (fun F d o h _ _ => by rw [put_val, if_neg (fun z => by omega)]; exact h) (fun F lo hi h _ _ => h) rfl
/-- what isn't put stays -/
theorem zP_out (z : z_P n A B E E' k m f) {c : Nat} (h1 : ∀ v, ¬ A c v) (h2 : ¬ B c) (v : Nat) : r_val c v E'.2.1 = r_val c v E.2.1 :=
  zP_ind z (fun F => r_val c v F.2.1 = r_val c v E.2.1) (fun F d o h a b => by
    rw [put_val]
    by_cases e : d = c
    · subst e
      cases o with
      | none => exact absurd (b rfl).1 h2
      | some w => exact absurd (a w rfl) (h1 w)
    · rw [if_neg (fun z => e z.1)]; exact h) (fun F lo hi h _ _ => h) rfl
/-- what has a value behind it had it ahead, or it was put -/
theorem zP_live (z : z_P n A B E E' k m f) {c v : Nat} (h : (r_val c v E'.2.1).isSome = true) : (r_val c v E.2.1).isSome = true ∨ (n ≤ v ∧ ∃ w, A c w) := by
  refine zP_ind z (fun F => (r_val c v F.2.1).isSome = true → (r_val c v E.2.1).isSome = true ∨ (n ≤ v ∧ ∃ w, A c w)) (fun F d o ih a b hs => ?_) (fun F lo hi h _ _ => h) (fun h => Or.inl h) h
  rw [put_val] at hs
  by_cases e : d = c ∧ n ≤ v
  · rw [if_pos e] at hs
    cases o with
    | none => cases hs
    | some w => exact Or.inr ⟨e.2, w, by rw [← e.1]; exact a w rfl⟩
  · rw [if_neg e] at hs
    exact ih hs
theorem zP_key (z : z_P n A B E E' k m f) {c : Nat} (h : z_nm c E'.1) : z_nm c E.1 ∨ (∃ w, A c w) ∨ y_F c := by
  refine zP_ind z (fun F => z_nm c F.1 → z_nm c E.1 ∨ (∃ w, A c w) ∨ y_F c) (fun F d o ih a b hs => ?_) (fun F lo hi h _ _ => h) (fun h => Or.inl h) h
  obtain ⟨q, hq⟩ := hs
  rcases m_ins_of hq with e | hq
  · have e : c = d := e
    subst e
    cases o with
    | none =>
      rcases (b rfl).2 with g | g
      · exact ih g
      · exact Or.inr (Or.inr g)
    | some w => exact Or.inr (Or.inl ⟨w, a w rfl⟩)
  · exact ih ⟨q, hq⟩
/-- each entry behind it was there ahead, or is a put -/
theorem zP_log (z : z_P n A B E E' k m f) (Q : Nat → Option Int32 → Prop) (ha : ∀ c v, A c v → Q c (some v)) (hb : ∀ c, Q c none) (h : ∀ x ∈ E.2.1, Q x.2.1 x.2.2.2) : ∀ x ∈ E'.2.1, Q x.2.1 x.2.2.2 :=
  zP_ind z (fun F => ∀ x ∈ F.2.1, Q x.2.1 x.2.2.2) (fun F d o ih a b x hx => by
    rcases List.mem_cons.mp hx with rfl | hx
    · cases o with
      | none => exact hb d
      | some w => exact ha d w (a w rfl)
    · exact ih x hx) (fun F lo hi h _ _ => h) h
/-- what it costs -/
theorem zP_num (z : z_P n A B E E' k m f) (hc : z_cd A B) (I : i_K E) {PT : List p_T} (hp : PT.Pairwise (fun x y => x.1 < y.1)) :
    z_T n E' ≤ z_T n E + k ∧ E'.2.2.length ≤ E.2.2.length + m ∧ E'.1.length ≤ E.1.length + f ∧ E.2.1.length ≤ E'.2.1.length ∧ 2 * p_ps (m_V E'.1 n E'.2.1) PT + z_T n E ≤ 2 * p_ps (m_V E.1 n E.2.1) PT + z_T n E' := by
  have put : ∀ (F : e_S) (c : Nat) (o : Option Int32), i_K F → z_T n (e_put n c o F) + z_b (z_l n F c) = z_T n F + 1 + z_b o.isSome ∧ p_ps (m_V (e_put n c o F).1 n (e_put n c o F).2.1) PT ≤ p_ps (m_V F.1 n F.2.1) PT + (z_b o.isSome - z_b (z_l n F c)) := by
    intro F c o J
    have h1 := V_put (n := n) (c := c) (o := o) J
    refine ⟨?_, ?_⟩
    · unfold z_T
      have : (e_put n c o F).2.1.length = F.2.1.length + 1 := rfl
      omega
    · have h2 := Vlt_put (n := n) (c := c) (o := o) J
      cases a : z_l n F c with
      | true =>
        cases b : o.isSome with
        | true =>
          refine ps_put (d := c) (b0 := 0) ⟨fun e => ?_, ?_⟩ PT hp
          · have := h2 e; rw [a, b] at this; simp only [Bool.and_true] at this; simp; omega
          · rw [a, b] at h1; omega
        | false =>
          refine ps_put (d := c) (b0 := 1) ⟨fun e => ?_, ?_⟩ PT hp
          · have := h2 e; rw [a, b] at this; simp only [Bool.and_true, Bool.and_false] at this
            by_cases hce : c < e
            · simp [hce, z_b] at this ⊢; omega
            · simp [hce, z_b] at this ⊢; omega
          · rw [a, b] at h1; simp [z_b] at h1 ⊢; omega
      | false =>
        cases b : o.isSome with
        | true =>
          refine ps_put (d := c) (b0 := 0) ⟨fun e => ?_, ?_⟩ PT hp
          · have := h2 e; rw [a, b] at this; simp only [Bool.and_true, Bool.and_false] at this
            by_cases hce : c < e
            · simp [hce, z_b] at this ⊢; omega
            · simp [hce, z_b] at this ⊢; omega
          · rw [a, b] at h1; simp [z_b] at h1 ⊢; omega
        | false =>
          refine ps_put (d := c) (b0 := 0) ⟨fun e => ?_, ?_⟩ PT hp
          · have := h2 e; rw [a, b] at this; simp only [Bool.and_false] at this; simp; omega
          · rw [a, b] at h1; omega
  have kl : ∀ (F : e_S) (c : Nat), F.1.length ≤ (m_ins c F.1).length ∧ (m_ins c F.1).length ≤ F.1.length + 1 := fun F c => ⟨m_ins_le _ _, m_ins_len _ _⟩
  have kn : ∀ (F : e_S) (c : Nat), i_K F → z_nm c F.1 → (m_ins c F.1).length = F.1.length := fun F c J h => by obtain ⟨a, h⟩ := h; rw [m_ins_in J.1 h]
  refine (z (fun F k m f => i_K F ∧ (z_T n F ≤ z_T n E + k ∧ F.2.2.length ≤ E.2.2.length + m ∧ F.1.length ≤ E.1.length + f ∧ E.2.1.length ≤ F.2.1.length ∧ 2 * p_ps (m_V F.1 n F.2.1) PT + z_T n E ≤ 2 * p_ps (m_V E.1 n E.2.1) PT + z_T n F)) ?_ ?_ ?_ ?_ ?_ ?_ ?_ ⟨I, by omega, by omega, by omega, by omega, by omega⟩).2
  · rintro F k m f c v ⟨J, g1, g2, g3, g4, g5⟩ ha hn
    obtain ⟨p1, p2⟩ := put F c (some v) J
    have e := kn F c J hn
    refine ⟨iK_put J (hc.1 c v ha), ?_, g2, ?_, Nat.le_succ_of_le g4, ?_⟩
    · simp only [Option.isSome_some] at p1; unfold z_b at p1; split at p1 <;> simp at p1 <;> omega
    · show (m_ins c F.1).length ≤ _; omega
    · simp only [Option.isSome_some] at p1 p2; unfold z_b at p1 p2; split at p1 <;> rename_i q <;> simp [q] at p1 p2 <;> omega
  · rintro F k m f c v ⟨J, g1, g2, g3, g4, g5⟩ ha
    obtain ⟨p1, p2⟩ := put F c (some v) J
    have e := kl F c
    refine ⟨iK_put J (hc.1 c v ha), ?_, g2, ?_, Nat.le_succ_of_le g4, ?_⟩
    · simp only [Option.isSome_some] at p1; unfold z_b at p1; split at p1 <;> simp at p1 <;> omega
    · show (m_ins c F.1).length ≤ _; omega
    · simp only [Option.isSome_some] at p1 p2; unfold z_b at p1 p2; split at p1 <;> rename_i q <;> simp [q] at p1 p2 <;> omega
  · rintro F k m f c ⟨J, g1, g2, g3, g4, g5⟩ hb hn
    obtain ⟨p1, p2⟩ := put F c none J
    have e := kn F c J hn
    refine ⟨iK_put J (hc.2 c hb), ?_, g2, ?_, Nat.le_succ_of_le g4, ?_⟩
    · simp only [Option.isSome_none] at p1; unfold z_b at p1; split at p1 <;> simp at p1 <;> omega
    · show (m_ins c F.1).length ≤ _; omega
    · simp only [Option.isSome_none] at p1 p2; unfold z_b at p1 p2; split at p1 <;> rename_i q <;> simp [q] at p1 p2 <;> omega
  · rintro F k m f c ⟨J, g1, g2, g3, g4, g5⟩ hb -
    obtain ⟨p1, p2⟩ := put F c none J
    have e := kl F c
    refine ⟨iK_put J (hc.2 c hb), ?_, g2, ?_, Nat.le_succ_of_le g4, ?_⟩
    · simp only [Option.isSome_none] at p1; unfold z_b at p1; split at p1 <;> simp at p1 <;> omega
    · show (m_ins c F.1).length ≤ _; omega
    · simp only [Option.isSome_none] at p1 p2; unfold z_b at p1 p2; split at p1 <;> rename_i q <;> simp [q] at p1 p2 <;> omega
  · rintro F k m f c ⟨J, g1, g2, g3, g4, g5⟩ hb hn hl
    obtain ⟨p1, p2⟩ := put F c none J
    have e := kn F c J hn
    refine ⟨iK_put J (hc.2 c hb), ?_, g2, ?_, Nat.le_succ_of_le g4, ?_⟩
    · rw [hl] at p1; simp [z_b] at p1; omega
    · show (m_ins c F.1).length ≤ _; omega
    · rw [hl] at p1 p2; simp [z_b] at p1 p2; omega
  · rintro F k m f lo hi ⟨J, g1, g2, g3, g4, g5⟩ h1 h2
    refine ⟨J, g1, ?_, g3, g4, g5⟩
    show (F.2.2 ++ [(lo, hi, n)]).length ≤ _
    rw [List.length_append]
    show F.2.2.length + 1 ≤ _
    omega
  · rintro F k m f k' m' f' ⟨J, g1, g2, g3, g4, g5⟩ h1 h2 h3
    exact ⟨J, by omega, by omega, by omega, g4, g5⟩
end ZP
