/-! THE LAW'S END: from the judgement to the machine's walk -/
theorem rm_mono {s : State} {pl : Platform} {R R' : Room} (h1 : R'.frames ≤ R.frames) (h2 : R'.locals ≤ R.locals) (h3 : R'.cells ≤ R.cells) (h4 : R'.slots ≤ R.slots) (h : s.hasRoom pl R = true) : s.hasRoom pl R' = true := by
  simp only [State.hasRoom, Bool.and_eq_true, decide_eq_true_eq] at h ⊢
  obtain ⟨⟨⟨⟨g1, g2, g3, g4, g5, g6⟩, g7⟩, g8⟩, g9⟩ := h
  exact ⟨⟨⟨⟨by omega, by omega, by omega, by omega, by omega, g6⟩, by omega⟩, by omega⟩, g9⟩
/-- the room, whatever a turn has measured -/
theorem rm_c : 638100 ≤ room_1.cells := Nat.le_of_ble_eq_true rfl
theorem rm_s : 4700000 ≤ room_1.slots := Nat.le_of_ble_eq_true rfl
theorem sb_forget {s t : State} {L : List Loc} {k n : Nat} (hL : ∀ z ∈ L, s.heap.size ≤ z.base) (h : s.sameButNew t L k n) : s.sameButNew t [] k n := by
  obtain ⟨h1, h2, h3, h4, h5, h6⟩ := h
  refine ⟨h1, h2, h3, h4, h5, fun q c hc => ?_⟩
  obtain ⟨c9, e1, e2, e3, e4⟩ := h6 q c hc
  have hlt : q < s.heap.size := (Array.getElem?_eq_some_iff.mp hc).1
  exact ⟨c9, e1, e2, e3, fun i _ => e4 i (fun hm => absurd (hL _ hm) (Nat.not_le.mpr hlt))⟩
theorem end_of {G : k_G} {l : Launch} {h' : k_H} {b : Nat} {p : Program} {e : Env} {s : State} {m : MethodId} {below : List Frame} {meth : Method} {c : Code} (hb : k_sb G = b) (hH : k_H0 G = s.heap) (hfh : k_fh G = 0)
    (Cx : k_Cx G l yL_law cL_law 23 (some .boolean) (l_h0 s.heap.size) p e s m #[Value.ref b] meth c) (ht : ∀ x ∈ c.exceptionTable.toList, False)
    (J : jL_law G l (l_h0 s.heap.size) (l_h0 s.heap.size) 0 [(0, vR (some (k_sb G)))] [] h' (.inl (some (vI 1)))) (n1 : h'.2.1 ≤ s.heap.size + 638100) (n2 : h'.2.2 ≤ 4700000) :
    W p l e room_1 s m #[Value.ref b] below meth c s.heap [] 0 0 (fun t => ∃ o, t.status = .running ∧ Ended t below o ∧ o = .returned (some (.int 1)) ∧ Framed s o t [] room_1.cells room_1.slots) (entryFrame m ([Value.ref b] : List Value).toArray 23) := by
  subst hb
  have hp : k_hp G (l_h0 s.heap.size) s.heap := Cx.2.2.2.2.2.2.2.2.2.1
  have hl := lv_entry (([vR (some (k_sb G))] : List k_V).map k_v) (n := 23) (Nat.le_of_ble_eq_true rfl)
  rw [k_args_lm] at hl
  have w := J.2.2 p e s m #[Value.ref (k_sb G)] below meth c Cx ht s.heap [] 0 0 _ hp (fun _ h => by cases h) (Nat.zero_add _) (Nat.zero_add _) hl
  have hE : entryFrame m ([Value.ref (k_sb G)] : List Value).toArray 23 = F0 m 0 _ [] := lg_entry_eq (m := m) ..
  rw [hE]
  intro T hT X
  have z1 : (k_rm 32 (l_h0 s.heap.size) h').cells ≤ 638100 := by show h'.2.1 - s.heap.size ≤ 638100; omega
  have z2 : (k_rm 32 (l_h0 s.heap.size) h').slots ≤ 4700000 := by show h'.2.2 - 0 ≤ 4700000; omega
  have hX : s.hasRoom e.platform (k_rm 32 (l_h0 s.heap.size) h') = true := rm_mono (R := room_1) (Nat.le_trans (show (k_rm 32 (l_h0 s.heap.size) h').frames ≤ 32 from Nat.le_refl _) (Nat.le_of_ble_eq_true rfl)) (Nat.le_trans (show (k_rm 32 (l_h0 s.heap.size) h').locals ≤ 32 * 40 from Nat.le_refl _) (Nat.le_of_ble_eq_true rfl)) (Nat.le_trans z1 rm_c) (Nat.le_trans z2 rm_s) X.room
  obtain ⟨t, a1, o, b1, b2, b3⟩ := w T hT { X with room := hX }
  refine ⟨t, a1, o, b1, b2, ?_⟩
  rcases b3 with ⟨⟨v, e1, e2, e3⟩, L, hF, hL⟩ | ⟨q, e1, E, ce, L, ⟨e2, e3⟩, b4⟩
  · cases e1
    refine ⟨e2, hF.1, hF.2.1, sb_forget (L := L) (fun z hz => ?_) (hF.2.2.mono (Nat.le_trans z1 rm_c) (Nat.le_trans z2 rm_s))⟩
    rw [← hH]
    exact (hL z hz).1
  · cases e2
/-! THE CLAIM OUT OF ONE WALK OF THE LAW'S BODY. Your part is whole_start (and what it stands on); all else here is the same for every law, but numbers. -/
def R_law : String := "KeyterraceLaw"
def lw_P (b : Addr) (xs : List Int32) (args : Array Value) (s : State) : Prop := args = #[.ref b] ∧ s.IntsAt b xs ∧ xs.length ≤ 260 ∧ (Jvm.Cond.and given_1 narrow_1).before args s = true
def lw_Q (_ : Array Value) (s : State) (o : Outcome) (t : State) : Prop := o = .returned (some (.int 1)) ∧ Framed s o t [] room_1.cells room_1.slots
def lw_Z (below : List Frame) (a : Array Value) (s : State) : State → Prop := fun t => ∃ o, t.status = .running ∧ Ended t below o ∧ lw_Q a s o t
/-- what holds at the law's entry: the machine, the code, the tables' words (any of lw_tbl by 'hts w (by decide +kernel)'), the script of L ints xs at the cell b, what the Statement gives of the start (any of its parts by flat_of_before) -/
def lw_At (p : Program) (s : State) (m : MethodId) (meth : Method) (c : Code) (b L : Nat) (xs : Nat → Int32) : Prop :=
  p.tables.exec = Jvm.exec ∧ c.code = code ∧ meth.sig.returnType = ret ∧ c.maxLocals = 23 ∧ s.vm.findClass R_law = some m.cls ∧ (∀ w ∈ lw_tbl, w.before #[Value.ref b] s = true) ∧ va_X b L xs s s.heap ∧ b < s.heap.size ∧ meth.locks = false ∧ (Jvm.Cond.and given_1 narrow_1).before #[Value.ref b] s = true ∧ (∀ x ∈ c.exceptionTable.toList, False) ∧ meth.name = yL_law.name
theorem whole_start {p : Program} {e : Env} {s : State} {m : MethodId} {below : List Frame} {meth : Method} {c : Code} (l : Launch) (hflags : l.flags = flags0) {b L : Nat} {xs : Nat → Int32} (hL : L ≤ 260) (C0 : lw_At p s m meth c b L xs) : W p l e room_1 s m #[Value.ref b] below meth c s.heap [] 0 0 (lw_Z below #[Value.ref b] s) (entryFrame m ([Value.ref b] : List Value).toArray 23) := by
  obtain ⟨hx, hbd, hret, hml, hown, hts, hX, hbl, hlk, hgv, ht, hnm⟩ := C0
  obtain ⟨G, e1, e2, e3, e4, e5, e6, e7, e8⟩ := env_of hts hgv hX hbl
  have ok : k_ok G l := ⟨e7, hflags⟩
  have hl1 : (l_h0 s.heap.size).2.1 = s.heap.size := rfl
  obtain ⟨h', r, J, n1, n2, hr⟩ := x_law (a := s.heap.size) (Q := fun H' r => H'.2.1 ≤ s.heap.size + 638100 ∧ H'.2.2 ≤ 4700000 ∧ r = .inl (some (vI 1))) ok e3 (by rw [← e1]; exact e7) (by rw [e5]; omega) (fun H' b1 b2 => ⟨b1, b2, rfl⟩)
  subst hr
  have hp : k_hp G (l_h0 s.heap.size) s.heap := by
    refine ⟨rfl, ⟨by rw [e1]; exact Nat.le_refl _, by rw [e3]; exact Nat.zero_le _⟩, fun q _ => by rw [e1], fun _ => none, fun _ => 0, fun q e h => (by cases h), fun q c h => (by cases h)⟩
  exact end_of e4 e1 e3 ⟨hx, hbd, hret, hml, hown, fun w hw => hts w (List.mem_filter.mp hw).1, hlk, hnm, e8, hp, hflags⟩ ht J n1 n2
set_option maxHeartbeats 4000000 in
theorem lw_walk (l : Launch) (hflags : l.flags = flags0) (b : Addr) (xs : List Int32) : MetFree l x (headSpec (Jvm.Cond.code x code maxLocals ret :: tables_1) room_1) (lw_P b xs) (fun _ _ _ _ _ => True) lw_Q := by
  refine MetFree.of_bodyS (code := code) (maxLocals := maxLocals) (ret := ret) (by decide) ?_ ?_
  · intro args s m h hn
    obtain ⟨meth, c, h1, h2, h3, h4, h5, h6, -, -⟩ := Cond.code_spec hn (atoms_spec (ws := Jvm.Cond.code x code maxLocals ret :: tables_1) h _ List.mem_cons_self)
    exact ⟨meth, c, h1, h2, h3, h4, h5, h6⟩
  · intro p e s m args below meth c s₁ B hml0 hP _
    obtain ⟨rfl, hx, hbd, hgv⟩ := hP
    obtain ⟨scr, harrAt, hlist, hof, hsmall⟩ := hx
    obtain ⟨hcb, hkn, -, -⟩ := State.arrayAt?_spec harrAt
    have hown : s.vm.findClass R_law = some m.cls := findClass_of_methodNamed B.named
    have hts0 : ∀ c ∈ (Jvm.Cond.code x code maxLocals ret :: tables_1), c.before #[Value.ref b] s = true := atoms_spec (ws := Jvm.Cond.code x code maxLocals ret :: tables_1) B.pre
    have hts : ∀ w ∈ lw_tbl, w.before #[Value.ref b] s = true := k2_hts_sels lw_privs (fun w hw => hts0 w (List.mem_cons_of_mem _ hw)) lw_privs_ok
    have hml : c.maxLocals = 23 := B.maxLocals_eq (hts0 _ List.mem_cons_self)
    have X₀ : Stand p l e room_1 s m #[Value.ref b] below meth c s₁ [] 0 0 := Stand.of_body B
    have hh0 : s₁.heap = s.heap := by rw [B.state]; rfl
    have hsz : scr.slots.size = xs.length := by rw [← Array.length_toList, hlist, List.length_map]
    have hval : ∀ j : Nat, j < xs.length → scr.slots[j]? = some (.int (xs.getD j 0)) := fun j hj => by
      rw [← Array.getElem?_toList, hlist]
      simp [hj]
    have htab : ∀ x ∈ c.exceptionTable.toList, False := by
      obtain ⟨meth9, c9, q1, q2, -, -, -, -, q7, -⟩ := Cond.code_spec B.named (hts0 _ List.mem_cons_self)
      cases Option.some.inj (q1.symm.trans B.method)
      cases Option.some.inj (q2.symm.trans (Stand.of_body B).code)
      intro x hx
      rw [Array.isEmpty_iff.mp q7] at hx
      cases hx
    have hbl : b < s.heap.size := (Array.getElem?_eq_some_iff.mp hcb).1
    have hX : va_X b xs.length (fun j => xs.getD j 0) s s.heap := ⟨scr, hcb, hof, hkn, hsz, hval⟩
    have K : W p l e room_1 s m #[Value.ref b] below meth c s₁.heap [] 0 0 (lw_Z below #[Value.ref b] s) (entryFrame m ([Value.ref b] : List Value).toArray 23) := by
      rw [hh0]
      exact whole_start l hflags hbd ⟨B.exec, B.bytes, B.returns, hml, hown, hts, hX, hbl, B.notSynchronized, hgv, htab, (name_of_methodNamed B.named B.method).1⟩
    obtain ⟨t, a1, o, b1, b2, b3⟩ := K s₁ rfl X₀
    exact ⟨t, o, a1, b1, b2, b3⟩
theorem lw_pre_spec {args : Array Value} {s : State} (h : (Jvm.Cond.and given_1 narrow_1).before args s = true) (hr : rest_1_c.before args s = true) : ∃ (b : Addr) (xs : List Int32), lw_P b xs args s := by
  have hs := flat_of_before _ h
  have hq := flat_of_before _ hr
  have hc : (Cond.count 1).before args s = true := hs _ (by decide +kernel)
  have harr : (Cond.arrayOf (.arg 0) .int).before args s = true := hs _ (by decide +kernel)
  have hle : (Cond.le (.length (.arg 0)) (.int 260)).before args s = true := hs _ (by decide +kernel)
  have hlen : (Cond.isInt (.length (.arg 0))).before args s = true := hq _ (by decide +kernel)
  have hall : (Cond.all (.arg 0) (.isInt (.elem (.arg 0) (.index 0)))).before args s = true := hq _ (by decide +kernel)
  obtain ⟨b, xs, hb, hx⟩ := State.ints_of_pre rfl harr hlen hall
  have hsm : xs.length < 2 ^ 31 := hx.choose_spec.2.2.2
  have hev : (Term.length (.arg 0)).eval args s none [] s = some (.int xs.length.toInt32) := hx.length_eval hb
  have hv := Cond.le_ints hev (show (Term.int 260).eval args s none [] s = some (.int 260) from rfl)
  have hd : xs.length.toInt32 ≤ 260 := by
    simpa [Cond.before, Cond.holds, hv] using hle
  have hN : xs.length ≤ 260 := (Int32.ofNat_le_ofNat hsm (by decide)).mp (show Int32.ofNat xs.length ≤ Int32.ofNat 260 from hd)
  exact ⟨b, xs, Cond.one_arg hc (show args[0]? = some (.ref b) from hb), hx, hN, h⟩
theorem lw_comes (l : Launch) (hflags : l.flags = flags0) : Comes l x (Jvm.Cond.code x code maxLocals ret :: tables_1) room_1 (fun tb e args s => Calls_1 tb e args s ∧ rest_1 tb e args s ∧ Pre_1 tb e args s)
    (fun _ _ args s o t => lw_Q args s o t) := by
  intro p e ha hc hk s m args below hf hfit hheap happ hpre
  obtain ⟨b, xs, hP⟩ := lw_pre_spec hpre.2.2 hpre.2.1
  obtain ⟨k, o, h1, h2, h3, hQ⟩ := lw_walk l hflags b xs p e ha hc hk s m args below hf ((Spec.applies_iff_loose hf).mp happ).1 hP trivial
  exact ⟨k, o, h1, h2, h3, hQ⟩
theorem lw_frame {s t : State} {o : Outcome} {args : Array Value} (h : Framed s o t [] room_1.cells room_1.slots) :
    Framed s o t (fieldLocs frame_1_writes args s ++ arrayLocs frame_1_arrays args s ++ staticLocs frame_1_statics s) room_1.cells room_1.slots := h
theorem lw_limb (L : Cond) (hL : ∀ (args : Array Value) (s t : State), L.after args s (.returned (some (.int 1))) t = true) :
    ArmFor flags0 classFile x code maxLocals ret World_1 tables_1 room_1 Calls_1 rest_1 Pre_1
      (fun tb e a s o t => postC L tb e a s o t ∧ Framed s o t (fieldLocs frame_1_writes a s ++ arrayLocs frame_1_arrays a s ++ staticLocs frame_1_statics s) room_1.cells room_1.slots) := by
  intro l hflags _ _ p e ha hc hk s m args below hf hfit hheap happ hpre
  obtain ⟨k, o, h1, h2, h3, rfl, hF⟩ := lw_comes l hflags p e ha hc hk s m args below hf hfit hheap happ hpre
  exact ⟨k, _, h1, h2, h3, hL args s _, lw_frame hF⟩
theorem i_vc : Claimed_1_1 ∧ Claimed_1_2 := ⟨lw_limb limb_1_1 (fun args s t => by simp [limb_1_1, Cond.after, Cond.holds, Cond.value]), lw_limb limb_1_2 (fun args s t => Cond.after_iff.mpr (by
  first | (rw [show limb_1_2 = Cond.eq .result (.int 1) from rfl, Cond.eq_ints (x := 1) (y := 1) rfl rfl]; simp; done) | (simp [limb_1_2, Cond.value, Term.eval]; done)))⟩
