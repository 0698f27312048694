/-! THE LAW'S END: from the judgement to the machine's walk -/
theorem rm_mono {s : State} {pl : Platform} {R R' : Room} (h1 : R'.frames ≤ R.frames) (h2 : R'.locals ≤ R.locals) (h3 : R'.cells ≤ R.cells) (h4 : R'.slots ≤ R.slots) (h : s.hasRoom pl R = true) : s.hasRoom pl R' = true := by
  simp only [State.hasRoom, Bool.and_eq_true, decide_eq_true_eq] at h ⊢
  obtain ⟨⟨⟨⟨g1, g2, g3, g4, g5, g6⟩, g7⟩, g8⟩, g9⟩ := h
  exact ⟨⟨⟨⟨by omega, by omega, by omega, by omega, by omega, g6⟩, by omega⟩, by omega⟩, g9⟩
theorem sb_forget {s t : State} {L : List Loc} {k n : Nat} (hL : ∀ z ∈ L, s.heap.size ≤ z.base) (h : s.sameButNew t L k n) : s.sameButNew t [] k n := by
  obtain ⟨h1, h2, h3, h4, h5, h6⟩ := h
  refine ⟨h1, h2, h3, h4, h5, fun q c hc => ?_⟩
  obtain ⟨c9, e1, e2, e3, e4⟩ := h6 q c hc
  have hlt : q < s.heap.size := (Array.getElem?_eq_some_iff.mp hc).1
  exact ⟨c9, e1, e2, e3, fun i _ => e4 i (fun hm => absurd (hL _ hm) (Nat.not_le.mpr hlt))⟩
theorem end_of {G : k_G} {l : Launch} {nm : String} {h' : k_H} {b : Nat} {p : Program} {e : Env} {s : State} {m : MethodId} {below : List Frame} {meth : Method} {c : Code} (hb : k_sb G = b) (hH : k_H0 G = s.heap) (hfh : k_fh G = 0)
    (Cx : k_Cx G l (yW nm) cL_law 7 (some .boolean) (l_h0 s.heap.size) p e s m #[Value.ref b] meth c) (ht : ∀ x ∈ c.exceptionTable.toList, False)
    (J : jW G l nm (l_h0 s.heap.size) (l_h0 s.heap.size) 0 [(0, vR (some (k_sb G)))] [] h' (.inl (some (vI 1)))) (n1 : h'.2.1 ≤ s.heap.size + 601024) (n2 : h'.2.2 ≤ 7293033) :
    W p l e room_1 s m #[Value.ref b] below meth c s.heap [] 0 0 (fun t => ∃ o, t.status = .running ∧ Ended t below o ∧ o = .returned (some (.int 1)) ∧ Framed s o t [] 601024 7293033) (entryFrame m ([Value.ref b] : List Value).toArray 7) := by
  subst hb
  have hp : k_hp G (l_h0 s.heap.size) s.heap := Cx.2.2.2.2.2.2.2.2.2.1
  have hl := lv_entry (([vR (some (k_sb G))] : List k_V).map k_v) (n := 7) (Nat.le_of_ble_eq_true rfl)
  rw [k_args_lm] at hl
  have w := J.2.2 p e s m #[Value.ref (k_sb G)] below meth c Cx ht s.heap [] 0 0 _ hp (fun _ h => by cases h) (Nat.zero_add _) (Nat.zero_add _) hl
  have hE : entryFrame m ([Value.ref (k_sb G)] : List Value).toArray 7 = F0 m 0 _ [] := lg_entry_eq (m := m) ..
  rw [hE]
  intro T hT X
  have hX : s.hasRoom e.platform (k_rm 40 (l_h0 s.heap.size) h') = true := rm_mono (R := room_1) (by show 40 ≤ 2048; decide) (by show 40 * 40 ≤ 84000; decide) (by show h'.2.1 - s.heap.size ≤ 601024; omega) (by show h'.2.2 - 0 ≤ 7293033; omega) X.room
  obtain ⟨t, a1, o, b1, b2, b3⟩ := w T hT { X with room := hX }
  refine ⟨t, a1, o, b1, b2, ?_⟩
  rcases b3 with ⟨⟨v, e1, e2, e3⟩, L, hF, hL⟩ | ⟨q, e1, E, ce, L, ⟨e2, e3⟩, b4⟩
  · cases e1
    refine ⟨e2, hF.1, hF.2.1, sb_forget (L := L) (fun z hz => ?_) (hF.2.2.mono (by show h'.2.1 - s.heap.size ≤ 601024; omega) (by show h'.2.2 - 0 ≤ 7293033; omega))⟩
    rw [← hH]
    exact (hL z hz).1
  · cases e2
