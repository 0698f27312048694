/-! AN ENTRY IS WRITTEN -/
section WR
variable {G : k_G} {l : Launch}
theorem c_X3_init (ok : k_ok G l) {h : k_H} {a : Nat} {k p w : Option Nat} {v : Int32} {u0 u1 u2 u3 u4 u5 : k_V} (ho : h.1 a = some (k_o 6 [u0, u1, u2, u3, u4, u5])) : k_ctv (tX3_init G l) [vR (some a), vR k, vI v, vR p, vR w] h (fun h' => h' = k_up h a (k_o 6 [vR k, vI v, vR p, vR w, u4, u5])) := by
  refine k_ctv_of (eX3_init ok.2 (bX3_init_0 ho rfl (bX3_init_9 (k_up_self _ _ _) rfl (bX3_init_14 (k_up_self _ _ _) rfl (bX3_init_19 (k_up_self _ _ _) rfl (bX3_init_25 ⟨rfl, ?_⟩))))))
  rw [k_uu, k_uu, k_uu]
  rfl
theorem w_tail {h0 h : k_H} {aC e : Nat} {o : Option Int32} {st : Bool} {u0 u1 u2 u3 u4 u5 : k_V} (hC : h.1 aC = some (o_cel o st)) (he : h.1 e = some (k_o 6 [u0, u1, u2, u3, u4, u5])) : k_X (jX8_write G l h0) h 71 [(2, vR (some aC)), (3, vR (some e))] [] (q_v (fun h' => h' = k_up h e (k_o 6 [u0, u1, u2, u3, vI (kB o.isSome), vI (o.getD 0)]))) := by
  have hne : aC ≠ e := fun z => by subst z; rw [hC] at he; cases he
  refine bX8_write_71 hC rfl he (kB_bl _) rfl (bX8_write_79 (by rw [k_up_ne _ _ hne]; exact hC) rfl (k_up_self _ _ _) rfl (bX8_write_87 ⟨rfl, ?_⟩))
  rw [k_uu]
  rfl
/-- a second one in the same version -/
theorem c_X8_writeS (ok : k_ok G l) {h : k_H} {s k aC n c : Nat} {o : Option Int32} {st : Bool} {f0 f1 f2 f3 f4 f5 : k_V} {L : List k_E4} {ka : Nat → Nat} {x : k_E4} (hs : h.1 s = some (k_o 11 [f0, f1, f2, f3, f4, f5, vI (nI n)])) (hC : h.1 aC = some (o_cel o st)) (hk : h.1 k = some (o_key c L)) (hL : r_log h ka L) (hx : L.find? (fun x => x.2.1 == c) = some x) (hv : x.2.2.1 = n) :
    k_ctv (tX8_write G l) [vR (some s), vR (some k), vR (some aC)] h (fun h' => ∃ b e, h.1 x.1 = some (o_ent (ka x.2.1) x.2.2.1 b e x.2.2.2) ∧ h' = k_up h x.1 (o_ent (ka x.2.1) x.2.2.1 b e o)) := by
  obtain ⟨b, e, he⟩ := r_log_mem hL (List.mem_of_find?_eq_some hx)
  have hf : r_fst c L = some x.1 := by unfold r_fst; rw [hx]; rfl
  unfold o_key at hk
  rw [hf] at hk
  refine k_ctv_of (eX8_write ok.2 (bX8_write_0 hk rfl (fun c => by cases c) (fun b9 hb => ?_)))
  cases hb
  refine bX8_write_9 he rfl hs rfl (fun _ => ?_) (fun c1 => absurd (by rw [hv]) c1)
  obtain ⟨h', r, K, rfl, hh⟩ := w_tail (G := G) (l := l) (h0 := h) hC he
  exact ⟨h', _, K, rfl, b, e, he, hh⟩
/-- the first one of a version -/
theorem c_X8_writeN (ok : k_ok G l) {h : k_H} {s k aC n c en : Nat} {nw : Option Nat} {o : Option Int32} {st : Bool} {f0 f1 f2 f3 : k_V} {L : List k_E4} {ka : Nat → Nat} (wh : k_wf h) (hs : h.1 s = some (k_o 11 [f0, f1, f2, f3, vI (nI en), vR nw, vI (nI n)])) (hC : h.1 aC = some (o_cel o st)) (hk : h.1 k = some (o_key c L)) (hL : r_log h ka L) (hx : ∀ x, L.find? (fun x => x.2.1 == c) = some x → x.2.2.1 ≠ n ∧ x.2.2.1 < 2 ^ 31) (hn : n < 2 ^ 31) (hen : en < 1048576) :
    k_ctv (tX8_write G l) [vR (some s), vR (some k), vR (some aC)] h (fun h' => h' = k_up (k_up (k_up (k_nw h 6 (k_o 6 [vR (some k), vI (nI n), vR (r_fst c L), vR nw, vI 0, vI 0])) k (k_o 7 [vJ (lN c), vR (some h.2.1)])) s (k_o 11 [f0, f1, f2, f3, vI (nI (en + 1)), vR (some h.2.1), vI (nI n)])) h.2.1 (o_ent k n (r_fst c L) nw o)) := by
  have sk : s ≠ k := fun z => by subst z; rw [hs] at hk; cases hk
  have ck : aC ≠ k := fun z => by subst z; rw [hC] at hk; cases hk
  have cs : aC ≠ s := fun z => by subst z; rw [hC] at hs; cases hs
  have bs : h.2.1 ≠ s := fun z => by have := wh _ _ hs; omega
  have bk : h.2.1 ≠ k := fun z => by have := wh _ _ hk; omega
  have key : k_X (jX8_write G l h) h 20 [(0, vR (some s)), (1, vR (some k)), (2, vR (some aC))] [] (q_v (fun h' => h' = k_up (k_up (k_up (k_nw h 6 (k_o 6 [vR (some k), vI (nI n), vR (r_fst c L), vR nw, vI 0, vI 0])) k (k_o 7 [vJ (lN c), vR (some h.2.1)])) s (k_o 11 [f0, f1, f2, f3, vI (nI (en + 1)), vR (some h.2.1), vI (nI n)])) h.2.1 (o_ent k n (r_fst c L) nw o))) := by
    refine bX8_write_20 hs rfl (fun _ => ?_) (fun c1 => absurd (nI_lt (b := 1048576) hen (by decide)) c1)
    refine bX8_write_30 (bX8_write_33 (nw_old wh hs) rfl (nw_old wh hk) rfl rfl (c_X3_init ok (k_nw_self _ _ _)) ?_)
    rintro h1 hh
    rw [hh, up_nw]
    refine bX8_write_50 (nw_old wh hk) rfl ?_
    refine bX8_write_56 (by rw [k_up_ne _ _ sk]; exact nw_old wh hs) rfl ?_
    refine bX8_write_61 (k_up_self _ _ _) rfl rfl ?_
    rw [k_uu]
    obtain ⟨h', r, K, rfl, hh⟩ := w_tail (G := G) (l := l) (h0 := h) (h := k_up (k_up (k_nw h 6 (k_o 6 [vR (some k), vI (nI n), vR (r_fst c L), vR nw, vI 0, vI 0])) k (k_o 7 [vJ (lN c), vR (some h.2.1)])) s (k_o 11 [f0, f1, f2, f3, vI (nI en + 1), vR (some h.2.1), vI (nI n)])) (aC := aC) (e := h.2.1) (o := o) (st := st) (by rw [k_up_ne _ _ cs, k_up_ne _ _ ck]; exact nw_old wh hC) (by rw [k_up_ne _ _ bs, k_up_ne _ _ bk]; exact k_nw_self _ _ _)
    rw [nI_1] at K hh
    exact ⟨h', _, by rw [nI_1]; exact K, rfl, hh⟩
  refine k_ctv_of (eX8_write ok.2 ?_)
  cases e : L.find? (fun x => x.2.1 == c) with
  | none =>
    have hf : r_fst c L = none := by unfold r_fst; rw [e]; rfl
    exact bX8_write_0 hk rfl (fun _ => key) (fun b hb => by rw [hf] at hb; cases hb)
  | some x =>
    obtain ⟨b, e2, he⟩ := r_log_mem hL (List.mem_of_find?_eq_some e)
    have hf : r_fst c L = some x.1 := by unfold r_fst; rw [e]; rfl
    refine bX8_write_0 hk rfl (fun c1 => by rw [hf] at c1; cases c1) (fun b hb => ?_)
    rw [hf] at hb ⊢
    cases hb
    exact bX8_write_9 he rfl hs rfl (fun c1 => absurd ((nI_eq (hx x e).2 hn).mp c1) (hx x e).1) (fun _ => by rw [hf] at key; exact key)
end WR
