theorem CQ_step {v1 v2 : Nat} {ti : Nat → Int32} {fs ss og sy : Nat → Nat} {P pl c : Nat} {nm : Nat → Nat} {pa : Nat → Option Nat} {rt dh : Nat → Nat} (hv1 : okVb v1 = true) (hv2 : okVb v2 = true) (h : CQ v1 v2 ti fs ss og sy P pl c nm pa rt dh) (hp : pl < P) (hc : c < 3) (hne : rt (cs (rnw v1 (3 * nm pl + 1 + c))) ≠ rt (1024 + cs (rnw v2 (3 * nm pl + 1 + c))))
    {ti2 : Nat → Int32} {f12 f22 og2 sy2 : Nat → Nat} {P2 : Nat} {te te2 : Int32}
    (e : ti2 = upd ti (rt (cs (rnw v1 (3 * nm pl + 1 + c)))) (nI (rt (1024 + cs (rnw v2 (3 * nm pl + 1 + c))))) ∧ f12 = up fs P (cs (rnw v1 (3 * nm pl + 1 + c))) ∧ f22 = up ss P (cs (rnw v2 (3 * nm pl + 1 + c))) ∧ og2 = up og P pl ∧ sy2 = up sy P c ∧ P2 = P + 1) (hte : te = -9)
    (w : (acp v1 (rnw v1 (3 * nm pl + 1 + c)) = acp v2 (rnw v2 (3 * nm pl + 1 + c)) → te2 = te) ∧ (acp v1 (rnw v1 (3 * nm pl + 1 + c)) ≠ acp v2 (rnw v2 (3 * nm pl + 1 + c)) → te2 = nI (P2 - 1))) :
    (te2 = -9 ∧ ∃ nm pa rt dh, CQ v1 v2 ti2 f12 f22 og2 sy2 P2 pl (c + 1) nm pa rt dh) ∨ CF v1 v2 og2 sy2 P2 te2 := by
  obtain ⟨rfl, rfl, rfl, rfl, rfl, rfl⟩ := e
  by_cases hb : bd v1 v2 (3 * nm pl + 1 + c)
  · right
    rw [w.2 hb, show P + 1 - 1 = P from by omega]
    exact CQ_CF hv1 hv2 h hp hc hne hb
  · left
    exact ⟨(w.1 (Decidable.of_not_not hb)).trans hte, CQ_new hv1 hv2 h hp hc hne hb⟩
theorem CQ_start {v1 v2 : Nat} {ti : Nat → Int32} {fs ss og sy : Nat → Nat} (h : ∀ k, k < 2048 → ti k = -9) {ti2 : Nat → Int32} {f12 f22 og2 sy2 : Nat → Nat} {P2 : Nat} {te2 : Int32}
    (e : ti2 = upd ti 1 (nI 1025) ∧ f12 = up fs 0 1 ∧ f22 = up ss 0 1 ∧ og2 = up og 0 0 ∧ sy2 = up sy 0 0 ∧ P2 = 1)
    (w : (acp v1 none = acp v2 none → te2 = -9) ∧ (acp v1 none ≠ acp v2 none → te2 = nI (P2 - 1))) :
    (te2 = -9 ∧ ∃ nm pa rt dh, CQ v1 v2 ti2 f12 f22 og2 sy2 P2 0 0 nm pa rt dh) ∨ CF v1 v2 og2 sy2 P2 te2 := by
  obtain ⟨rfl, rfl, rfl, rfl, rfl, rfl⟩ := e
  by_cases hb : bd v1 v2 0
  · right
    rw [w.2 hb]; exact CF_0 hb
  · left
    exact ⟨w.1 (Decidable.of_not_not hb), CQ_0 h hb⟩
/-! the answers -/
theorem aDL_no {x y : Int64} (h : ¬ (okVb (xv x) = true ∧ okVb (xv y) = true)) : aDL x y = -1 := if_neg h
theorem aDL_none {x y : Int64} (h : okVb (xv x) = true ∧ okVb (xv y) = true) (hn : ∀ W, ¬ bd (xv x) (xv y) W) : aDL x y = -9 := by
  unfold aDL; rw [if_pos h, lw_none hn]
theorem aDL_some {x y : Int64} {M : Nat} (h : okVb (xv x) = true ∧ okVb (xv y) = true) (hM : LB (xv x) (xv y) M) : aDL x y = nI (wl M) := by
  unfold aDL; rw [if_pos h, lw_some hM]
theorem aDS_no {x y : Int64} {i : Int32} (h : ¬ (okVb (xv x) = true ∧ okVb (xv y) = true)) : aDS x y i = -1 := if_neg h
theorem aDS_none {x y : Int64} {i : Int32} (h : okVb (xv x) = true ∧ okVb (xv y) = true) (hn : ∀ W, ¬ bd (xv x) (xv y) W) : aDS x y i = -9 := by
  unfold aDS; rw [if_pos h, lw_none hn]
theorem aDS_some {x y : Int64} {i : Int32} {M : Nat} (h : okVb (xv x) = true ∧ okVb (xv y) = true) (hM : LB (xv x) (xv y) M) : aDS x y i = if rok i (wl M) = true then nI (wq M i.toInt.toNat) else -5 := by
  unfold aDS; rw [if_pos h, lw_some hM]
theorem aDS_v {x y : Int64} {q M : Nat} (h : okVb (xv x) = true ∧ okVb (xv y) = true) (hM : LB (xv x) (xv y) M) (hw : wl M ≤ 1025) (hq : q < wl M) : aDS x y (nI q) = nI (wq M q) := by
  rw [aDS_some h hM, if_pos ((rok_nI (by omega)).mpr hq), nI_toInt (by omega)]; rfl
theorem aDS_out {x y : Int64} {i : Int32} {M : Nat} (h : okVb (xv x) = true ∧ okVb (xv y) = true) (hM : LB (xv x) (xv y) M) (ho : ¬ rok i (wl M) = true) : aDS x y i = -5 := by
  rw [aDS_some h hM, if_neg ho]
theorem rok_neg9 {i : Int32} {m : Nat} (h : i < 0) : ¬ rok i m = true := fun q => by
  have h1 := (fa_lt _ _).mp h
  have h0 : (0 : Int32).toInt = 0 := by decide
  have h2 : 0 ≤ i.toInt ∧ i.toInt < m := of_decide_eq_true q
  omega
theorem rok_big9 {q m : Nat} (hq : q < 2 ^ 31) (h : ¬ q < m) : ¬ rok (nI q) m = true := fun z => by
  have h2 : 0 ≤ (nI q).toInt ∧ (nI q).toInt < m := of_decide_eq_true z
  rw [nI_toInt hq] at h2
  omega
