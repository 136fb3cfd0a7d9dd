/-! countWords' answer at each length -/
theorem aCw_no {x : Int64} {n : Int32} (h : ¬ okVb (xv x) = true) : aCw x n = -1 := if_neg h
theorem aCw_neg {x : Int64} {n : Int32} (h : okVb (xv x) = true) (hn : n < 0) : aCw x n = -5 := by unfold aCw; rw [if_pos h, if_pos (Or.inl hn)]
theorem six_lt {q : Nat} (hq : q < 2 ^ 31) : (6 : Int32) < nI q ↔ 6 < q := by
  have h6 : (6 : Int32).toInt = 6 := by decide
  rw [fa_lt, nI_toInt hq, h6]; omega
theorem nI_n0 {q : Nat} (hq : q < 2 ^ 31) : ¬ nI q < 0 := fun h => by
  have h1 := (fa_lt _ _).mp h
  have h0 : (0 : Int32).toInt = 0 := by decide
  rw [nI_toInt hq, h0] at h1; omega
theorem aCw_big {x : Int64} {q : Nat} (h : okVb (xv x) = true) (hq : q < 2 ^ 31) (h6 : ¬ q ≤ 6) : aCw x (nI q) = -5 := by
  unfold aCw; rw [if_pos h, if_pos (Or.inr ((six_lt hq).mpr (by omega)))]
theorem aCw_v {x : Int64} {q : Nat} (h : okVb (xv x) = true) (h6 : q ≤ 6) : aCw x (nI q) = nI (wF (xv x) q none) := by
  have hq : q < 2 ^ 31 := by omega
  unfold aCw
  rw [if_pos h, if_neg (fun c => by rcases c with c | c; exact nI_n0 hq c; have := (six_lt hq).mp c; omega), nI_toInt hq]; rfl
theorem aEm_no {x : Int64} (h : ¬ okVb (xv x) = true) : aEm x = -1 := if_neg h
theorem aEm_y {x : Int64} (h : okVb (xv x) = true) : aEm x = nI (pN (auN (xv x) = true)) := if_pos h
/-! the reference's automaton -/
def AR (v w : Nat) (fol wsy : Nat → Nat) (isN : Nat → Bool) (fiO laO : Nat → Nat) : Prop :=
  (∀ p, p < 9 → fol (9 * w + p) = auT v p) ∧ (∀ c, c < 3 → wsy (3 * w + c) = auW v c) ∧ isN w = auN v ∧ fiO w = auF v ∧ laO w = auL v
/-- its tables when the nodes from k on are done: o values on the stack -/
def AJ (v w k o : Nat) (nus : Nat → Bool) (fis las fol wsy : Nat → Nat) (pos : Nat) : Prop :=
  gc (en v) (dc v) (dc v) o k ∧ sk (en v) (nu (dg v) (en v) (dc v)) nus o k ∧ sk (en v) (fi (dg v) (en v) (dc v)) fis o k ∧ sk (en v) (la (dg v) (en v) (dc v)) las o k ∧
  (∀ p, p < 9 → fol (9 * w + p) = FT (dg v) (en v) (dc v) k p) ∧ (∀ c, c < 3 → wsy (3 * w + c) = WT (dg v) (dc v) k c) ∧ pos = nS (dg v) (dc v) k
theorem AJ_0 {v w : Nat} {nus : Nat → Bool} {fis las fol wsy : Nat → Nat} (hf : ∀ p, p < 9 → fol (9 * w + p) = 0) (hw : ∀ c, c < 3 → wsy (3 * w + c) = 0) : AJ v w (dc v) 0 nus fis las fol wsy 0 :=
  ⟨rfl, trivial, trivial, trivial, fun p hp => by rw [FT_end, hf p hp], fun c hc => by rw [WT_end, hw c hc], by rw [nS_end]⟩
theorem AJ_sym {v w k o : Nat} {nus : Nat → Bool} {fis las fol wsy : Nat → Nat} {pos : Nat} (hv : okVb v = true) (hk : k < dc v) (hs : 3 ≤ dg v k ∧ dg v k ≤ 5) (h : AJ v w (k + 1) o nus fis las fol wsy pos) {ix : Nat} (hix : ix = 3 * w + dg v k - 3) :
    AJ v w k (o + 1) (upz nus o false) (up (up fis o 0) o (1 * 2 ^ pos)) (up las o (1 * 2 ^ pos)) fol (up wsy ix (wsy ix ||| 1 * 2 ^ pos)) (pos + 1) := by
  have tv := TV_v (okVb_iff.mp hv)
  have ss := sL_t hs
  obtain ⟨e1, e2, e3⟩ := au_l tv hk (by omega)
  obtain ⟨h1, h2, h3, h4, h5, h6, h7⟩ := h
  have hg := gs_leaf tv hk (by omega) h1
  have ea : 1 * 2 ^ pos = aL (dg v) (dc v) k := by unfold aL; rw [if_pos ss, h7]; omega
  refine ⟨hg.2, sk_push (fun j hj => upz_n _ (by omega)) (by rw [upz_s, e1]; exact (decide_eq_false (by omega)).symm) (by rw [hg.1]; exact h2), sk_push (fun j hj => by rw [up_n _ (by omega), up_n _ (by omega)]) (by rw [up_s, e2, ea]) (by rw [hg.1]; exact h3), sk_push (fun j hj => up_n _ (by omega)) (by rw [up_s, e3, ea]) (by rw [hg.1]; exact h4), fun p hp => by rw [FT_l hk (by omega) (by omega)]; exact h5 p hp, fun c hc => ?_, by rw [nS_yes hk ss, h7]⟩
  rw [WT_y hk ss]
  by_cases q : c = dg v k - 3
  · have e : ix = 3 * w + c := by omega
    rw [e, up_s, ← q, up_s, h6 c hc, ea]; unfold aL; rw [if_pos ss]
  · rw [up_n _ q, up_n _ (by omega)]; exact h6 c hc
theorem AJ_non {v w k o : Nat} {nus : Nat → Bool} {fis las fol wsy : Nat → Nat} {pos : Nat} {e : Bool} (hv : okVb v = true) (hk : k < dc v) (h6 : dg v k < 6) (hs : ¬ 3 ≤ dg v k) (he : e = decide (dg v k = 2)) (h : AJ v w (k + 1) o nus fis las fol wsy pos) :
    AJ v w k (o + 1) (upz nus o e) (up fis o 0) (up las o 0) fol wsy pos := by
  have tv := TV_v (okVb_iff.mp hv)
  have ss := sL_f (d := dg v) (k := k) (fun q => hs q.1)
  obtain ⟨e1, e2, e3⟩ := au_l tv hk h6
  obtain ⟨h1, h2, h3, h4, h5, h6', h7⟩ := h
  have hg := gs_leaf tv hk h6 h1
  have ea : aL (dg v) (dc v) k = 0 := by unfold aL; rw [if_neg (by rw [ss]; decide)]
  exact ⟨hg.2, sk_push (fun j hj => upz_n _ (by omega)) (by rw [upz_s, e1]; exact he) (by rw [hg.1]; exact h2), sk_push (fun j hj => up_n _ (by omega)) (by rw [up_s, e2, ea]) (by rw [hg.1]; exact h3), sk_push (fun j hj => up_n _ (by omega)) (by rw [up_s, e3, ea]) (by rw [hg.1]; exact h4), fun p hp => by rw [FT_l hk (by omega) (by omega)]; exact h5 p hp, fun c hc => by rw [WT_n hk ss]; exact h6' c hc, by rw [nS_no ss]; exact h7⟩
theorem AJ_star {v w k o : Nat} {nus : Nat → Bool} {fis las fol wsy fol' : Nat → Nat} {pos : Nat} (hv : okVb v = true) (hk : k < dc v) (h8 : dg v k = 8) (h : AJ v w (k + 1) o nus fis las fol wsy pos)
    (hfo : ∀ p, p < 9 → fol' (9 * w + p) = lnk (fun q => fol (9 * w + q)) (las (o - 1)) (fis (o - 1)) p) :
    AJ v w k o (upz nus (o - 1) true) fis las fol' wsy pos := by
  have tv := TV_v (okVb_iff.mp hv)
  have ss := sL_f (d := dg v) (k := k) (by omega)
  obtain ⟨e1, e2, e3⟩ := au_s tv hk h8
  obtain ⟨h1, h2, h3, h4, h5, h6, h7⟩ := h
  have hg := gs_star tv hk h8 h1
  have t2 := sk_top hg.1 h2
  have t3 := sk_top hg.1 h3
  have t4 := sk_top hg.1 h4
  exact ⟨hg.2.2, sk_set hg.1 (fun j hj => upz_n _ (by omega)) (by rw [upz_s, e1]) (by rw [hg.2.1]; exact t2.2), sk_set hg.1 (fun j hj => rfl) (by rw [t3.1, e2]) (by rw [hg.2.1]; exact t3.2), sk_set hg.1 (fun j hj => rfl) (by rw [t4.1, e3]) (by rw [hg.2.1]; exact t4.2),
    fun p hp => by rw [hfo p hp, FT_s hk h8, t3.1, t4.1]; exact lnk_cong (h5 p hp), fun c hc => by rw [WT_n hk ss]; exact h6 c hc, by rw [nS_no ss]; exact h7⟩
theorem AJ_un {v w k o : Nat} {nus : Nat → Bool} {fis las fol wsy : Nat → Nat} {pos : Nat} {e : Bool} {f l : Nat} (hv : okVb v = true) (hk : k < dc v) (h6 : dg v k = 6) (h : AJ v w (k + 1) o nus fis las fol wsy pos)
    (he : e = (nus (o - 1 - 1) || nus (o - 1))) (hf : f = fis (o - 1 - 1) ||| fis (o - 1)) (hl : l = las (o - 1 - 1) ||| las (o - 1)) :
    AJ v w k (o - 1) (upz nus (o - 1 - 1) e) (up fis (o - 1 - 1) f) (up las (o - 1 - 1) l) fol wsy pos := by
  have tv := TV_v (okVb_iff.mp hv)
  have ss := sL_f (d := dg v) (k := k) (by omega)
  obtain ⟨e1, e2, e3⟩ := au_u tv hk h6
  obtain ⟨h1, h2, h3, h4, h5, h6', h7⟩ := h
  have hg := gs_two tv hk (by omega) (by omega) h1
  have t2 := sk_top (by omega) h2
  have t3 := sk_top (by omega) h3
  have t4 := sk_top (by omega) h4
  have u2 := sk_top (by omega) t2.2
  have u3 := sk_top (by omega) t3.2
  have u4 := sk_top (by omega) t4.2
  exact ⟨hg.2.2, sk_set (by omega) (fun j hj => upz_n _ (by omega)) (by rw [upz_s, he, e1, t2.1, u2.1, Bool.or_comm]) (by rw [hg.2.1]; exact u2.2), sk_set (by omega) (fun j hj => up_n _ (by omega)) (by rw [up_s, hf, e2, t3.1, u3.1, Nat.or_comm]) (by rw [hg.2.1]; exact u3.2), sk_set (by omega) (fun j hj => up_n _ (by omega)) (by rw [up_s, hl, e3, t4.1, u4.1, Nat.or_comm]) (by rw [hg.2.1]; exact u4.2),
    fun p hp => by rw [FT_l hk (by omega) (by omega)]; exact h5 p hp, fun c hc => by rw [WT_n hk ss]; exact h6' c hc, by rw [nS_no ss]; exact h7⟩
theorem AJ_cc {v w k o : Nat} {nus : Nat → Bool} {fis las fol wsy fol' : Nat → Nat} {pos : Nat} {e : Bool} {f l : Nat} (hv : okVb v = true) (hk : k < dc v) (h7 : dg v k = 7) (h : AJ v w (k + 1) o nus fis las fol wsy pos)
    (hfo : ∀ p, p < 9 → fol' (9 * w + p) = lnk (fun q => fol (9 * w + q)) (las (o - 1)) (fis (o - 1 - 1)) p)
    (he : e = (nus (o - 1 - 1) && nus (o - 1))) (hf : f = if nus (o - 1) = true then fis (o - 1) ||| fis (o - 1 - 1) else fis (o - 1)) (hl : l = if nus (o - 1 - 1) = true then las (o - 1 - 1) ||| las (o - 1) else las (o - 1 - 1)) :
    AJ v w k (o - 1) (upz nus (o - 1 - 1) e) (up fis (o - 1 - 1) f) (up las (o - 1 - 1) l) fol' wsy pos := by
  have tv := TV_v (okVb_iff.mp hv)
  have ss := sL_f (d := dg v) (k := k) (by omega)
  obtain ⟨e1, e2, e3⟩ := au_c tv hk h7
  obtain ⟨h1, h2, h3, h4, h5, h6', h7'⟩ := h
  have hg := gs_two tv hk (by omega) (by omega) h1
  have t2 := sk_top (by omega) h2
  have t3 := sk_top (by omega) h3
  have t4 := sk_top (by omega) h4
  have u2 := sk_top (by omega) t2.2
  have u3 := sk_top (by omega) t3.2
  have u4 := sk_top (by omega) t4.2
  exact ⟨hg.2.2, sk_set (by omega) (fun j hj => upz_n _ (by omega)) (by rw [upz_s, he, e1, t2.1, u2.1, Bool.and_comm]) (by rw [hg.2.1]; exact u2.2), sk_set (by omega) (fun j hj => up_n _ (by omega)) (by rw [up_s, hf, e2, t2.1, t3.1, u3.1]) (by rw [hg.2.1]; exact u3.2), sk_set (by omega) (fun j hj => up_n _ (by omega)) (by rw [up_s, hl, e3, u2.1, t4.1, u4.1, Nat.or_comm]) (by rw [hg.2.1]; exact u4.2),
    fun p hp => by rw [hfo p hp, FT_c hk h7, t4.1, u3.1]; exact lnk_cong (h5 p hp), fun c hc => by rw [WT_n hk ss]; exact h6' c hc, by rw [nS_no ss]; exact h7'⟩
theorem AJ_pos {v w k o : Nat} {nus : Nat → Bool} {fis las fol wsy : Nat → Nat} {pos : Nat} (hv : okVb v = true) (h : AJ v w k o nus fis las fol wsy pos) : pos ≤ 9 ∧ k + o ≤ dc v := by
  have tv := TV_v (okVb_iff.mp hv)
  have := nS_9 tv k
  have h7 := h.2.2.2.2.2.2
  exact ⟨by omega, gc_le (fun q hq => (tv.q hq).2.2.1) o k h.1⟩
theorem AJ_pos9 {v w k o : Nat} {nus : Nat → Bool} {fis las fol wsy : Nat → Nat} {pos : Nat} (hv : okVb v = true) (hk : k < dc v) (hs : 3 ≤ dg v k ∧ dg v k ≤ 5) (h : AJ v w (k + 1) o nus fis las fol wsy pos) : pos < 9 := by
  have := nS_9 (TV_v (okVb_iff.mp hv)) k
  have := nS_yes hk (sL_t hs)
  have := h.2.2.2.2.2.2
  omega
theorem AJ_star2 {v w k o : Nat} {nus : Nat → Bool} {fis las fol wsy : Nat → Nat} {pos : Nat} (hv : okVb v = true) (hk : k < dc v) (h8 : dg v k = 8) (h : AJ v w (k + 1) o nus fis las fol wsy pos) : 1 ≤ o ∧ las (o - 1) < 2 ^ pos := by
  have tv := TV_v (okVb_iff.mp hv)
  have hg := gs_star tv hk h8 h.1
  have h1 := (tv.2.2.2 k hk).2.2.2.2.2.1 h8
  refine ⟨hg.1, ?_⟩
  rw [(sk_top hg.1 h.2.2.2.1).1, h.2.2.2.2.2.2]
  exact (au_b tv h1.1).2.1
theorem AJ_two2 {v w k o : Nat} {nus : Nat → Bool} {fis las fol wsy : Nat → Nat} {pos : Nat} (hv : okVb v = true) (hk : k < dc v) (h6 : ¬ dg v k < 6) (h8 : ¬ dg v k = 8) (h : AJ v w (k + 1) o nus fis las fol wsy pos) : 2 ≤ o ∧ las (o - 1) < 2 ^ pos := by
  have tv := TV_v (okVb_iff.mp hv)
  have hg := gs_two tv hk h6 h8 h.1
  have h0 := tv.2.2.2 k hk
  have h1 := h0.2.2.2.2.2.2 (by omega)
  refine ⟨hg.1, ?_⟩
  rw [(sk_top (by omega) h.2.2.2.1).1, h.2.2.2.2.2.2]
  exact (au_b tv h1.1).2.1
theorem AR_of {v w o : Nat} {nus : Nat → Bool} {fis las fol wsy : Nat → Nat} {isN : Nat → Bool} {fiO laO : Nat → Nat} {pos : Nat} (hv : okVb v = true) (h : AJ v w 0 o nus fis las fol wsy pos) : AR v w fol wsy (upz isN w (nus 0)) (up fiO w (fis 0)) (up laO w (las 0)) := by
  have tv := TV_v (okVb_iff.mp hv)
  have ho := gc_end tv h.1
  subst ho
  exact ⟨h.2.2.2.2.1, h.2.2.2.2.2.1, by rw [upz_s]; exact h.2.1.1, by rw [up_s]; exact h.2.2.1.1, by rw [up_s]; exact h.2.2.2.1.1⟩
