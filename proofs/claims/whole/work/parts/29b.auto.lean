/-! the automaton of v; what the class keeps of it -/
def auN (v : Nat) : Bool := nu (dg v) (en v) (dc v) 0
def auF (v : Nat) : Nat := fi (dg v) (en v) (dc v) 0
def auL (v : Nat) : Nat := la (dg v) (en v) (dc v) 0
def auT (v : Nat) : Nat → Nat := FT (dg v) (en v) (dc v) 0
def auW (v : Nat) : Nat → Nat := WT (dg v) (dc v) 0
/-- the class's tables when the nodes from k on are done -/
def AI (v k : Nat) (em : Nat → Bool) (fs lz fo re : Nat → Nat) (st : Nat) : Prop :=
  (∀ j, k ≤ j → j < dc v → em j = nu (dg v) (en v) (dc v) j ∧ fs j = 2 * fi (dg v) (en v) (dc v) j ∧ lz j = 2 * la (dg v) (en v) (dc v) j) ∧
  (∀ p, p < 10 → fo p = cl (FT (dg v) (en v) (dc v) k) p) ∧ (∀ c, c < 3 → re c = 2 * WT (dg v) (dc v) k c) ∧ st = nS (dg v) (dc v) k + 1
/-- the class's tables at the end -/
def AC (v : Nat) (fo re : Nat → Nat) (ac st : Nat) : Prop :=
  (∀ p, p < 10 → fo p = if p = 0 then 2 * auF v else 2 * auT v (p - 1)) ∧ (∀ c, c < 3 → re c = 2 * auW v c) ∧ ac = (if auN v = true then 2 * auL v ||| 1 else 2 * auL v) ∧ st = nS (dg v) (dc v) 0 + 1
theorem AI_set {v k : Nat} {em : Nat → Bool} {fs lz fo re fo' re' : Nat → Nat} {st st' f l : Nat} {e : Bool} (h : AI v (k + 1) em fs lz fo re st)
    (he : e = nu (dg v) (en v) (dc v) k) (hf : f = 2 * fi (dg v) (en v) (dc v) k) (hl : l = 2 * la (dg v) (en v) (dc v) k)
    (hfo : ∀ p, p < 10 → fo' p = cl (FT (dg v) (en v) (dc v) k) p) (hre : ∀ c, c < 3 → re' c = 2 * WT (dg v) (dc v) k c) (hst : st' = nS (dg v) (dc v) k + 1) :
    AI v k (upz em k e) (up fs k f) (up lz k l) fo' re' st' := by
  refine ⟨fun j h1 h2 => ?_, hfo, hre, hst⟩
  by_cases c : j = k
  · subst c; rw [upz_s, up_s, up_s]; exact ⟨he, hf, hl⟩
  · rw [upz_n _ c, up_n _ c, up_n _ c]; exact h.1 j (by omega) h2
theorem sL_t {d : Nat → Nat} {k : Nat} (h : 3 ≤ d k ∧ d k ≤ 5) : sL d k = true := decide_eq_true h
theorem sL_f {d : Nat → Nat} {k : Nat} (h : ¬ (3 ≤ d k ∧ d k ≤ 5)) : sL d k = false := decide_eq_false h
theorem AI_sym {v k : Nat} {em : Nat → Bool} {fs lz fo re : Nat → Nat} {st : Nat} (hv : okVb v = true) (hk : k < dc v) (hs : 3 ≤ dg v k ∧ dg v k ≤ 5) (h : AI v (k + 1) em fs lz fo re st) :
    AI v k (upz em k false) (up fs k (1 * 2 ^ st)) (up lz k (1 * 2 ^ st)) fo (up re (dg v k - 3) (re (dg v k - 3) ||| 1 * 2 ^ st)) (st + 1) := by
  have tv := TV_v (okVb_iff.mp hv)
  have ss := sL_t hs
  obtain ⟨e1, e2, e3⟩ := au_l tv hk (by omega)
  obtain ⟨_, h2, h3, h4⟩ := id h
  have ea : 1 * 2 ^ st = 2 * aL (dg v) (dc v) k := by unfold aL; rw [if_pos ss, h4, Nat.pow_succ]; omega
  refine AI_set h (by rw [e1]; exact (decide_eq_false (by omega)).symm) (by rw [e2, ea]) (by rw [e3, ea]) (fun p hp => by rw [FT_l hk (by omega) (by omega)]; exact h2 p hp) (fun c hc => ?_) (by rw [nS_yes hk ss, h4])
  rw [WT_y hk ss]
  by_cases q : c = dg v k - 3
  · rw [q, up_s, up_s, h3 _ (by omega), ← or2, ea]; unfold aL; rw [if_pos ss]
  · rw [up_n _ q, up_n _ q]; exact h3 c hc
theorem AI_non {v k : Nat} {em : Nat → Bool} {fs lz fo re : Nat → Nat} {st : Nat} {e : Bool} (hv : okVb v = true) (hk : k < dc v) (h6 : dg v k < 6) (hs : ¬ 3 ≤ dg v k) (he : e = decide (dg v k = 2)) (h : AI v (k + 1) em fs lz fo re st) :
    AI v k (upz em k e) (up fs k 0) (up lz k 0) fo re st := by
  have tv := TV_v (okVb_iff.mp hv)
  have ss := sL_f (d := dg v) (k := k) (fun q => hs q.1)
  obtain ⟨e1, e2, e3⟩ := au_l tv hk h6
  have ea : aL (dg v) (dc v) k = 0 := by unfold aL; rw [if_neg (by rw [ss]; decide)]
  exact AI_set h (by rw [e1]; exact he) (by rw [e2, ea]) (by rw [e3, ea]) (fun p hp => by rw [FT_l hk (by omega) (by omega)]; exact h.2.1 p hp) (fun c hc => by rw [WT_n hk ss]; exact h.2.2.1 c hc) (by rw [nS_no ss]; exact h.2.2.2)
theorem AI_star {v k : Nat} {em : Nat → Bool} {fs lz fo re fo' : Nat → Nat} {st : Nat} (hv : okVb v = true) (hk : k < dc v) (h8 : dg v k = 8) (h : AI v (k + 1) em fs lz fo re st)
    (hfo : ∀ p, p < 10 → fo' p = lnk fo (2 * la (dg v) (en v) (dc v) (k + 1)) (2 * fi (dg v) (en v) (dc v) (k + 1)) p) :
    AI v k (upz em k true) (up fs k (fs (k + 1))) (up lz k (lz (k + 1))) fo' re st := by
  have tv := TV_v (okVb_iff.mp hv)
  have h1 := (tv.2.2.2 k hk).2.2.2.2.2.1 h8
  have ss := sL_f (d := dg v) (k := k) (by omega)
  obtain ⟨e1, e2, e3⟩ := au_s tv hk h8
  obtain ⟨_, a2, a3⟩ := h.1 (k + 1) (by omega) h1.1
  exact AI_set h e1.symm (by rw [e2, a2]) (by rw [e3, a3]) (fun p hp => by rw [hfo p hp, FT_s hk h8, ← lnk_cl]; exact lnk_cong (h.2.1 p hp)) (fun c hc => by rw [WT_n hk ss]; exact h.2.2.1 c hc) (by rw [nS_no ss]; exact h.2.2.2)
theorem AI_un {v k m : Nat} {em : Nat → Bool} {fs lz fo re : Nat → Nat} {st : Nat} {e : Bool} (hv : okVb v = true) (hk : k < dc v) (h6 : dg v k = 6) (hm : m = en v (k + 1)) (h : AI v (k + 1) em fs lz fo re st) (he : e = (em (k + 1) || em m)) :
    AI v k (upz em k e) (up fs k (fs (k + 1) ||| fs m)) (up lz k (lz (k + 1) ||| lz m)) fo re st := by
  have tv := TV_v (okVb_iff.mp hv)
  have h1 := (tv.2.2.2 k hk).2.2.2.2.2.2 (by omega)
  have q1 := tv.q h1.1
  have ss := sL_f (d := dg v) (k := k) (by omega)
  obtain ⟨e1, e2, e3⟩ := au_u tv hk h6
  obtain ⟨a1, a2, a3⟩ := h.1 (k + 1) (by omega) h1.1
  obtain ⟨b1, b2, b3⟩ := h.1 m (by omega) (by omega)
  subst hm
  exact AI_set h (by rw [he, e1, a1, b1]) (by rw [e2, a2, b2, or2]) (by rw [e3, a3, b3, or2]) (fun p hp => by rw [FT_l hk (by omega) (by omega)]; exact h.2.1 p hp) (fun c hc => by rw [WT_n hk ss]; exact h.2.2.1 c hc) (by rw [nS_no ss]; exact h.2.2.2)
theorem AI_cc {v k m f l : Nat} {em : Nat → Bool} {fs lz fo re fo' : Nat → Nat} {st : Nat} {e : Bool} (hv : okVb v = true) (hk : k < dc v) (h7 : dg v k = 7) (hm : m = en v (k + 1)) (h : AI v (k + 1) em fs lz fo re st) (he : e = (em (k + 1) && em m))
    (hf : f = if em (k + 1) = true then fs (k + 1) ||| fs m else fs (k + 1)) (hl : l = if em m = true then lz (k + 1) ||| lz m else lz m)
    (hfo : ∀ p, p < 10 → fo' p = lnk fo (2 * la (dg v) (en v) (dc v) (k + 1)) (2 * fi (dg v) (en v) (dc v) m) p) :
    AI v k (upz em k e) (up fs k f) (up lz k l) fo' re st := by
  have tv := TV_v (okVb_iff.mp hv)
  have h1 := (tv.2.2.2 k hk).2.2.2.2.2.2 (by omega)
  have q1 := tv.q h1.1
  have ss := sL_f (d := dg v) (k := k) (by omega)
  obtain ⟨e1, e2, e3⟩ := au_c tv hk h7
  obtain ⟨a1, a2, a3⟩ := h.1 (k + 1) (by omega) h1.1
  obtain ⟨b1, b2, b3⟩ := h.1 m (by omega) (by omega)
  subst hm
  refine AI_set h (by rw [he, e1, a1, b1]) ?_ ?_ (fun p hp => by rw [hfo p hp, FT_c hk h7, ← lnk_cl]; exact lnk_cong (h.2.1 p hp)) (fun c hc => by rw [WT_n hk ss]; exact h.2.2.1 c hc) (by rw [nS_no ss]; exact h.2.2.2)
  · rw [hf, e2, a1, a2, b2]; split
    · exact or2 _ _
    · rfl
  · rw [hl, e3, b1, a3, b3]; split
    · exact or2 _ _
    · rfl
theorem AI_st {v k : Nat} {em : Nat → Bool} {fs lz fo re : Nat → Nat} {st : Nat} (hv : okVb v = true) (h : AI v k em fs lz fo re st) : 1 ≤ st ∧ st ≤ 10 := by
  have := nS_9 (TV_v (okVb_iff.mp hv)) k
  have := h.2.2.2
  omega
theorem AI_st9 {v k : Nat} {em : Nat → Bool} {fs lz fo re : Nat → Nat} {st : Nat} (hv : okVb v = true) (hk : k < dc v) (hs : 3 ≤ dg v k ∧ dg v k ≤ 5) (h : AI v (k + 1) em fs lz fo re st) : st < 10 := by
  have := nS_9 (TV_v (okVb_iff.mp hv)) k
  have := nS_yes hk (sL_t hs)
  have := h.2.2.2
  omega
theorem AI_lt {v k j : Nat} {em : Nat → Bool} {fs lz fo re : Nat → Nat} {st : Nat} (hv : okVb v = true) (h : AI v k em fs lz fo re st) (h1 : k ≤ j) (h2 : j < dc v) : 2 * la (dg v) (en v) (dc v) j < 2 ^ st := by
  have hb := au_b (TV_v (okVb_iff.mp hv)) h2
  have hm := p2_le (nS_mono (d := dg v) (n := dc v) h1)
  rw [h.2.2.2, Nat.pow_succ]
  omega
theorem AI_0 {v : Nat} {em : Nat → Bool} {fs lz fo re : Nat → Nat} (hfo : ∀ p, p < 10 → fo p = 0) (hre : ∀ c, c < 3 → re c = 0) : AI v (dc v) em fs lz fo re 1 :=
  ⟨fun j h1 h2 => absurd h1 (by omega), fun p hp => by rw [FT_end, hfo p hp]; unfold cl; split <;> rfl, fun c hc => by rw [WT_end, hre c hc]; rfl, by rw [nS_end]⟩
theorem AC_of {v a : Nat} {em : Nat → Bool} {fs lz fo re : Nat → Nat} {st : Nat} (hv : okVb v = true) (h : AI v 0 em fs lz fo re st) (ha : a = if em 0 = true then lz 0 ||| 1 else lz 0) : AC v (up fo 0 (fs 0)) re a st := by
  have tv := TV_v (okVb_iff.mp hv)
  obtain ⟨a1, a2, a3⟩ := h.1 0 (Nat.le_refl 0) tv.2.1
  refine ⟨fun p hp => ?_, h.2.2.1, ?_, h.2.2.2⟩
  · by_cases c : p = 0
    · subst c; rw [up_s, if_pos rfl]; exact a2
    · rw [up_n _ c, if_neg c, h.2.1 p hp]; exact if_neg c
  · rw [ha, a1, a3]; rfl
/-! going on from a set; none is the start -/
def oF (f : Nat → Nat) (m : Nat) : Nat → Nat
  | 0 => 0
  | p + 1 => if m / 2 ^ p % 2 = 1 then oF f m p ||| f p else oF f m p
def aF (v : Nat) (z : Option Nat) : Nat := match z with | none => auF v | some m => oF (auT v) m 9
def aft (v : Nat) (z : Option Nat) (c : Nat) : Nat := aF v z &&& auW v c
def acp (v : Nat) (z : Option Nat) : Bool := match z with | none => auN v | some m => decide (m &&& auL v ≠ 0)
/-- the class's mask of a set -/
def cs (z : Option Nat) : Nat := match z with | none => 1 | some m => 2 * m
/-- a set that the automata reach -/
def zok (z : Option Nat) : Prop := ∀ m, z = some m → m < 512
theorem oF_lt {f : Nat → Nat} {m q : Nat} (hf : ∀ p, f p < 2 ^ q) : ∀ k, oF f m k < 2 ^ q
  | 0 => Nat.pow_pos (by decide)
  | k + 1 => by
    have ih := oF_lt (m := m) hf k
    show (if _ then _ else _) < _
    split
    · exact Nat.or_lt_two_pow ih (hf k)
    · exact ih
theorem oF_cong {f g : Nat → Nat} {m : Nat} : ∀ k, (∀ p, p < k → f p = g p) → oF f m k = oF g m k
  | 0, _ => rfl
  | k + 1, h => by
    have ih := oF_cong (m := m) k (fun p hp => h p (by omega))
    show (if _ then _ else _) = (if _ then _ else _)
    rw [ih, h k (by omega)]
theorem oF_zero {f : Nat → Nat} {m a : Nat} : ∀ b, (∀ p, a ≤ p → f p = 0) → oF f m (a + b) = oF f m a
  | 0, _ => rfl
  | b + 1, h => by
    have ih := oF_zero (m := m) b h
    show (if _ then oF f m (a + b) ||| f (a + b) else oF f m (a + b)) = _
    rw [ih, h (a + b) (by omega), Nat.or_zero]
    split <;> rfl
def cT (v : Nat) (p : Nat) : Nat := if p = 0 then 2 * auF v else 2 * auT v (p - 1)
theorem oF_c1 {v : Nat} : ∀ k, oF (cT v) 1 (k + 1) = 2 * auF v
  | 0 => by
    show (if 1 / 2 ^ 0 % 2 = 1 then 0 ||| cT v 0 else 0) = _
    rw [if_pos (by decide), Nat.zero_or]; rfl
  | k + 1 => by
    show (if 1 / 2 ^ (k + 1) % 2 = 1 then _ else oF (cT v) 1 (k + 1)) = _
    rw [oF_c1 k, if_neg]
    rw [Nat.div_eq_of_lt (Nat.one_lt_two_pow (by omega))]; decide
theorem oF_c2 {v m : Nat} : ∀ k, oF (cT v) (2 * m) (k + 1) = 2 * oF (auT v) m k
  | 0 => by
    show (if 2 * m / 2 ^ 0 % 2 = 1 then _ else 0) = _
    rw [if_neg (by rw [Nat.pow_zero, Nat.div_one]; omega)]; rfl
  | k + 1 => by
    show (if 2 * m / 2 ^ (k + 1) % 2 = 1 then oF (cT v) (2 * m) (k + 1) ||| cT v (k + 1) else oF (cT v) (2 * m) (k + 1)) = 2 * (if m / 2 ^ k % 2 = 1 then oF (auT v) m k ||| auT v k else oF (auT v) m k)
    rw [oF_c2 k, bit2]
    split
    · show 2 * oF (auT v) m k ||| 2 * auT v k = _
      exact or2 _ _
    · rfl
theorem au_T {v : Nat} (hv : okVb v = true) : (∀ p, nS (dg v) (dc v) 0 ≤ p → auT v p = 0) ∧ (∀ p, auT v p < 2 ^ 9) := FT_ok (TV_v (okVb_iff.mp hv)) (dc v) 0 (by omega) (by omega)
theorem au_W {v : Nat} (hv : okVb v = true) (c : Nat) : auW v c < 512 := WT_ok (TV_v (okVb_iff.mp hv)) (dc v) 0 (by omega) (by omega) c
theorem au_FL {v : Nat} (hv : okVb v = true) : auF v < 512 ∧ auL v < 512 := ⟨(au_b (TV_v (okVb_iff.mp hv)) (TV_v (okVb_iff.mp hv)).2.1).2.2.1, (au_b (TV_v (okVb_iff.mp hv)) (TV_v (okVb_iff.mp hv)).2.1).2.2.2⟩
theorem aF_lt {v : Nat} (hv : okVb v = true) (z : Option Nat) : aF v z < 512 := by
  cases z with
  | none => exact (au_FL hv).1
  | some m => exact oF_lt (au_T hv).2 9
theorem aft_lt {v : Nat} (hv : okVb v = true) (z : Option Nat) (c : Nat) : aft v z c < 512 := Nat.and_lt_two_pow (n := 9) _ (au_W hv c)
theorem cs_lt {z : Option Nat} (h : zok z) : cs z < 1024 := by
  cases z with
  | none => decide
  | some m => have := h m rfl; show 2 * m < 1024; omega
theorem AC_f {v : Nat} {fo re : Nat → Nat} {ac st : Nat} (hv : okVb v = true) (h : AC v fo re ac st) (z : Option Nat) : oF fo (cs z) st = 2 * aF v z := by
  have h9 := nS_9 (TV_v (okVb_iff.mp hv)) 0
  have h4 := h.2.2.2
  have e1 : oF fo (cs z) st = oF (cT v) (cs z) st := oF_cong st (fun p hp => h.1 p (by omega))
  have hz : ∀ p, st ≤ p → cT v p = 0 := fun p hp => by
    unfold cT; rw [if_neg (by omega), (au_T hv).1 (p - 1) (by omega)]
  have e2 : oF (cT v) (cs z) 10 = oF (cT v) (cs z) st := by
    rw [show 10 = st + (10 - st) from by omega]; exact oF_zero _ hz
  rw [e1, ← e2]
  cases z with
  | none => exact oF_c1 9
  | some m => exact oF_c2 9
theorem AC_r {v : Nat} {fo re : Nat → Nat} {ac st c : Nat} (h : AC v fo re ac st) (hc : c < 3) (z : Option Nat) : re c &&& 2 * aF v z = cs (some (aft v z c)) := by
  rw [h.2.1 c hc, and2, Nat.and_comm]; rfl
theorem and1 (a b : Nat) : 2 * a &&& (2 * b ||| 1) = 2 * (a &&& b) := by
  apply Nat.eq_of_testBit_eq
  intro i
  have e : ∀ x : Nat, (2 * x).testBit i = (decide (i ≥ 1) && x.testBit (i - 1)) := fun x => Nat.testBit_two_pow_mul (i := 1)
  have e1 : (1 : Nat).testBit i = decide (0 = i) := Nat.testBit_two_pow (n := 0)
  rw [Nat.testBit_and, Nat.testBit_or, e, e, e, e1, Nat.testBit_and]
  by_cases c : i = 0
  · subst c; simp
  · have : decide (0 = i) = false := decide_eq_false (fun q => c q.symm)
    rw [this]; cases decide (i ≥ 1) <;> simp
theorem and1s (b : Nat) : 1 &&& 2 * b = 0 ∧ 1 &&& (2 * b ||| 1) = 1 := by
  constructor
  · rw [Nat.and_comm, Nat.and_one_is_mod]; omega
  · rw [Nat.and_comm, Nat.and_one_is_mod]
    have : (2 * b ||| 1).testBit 0 = true := by rw [Nat.testBit_or]; simp
    have h2 := Nat.testBit_eq_decide_div_mod_eq (x := 2 * b ||| 1) (i := 0)
    rw [this, Nat.pow_zero, Nat.div_one] at h2
    exact of_decide_eq_true h2.symm
theorem AC_a {v : Nat} {fo re : Nat → Nat} {ac st : Nat} (h : AC v fo re ac st) (z : Option Nat) : (cs z &&& ac ≠ 0) ↔ acp v z = true := by
  rw [h.2.2.1]
  cases z with
  | none =>
    show 1 &&& _ ≠ 0 ↔ auN v = true
    by_cases c : auN v = true
    · rw [if_pos c, (and1s _).2]; exact ⟨fun _ => c, fun _ => by decide⟩
    · rw [if_neg c, (and1s _).1]; exact ⟨fun q => absurd rfl q, fun q => absurd q c⟩
  | some m =>
    show 2 * m &&& _ ≠ 0 ↔ decide (m &&& auL v ≠ 0) = true
    rw [decide_eq_true_iff]
    have e : (2 * m &&& if auN v = true then 2 * auL v ||| 1 else 2 * auL v) = 2 * (m &&& auL v) := by
      split
      · exact and1 _ _
      · exact and2 _ _
    rw [e]; omega
theorem upd_s9 (f : Nat → Int32) (k : Nat) (x : Int32) : upd f k x k = x := if_pos rfl
theorem upd_n9 (f : Nat → Int32) {k : Nat} {x : Int32} {j : Nat} (h : j ≠ k) : upd f k x j = f j := if_neg h
theorem lnk_y {fo g : Nat → Nat} {a b k : Nat} (i2 : ∀ p, g p = if p < k then lnk fo a b p else fo p) (h : a / 2 ^ k % 2 = 1) : ∀ p, up g k (g k ||| b) p = if p < k + 1 then lnk fo a b p else fo p := fun p => by
  by_cases q : p = k
  · subst q; rw [up_s, i2 p, if_neg (by omega), if_pos (by omega)]; unfold lnk; rw [if_pos h]
  · rw [up_n _ q, i2 p]
    by_cases c : p < k
    · rw [if_pos c, if_pos (by omega)]
    · rw [if_neg c, if_neg (by omega)]
theorem lnk_n {fo g : Nat → Nat} {a b k : Nat} (i2 : ∀ p, g p = if p < k then lnk fo a b p else fo p) (h : a / 2 ^ k % 2 = 0) : ∀ p, g p = if p < k + 1 then lnk fo a b p else fo p := fun p => by
  rw [i2 p]
  by_cases q : p = k
  · subst q; rw [if_neg (by omega), if_pos (by omega)]; unfold lnk; rw [if_neg (by omega)]
  · by_cases c : p < k
    · rw [if_pos c, if_pos (by omega)]
    · rw [if_neg c, if_neg (by omega)]
theorem lnk_all {fo g : Nat → Nat} {a b k st : Nat} (i2 : ∀ p, g p = if p < k then lnk fo a b p else fo p) (hk : st ≤ k) (ha : a < 2 ^ st) : ∀ p, g p = lnk fo a b p := fun p => by
  rw [i2 p]
  split
  · rfl
  · exact (lnk_out ha (by omega)).symm
