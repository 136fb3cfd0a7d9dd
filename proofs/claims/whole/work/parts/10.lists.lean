/-! expressions as lists of digits -/
def sub (d : Nat → Nat) (a b : Nat) : List Nat := (List.range (b - a)).map (fun i => d (a + i))
theorem sub_len (d : Nat → Nat) (a b : Nat) : (sub d a b).length = b - a := by simp [sub]
theorem sub_get (d : Nat → Nat) {a b i : Nat} (h : i < b - a) : (sub d a b)[i]? = some (d (a + i)) := by simp [sub, h]
theorem sub_nil (d : Nat → Nat) {a b : Nat} (h : b ≤ a) : sub d a b = [] := by simp [sub, show b - a = 0 from by omega]
theorem sub_app (d : Nat → Nat) {a b c : Nat} (h1 : a ≤ b) (h2 : b ≤ c) : sub d a b ++ sub d b c = sub d a c := by
  apply List.ext_getElem?
  intro i
  rcases Nat.lt_or_ge i (b - a) with h | h
  · rw [List.getElem?_append_left (by rw [sub_len]; exact h), sub_get d h, sub_get d (show i < c - a by omega)]
  · rw [List.getElem?_append_right (by rw [sub_len]; exact h), sub_len]
    rcases Nat.lt_or_ge i (c - a) with h3 | h3
    · rw [sub_get d (show i - (b - a) < c - b by omega), sub_get d h3, show b + (i - (b - a)) = a + i from by omega]
    · rw [List.getElem?_eq_none (by rw [sub_len]; omega), List.getElem?_eq_none (by rw [sub_len]; omega)]
theorem sub_one (d : Nat → Nat) (a : Nat) : sub d a (a + 1) = [d a] := by simp [sub, show a + 1 - a = 1 from by omega]
theorem sub_cons (d : Nat → Nat) {a b : Nat} (h : a < b) : sub d a b = d a :: sub d (a + 1) b := by
  rw [← sub_app d (show a ≤ a + 1 by omega) (show a + 1 ≤ b by omega), sub_one]; rfl
theorem sub_cong {d d' : Nat → Nat} {a b : Nat} (h : ∀ j, a ≤ j → j < b → d j = d' j) : sub d a b = sub d' a b := by
  unfold sub
  apply List.map_congr_left
  intro i hi
  rw [List.mem_range] at hi
  exact h _ (by omega) (by omega)
/-- the number that a list of digits writes -/
def num (l : List Nat) : Nat := l.foldl (fun a x => a * 10 + x) 0
theorem foldl_num (l : List Nat) : ∀ a, l.foldl (fun a x => a * 10 + x) a = a * 10 ^ l.length + num l := by
  induction l with
  | nil => intro a; simp [num]
  | cons x l ih =>
    intro a
    show l.foldl _ (a * 10 + x) = _
    unfold num
    show l.foldl _ (a * 10 + x) = _ + l.foldl _ (0 * 10 + x)
    rw [ih, ih (0 * 10 + x), List.length_cons, Nat.pow_succ, Nat.add_mul, Nat.add_mul, Nat.zero_mul, Nat.mul_assoc, Nat.mul_comm 10 (10 ^ l.length)]
    omega
theorem num_app (a b : List Nat) : num (a ++ b) = num a * 10 ^ b.length + num b := by
  show (a ++ b).foldl _ 0 = _
  rw [List.foldl_append]
  exact foldl_num b _
theorem num_cons (x : Nat) (b : List Nat) : num (x :: b) = x * 10 ^ b.length + num b := by
  have := num_app [x] b
  rw [show num [x] = x from by simp [num]] at this
  exact this
theorem num_nil : num [] = 0 := rfl
theorem num_snoc (a : List Nat) (x : Nat) : num (a ++ [x]) = num a * 10 + x := by rw [num_app]; simp [num]
/-- digits 1 to 8 -/
def D8 (l : List Nat) : Prop := ∀ x ∈ l, 1 ≤ x ∧ x ≤ 8
theorem D8_app {a b : List Nat} : D8 (a ++ b) ↔ D8 a ∧ D8 b := by
  unfold D8
  constructor
  · intro h; exact ⟨fun x hx => h x (List.mem_append_left _ hx), fun x hx => h x (List.mem_append_right _ hx)⟩
  · rintro ⟨h1, h2⟩ x hx
    rcases List.mem_append.mp hx with q | q
    · exact h1 x q
    · exact h2 x q
theorem D8_cons {x : Nat} {b : List Nat} : D8 (x :: b) ↔ (1 ≤ x ∧ x ≤ 8) ∧ D8 b := by
  unfold D8
  constructor
  · intro h; exact ⟨h x List.mem_cons_self, fun y hy => h y (List.mem_cons_of_mem _ hy)⟩
  · rintro ⟨h1, h2⟩ y hy
    rcases List.mem_cons.mp hy with q | q
    · rw [q]; exact h1
    · exact h2 y q
theorem num_lt {l : List Nat} (h : D8 l) : num l < 10 ^ l.length := by
  induction l with
  | nil => simp [num]
  | cons x l ih =>
    rw [num_cons, List.length_cons, Nat.pow_succ]
    have h1 := (D8_cons.mp h)
    have h2 := ih h1.2
    have h3 : x * 10 ^ l.length ≤ 8 * 10 ^ l.length := Nat.mul_le_mul_right _ h1.1.2
    omega
theorem num_sz {l : List Nat} (h : D8 l) (h0 : l ≠ []) : sz (num l) l.length := by
  cases l with
  | nil => exact absurd rfl h0
  | cons x l =>
    refine ⟨by simp, ?_, num_lt h⟩
    rw [num_cons, List.length_cons, show l.length + 1 - 1 = l.length from rfl]
    have h1 := (D8_cons.mp h).1.1
    have h3 : 1 * 10 ^ l.length ≤ x * 10 ^ l.length := Nat.mul_le_mul_right _ h1
    omega
theorem num_inj : ∀ {a b : List Nat}, D8 a → D8 b → num a = num b → a = b := by
  intro a
  induction a with
  | nil =>
    intro b _ hb e
    cases b with
    | nil => rfl
    | cons y b => have := sz_pos (num_sz hb (by simp)); rw [← e, num_nil] at this; omega
  | cons x a ih =>
    intro b ha hb e
    cases b with
    | nil => have := sz_pos (num_sz ha (by simp)); rw [e, num_nil] at this; omega
    | cons y b =>
      have s1 := num_sz ha (by simp)
      have s2 := num_sz hb (by simp)
      rw [e] at s1
      have hl : (x :: a).length = (y :: b).length := by
        have p1 := pow_inj_lt s1.2.1 s2.2.2
        have p2 := pow_inj_lt s2.2.1 s1.2.2
        have := s1.1
        have := s2.1
        omega
      rw [List.length_cons, List.length_cons] at hl
      have hl : a.length = b.length := by omega
      rw [num_cons, num_cons, hl] at e
      have l1 := num_lt (D8_cons.mp ha).2
      have l2 := num_lt (D8_cons.mp hb).2
      rw [hl] at l1
      have hp : 0 < 10 ^ b.length := Nat.pow_pos (by decide)
      have hxy : x = y := by
        have e1 : (x * 10 ^ b.length + num a) / 10 ^ b.length = x := by
          rw [Nat.mul_comm, Nat.mul_add_div hp, Nat.div_eq_of_lt l1, Nat.add_zero]
        have e2 : (y * 10 ^ b.length + num b) / 10 ^ b.length = y := by
          rw [Nat.mul_comm, Nat.mul_add_div hp, Nat.div_eq_of_lt l2, Nat.add_zero]
        rw [← e1, e, e2]
      subst hxy
      have : num a = num b := by omega
      rw [ih (D8_cons.mp ha).2 (D8_cons.mp hb).2 this]
theorem dc_num {l : List Nat} (h : D8 l) (h0 : l ≠ []) (hl : l.length ≤ 18) : dc (num l) = l.length := dc_sz (num_sz h h0) hl
theorem da_num {l : List Nat} (h : D8 l) (h0 : l ≠ []) (hl : l.length ≤ 18) : da (num l) = l.length := da_sz (num_sz h h0) hl
theorem num_digit : ∀ (a : List Nat) (x : Nat) (b : List Nat), D8 (a ++ x :: b) → num (a ++ x :: b) / 10 ^ b.length % 10 = x := by
  intro a x b h
  have hb := (D8_cons.mp (D8_app.mp h).2)
  have l1 := num_lt hb.2
  have hp : 0 < 10 ^ b.length := Nat.pow_pos (by decide)
  rw [num_app, num_cons, List.length_cons, Nat.pow_succ, show num a * (10 ^ b.length * 10) + (x * 10 ^ b.length + num b) = 10 ^ b.length * (num a * 10 + x) + num b from by
    rw [Nat.mul_add, Nat.mul_comm (10 ^ b.length) x, ← Nat.mul_assoc (10 ^ b.length), Nat.mul_comm (10 ^ b.length) (num a), Nat.mul_assoc (num a)]; omega]
  rw [Nat.mul_add_div hp, Nat.div_eq_of_lt l1, Nat.add_zero]
  omega
theorem dg_num {l : List Nat} (h : D8 l) (hl : l.length ≤ 18) {k : Nat} (hk : k < l.length) : l[k]? = some (dg (num l) k) := by
  have h0 : l ≠ [] := by intro q; rw [q] at hk; exact absurd hk (Nat.not_lt_zero _)
  unfold dg
  rw [dc_num h h0 hl]
  obtain ⟨a, x, b, rfl, hk2⟩ : ∃ a x b, l = a ++ x :: b ∧ k = a.length := ⟨l.take k, l[k], l.drop (k + 1), by rw [← List.drop_eq_getElem_cons hk, List.take_append_drop], by rw [List.length_take]; omega⟩
  rw [hk2, List.getElem?_append_right (Nat.le_refl _), Nat.sub_self]
  have e : (a ++ x :: b).length - 1 - a.length = b.length := by rw [List.length_append, List.length_cons]; omega
  rw [e, num_digit a x b h]
  rfl
/-- the code of a valid expression is the number of its digits -/
theorem num_dg {v : Nat} (h : okVb v = true) : num (sub (dg v) 0 (dc v)) = v := by
  have hv := (okVb_iff.mp h).2.1
  have key : ∀ k, k ≤ dc v → num (sub (dg v) 0 k) = v / 10 ^ (dc v - k) := by
    intro k
    induction k with
    | zero =>
      intro _
      rw [sub_nil _ (Nat.le_refl 0), num_nil, Nat.sub_zero, Nat.div_eq_of_lt (dc_lt hv).1]
    | succ k ih =>
      intro hk
      rw [← sub_app (dg v) (Nat.zero_le k) (Nat.le_succ k), sub_one, num_snoc, ih (by omega)]
      unfold dg
      rw [show dc v - k = (dc v - 1 - k) + 1 from by omega, show dc v - (k + 1) = dc v - 1 - k from by omega, Nat.pow_succ, ← Nat.div_div_eq_div_mul]
      omega
  rw [key (dc v) (Nat.le_refl _), Nat.sub_self, Nat.pow_zero, Nat.div_one]
/-! one expression: counting what is open -/
def run : List Nat → Nat → Option Nat
  | [], o => some o
  | x :: l, o => if o = 0 ∨ x < 1 ∨ 8 < x then none else run l (if x < 6 then o - 1 else if x = 8 then o else o + 1)
def VL (l : List Nat) : Prop := run l 1 = some 0
theorem run_app (a b : List Nat) : ∀ o, run (a ++ b) o = (run a o).bind (run b) := by
  induction a with
  | nil => intro o; rfl
  | cons x a ih =>
    intro o
    show (if _ then none else run (a ++ b) _) = Option.bind (if _ then none else run a _) (run b)
    split
    · rfl
    · exact ih _
theorem run_add (a : List Nat) : ∀ {o r : Nat} (k : Nat), run a o = some r → run a (o + k) = some (r + k) := by
  induction a with
  | nil => intro o r k h; have : o = r := Option.some.inj h; rw [this]; rfl
  | cons x a ih =>
    intro o r k h
    unfold run at h ⊢
    split at h
    · cases h
    · rename_i hc
      rw [if_neg (by omega)]
      have := ih k h
      rw [← this]
      congr 1
      split
      · omega
      · split
        · rfl
        · omega
theorem VL_run {l : List Nat} (h : VL l) (o : Nat) : run l (o + 1) = some o := by
  have := run_add l o h
  rw [Nat.zero_add, Nat.add_comm 1 o] at this
  exact this
theorem run_D8 (a : List Nat) : ∀ {o r : Nat}, run a o = some r → D8 a := by
  induction a with
  | nil => intro o r _ x hx; cases hx
  | cons x a ih =>
    intro o r h
    unfold run at h
    split at h
    · cases h
    · rename_i hc
      exact D8_cons.mpr ⟨by omega, ih h⟩
theorem VL.d8 {l : List Nat} (h : VL l) : D8 l := run_D8 l h
theorem VL.ne {l : List Nat} (h : VL l) : l ≠ [] := by
  intro q
  rw [q] at h
  have : (1 : Nat) = 0 := Option.some.inj h
  omega
theorem VL_two {x : Nat} {a b : List Nat} (hx : x = 6 ∨ x = 7) (ha : VL a) (hb : VL b) : VL (x :: (a ++ b)) := by
  show (if _ then none else run (a ++ b) _) = some 0
  rw [if_neg (by omega), if_neg (by omega), if_neg (by omega), run_app, VL_run ha 1]
  exact hb
theorem VL_star {a : List Nat} (ha : VL a) : VL (8 :: a) := ha
theorem VL_leaf {x : Nat} (h1 : 1 ≤ x) (h5 : x ≤ 5) : VL [x] := by
  show (if _ then none else some _) = some 0
  rw [if_neg (by omega), if_pos (by omega)]
theorem VL_swap {a s r b : List Nat} (h : VL (a ++ s ++ b)) (hs : VL s) (hr : VL r) : VL (a ++ r ++ b) := by
  unfold VL at h ⊢
  rw [List.append_assoc, run_app] at h ⊢
  cases ha : run a 1 with
  | none => rw [ha] at h; cases h
  | some o =>
    rw [ha] at h
    show run (r ++ b) o = some 0
    have h : run (s ++ b) o = some 0 := h
    rw [run_app] at h ⊢
    cases o with
    | zero =>
      have hne := hs.ne
      cases s with
      | nil => exact absurd rfl hne
      | cons x s =>
        have : run (x :: s) 0 = none := by unfold run; rw [if_pos (Or.inl rfl)]
        rw [this] at h; cases h
    | succ o =>
      rw [VL_run hs o] at h
      rw [VL_run hr o]
      exact h
/-- runs along the digits -/
theorem run_op (d : Nat → Nat) {n : Nat} (h : okR d n) : ∀ k, k ≤ n → run (sub d 0 k) 1 = some (opS d k) := by
  intro k
  induction k with
  | zero => intro _; rw [sub_nil _ (Nat.le_refl 0)]; rfl
  | succ k ih =>
    intro hk
    rw [← sub_app d (Nat.zero_le k) (Nat.le_succ k), sub_one, run_app, ih (by omega)]
    show (if _ then none else some _) = some _
    have := h.1 k (by omega)
    rw [if_neg (by omega)]
    rfl
theorem VL_of_okR {d : Nat → Nat} {n : Nat} (h : okR d n) : VL (sub d 0 n) := by
  unfold VL
  rw [run_op d h n (Nat.le_refl n), h.2]
theorem okR_of_VL {d : Nat → Nat} {n : Nat} (h : VL (sub d 0 n)) : okR d n := by
  have key : ∀ k, k ≤ n → (∀ j, j < k → opS d j ≠ 0 ∧ 1 ≤ d j ∧ d j ≤ 8) ∧ run (sub d 0 k) 1 = some (opS d k) := by
    intro k
    induction k with
    | zero => intro _; exact ⟨fun j hj => absurd hj (by omega), by rw [sub_nil _ (Nat.le_refl 0)]; rfl⟩
    | succ k ih =>
      intro hk
      obtain ⟨h1, h2⟩ := ih (by omega)
      have hv : run (sub d 0 k ++ sub d k n) 1 = some 0 := by rw [sub_app d (Nat.zero_le k) (by omega)]; exact h
      rw [run_app, h2, sub_cons d (show k < n by omega)] at hv
      have hv : run (d k :: sub d (k + 1) n) (opS d k) = some 0 := hv
      unfold run at hv
      split at hv
      · cases hv
      · rename_i hc
        have hk8 : opS d k ≠ 0 ∧ 1 ≤ d k ∧ d k ≤ 8 := by omega
        refine ⟨lt_s h1 hk8, ?_⟩
        rw [← sub_app d (Nat.zero_le k) (Nat.le_succ k), sub_one, run_app, h2]
        show (if _ then none else some _) = some _
        rw [if_neg (by omega)]
        rfl
  obtain ⟨h1, h2⟩ := key n (Nat.le_refl n)
  refine ⟨h1, ?_⟩
  unfold VL at h
  rw [h2] at h
  exact Option.some.inj h
/-- each part of a tree is an expression -/
theorem VL_part {d E : Nat → Nat} {n : Nat} (tv : TV d E n) : ∀ (j p : Nat), n ≤ p + j → p < n → VL (sub d p (E p)) := by
  intro j
  induction j with
  | zero => intro p h1 h2; omega
  | succ j ih =>
    intro p h1 h2
    obtain ⟨q1, q8, q3, q4, ql, qs, qb⟩ := tv.2.2.2 p h2
    rw [sub_cons d q3]
    by_cases c1 : d p ≤ 5
    · rw [ql c1, sub_nil _ (Nat.le_refl _)]
      exact VL_leaf q1 c1
    · by_cases c2 : d p = 8
      · obtain ⟨s1, s2⟩ := qs c2
        rw [c2, s2]
        exact VL_star (ih (p + 1) (by omega) s1)
      · obtain ⟨b1, b2, b3⟩ := qb (by omega)
        have g1 := (tv.q b1).2.2
        have g2 := (tv.q b2).2.2
        rw [b3, ← sub_app d (show p + 1 ≤ E (p + 1) by omega) (show E (p + 1) ≤ E (E (p + 1)) by omega)]
        exact VL_two (by omega) (ih (p + 1) (by omega) b1) (ih _ (by omega) b2)
theorem TV.VL {d E : Nat → Nat} {n : Nat} (tv : TV d E n) {p : Nat} (hp : p < n) : VL (sub d p (E p)) := VL_part tv n p (by omega) hp
/-- a list that is an expression is a code -/
theorem okVb_num {l : List Nat} (h : VL l) (hl : l.length ≤ 18) : okVb (num l) = true := by
  have h8 := h.d8
  have h0 := h.ne
  have hz := num_sz h8 h0
  rw [okR_v (sz_pos hz) (sz_lt hz hl)]
  apply okR_of_VL
  rw [dc_num h8 h0 hl]
  have : sub (dg (num l)) 0 l.length = l := by
    apply List.ext_getElem?
    intro i
    rcases Nat.lt_or_ge i l.length with c | c
    · rw [sub_get _ (by omega), Nat.zero_add]; exact (dg_num h8 hl c).symm
    · rw [List.getElem?_eq_none (by rw [sub_len]; omega), List.getElem?_eq_none c]
  rw [this]
  exact h
