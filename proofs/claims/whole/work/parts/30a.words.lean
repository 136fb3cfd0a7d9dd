/-! words by their numbers, in the order of their lengths and then of their symbols: behind N comes 3 N + 1 + c by the symbol c -/
def rnwF (v : Nat) : Nat → Nat → Option Nat
  | 0, _ => none
  | f + 1, N => if N = 0 then none else some (aft v (rnwF v f ((N - 1) / 3)) ((N - 1) % 3))
/-- the set after the word of number N -/
def rnw (v N : Nat) : Option Nat := rnwF v N N
theorem rnwF_eq (v : Nat) : ∀ (f g N : Nat), N ≤ f → N ≤ g → rnwF v f N = rnwF v g N
  | 0, 0, _, _, _ => rfl
  | 0, g + 1, N, h, _ => by
    show none = (if N = 0 then none else _)
    rw [if_pos (by omega)]
  | f + 1, 0, N, _, h => by
    show (if N = 0 then none else _) = none
    rw [if_pos (by omega)]
  | f + 1, g + 1, N, h1, h2 => by
    show (if N = 0 then none else _) = (if N = 0 then none else _)
    by_cases c : N = 0
    · rw [if_pos c, if_pos c]
    · rw [if_neg c, if_neg c, rnwF_eq v f g ((N - 1) / 3) (by omega) (by omega)]
theorem rnw_0 (v : Nat) : rnw v 0 = none := rfl
theorem rnw_s (v N : Nat) {c : Nat} (hc : c < 3) : rnw v (3 * N + 1 + c) = some (aft v (rnw v N) c) := by
  unfold rnw
  rw [show 3 * N + 1 + c = (3 * N + c) + 1 from by omega]
  show (if 3 * N + c + 1 = 0 then none else some (aft v (rnwF v (3 * N + c) ((3 * N + c + 1 - 1) / 3)) ((3 * N + c + 1 - 1) % 3))) = _
  rw [if_neg (by omega), show (3 * N + c + 1 - 1) / 3 = N from by omega, show (3 * N + c + 1 - 1) % 3 = c from by omega, rnwF_eq v (3 * N + c) N N (by omega) (by omega)]
theorem rnw_ok {v : Nat} (hv : okVb v = true) (N : Nat) : zok (rnw v N) := by
  rcases Nat.eq_zero_or_pos N with c | c
  · rw [c]; exact zok_n
  · rw [show N = 3 * ((N - 1) / 3) + 1 + (N - 1) % 3 from by omega, rnw_s v _ (by omega)]; exact zok_s (aft_lt hv _ _)
/-- the word tells the two apart -/
def bd (v1 v2 N : Nat) : Prop := acp v1 (rnw v1 N) ≠ acp v2 (rnw v2 N)
def ap : Nat → List Nat → Nat
  | u, [] => u
  | u, c :: s => ap (3 * u + 1 + c) s
def asx (v : Nat) : Option Nat → List Nat → Bool
  | z, [] => acp v z
  | z, c :: s => asx v (some (aft v z c)) s
def S3 (s : List Nat) : Prop := ∀ c, c ∈ s → c < 3
theorem ap_lt : ∀ (s : List Nat) {u u' : Nat}, u < u' → ap u s < ap u' s
  | [], _, _, h => h
  | c :: s, _, _, h => ap_lt s (by omega)
theorem ap_snoc : ∀ (s : List Nat) (u c : Nat), ap u (s ++ [c]) = 3 * ap u s + 1 + c
  | [], _, _ => rfl
  | e :: s, u, c => ap_snoc s (3 * u + 1 + e) c
theorem rnw_ap (v : Nat) : ∀ (s : List Nat) (u : Nat), S3 s → acp v (rnw v (ap u s)) = asx v (rnw v u) s
  | [], _, _ => rfl
  | c :: s, u, h => by
    show acp v (rnw v (ap (3 * u + 1 + c) s)) = asx v (some (aft v (rnw v u) c)) s
    rw [rnw_ap v s _ (fun q hq => h q (List.mem_cons_of_mem _ hq)), rnw_s v u (h c List.mem_cons_self)]
theorem S3_snoc {s : List Nat} {c : Nat} (h : S3 s) (hc : c < 3) : S3 (s ++ [c]) := fun q hq => by
  rcases List.mem_append.mp hq with g | g
  · exact h q g
  · rw [List.mem_singleton.mp g]; exact hc
/-- what tells N apart behind a suffix tells an earlier one apart that was met -/
def cov (v1 v2 : Nat) (nm : Nat → Nat) (P N : Nat) : Prop := ∀ s, S3 s → asx v1 (rnw v1 N) s ≠ asx v2 (rnw v2 N) s → ∃ j, j < P ∧ nm j < N ∧ asx v1 (rnw v1 (nm j)) s ≠ asx v2 (rnw v2 (nm j)) s
theorem bf_dec {v1 v2 : Nat} {nm : Nat → Nat} {P B : Nat} (h0 : 0 < P) (hn0 : nm 0 = 0)
    (hc : ∀ i c, i < P → c < 3 → 3 * nm i + 1 + c < B → (∃ j, j < P ∧ nm j = 3 * nm i + 1 + c) ∨ cov v1 v2 nm P (3 * nm i + 1 + c)) :
    ∀ (f W : Nat), W ≤ f → W < B → (∃ j, j < P ∧ nm j = W) ∨ ∃ N s, S3 s ∧ W = ap N s ∧ cov v1 v2 nm P N
  | 0, W, hf, _ => Or.inl ⟨0, h0, by omega⟩
  | f + 1, W, hf, hW => by
    rcases Nat.eq_zero_or_pos W with c | c
    · exact Or.inl ⟨0, h0, by omega⟩
    · have e : W = 3 * ((W - 1) / 3) + 1 + (W - 1) % 3 := by omega
      rcases bf_dec h0 hn0 hc f ((W - 1) / 3) (by omega) (by omega) with ⟨i, hi, hn⟩ | ⟨N, s, hs, hN, hcv⟩
      · have e2 : W = 3 * nm i + 1 + (W - 1) % 3 := by rw [hn]; exact e
        rcases hc i ((W - 1) % 3) hi (by omega) (by omega) with ⟨j, hj, hnj⟩ | h
        · exact Or.inl ⟨j, hj, by rw [hnj]; exact e2.symm⟩
        · exact Or.inr ⟨3 * nm i + 1 + (W - 1) % 3, [], fun q hq => absurd hq List.not_mem_nil, e2, h⟩
      · exact Or.inr ⟨N, s ++ [(W - 1) % 3], S3_snoc hs (by omega), by rw [ap_snoc, ← hN]; exact e, hcv⟩
/-- no word before B tells them apart -/
theorem bf_none {v1 v2 : Nat} {nm : Nat → Nat} {P B : Nat} (h0 : 0 < P) (hn0 : nm 0 = 0)
    (hc : ∀ i c, i < P → c < 3 → 3 * nm i + 1 + c < B → (∃ j, j < P ∧ nm j = 3 * nm i + 1 + c) ∨ cov v1 v2 nm P (3 * nm i + 1 + c))
    (hg : ∀ j, j < P → nm j < B → ¬ bd v1 v2 (nm j)) : ∀ (f W : Nat), W ≤ f → W < B → ¬ bd v1 v2 W
  | f, W, hf, hW => fun hb => by
    rcases bf_dec h0 hn0 hc f W hf hW with ⟨j, hj, hn⟩ | ⟨N, s, hs, hN, hcv⟩
    · exact hg j hj (by omega) (by rw [hn]; exact hb)
    · have hb' : asx v1 (rnw v1 N) s ≠ asx v2 (rnw v2 N) s := by
        rw [← rnw_ap v1 s N hs, ← rnw_ap v2 s N hs, ← hN]; exact hb
      obtain ⟨j, hj, hlt, hne⟩ := hcv s hs hb'
      have hlt2 : ap (nm j) s < W := by rw [hN]; exact ap_lt s hlt
      cases f with
      | zero => omega
      | succ f =>
        refine bf_none h0 hn0 hc hg f (ap (nm j) s) (by omega) (by omega) ?_
        unfold bd
        rw [rnw_ap v1 s _ hs, rnw_ap v2 s _ hs]; exact hne
/-- the first word that tells them apart -/
def LB (v1 v2 M : Nat) : Prop := bd v1 v2 M ∧ ∀ W, W < M → ¬ bd v1 v2 W
theorem LB_uniq {v1 v2 M M' : Nat} (h : LB v1 v2 M) (h' : LB v1 v2 M') : M = M' := by
  rcases Nat.lt_trichotomy M M' with c | c | c
  · exact absurd h.1 (h'.2 M c)
  · exact c
  · exact absurd h'.1 (h.2 M' c)
noncomputable def lw (v1 v2 : Nat) : Option Nat := @dite (Option Nat) (∃ M, LB v1 v2 M) (Classical.propDecidable _) (fun h => some (Classical.choose h)) (fun _ => none)
theorem lw_some {v1 v2 M : Nat} (h : LB v1 v2 M) : lw v1 v2 = some M := by
  unfold lw
  rw [dif_pos ⟨M, h⟩]
  exact congrArg some (LB_uniq (Classical.choose_spec (⟨M, h⟩ : ∃ M, LB v1 v2 M)) h)
theorem lw_none {v1 v2 : Nat} (h : ∀ W, ¬ bd v1 v2 W) : lw v1 v2 = none := by
  unfold lw
  rw [dif_neg (fun ⟨M, hM⟩ => h M hM.1)]
/-! lengths and symbols of words -/
def wlF : Nat → Nat → Nat
  | 0, _ => 0
  | f + 1, N => if N = 0 then 0 else wlF f ((N - 1) / 3) + 1
def wl (N : Nat) : Nat := wlF N N
theorem wlF_eq : ∀ (f g N : Nat), N ≤ f → N ≤ g → wlF f N = wlF g N
  | 0, 0, _, _, _ => rfl
  | 0, g + 1, N, h, _ => by
    show 0 = (if N = 0 then 0 else _)
    rw [if_pos (by omega)]
  | f + 1, 0, N, _, h => by
    show (if N = 0 then 0 else _) = 0
    rw [if_pos (by omega)]
  | f + 1, g + 1, N, h1, h2 => by
    show (if N = 0 then 0 else _) = (if N = 0 then 0 else _)
    by_cases c : N = 0
    · rw [if_pos c, if_pos c]
    · rw [if_neg c, if_neg c, wlF_eq f g ((N - 1) / 3) (by omega) (by omega)]
theorem wl_0 : wl 0 = 0 := rfl
theorem wl_s (N : Nat) {c : Nat} (hc : c < 3) : wl (3 * N + 1 + c) = wl N + 1 := by
  unfold wl
  rw [show 3 * N + 1 + c = (3 * N + c) + 1 from by omega]
  show (if 3 * N + c + 1 = 0 then 0 else wlF (3 * N + c) ((3 * N + c + 1 - 1) / 3) + 1) = _
  rw [if_neg (by omega), show (3 * N + c + 1 - 1) / 3 = N from by omega, wlF_eq (3 * N + c) N N (by omega) (by omega)]
def wqF : Nat → Nat → Nat → Nat
  | 0, _, _ => 0
  | f + 1, N, k => if N = 0 then 0 else if k = wl ((N - 1) / 3) then (N - 1) % 3 else wqF f ((N - 1) / 3) k
def wq (N k : Nat) : Nat := wqF N N k
theorem wqF_eq : ∀ (f g N k : Nat), N ≤ f → N ≤ g → wqF f N k = wqF g N k
  | 0, 0, _, _, _, _ => rfl
  | 0, g + 1, N, k, h, _ => by
    show 0 = (if N = 0 then 0 else _)
    rw [if_pos (by omega)]
  | f + 1, 0, N, k, _, h => by
    show (if N = 0 then 0 else _) = 0
    rw [if_pos (by omega)]
  | f + 1, g + 1, N, k, h1, h2 => by
    show (if N = 0 then 0 else _) = (if N = 0 then 0 else _)
    by_cases c : N = 0
    · rw [if_pos c, if_pos c]
    · rw [if_neg c, if_neg c, wqF_eq f g ((N - 1) / 3) k (by omega) (by omega)]
theorem wq_s (N : Nat) {c : Nat} (hc : c < 3) (k : Nat) : wq (3 * N + 1 + c) k = if k = wl N then c else wq N k := by
  unfold wq
  rw [show 3 * N + 1 + c = (3 * N + c) + 1 from by omega]
  show (if 3 * N + c + 1 = 0 then 0 else if k = wl ((3 * N + c + 1 - 1) / 3) then (3 * N + c + 1 - 1) % 3 else wqF (3 * N + c) ((3 * N + c + 1 - 1) / 3) k) = _
  rw [if_neg (by omega), show (3 * N + c + 1 - 1) / 3 = N from by omega, show (3 * N + c + 1 - 1) % 3 = c from by omega, wqF_eq (3 * N + c) N N k (by omega) (by omega)]
theorem wl_le : ∀ (f N : Nat), N ≤ f → wl N ≤ N
  | 0, N, h => by rw [show N = 0 from by omega]; exact Nat.le_refl 0
  | f + 1, N, h => by
    rcases Nat.eq_zero_or_pos N with c | c
    · rw [c]; exact Nat.le_refl 0
    · have ih := wl_le f ((N - 1) / 3) (by omega)
      rw [show N = 3 * ((N - 1) / 3) + 1 + (N - 1) % 3 from by omega, wl_s _ (by omega)]
      omega
/-! the answers -/
noncomputable def aDL (x y : Int64) : Int32 := if okVb (xv x) = true ∧ okVb (xv y) = true then (match lw (xv x) (xv y) with | none => -9 | some M => nI (wl M)) else -1
noncomputable def aDS (x y : Int64) (i : Int32) : Int32 := if okVb (xv x) = true ∧ okVb (xv y) = true then (match lw (xv x) (xv y) with | none => -9 | some M => if rok i (wl M) = true then nI (wq M i.toInt.toNat) else -5) else -1
/-! chains of origins -/
def chn (fr sy nm : Nat → Nat) (P : Nat) : Prop := nm 0 = 0 ∧ ∀ p, 0 < p → p < P → fr p < p ∧ sy p < 3 ∧ nm p = 3 * nm (fr p) + 1 + sy p
theorem chn_wl {fr sy nm : Nat → Nat} {P : Nat} (h : chn fr sy nm P) : ∀ (f p : Nat), p ≤ f → p < P → wl (nm p) ≤ p
  | 0, p, hf, hp => by rw [show p = 0 from by omega, h.1]; exact Nat.le_refl 0
  | f + 1, p, hf, hp => by
    rcases Nat.eq_zero_or_pos p with c | c
    · rw [c, h.1]; exact Nat.le_refl 0
    · obtain ⟨h1, h2, h3⟩ := h.2 p c hp
      have ih := chn_wl h f (fr p) (by omega) (by omega)
      rw [h3, wl_s _ h2]; omega
theorem chn_pos {fr sy nm : Nat → Nat} {P p : Nat} (h : chn fr sy nm P) (h0 : 0 < p) (hp : p < P) : wl (nm p) = wl (nm (fr p)) + 1 := by
  obtain ⟨h1, h2, h3⟩ := h.2 p h0 hp
  rw [h3, wl_s _ h2]
theorem chn_q {fr sy nm : Nat → Nat} {P p : Nat} (h : chn fr sy nm P) (h0 : 0 < p) (hp : p < P) : wq (nm p) (wl (nm (fr p))) = sy p := by
  obtain ⟨h1, h2, h3⟩ := h.2 p h0 hp
  rw [h3, wq_s _ h2, if_pos rfl]
theorem chn_qn {fr sy nm : Nat → Nat} {P p k : Nat} (h : chn fr sy nm P) (h0 : 0 < p) (hp : p < P) (hk : k < wl (nm (fr p))) : wq (nm p) k = wq (nm (fr p)) k := by
  obtain ⟨h1, h2, h3⟩ := h.2 p h0 hp
  rw [h3, wq_s _ h2, if_neg (by omega)]
