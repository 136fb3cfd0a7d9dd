/-! counting -/
theorem cnt_sub1 {p q : Nat → Bool} {n : Nat} (h : ∀ k, k < n → p k = true → q k = true ∨ (∀ k', k' < n → p k' = true → q k' = false → k' = k)) : fa_cnt p n ≤ fa_cnt q n + 1 := by
  by_cases c : ∃ a, a < n ∧ p a = true ∧ q a = false
  · obtain ⟨a, ha, hp, hq⟩ := c
    have h1 := cnt_up (p := q) (q := fun k => if k = a then true else q k) (a := a) (if_pos rfl) hq (fun k hk => if_neg hk) n ha
    have h2 := cnt_imp (p := p) (q := fun k => if k = a then true else q k) n (fun k hk hpk => by
      by_cases e : k = a
      · exact if_pos e
      · show (if k = a then true else q k) = true
        rw [if_neg e]
        rcases h k hk hpk with g | g
        · exact g
        · exact absurd (g a ha hp hq).symm e)
    omega
  · have := cnt_imp (p := p) (q := q) n (fun k hk hpk => by
      cases e : q k with
      | true => rfl
      | false => exact absurd ⟨k, hk, hpk, e⟩ c)
    omega
/-- at most J, if each of J kinds has at most one -/
theorem cnt_cover {n : Nat} : ∀ (J : Nat) {p : Nat → Bool} {q : Nat → Nat → Prop}, (∀ k, k < n → p k = true → ∃ j, j < J ∧ q j k) → (∀ j k k', q j k → q j k' → k = k') → fa_cnt p n ≤ J
  | 0, p, q, h, _ => by
    rw [cnt_false n (fun k hk => by
      cases e : p k with
      | false => rfl
      | true => obtain ⟨j, hj, _⟩ := h k hk e; omega)]
    exact Nat.le_refl 0
  | J + 1, p, q, h, u => by
    have ih := cnt_cover J (p := fun k => p k && !(@decide (q J k) (Classical.propDecidable _))) (q := q) (n := n) (fun k hk hp => by
      have hp : (p k && !(@decide (q J k) (Classical.propDecidable _))) = true := hp
      rw [Bool.and_eq_true] at hp
      obtain ⟨j, hj, hq⟩ := h k hk hp.1
      refine ⟨j, ?_, hq⟩
      rcases Nat.eq_or_lt_of_le (Nat.le_of_lt_succ hj) with c | c
      · subst c
        have : @decide (q j k) (Classical.propDecidable _) = true := @decide_eq_true _ (Classical.propDecidable _) hq
        rw [this] at hp; exact absurd hp.2 (by decide)
      · exact c) u
    have h2 := cnt_sub1 (p := p) (q := fun k => p k && !(@decide (q J k) (Classical.propDecidable _))) (n := n) (fun k hk hp => by
      by_cases c : q J k
      · right
        intro k' hk' hp' hq'
        have hq' : (p k' && !(@decide (q J k') (Classical.propDecidable _))) = false := hq'
        rw [hp', Bool.true_and] at hq'
        have h3 : @decide (q J k') (Classical.propDecidable _) = true := by
          cases e : @decide (q J k') (Classical.propDecidable _) with
          | true => rfl
          | false => rw [e] at hq'; exact absurd hq' (by decide)
        exact u J k' k (@of_decide_eq_true _ (Classical.propDecidable _) h3) c
      · left
        show (p k && !(@decide (q J k) (Classical.propDecidable _))) = true
        rw [hp, @decide_eq_false _ (Classical.propDecidable _) c]; rfl)
    omega
theorem cnt_add (p : Nat → Bool) (a : Nat) : ∀ b, fa_cnt p (a + b) = fa_cnt p a + fa_cnt (fun k => p (a + k)) b
  | 0 => rfl
  | b + 1 => by
    have ih := cnt_add p a b
    show fa_cnt p (a + b) + (if p (a + b) = true then 1 else 0) = fa_cnt p a + (fa_cnt (fun k => p (a + k)) b + (if p (a + b) = true then 1 else 0))
    rw [ih]; omega
theorem cnt_or (p q r : Nat → Bool) : ∀ n, (∀ k, k < n → p k = true → q k = true ∨ r k = true) → fa_cnt p n ≤ fa_cnt q n + fa_cnt r n
  | 0, _ => Nat.le_refl 0
  | n + 1, h => by
    have ih := cnt_or p q r n (fun k hk => h k (by omega))
    have h1 := h n (by omega)
    show fa_cnt p n + (if p n = true then 1 else 0) ≤ fa_cnt q n + (if q n = true then 1 else 0) + (fa_cnt r n + (if r n = true then 1 else 0))
    by_cases c : p n = true
    · rw [if_pos c]
      rcases h1 c with g | g
      · rw [if_pos g]; omega
      · rw [if_pos g]; split <;> omega
    · rw [if_neg c]; omega
theorem cnt_eq {p q : Nat → Bool} : ∀ n, (∀ i, i < n → p i = true → q i = true) → fa_cnt p n = fa_cnt q n → ∀ i, i < n → p i = q i
  | 0, _, _ => fun i hi => absurd hi (by omega)
  | n + 1, h, he => fun i hi => by
    have hle := cnt_imp n (fun k hk => h k (by omega))
    have h1 := h n (by omega)
    have he : fa_cnt p n + (if p n = true then 1 else 0) = fa_cnt q n + (if q n = true then 1 else 0) := he
    have hb : p n = q n ∧ fa_cnt p n = fa_cnt q n := by
      by_cases c : p n = true
      · rw [if_pos c, if_pos (h1 c)] at he
        exact ⟨by rw [c, h1 c], by omega⟩
      · rw [if_neg c] at he
        by_cases g : q n = true
        · rw [if_pos g] at he; omega
        · rw [if_neg g] at he
          exact ⟨by rw [Bool.eq_false_iff.mpr c, Bool.eq_false_iff.mpr g], by omega⟩
    rcases Nat.eq_or_lt_of_le (Nat.le_of_lt_succ hi) with c | c
    · rw [c]; exact hb.1
    · exact cnt_eq n (fun k hk => h k (by omega)) hb.2 i c
/-! independent pairs are fewer than the keys -/
theorem indep {K : Nat → Bool} {n m : Nat} {x y : Nat → Nat} {F : Nat → Nat → Bool} (hx : ∀ i, i < m → x i < n ∧ K (x i) = true) (hy : ∀ i, i < m → y i < n ∧ K (y i) = true) (hne : ∀ i, i < m → F i (x i) ≠ F i (y i)) (heq : ∀ i j, j < i → i < m → F i (x j) = F i (y j)) :
    ∀ t, t ≤ m → ∃ lab : Nat → Nat, (∀ k, k < n → K k = true → lab k < n ∧ K (lab k) = true ∧ lab (lab k) = lab k) ∧ fa_cnt (fun k => K k && decide (lab k = k)) n + t = fa_cnt K n ∧ (∀ G : Nat → Bool, (∀ j, j < t → G (x j) = G (y j)) → ∀ k, k < n → K k = true → G k = G (lab k))
  | 0, _ => ⟨fun k => k, fun k hk hK => ⟨hk, hK, rfl⟩, by rw [Nat.add_zero]; exact fa_cnt_cong (fun k hk => by simp), fun G _ k _ _ => rfl⟩
  | t + 1, ht => by
    obtain ⟨lab, h1, h2, h3⟩ := indep hx hy hne heq t (by omega)
    obtain ⟨xa, xk⟩ := hx t (by omega)
    obtain ⟨ya, yk⟩ := hy t (by omega)
    obtain ⟨a1, a2, a3⟩ := h1 (x t) xa xk
    obtain ⟨b1, b2, b3⟩ := h1 (y t) ya yk
    have hab : lab (x t) ≠ lab (y t) := fun e => by
      have g := h3 (F t) (fun j hj => heq t j hj (by omega))
      exact hne t (by omega) (by rw [g _ xa xk, g _ ya yk, e])
    refine ⟨fun k => if lab k = lab (x t) then lab (y t) else lab k, fun k hk hK => ?_, ?_, fun G hG k hk hK => ?_⟩
    · obtain ⟨c1, c2, c3⟩ := h1 k hk hK
      dsimp only
      by_cases e : lab k = lab (x t)
      · rw [if_pos e]
        refine ⟨b1, b2, ?_⟩
        rw [b3, if_neg (fun q => hab q.symm)]
      · rw [if_neg e]
        refine ⟨c1, c2, ?_⟩
        rw [c3, if_neg e]
    · have hc := cnt_up (p := fun k => K k && decide ((if lab k = lab (x t) then lab (y t) else lab k) = k)) (q := fun k => K k && decide (lab k = k)) (a := lab (x t)) (by rw [a2, a3]; simp) (by rw [a2, a3, if_pos rfl, Bool.true_and]; exact decide_eq_false (fun q => hab q.symm)) (fun k hk => ?_) n a1
      · show fa_cnt (fun k => K k && decide ((if lab k = lab (x t) then lab (y t) else lab k) = k)) n + (t + 1) = fa_cnt K n
        omega
      · by_cases hK : K k = true
        · by_cases hkn : lab k = lab (x t)
          · rw [if_pos hkn, hkn, decide_eq_false (fun q => hk q.symm)]
            by_cases g : lab (y t) = k
            · exfalso
              rw [← g, b3] at hkn
              exact hab hkn.symm
            · rw [decide_eq_false g]
          · rw [if_neg hkn]
        · rw [Bool.eq_false_iff.mpr hK]; rfl
    · have g := h3 G (fun j hj => hG j (by omega))
      have gt := hG t (by omega)
      show G k = G (if lab k = lab (x t) then lab (y t) else lab k)
      split
      · rename_i e
        rw [g k hk hK, e, ← g _ xa xk, gt, g _ ya yk]
      · exact g k hk hK
theorem indep_lt {K : Nat → Bool} {n m : Nat} {x y : Nat → Nat} {F : Nat → Nat → Bool} (h0 : 0 < m) (hx : ∀ i, i < m → x i < n ∧ K (x i) = true) (hy : ∀ i, i < m → y i < n ∧ K (y i) = true) (hne : ∀ i, i < m → F i (x i) ≠ F i (y i)) (heq : ∀ i j, j < i → i < m → F i (x j) = F i (y j)) : m + 1 ≤ fa_cnt K n := by
  obtain ⟨lab, h1, h2, h3⟩ := indep hx hy hne heq m (Nat.le_refl m)
  obtain ⟨xa, xk⟩ := hx 0 h0
  obtain ⟨a1, a2, a3⟩ := h1 (x 0) xa xk
  have hpos : 1 ≤ fa_cnt (fun k => K k && decide (lab k = k)) n := by
    have := cnt_up (p := fun _ => false) (q := fun k => decide (k = lab (x 0))) (a := lab (x 0)) (decide_eq_true rfl) rfl (fun k hk => decide_eq_false hk) n a1
    have h5 := cnt_imp (p := fun k => decide (k = lab (x 0))) (q := fun k => K k && decide (lab k = k)) n (fun k hk hh => by
      have e : k = lab (x 0) := of_decide_eq_true hh
      rw [e, a2, a3]; simp)
    omega
  omega
/-! the ancestors of a word -/
def anc : Nat → Nat → Nat
  | 0, M => M
  | k + 1, M => (anc k M - 1) / 3
def sfx : Nat → Nat → List Nat
  | 0, _ => []
  | k + 1, M => (anc k M - 1) % 3 :: sfx k M
theorem anc_wl : ∀ (k M : Nat), k ≤ wl M → wl (anc k M) = wl M - k
  | 0, M, _ => rfl
  | k + 1, M, h => by
    have ih := anc_wl k M (by omega)
    have h0 : 0 < anc k M := by
      rcases Nat.eq_zero_or_pos (anc k M) with c | c
      · rw [c, wl_0] at ih; omega
      · exact c
    have e : anc k M = 3 * ((anc k M - 1) / 3) + 1 + (anc k M - 1) % 3 := by omega
    rw [e, wl_s _ (by omega)] at ih
    show wl ((anc k M - 1) / 3) = _
    omega
theorem anc_pos {k M : Nat} (h : k < wl M) : 0 < anc k M := by
  have := anc_wl k M (by omega)
  rcases Nat.eq_zero_or_pos (anc k M) with c | c
  · rw [c, wl_0] at this; omega
  · exact c
theorem anc_sfx : ∀ (k M : Nat), k ≤ wl M → M = ap (anc k M) (sfx k M) ∧ S3 (sfx k M)
  | 0, M, _ => ⟨rfl, fun q hq => absurd hq List.not_mem_nil⟩
  | k + 1, M, h => by
    obtain ⟨h1, h2⟩ := anc_sfx k M (by omega)
    have h0 := anc_pos (show k < wl M by omega)
    refine ⟨?_, fun q hq => ?_⟩
    · show M = ap (3 * ((anc k M - 1) / 3) + 1 + (anc k M - 1) % 3) (sfx k M)
      rw [show 3 * ((anc k M - 1) / 3) + 1 + (anc k M - 1) % 3 = anc k M from by omega]; exact h1
    · rcases List.mem_cons.mp hq with g | g
      · rw [g]; omega
      · exact h2 q g
theorem anc_lt {M : Nat} : ∀ (a b : Nat), a < b → b ≤ wl M → anc b M < anc a M
  | a, 0, h, _ => absurd h (by omega)
  | a, b + 1, h, hb => by
    have h0 := anc_pos (show b < wl M by omega)
    have h1 : anc (b + 1) M < anc b M := by show (anc b M - 1) / 3 < anc b M; omega
    rcases Nat.eq_or_lt_of_le (Nat.le_of_lt_succ h) with c | c
    · rw [c]; exact h1
    · have := anc_lt (M := M) a b c (by omega); omega
theorem asx_0 (v : Nat) : ∀ s, asx v (some 0) s = false
  | [] => by show decide (0 &&& auL v ≠ 0) = false; rw [Nat.zero_and]; rfl
  | c :: s => by
    have e : aft v (some 0) c = 0 := by show oF (auT v) 0 9 &&& _ = 0; rw [oF_0, Nat.zero_and]
    show asx v (some (aft v (some 0) c)) s = false
    rw [e]; exact asx_0 v s
/-- the sets that are reached, with the empty one -/
noncomputable def rSe (v k : Nat) : Bool := @decide (k = 0 ∨ ∃ N, 0 < N ∧ rnw v N = some k) (Classical.propDecidable _)
theorem rSe_0 (v : Nat) : rSe v 0 = true := @decide_eq_true _ (Classical.propDecidable _) (Or.inl rfl)
theorem rSe_N {v N k : Nat} (h0 : 0 < N) (h : rnw v N = some k) : rSe v k = true := @decide_eq_true _ (Classical.propDecidable _) (Or.inr ⟨N, h0, h⟩)
theorem rSe_of {v k : Nat} (h : rSe v k = true) : k = 0 ∨ ∃ N, 0 < N ∧ rnw v N = some k := @of_decide_eq_true _ (Classical.propDecidable _) h
def ms (z : Option Nat) : Nat := match z with | none => 0 | some m => m
theorem rnw_ms {v N : Nat} (h : 0 < N) : rnw v N = some (ms (rnw v N)) := by
  rw [show N = 3 * ((N - 1) / 3) + 1 + (N - 1) % 3 from by omega, rnw_s _ _ (by omega)]; rfl
def kf (v1 v2 k : Nat) (s : List Nat) : Bool := if k < 512 then asx v1 (some k) s else asx v2 (some (k - 512)) s
def yk (m : Nat) : Nat := if m = 0 then 0 else 512 + m
theorem LB_cnt {v1 v2 M : Nat} (h1 : okVb v1 = true) (h2 : okVb v2 = true) (h : LB v1 v2 M) (k1 : fa_cnt (rSe v1) 512 ≤ 257) (k2 : fa_cnt (rSe v2) 512 ≤ 257) : wl M ≤ 512 := by
  rcases Nat.eq_zero_or_pos (wl M) with c | c
  · omega
  · have hcnt : fa_cnt (fun k => if k < 512 then rSe v1 k else (rSe v2 (k - 512) && decide (k ≠ 512))) (512 + 512) ≤ 513 := by
      rw [cnt_add]
      have e1 : fa_cnt (fun k => if k < 512 then rSe v1 k else (rSe v2 (k - 512) && decide (k ≠ 512))) 512 = fa_cnt (rSe v1) 512 := fa_cnt_cong (fun k hk => if_pos hk)
      have e2 : fa_cnt (fun k => (fun k => if k < 512 then rSe v1 k else (rSe v2 (k - 512) && decide (k ≠ 512))) (512 + k)) 512 = fa_cnt (fun k => rSe v2 k && decide (k ≠ 0)) 512 := fa_cnt_cong (fun k hk => by
        show (if 512 + k < 512 then rSe v1 (512 + k) else (rSe v2 (512 + k - 512) && decide (512 + k ≠ 512))) = _
        rw [if_neg (by omega), show 512 + k - 512 = k from by omega]
        by_cases e : k = 0
        · rw [e]; rfl
        · rw [decide_eq_true (show 512 + k ≠ 512 by omega), decide_eq_true e])
      have e3 := cnt_up (p := fun k => rSe v2 k && decide (k ≠ 0)) (q := rSe v2) (a := 0) (rSe_0 v2) (by rw [decide_eq_false (fun q => q rfl), Bool.and_false]) (fun k hk => by rw [decide_eq_true hk, Bool.and_true]) 512 (by omega)
      rw [e1, e2]; omega
    have key : ∀ i, i < wl M → 0 < anc (wl M - (i + 1)) M ∧ M = ap (anc (wl M - (i + 1)) M) (sfx (wl M - (i + 1)) M) ∧ S3 (sfx (wl M - (i + 1)) M) := fun i hi => ⟨anc_pos (by omega), anc_sfx _ M (by omega)⟩
    have hF : ∀ i j, i < wl M → j < wl M → asx v1 (rnw v1 (anc (wl M - (j + 1)) M)) (sfx (wl M - (i + 1)) M) = kf v1 v2 (ms (rnw v1 (anc (wl M - (j + 1)) M))) (sfx (wl M - (i + 1)) M) := fun i j hi hj => by
      have g := rnw_ms (v := v1) (key j hj).1
      have gl := rnw_ok h1 _ _ g
      unfold kf
      rw [if_pos gl, ← g]
    have hG : ∀ i j, i < wl M → j < wl M → asx v2 (rnw v2 (anc (wl M - (j + 1)) M)) (sfx (wl M - (i + 1)) M) = kf v1 v2 (yk (ms (rnw v2 (anc (wl M - (j + 1)) M)))) (sfx (wl M - (i + 1)) M) := fun i j hi hj => by
      have g := rnw_ms (v := v2) (key j hj).1
      unfold kf yk
      by_cases e : ms (rnw v2 (anc (wl M - (j + 1)) M)) = 0
      · rw [if_pos e, if_pos (by omega), asx_0, g, e, asx_0]
      · rw [if_neg e, if_neg (by omega), show 512 + ms (rnw v2 (anc (wl M - (j + 1)) M)) - 512 = ms (rnw v2 (anc (wl M - (j + 1)) M)) from by omega, ← g]
    have := indep_lt (K := fun k => if k < 512 then rSe v1 k else (rSe v2 (k - 512) && decide (k ≠ 512))) (n := 512 + 512) (m := wl M) (x := fun i => ms (rnw v1 (anc (wl M - (i + 1)) M))) (y := fun i => yk (ms (rnw v2 (anc (wl M - (i + 1)) M))))
      (F := fun i k => kf v1 v2 k (sfx (wl M - (i + 1)) M)) c
      (fun i hi => by
        have g := rnw_ms (v := v1) (key i hi).1
        have gl := rnw_ok h1 _ _ g
        refine ⟨by omega, ?_⟩
        show (if ms (rnw v1 (anc (wl M - (i + 1)) M)) < 512 then _ else _) = true
        rw [if_pos gl]; exact rSe_N (key i hi).1 g)
      (fun i hi => by
        have g := rnw_ms (v := v2) (key i hi).1
        have gl := rnw_ok h2 _ _ g
        unfold yk
        by_cases e : ms (rnw v2 (anc (wl M - (i + 1)) M)) = 0
        · rw [if_pos e]; exact ⟨by omega, by rw [if_pos (by omega)]; exact rSe_0 v1⟩
        · rw [if_neg e]
          refine ⟨by omega, ?_⟩
          rw [if_neg (by omega), show 512 + ms (rnw v2 (anc (wl M - (i + 1)) M)) - 512 = ms (rnw v2 (anc (wl M - (i + 1)) M)) from by omega, rSe_N (key i hi).1 g, decide_eq_true (by omega)]; rfl)
      (fun i hi => by
        show kf v1 v2 (ms (rnw v1 (anc (wl M - (i + 1)) M))) (sfx (wl M - (i + 1)) M) ≠ kf v1 v2 (yk (ms (rnw v2 (anc (wl M - (i + 1)) M)))) (sfx (wl M - (i + 1)) M)
        rw [← hF i i hi hi, ← hG i i hi hi, ← rnw_ap v1 _ _ (key i hi).2.2, ← rnw_ap v2 _ _ (key i hi).2.2, ← (key i hi).2.1]
        exact h.1)
      (fun i j hij hi => by
        have hj : j < wl M := by omega
        show kf v1 v2 (ms (rnw v1 (anc (wl M - (j + 1)) M))) (sfx (wl M - (i + 1)) M) = kf v1 v2 (yk (ms (rnw v2 (anc (wl M - (j + 1)) M)))) (sfx (wl M - (i + 1)) M)
        rw [← hF i j hi hj, ← hG i j hi hj, ← rnw_ap v1 _ _ (key i hi).2.2, ← rnw_ap v2 _ _ (key i hi).2.2]
        have hlt : ap (anc (wl M - (j + 1)) M) (sfx (wl M - (i + 1)) M) < M := by
          have g1 := ap_lt (sfx (wl M - (i + 1)) M) (anc_lt (M := M) (wl M - (i + 1)) (wl M - (j + 1)) (by omega) (by omega))
          rw [← (key i hi).2.1] at g1; exact g1
        exact Decidable.of_not_not (h.2 _ hlt))
    omega
