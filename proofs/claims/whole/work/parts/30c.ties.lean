/-! the class's pairs and ties -/
def zc (m : Nat) : Option Nat := if m = 1 then none else some (m / 2)
theorem zc_cs (z : Option Nat) : zc (cs z) = z := by
  cases z with
  | none => rfl
  | some m => unfold zc; rw [if_neg (show cs (some m) ≠ 1 by show 2 * m ≠ 1; omega), show cs (some m) / 2 = m from by show 2 * m / 2 = m; omega]
/-- a key's word: the first automaton's sets come before the second's -/
def ka (v1 v2 k : Nat) (s : List Nat) : Bool := if k < 1024 then asx v1 (zc k) s else asx v2 (zc (k - 1024)) s
theorem ka_1 {v1 v2 : Nat} {z : Option Nat} (h : zok z) (s : List Nat) : ka v1 v2 (cs z) s = asx v1 z s := by
  unfold ka; rw [if_pos (cs_lt h), zc_cs]
theorem ka_2 {v1 v2 : Nat} (z : Option Nat) (s : List Nat) : ka v1 v2 (1024 + cs z) s = asx v2 z s := by
  unfold ka; rw [if_neg (by omega), show 1024 + cs z - 1024 = cs z from by omega, zc_cs]
def inK (k : Nat) : Bool := decide (k = 1 ∨ k = 1025 ∨ k % 2 = 0)
theorem inK_1 (z : Option Nat) : inK (cs z) = true ∧ inK (1024 + cs z) = true := by
  cases z with
  | none => exact ⟨by decide, by decide⟩
  | some m => exact ⟨decide_eq_true (by show 2 * m = 1 ∨ 2 * m = 1025 ∨ 2 * m % 2 = 0; omega), decide_eq_true (by show 1024 + 2 * m = 1 ∨ 1024 + 2 * m = 1025 ∨ (1024 + 2 * m) % 2 = 0; omega)⟩
set_option maxRecDepth 100000 in
theorem inK_cnt : fa_cnt inK 2048 = 1026 := by decide +kernel
/-- parents, roots, depths -/
def TS (ti : Nat → Int32) (pa : Nat → Option Nat) (rt dh : Nat → Nat) (P : Nat) : Prop :=
  ∀ k, k < 2048 → ti k = sI (pa k) ∧ rt k < 2048 ∧ pa (rt k) = none ∧ dh k ≤ P ∧ (pa k = none → rt k = k ∧ dh k = 0) ∧ (∀ p, pa k = some p → p < 2048 ∧ rt k = rt p ∧ dh k = dh p + 1)
def TI (v1 v2 : Nat) (ti : Nat → Int32) (nm : Nat → Nat) (P : Nat) (pa : Nat → Option Nat) (rt dh : Nat → Nat) : Prop :=
  TS ti pa rt dh P ∧ (∀ k, k < 2048 → pa k ≠ none → inK k = true) ∧ (∀ k, k < 2048 → inK k = true → inK (rt k) = true) ∧ fa_cnt (fun k => (pa k).isSome) 2048 = P ∧
  (∀ s, S3 s → (∀ j, j < P → asx v1 (rnw v1 (nm j)) s = asx v2 (rnw v2 (nm j)) s) → ∀ k, k < 2048 → ka v1 v2 k s = ka v1 v2 (rt k) s)
theorem TI_0 {v1 v2 : Nat} {ti : Nat → Int32} {nm : Nat → Nat} (h : ∀ k, k < 2048 → ti k = -9) : TI v1 v2 ti nm 0 (fun _ => none) (fun k => k) (fun _ => 0) :=
  ⟨fun k hk => ⟨h k hk, hk, rfl, Nat.le_refl 0, fun _ => ⟨rfl, rfl⟩, fun p hp => by cases hp⟩, fun k hk hp => absurd rfl hp, fun k hk hp => hp, cnt_false _ (fun k hk => rfl), fun s hs hj k hk => rfl⟩
theorem cnt_two {p q : Nat → Bool} {a b n : Nat} (h : ∀ k, k < n → p k = true → q k = true) (ha : a < n) (hb : b < n) (hab : a ≠ b) (qa : q a = true) (qb : q b = true) (pa : p a = false) (pb : p b = false) : fa_cnt p n + 2 ≤ fa_cnt q n := by
  have h1 := cnt_up (p := p) (q := fun k => if k = a then true else p k) (a := a) (if_pos rfl) pa (fun k hk => if_neg hk) n ha
  have h2 := cnt_up (p := fun k => if k = a then true else p k) (q := fun k => if k = b then true else if k = a then true else p k) (a := b) (if_pos rfl) ((if_neg (fun e => hab e.symm)).trans pb) (fun k hk => if_neg hk) n hb
  have h3 := cnt_imp (p := fun k => if k = b then true else if k = a then true else p k) (q := q) n (fun k hk hh => by
    by_cases e : k = b
    · rw [e]; exact qb
    · have hh : (if k = b then true else if k = a then true else p k) = true := hh
      rw [if_neg e] at hh
      by_cases e2 : k = a
      · rw [e2]; exact qa
      · rw [if_neg e2] at hh; exact h k hk hh)
  omega
theorem TI_lt {v1 v2 : Nat} {ti : Nat → Int32} {nm : Nat → Nat} {P : Nat} {pa : Nat → Option Nat} {rt dh : Nat → Nat} (h : TI v1 v2 ti nm P pa rt dh) {x y : Nat} (hx : x < 2048) (hy : y < 2048) (kx : inK x = true) (ky : inK y = true) (hne : rt x ≠ rt y) : P ≤ 1024 := by
  obtain ⟨h1, h2, h3, h4, h5⟩ := h
  have a := h1 x hx
  have b := h1 y hy
  have := cnt_two (p := fun k => (pa k).isSome) (q := inK) (a := rt x) (b := rt y) (n := 2048) (fun k hk hh => h2 k hk (fun e => by have hh : (pa k).isSome = true := hh; rw [e] at hh; cases hh)) a.2.1 b.2.1 hne (h3 x hx kx) (h3 y hy ky) (by show (pa (rt x)).isSome = false; rw [a.2.2.1]; rfl) (by show (pa (rt y)).isSome = false; rw [b.2.2.1]; rfl)
  rw [h4, inK_cnt] at this
  omega
theorem TI_cov {v1 v2 : Nat} {ti : Nat → Int32} {nm : Nat → Nat} {P : Nat} {pa : Nat → Option Nat} {rt dh : Nat → Nat} (h : TI v1 v2 ti nm P pa rt dh) {N : Nat} (hz1 : zok (rnw v1 N)) (hz2 : zok (rnw v2 N)) (he : rt (cs (rnw v1 N)) = rt (1024 + cs (rnw v2 N))) (hlt : ∀ j, j < P → nm j < N) : cov v1 v2 nm P N := by
  intro s hs hne
  by_cases hh : ∃ j, j < P ∧ asx v1 (rnw v1 (nm j)) s ≠ asx v2 (rnw v2 (nm j)) s
  · obtain ⟨j, hj, hn⟩ := hh
    exact ⟨j, hj, hlt j hj, hn⟩
  · exfalso
    have hag : ∀ j, j < P → asx v1 (rnw v1 (nm j)) s = asx v2 (rnw v2 (nm j)) s := fun j hj => Decidable.of_not_not (fun q => hh ⟨j, hj, q⟩)
    have c1 := cs_lt hz1
    have c2 := cs_lt hz2
    have e1 := h.2.2.2.2 s hs hag _ (show cs (rnw v1 N) < 2048 by omega)
    have e2 := h.2.2.2.2 s hs hag _ (show 1024 + cs (rnw v2 N) < 2048 by omega)
    rw [ka_1 hz1] at e1
    rw [ka_2] at e2
    exact hne (by rw [e1, e2, he])
theorem TI_new {v1 v2 : Nat} {ti : Nat → Int32} {nm : Nat → Nat} {P : Nat} {pa : Nat → Option Nat} {rt dh : Nat → Nat} (h : TI v1 v2 ti nm P pa rt dh) {N : Nat} (hz1 : zok (rnw v1 N)) (hz2 : zok (rnw v2 N)) (hne : rt (cs (rnw v1 N)) ≠ rt (1024 + cs (rnw v2 N))) :
    ∃ pa' rt' dh', TI v1 v2 (upd ti (rt (cs (rnw v1 N))) (nI (rt (1024 + cs (rnw v2 N))))) (up nm P N) (P + 1) pa' rt' dh' := by
  have c1 := cs_lt hz1
  have c2 := cs_lt hz2
  have hx : cs (rnw v1 N) < 2048 := by omega
  have hy : 1024 + cs (rnw v2 N) < 2048 := by omega
  have kx := (inK_1 (rnw v1 N)).1
  have ky := (inK_1 (rnw v2 N)).2
  obtain ⟨h1, h2, h3, h4, h5⟩ := h
  have hka : ∀ s, S3 s → (∀ j, j < P + 1 → asx v1 (rnw v1 (up nm P N j)) s = asx v2 (rnw v2 (up nm P N j)) s) → (∀ k, k < 2048 → ka v1 v2 k s = ka v1 v2 (rt k) s) ∧ ka v1 v2 (cs (rnw v1 N)) s = ka v1 v2 (1024 + cs (rnw v2 N)) s := fun s hs hj => by
    refine ⟨h5 s hs (fun j hj2 => by have := hj j (by omega); rw [up_n _ (by omega)] at this; exact this), ?_⟩
    have := hj P (by omega)
    rw [up_s] at this
    rw [ka_1 hz1, ka_2]; exact this
  generalize cs (rnw v1 N) = x at *
  generalize 1024 + cs (rnw v2 N) = y at *
  have ax := h1 x hx
  have ay := h1 y hy
  have rr : ∀ k, k < 2048 → rt (rt k) = rt k := fun k hk => ((h1 (rt k) (h1 k hk).2.1).2.2.2.2.1 (h1 k hk).2.2.1).1
  refine ⟨fun k => if k = rt x then some (rt y) else pa k, fun k => if rt k = rt x then rt y else rt k, fun k => if rt k = rt x then dh k + 1 else dh k, fun k hk => ?_, fun k hk hp => ?_, fun k hk hp => ?_, ?_, fun s hs hj k hk => ?_⟩
  · obtain ⟨b1, b2, b3, b4, b5, b6⟩ := h1 k hk
    dsimp only
    by_cases e : k = rt x
    · have ek : rt k = rt x := by rw [e]; exact rr x hx
      have er : rt (rt y) = rt y := rr y hy
      have ed : dh k = 0 := (b5 (by rw [e]; exact ax.2.2.1)).2
      have ed2 : dh (rt y) = 0 := ((h1 (rt y) ay.2.1).2.2.2.2.1 ay.2.2.1).2
      rw [if_pos e, if_pos ek, if_pos ek, e, upd_s9]
      refine ⟨rfl, ay.2.1, by rw [if_neg (fun q => hne q.symm)]; exact ay.2.2.1, by rw [← e]; omega, fun q => (by cases q), fun p hp => ?_⟩
      cases hp
      refine ⟨ay.2.1, ?_, ?_⟩
      · rw [er, if_neg (fun q => hne q.symm)]
      · rw [er, if_neg (fun q => hne q.symm), ← e]; omega
    · rw [if_neg e, upd_n9 _ e]
      by_cases f : rt k = rt x
      · rw [if_pos f, if_pos f]
        refine ⟨b1, ay.2.1, by rw [if_neg (fun q => hne q.symm)]; exact ay.2.2.1, by omega, fun q => ?_, fun p hp => ?_⟩
        · exact absurd ((b5 q).1.symm.trans f) e
        · obtain ⟨d1, d2, d3⟩ := b6 p hp
          refine ⟨d1, ?_, ?_⟩
          · rw [← d2, if_pos f]
          · rw [← d2, if_pos f, d3]
      · rw [if_neg f, if_neg f, if_neg f]
        refine ⟨b1, b2, b3, by omega, b5, fun p hp => ?_⟩
        obtain ⟨d1, d2, d3⟩ := b6 p hp
        refine ⟨d1, ?_, ?_⟩
        · rw [← d2, if_neg f]
        · rw [← d2, if_neg f, d3]
  · have hp : (if k = rt x then some (rt y) else pa k) ≠ none := hp
    by_cases e : k = rt x
    · rw [e]; exact h3 x hx kx
    · rw [if_neg e] at hp; exact h2 k hk hp
  · show inK (if rt k = rt x then rt y else rt k) = true
    split
    · exact h3 y hy ky
    · exact h3 k hk hp
  · rw [cnt_up (p := fun k => (pa k).isSome) (q := fun k => (if k = rt x then some (rt y) else pa k).isSome) (a := rt x) (by rw [if_pos rfl]; rfl) (by rw [ax.2.2.1]; rfl) (fun k hk => by rw [if_neg hk]) 2048 ax.2.1, h4]
  · obtain ⟨g1, g2⟩ := hka s hs hj
    show _ = ka v1 v2 (if rt k = rt x then rt y else rt k) s
    split
    · rename_i f
      rw [g1 k hk, f, ← g1 x hx, g2, g1 y hy]
    · exact g1 k hk
/-- the pairs met, when the words behind the pairs before pl are looked at, and behind pl those with the first c symbols; none tells apart -/
def CQ (v1 v2 : Nat) (ti : Nat → Int32) (fs ss og sy : Nat → Nat) (P pl c : Nat) (nm : Nat → Nat) (pa : Nat → Option Nat) (rt dh : Nat → Nat) : Prop :=
  0 < P ∧ P ≤ 1025 ∧ chn og sy nm P ∧ (∀ j, j < P → fs j = cs (rnw v1 (nm j)) ∧ ss j = cs (rnw v2 (nm j))) ∧
  (∀ p q, p < q → q < P → nm p < nm q) ∧
  (∀ i d, i < P → d < 3 → (i < pl ∨ (i = pl ∧ d < c)) → (∃ j, j < P ∧ nm j = 3 * nm i + 1 + d) ∨ cov v1 v2 nm P (3 * nm i + 1 + d)) ∧
  (pl < P → ∀ p, p < P → nm p ≤ 3 * nm pl + c) ∧ (∀ j, j < P → ¬ bd v1 v2 (nm j)) ∧ TI v1 v2 ti nm P pa rt dh
/-- a pair was met that tells apart: its word is the first -/
def CF (v1 v2 : Nat) (og sy : Nat → Nat) (P : Nat) (te : Int32) : Prop := ∃ t nm, te = nI t ∧ t < P ∧ P ≤ 1025 ∧ chn og sy nm P ∧ LB v1 v2 (nm t)
theorem chn_up {og sy nm : Nat → Nat} {P o c N : Nat} (h : chn og sy nm P) (ho : o < P) (hc : c < 3) (hN : N = 3 * nm o + 1 + c) : chn (up og P o) (up sy P c) (up nm P N) (P + 1) := by
  refine ⟨by rw [up_n _ (by omega)]; exact h.1, fun p p0 p1 => ?_⟩
  by_cases e : p = P
  · subst e; rw [up_s, up_s, up_s, up_n _ (by omega)]; exact ⟨ho, hc, hN⟩
  · obtain ⟨h1, h2, h3⟩ := h.2 p p0 (by omega)
    rw [up_n _ e, up_n _ e, up_n _ e, up_n _ (by omega)]
    exact ⟨h1, h2, h3⟩
theorem cov_up {v1 v2 : Nat} {nm : Nat → Nat} {P N M : Nat} (h : cov v1 v2 nm P N) : cov v1 v2 (up nm P M) (P + 1) N := fun s hs hne => by
  obtain ⟨j, h1, h2, h3⟩ := h s hs hne
  exact ⟨j, by omega, by rw [up_n _ (by omega)]; exact h2, by rw [up_n _ (by omega)]; exact h3⟩
theorem CQ_old {v1 v2 : Nat} {ti : Nat → Int32} {fs ss og sy : Nat → Nat} {P pl c : Nat} {nm : Nat → Nat} {pa : Nat → Option Nat} {rt dh : Nat → Nat} (hv1 : okVb v1 = true) (hv2 : okVb v2 = true) (h : CQ v1 v2 ti fs ss og sy P pl c nm pa rt dh) (hp : pl < P) (hc : c < 3) (he : rt (cs (rnw v1 (3 * nm pl + 1 + c))) = rt (1024 + cs (rnw v2 (3 * nm pl + 1 + c)))) : CQ v1 v2 ti fs ss og sy P pl (c + 1) nm pa rt dh := by
  obtain ⟨h1, h2, h3, h4, h5, h6, h7, h8, h9⟩ := h
  refine ⟨h1, h2, h3, h4, h5, fun i d hi hd hh => ?_, fun hq p hp2 => by have := h7 hq p hp2; omega, h8, h9⟩
  by_cases e : i < pl ∨ (i = pl ∧ d < c)
  · exact h6 i d hi hd e
  · have e1 : i = pl := by omega
    have e2 : d = c := by omega
    subst e1; subst e2
    exact Or.inr (TI_cov h9 (rnw_ok hv1 _) (rnw_ok hv2 _) he (fun j hj => by have := h7 hp j hj; omega))
theorem CQ_new {v1 v2 : Nat} {ti : Nat → Int32} {fs ss og sy : Nat → Nat} {P pl c : Nat} {nm : Nat → Nat} {pa : Nat → Option Nat} {rt dh : Nat → Nat} (hv1 : okVb v1 = true) (hv2 : okVb v2 = true) (h : CQ v1 v2 ti fs ss og sy P pl c nm pa rt dh) (hp : pl < P) (hc : c < 3) (hne : rt (cs (rnw v1 (3 * nm pl + 1 + c))) ≠ rt (1024 + cs (rnw v2 (3 * nm pl + 1 + c)))) (hb : ¬ bd v1 v2 (3 * nm pl + 1 + c)) :
    ∃ nm' pa' rt' dh', CQ v1 v2 (upd ti (rt (cs (rnw v1 (3 * nm pl + 1 + c)))) (nI (rt (1024 + cs (rnw v2 (3 * nm pl + 1 + c)))))) (up fs P (cs (rnw v1 (3 * nm pl + 1 + c)))) (up ss P (cs (rnw v2 (3 * nm pl + 1 + c)))) (up og P pl) (up sy P c) (P + 1) pl (c + 1) nm' pa' rt' dh' := by
  obtain ⟨h1, h2, h3, h4, h5, h6, h7, h8, h9⟩ := h
  have k1 := cs_lt (rnw_ok hv1 (3 * nm pl + 1 + c))
  have k2 := cs_lt (rnw_ok hv2 (3 * nm pl + 1 + c))
  have hP := TI_lt h9 (show cs (rnw v1 (3 * nm pl + 1 + c)) < 2048 by omega) (show 1024 + cs (rnw v2 (3 * nm pl + 1 + c)) < 2048 by omega) (inK_1 _).1 (inK_1 _).2 hne
  obtain ⟨pa', rt', dh', h9'⟩ := TI_new h9 (rnw_ok hv1 _) (rnw_ok hv2 _) hne
  have hle := h7 hp
  refine ⟨up nm P (3 * nm pl + 1 + c), pa', rt', dh', by omega, by omega, chn_up h3 hp hc rfl, fun j hj => ?_, fun p q g1 g2 => ?_, fun i d hi hd hh => ?_, fun hq p hp2 => ?_, fun j hj => ?_, h9'⟩
  · by_cases e : j = P
    · rw [e, up_s, up_s, up_s]; exact ⟨rfl, rfl⟩
    · rw [up_n _ e, up_n _ e, up_n _ e]; exact h4 j (by omega)
  · rw [up_n nm (show p ≠ P by omega)]
    by_cases e : q = P
    · rw [e, up_s]; have := hle p (by omega); omega
    · rw [up_n _ e]; exact h5 p q g1 (by omega)
  · rw [up_n nm (show i ≠ P by omega)]
    by_cases e : i < pl ∨ (i = pl ∧ d < c)
    · rcases h6 i d (by omega) hd e with ⟨j, j1, j2⟩ | g
      · exact Or.inl ⟨j, by omega, by rw [up_n _ (by omega)]; exact j2⟩
      · exact Or.inr (cov_up g)
    · have e1 : i = pl := by omega
      have e2 : d = c := by omega
      subst e1; subst e2
      exact Or.inl ⟨P, by omega, by rw [up_s]⟩
  · rw [up_n nm (show pl ≠ P by omega)]
    by_cases e : p = P
    · rw [e, up_s]; omega
    · rw [up_n _ e]; have := hle p (by omega); omega
  · by_cases e : j = P
    · rw [e, up_s]; exact hb
    · rw [up_n _ e]; exact h8 j (by omega)
theorem CQ_inv {v1 v2 : Nat} {ti : Nat → Int32} {fs ss og sy : Nat → Nat} {P pl c : Nat} {nm : Nat → Nat} {pa : Nat → Option Nat} {rt dh : Nat → Nat} (h : CQ v1 v2 ti fs ss og sy P pl c nm pa rt dh) {i j : Nat} (hi : i < P) (hj : j < P) (hn : nm i < nm j) : i < j := by
  have h5 := h.2.2.2.2.1
  rcases Nat.lt_trichotomy i j with g | g | g
  · exact g
  · subst g; omega
  · have := h5 j i g hi; omega
theorem CQ_CF {v1 v2 : Nat} {ti : Nat → Int32} {fs ss og sy : Nat → Nat} {P pl c : Nat} {nm : Nat → Nat} {pa : Nat → Option Nat} {rt dh : Nat → Nat} (hv1 : okVb v1 = true) (hv2 : okVb v2 = true) (h : CQ v1 v2 ti fs ss og sy P pl c nm pa rt dh) (hp : pl < P) (hc : c < 3) (hne : rt (cs (rnw v1 (3 * nm pl + 1 + c))) ≠ rt (1024 + cs (rnw v2 (3 * nm pl + 1 + c)))) (hb : bd v1 v2 (3 * nm pl + 1 + c)) :
    CF v1 v2 (up og P pl) (up sy P c) (P + 1) (nI P) := by
  have hr := h
  obtain ⟨h1, h2, h3, h4, h5, h6, h7, h8, h9⟩ := h
  have k1 := cs_lt (rnw_ok hv1 (3 * nm pl + 1 + c))
  have k2 := cs_lt (rnw_ok hv2 (3 * nm pl + 1 + c))
  have hP := TI_lt h9 (show cs (rnw v1 (3 * nm pl + 1 + c)) < 2048 by omega) (show 1024 + cs (rnw v2 (3 * nm pl + 1 + c)) < 2048 by omega) (inK_1 _).1 (inK_1 _).2 hne
  refine ⟨P, up nm P (3 * nm pl + 1 + c), rfl, by omega, by omega, chn_up h3 hp hc rfl, ?_⟩
  rw [up_s]
  refine ⟨hb, fun W hW => bf_none (P := P) (B := 3 * nm pl + 1 + c) h1 h3.1 (fun i d hi hd hlt => ?_) (fun j hj hlt => h8 j hj) W W (Nat.le_refl W) hW⟩
  refine h6 i d hi hd ?_
  rcases Nat.lt_trichotomy i pl with g | g | g
  · exact Or.inl g
  · subst g; exact Or.inr ⟨rfl, by omega⟩
  · have := h5 pl i g hi; omega
theorem CQ_next {v1 v2 : Nat} {ti : Nat → Int32} {fs ss og sy : Nat → Nat} {P pl : Nat} {nm : Nat → Nat} {pa : Nat → Option Nat} {rt dh : Nat → Nat} (h : CQ v1 v2 ti fs ss og sy P pl 3 nm pa rt dh) (hp : pl < P) : CQ v1 v2 ti fs ss og sy P (pl + 1) 0 nm pa rt dh := by
  obtain ⟨h1, h2, h3, h4, h5, h6, h7, h8, h9⟩ := h
  refine ⟨h1, h2, h3, h4, h5, fun i d hi hd hh => h6 i d hi hd (by omega), fun hq p hp2 => ?_, h8, h9⟩
  have := h7 hp p hp2
  have := h5 pl (pl + 1) (by omega) hq
  omega
theorem CQ_none {v1 v2 : Nat} {ti : Nat → Int32} {fs ss og sy : Nat → Nat} {P pl : Nat} {nm : Nat → Nat} {pa : Nat → Option Nat} {rt dh : Nat → Nat} (h : CQ v1 v2 ti fs ss og sy P pl 0 nm pa rt dh) (hp : P ≤ pl) : ∀ W, ¬ bd v1 v2 W := by
  obtain ⟨h1, h2, h3, h4, h5, h6, h7, h8, h9⟩ := h
  exact fun W => bf_none (P := P) (B := W + 1) h1 h3.1 (fun i d hi hd hlt => h6 i d hi hd (Or.inl (by omega))) (fun j hj hlt => h8 j hj) W W (Nat.le_refl W) (by omega)
/-- the start -/
theorem CQ_0 {v1 v2 : Nat} {ti : Nat → Int32} {fs ss og sy : Nat → Nat} (h : ∀ k, k < 2048 → ti k = -9) (hb : ¬ bd v1 v2 0) : ∃ nm pa rt dh, CQ v1 v2 (upd ti 1 (nI 1025)) (up fs 0 1) (up ss 0 1) og sy 1 0 0 nm pa rt dh := by
  obtain ⟨pa', rt', dh', h9⟩ := TI_new (TI_0 (v1 := v1) (v2 := v2) (nm := fun _ => 0) h) (N := 0) zok_n zok_n (show (1 : Nat) ≠ 1024 + 1 by decide)
  have e : up (fun _ => 0) 0 0 = fun _ => 0 := by funext k; unfold up; split <;> rfl
  rw [e] at h9
  exact ⟨fun _ => 0, pa', rt', dh', by omega, by omega, ⟨rfl, fun p p0 p1 => absurd p1 (by omega)⟩, fun j hj => by rw [show j = 0 from by omega, up_s, up_s]; exact ⟨rfl, rfl⟩, fun p q g1 g2 => absurd g2 (by omega), fun i d hi hd hh => absurd hh (by omega), fun _ p _ => Nat.zero_le _, fun j hj => hb, h9⟩
theorem CF_0 {v1 v2 : Nat} {og sy : Nat → Nat} (hb : bd v1 v2 0) : CF v1 v2 og sy 1 (nI 0) := ⟨0, fun _ => 0, rfl, by omega, by omega, ⟨rfl, fun p p0 p1 => absurd p1 (by omega)⟩, hb, fun W hW => absurd hW (Nat.not_lt_zero W)⟩
theorem CF_n9 {v1 v2 : Nat} {og sy : Nat → Nat} {P : Nat} {te : Int32} (h : CF v1 v2 og sy P te) : ¬ te = -9 := by
  obtain ⟨t, nm, h1, h2, h3, _⟩ := h
  rw [h1]; exact nI_n9 (by omega)
theorem pN_eqb (a b : Bool) : pN (a = true) = pN (b = true) ↔ a = b := by cases a <;> cases b <;> decide
theorem TS_root {ti : Nat → Int32} {pa : Nat → Option Nat} {rt dh : Nat → Nat} {P k : Nat} (h : TS ti pa rt dh P) (hk : k < 2048) (hl : ti k < 0) : rt k = k := by
  have a := h k hk
  cases e : pa k with
  | none => exact (a.2.2.2.2.1 e).1
  | some p =>
    have b := a.2.2.2.2.2 p e
    rw [a.1, e] at hl
    exact absurd hl (nI_n0 (by omega))
theorem TS_par {ti : Nat → Int32} {pa : Nat → Option Nat} {rt dh : Nat → Nat} {P k : Nat} (h : TS ti pa rt dh P) (hk : k < 2048) (hl : ¬ ti k < 0) : ∃ p, ti k = nI p ∧ p < 2048 ∧ rt k = rt p ∧ dh k = dh p + 1 := by
  have a := h k hk
  cases e : pa k with
  | none => rw [a.1, e] at hl; exact absurd (by decide) hl
  | some p =>
    have b := a.2.2.2.2.2 p e
    exact ⟨p, by rw [a.1, e]; rfl, b⟩
