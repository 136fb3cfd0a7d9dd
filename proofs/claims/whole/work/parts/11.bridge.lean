/-! the rules, as the reference has them: digits d, ends E; the digits that are written -/
def sb (d E : Nat → Nat) (a : Nat) : List Nat := sub d a (E a)
def isP (d E : Nat → Nat) (a : Nat) (f : Bool) : Bool :=
  if d a = 7 then (if f then decide (d (a + 1) = 8) && smD d E (a + 1 + 1) (E (a + 1)) else decide (d (E (a + 1)) = 8) && smD d E (E (a + 1) + 1) (a + 1)) else false
def plO (E : Nat → Nat) (a : Nat) (f : Bool) : Nat := if f then E (a + 1) else a + 1
def rEP (d E : Nat → Nat) (l r : Nat) : Option (List Nat) :=
  if d l = 2 ∧ isP d E r false = true then some (8 :: sb d E (plO E r false))
  else if d l = 2 ∧ isP d E r true = true then some (8 :: sb d E (plO E r true))
  else if d r = 2 ∧ isP d E l false = true then some (8 :: sb d E (plO E l false))
  else if d r = 2 ∧ isP d E l true = true then some (8 :: sb d E (plO E l true))
  else none
def rAb (d E : Nat → Nat) (l r : Nat) : Option (List Nat) :=
  if d r ≠ 6 then none else if smD d E l (r + 1) = true then some (sb d E r) else if smD d E l (E (r + 1)) = true then some (6 :: (sb d E l ++ sb d E (r + 1))) else none
def rU (d E : Nat → Nat) (rule l r : Nat) : Option (List Nat) :=
  match rule with
  | 0 => if d l = 1 then some (sb d E r) else if d r = 1 then some (sb d E l) else none
  | 4 => if smD d E l r = true then some (sb d E l) else none
  | 8 => if d l = 2 ∧ d r = 8 then some (sb d E r) else if d l = 8 ∧ d r = 2 then some (sb d E l) else none
  | 9 => if d r = 8 ∧ smD d E l (r + 1) = true then some (sb d E r) else if d l = 8 ∧ smD d E (l + 1) r = true then some (sb d E l) else none
  | 10 => if (d l = 7 ∧ d r = 7) ∧ smD d E (l + 1) (r + 1) = true then some (7 :: (sb d E (l + 1) ++ (6 :: (sb d E (E (l + 1)) ++ sb d E (E (r + 1)))))) else none
  | 11 => if (d l = 7 ∧ d r = 7) ∧ smD d E (E (l + 1)) (E (r + 1)) = true then some (7 :: ((6 :: (sb d E (l + 1) ++ sb d E (r + 1))) ++ sb d E (E (l + 1)))) else none
  | 12 => rEP d E l r
  | 15 => rAb d E l r
  | _ => none
def rCt (d E : Nat → Nat) (rule l r : Nat) : Option (List Nat) :=
  match rule with
  | 1 => if d l = 1 ∨ d r = 1 then some [1] else none
  | 2 => if d l = 2 then some (sb d E r) else if d r = 2 then some (sb d E l) else none
  | 7 => if d l = 8 ∧ smD d E l r = true then some (sb d E l) else none
  | _ => none
def rS (d E : Nat → Nat) (rule x : Nat) : Option (List Nat) :=
  match rule with
  | 3 => if d x ≤ 2 then some [2] else none
  | 5 => if d x = 8 then some (sb d E x) else none
  | 6 => if d x = 6 then (if d (x + 1) = 2 then some (8 :: sb d E (E (x + 1))) else if d (E (x + 1)) = 2 then some (8 :: sb d E (x + 1)) else none) else none
  | 13 => if d x = 6 then (if d (x + 1) = 8 then some (8 :: 6 :: (sb d E (x + 1 + 1) ++ sb d E (E (x + 1)))) else if d (E (x + 1)) = 8 then some (8 :: 6 :: (sb d E (x + 1) ++ sb d E (E (x + 1) + 1))) else none) else none
  | 14 => if (d x = 7 ∧ d (x + 1) = 8) ∧ d (E (x + 1)) = 8 then some (8 :: 6 :: (sb d E (x + 1 + 1) ++ sb d E (E (x + 1) + 1))) else none
  | _ => none
/-- what the reference writes for rule at p -/
def rR (d E : Nat → Nat) (rule p : Nat) : Option (List Nat) :=
  if d p < 6 then none else if d p = 8 then rS d E rule (p + 1) else if d p = 6 then rU d E rule (p + 1) (E (p + 1)) else rCt d E rule (p + 1) (E (p + 1))
def cdO (o : Option (List Nat)) : Nat := match o with
  | none => 0
  | some l => num l
/-- a tree whose codes are the numbers of its parts -/
def TN (d E c : Nat → Nat) (n : Nat) : Prop := TV d E n ∧ ∀ j, j < n → c j = num (sb d E j)
section BR
variable {d E c : Nat → Nat} {n : Nat}
theorem TN.VL (h : TN d E c n) {j : Nat} (hj : j < n) : VL (sb d E j) := h.1.VL hj
theorem TN.len (h : TN d E c n) {j : Nat} (hj : j < n) : (sb d E j).length = E j - j := sub_len d j (E j)
theorem TN.C (h : TN d E c n) {j : Nat} (hj : j < n) : kA c n j = num (sb d E j) := by unfold kA; rw [if_pos hj]; exact h.2 j hj
theorem TN.tc (h : TN d E c n) : TC d E c n := ⟨h.1, fun j hj => by rw [h.2 j hj, ← h.len hj]; exact num_sz (h.VL hj).d8 (h.VL hj).ne⟩
theorem TN.K (h : TN d E c n) {j : Nat} (hj : j < n) : kA d n j = d j := by unfold kA; rw [if_pos hj]
theorem sb_leaf (h : TN d E c n) {j : Nat} (hj : j < n) (h5 : d j ≤ 5) : sb d E j = [d j] := by
  unfold sb; rw [(h.1.2.2.2 j hj).2.2.2.2.1 h5, sub_one]
theorem TN.leaf (h : TN d E c n) {j u : Nat} (hj : j < n) (hu : u = 1 ∨ u = 2) : kA c n j = u ↔ d j = u := by
  rw [h.C hj]
  constructor
  · intro e
    have h1 : num [u] = u := by simp [num]
    have h2 : D8 [u] := D8_cons.mpr ⟨by omega, fun x hx => by cases hx⟩
    have h3 := num_inj (h.VL hj).d8 h2 (e.trans h1.symm)
    have h4 : sb d E j = d j :: sub d (j + 1) (E j) := sub_cons d (h.1.q hj).2.2.1
    rw [h4] at h3
    exact (List.cons.inj h3).1
  · intro e
    rw [sb_leaf h hj (by omega), e]
    simp [num]
theorem smD_sb {a b : Nat} : smD d E a b = true ↔ sb d E a = sb d E b := by
  rw [smD_iff]
  unfold sb
  constructor
  · rintro ⟨h1, h2⟩
    apply List.ext_getElem?
    intro i
    rcases Nat.lt_or_ge i (E a - a) with q | q
    · rw [sub_get d q, sub_get d (by omega), h2 i q]
    · rw [List.getElem?_eq_none (by rw [sub_len]; exact q), List.getElem?_eq_none (by rw [sub_len]; omega)]
  · intro e
    have hl : E a - a = E b - b := by rw [← sub_len d a (E a), ← sub_len d b (E b), e]
    refine ⟨hl, fun k hk => ?_⟩
    have h1 := sub_get d hk
    rw [e, sub_get d (show k < E b - b by omega)] at h1
    exact (Option.some.inj h1).symm
theorem TN.same (h : TN d E c n) {a b : Nat} (ha : a < n) (hb : b < n) : kA c n a = kA c n b ↔ smD d E a b = true := by
  rw [h.C ha, h.C hb, smD_sb]
  exact ⟨fun e => num_inj (h.VL ha).d8 (h.VL hb).d8 e, fun e => by rw [e]⟩
theorem TN.S (h : TN d E c n) {j : Nat} (hj : j < n) : sA d c n j = if d j = 8 then kA c n (j + 1) else 0 := by
  unfold sA
  by_cases h8 : d j = 8
  · have h1 := ((h.1.2.2.2 j hj).2.2.2.2.2.1 h8).1
    rw [if_pos ⟨h1, h8⟩, if_pos h8]; unfold kA; rw [if_pos h1]
  · rw [if_neg (fun q => h8 q.2), if_neg h8]
theorem num_un {a b : List Nat} (ha : VL a) (hb : VL b) (hl : a.length + b.length ≤ 18) : un (num a) (num b) = num (6 :: (a ++ b)) := by
  unfold un
  rw [da_num ha.d8 ha.ne (by omega), da_num hb.d8 hb.ne (by omega), num_cons, num_app, List.length_append, Nat.pow_add, Nat.add_mul, Nat.mul_assoc]
  omega
theorem num_ct {a b : List Nat} (ha : VL a) (hb : VL b) (hl : a.length + b.length ≤ 18) : ct (num a) (num b) = num (7 :: (a ++ b)) := by
  unfold ct
  rw [da_num ha.d8 ha.ne (by omega), da_num hb.d8 hb.ne (by omega), num_cons, num_app, List.length_append, Nat.pow_add, Nat.add_mul, Nat.mul_assoc]
  omega
theorem num_st {a : List Nat} (ha : VL a) (hl : a.length ≤ 18) : stc (num a) = num (8 :: a) := by
  unfold stc
  rw [da_num ha.d8 ha.ne hl, num_cons]
theorem TN.two (h : TN d E c n) {o : Nat} (ho : o < n) (hk : d o = 6 ∨ d o = 7) : o + 1 < n ∧ rA E n o = E (o + 1) ∧ E (o + 1) < n ∧ o + 1 < E (o + 1) ∧ E o = E (E (o + 1)) ∧ E (o + 1) < E o ∧ E o ≤ n := by
  have := h.tc.two (show kA d n o = 6 ∨ kA d n o = 7 by rw [h.K ho]; exact hk)
  exact this.2
theorem TN.one (h : TN d E c n) {o : Nat} (ho : o < n) (hk : d o = 8) : o + 1 < n ∧ E o = E (o + 1) ∧ o + 1 < E (o + 1) ∧ E (o + 1) ≤ n := by
  have := h.tc.one (show kA d n o = 8 by rw [h.K ho]; exact hk)
  exact ⟨this.2.1, this.2.2.1, this.2.2.2.2.1, this.2.2.2.2.2⟩
theorem TN.S0 (h : TN d E c n) {a b : Nat} (ha : a < n) (hb : b < n) : sA d c n a = kA c n b ↔ d a = 8 ∧ smD d E (a + 1) b = true := by
  rw [h.S ha]
  by_cases h8 : d a = 8
  · rw [if_pos h8]
    have h1 := (h.one ha h8).1
    exact ⟨fun e => ⟨h8, (h.same h1 hb).mp e⟩, fun e => (h.same h1 hb).mpr e.2⟩
  · rw [if_neg h8]
    have := sz_pos (h.tc.szc hb)
    exact ⟨fun e => by omega, fun e => absurd e.1 h8⟩
theorem smD_comm {a b : Nat} : smD d E a b = true ↔ smD d E b a = true := by rw [smD_sb, smD_sb]; exact eq_comm
theorem TN.bs (h : TN d E c n) {l r : Nat} (hl : l < n) (hr : r < n) : mBS (kA c n) (sA d c n) l r = cdO (if d r = 8 ∧ smD d E (r + 1) l = true then some (sb d E r) else if d l = 8 ∧ smD d E (l + 1) r = true then some (sb d E l) else none) := by
  unfold mBS
  by_cases c1 : d r = 8 ∧ smD d E (r + 1) l = true
  · rw [if_pos ((h.S0 hr hl).mpr c1), if_pos c1, h.C hr]; rfl
  · rw [if_neg (fun q => c1 ((h.S0 hr hl).mp q)), if_neg c1]
    by_cases c2 : d l = 8 ∧ smD d E (l + 1) r = true
    · rw [if_pos ((h.S0 hl hr).mpr c2), if_pos c2, h.C hl]; rfl
    · rw [if_neg (fun q => c2 ((h.S0 hl hr).mp q)), if_neg c2]; rfl
end BR
