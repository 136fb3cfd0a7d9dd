/-! the reference's counterparts -/
theorem AR_keep {v w : Nat} {fol wsy fol2 wsy2 : Nat → Nat} {isN isN2 : Nat → Bool} {fiO laO fiO2 laO2 : Nat → Nat} (h : AR v w fol wsy isN fiO laO)
    (k : (∀ p, p < 9 → fol2 (9 * w + p) = fol (9 * w + p)) ∧ (∀ c, c < 3 → wsy2 (3 * w + c) = wsy (3 * w + c)) ∧ isN2 w = isN w ∧ fiO2 w = fiO w ∧ laO2 w = laO w) : AR v w fol2 wsy2 isN2 fiO2 laO2 :=
  ⟨fun p hp => (k.1 p hp).trans (h.1 p hp), fun c hc => (k.2.1 c hc).trans (h.2.1 c hc), k.2.2.1.trans h.2.2.1, k.2.2.2.1.trans h.2.2.2.1, k.2.2.2.2.trans h.2.2.2.2⟩
theorem RQ_nb {v1 v2 : Nat} {sn qu cf : Nat → Nat} {cmp que pl sy : Nat} {nm : Nat → Nat} (h : RQ v1 v2 sn qu cf cmp que pl sy nm) (hg : ∀ j, j < pl → ¬ bd v1 v2 (nm j)) (hp : pl < que) (hb : ¬ (acp v1 (qA qu pl) ≠ acp v2 (qB qu pl))) : ∀ j, j < pl + 1 → ¬ bd v1 v2 (nm j) := fun j hj => by
  by_cases e : j = pl
  · rw [e]; exact fun q => hb ((RQ_bd h hp).mp q)
  · exact hg j (by omega)
theorem rok_w {ix : Int32} {d m : Nat} (hd : d = m) (hm : m ≤ 512) : (nI 0 ≤ ix ∧ ix ≤ nI d - nI 1) ↔ rok ix m = true := by
  subst hd
  rcases Nat.eq_zero_or_pos d with c | c
  · subst c
    have e : nI 0 - nI 1 = (-1 : Int32) := by decide
    have e1 : (-1 : Int32).toInt = -1 := by decide
    unfold rok
    rw [decide_eq_true_iff, fa_le, fa_le, nI_toInt (by omega), e, e1]
    omega
  · have e : nI d - nI 1 = nI (d - 1) := nI_dec1 c
    rw [e]; exact rok_le c (by omega)
