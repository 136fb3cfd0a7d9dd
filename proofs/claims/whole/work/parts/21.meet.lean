/-! both: meeting an expression in the search; the answer of the class -/
set_option maxHeartbeats 4000000 in
set_option maxRecDepth 100000 in
theorem c_X5_meet (l : Launch) (D : va_G) (cI cL cZ : ClassId) (sz : Nat) (hsr : Nat) (as1 : Nat → Nat) (mt : Nat → Nat) (ds : Nat → Nat) (cn : Nat) (v : Nat) (d : Nat) (hcn : cn ≤ 60) (hmt : ∀ i, i < cn → mt i < 2 ^ 63) (hv : v < 2 ^ 63) : Met l yX5_meet wsX5_meet { frames := 0, cells := 0, slots := 0, locals := 0 } (mP D (tyL cI cL cZ) [(hsr, .inr (3, oS as1 cn)), (as1 1, .inl (cL, 60, .inr (.inl (lA mt)))), (as1 2, .inl (cI, 60, .inl (nA ds)))] sz [.ref hsr, .long (lN v), .int (nI d)]) (va_Qi (fun (r : Int32) (u : (Nat → Nat) × (Nat → Nat) × Nat) => r = (nI (pN (mtO mt cn v = true))) ∧ (u.1 = mtM mt cn v ∧ u.2.1 = mtD mt ds cn v d ∧ u.2.2 = mtC mt cn v)) (fun (u : (Nat → Nat) × (Nat → Nat) × Nat) (t : State) => mB D (tyL cI cL cZ) (va_A [(hsr, .inr (3, oS as1 cn)), (as1 1, .inl (cL, 60, .inr (.inl (lA mt)))), (as1 2, .inl (cI, 60, .inl (nA ds)))] sz) [(hsr, .inr (3, oS as1 (u.2.2))), (as1 1, .inl (cL, 60, .inr (.inl (lA (u.1))))), (as1 2, .inl (cI, 60, .inl (nA (u.2.1))))] t) (va_A [(hsr, .inr (3, oS as1 cn)), (as1 1, .inl (cL, 60, .inr (.inl (lA mt)))), (as1 2, .inl (cI, 60, .inl (nA ds)))] sz)) 0 0 (va_A [(hsr, .inr (3, oS as1 cn)), (as1 1, .inl (cL, 60, .inr (.inl (lA mt)))), (as1 2, .inl (cI, 60, .inl (nA ds)))] sz) := by
  refine Met.ofW (cc := cX5_meet) (maxL := 5) (ret := (some .boolean)) (by decide) rfl ?_
  intro pG eG s mG args below meth cG s₁ B hml hpre9
  obtain ⟨rfl, hsz, hP, hK, hD0⟩ := hpre9
  have hx := B.exec
  have hb := B.bytes
  have hr := B.returns
  have hts := atoms_spec (ws := wsX5_meet) B.pre
  have hown : s.vm.findClass RX5 = some mG.cls := findClass_of_methodNamed B.named
  have hlocks := B.notSynchronized
  subst hsz
  have hD := hD0.self (sz := s.heap.size)
  have hA : ∀ q : Nat, s.heap.size ≤ q → va_A [(hsr, .inr (3, oS as1 cn)), (as1 1, .inl (cL, 60, .inr (.inl (lA mt)))), (as1 2, .inl (cI, 60, .inl (nA ds)))] s.heap.size q := fun q h => Or.inr h
  have hS : va_S (va_A [(hsr, .inr (3, oS as1 cn)), (as1 1, .inl (cL, 60, .inr (.inl (lA mt)))), (as1 2, .inl (cI, 60, .inl (nA ds)))] s.heap.size) s.heap s.heap [] := va_S.rf
  have hinX5 : ∀ w ∈ wsX50, w ∈ wsX5_meet := fun w HH => (List.mem_cons_of_mem _ (List.mem_append_right _ HH))
  have lk0 : (Cond.fieldLink RX5 26 "RegexSimplifier$Search" "count" "I").before _ s = true := hts _ (List.mem_cons_of_mem _ (List.mem_append_left _ (List.mem_of_getElem? (i := 0) rfl)))
  have lk1 : (Cond.fieldLink RX5 18 "RegexSimplifier$Search" "met" "[J").before _ s = true := hts _ (List.mem_cons_of_mem _ (List.mem_append_left _ (List.mem_of_getElem? (i := 1) rfl)))
  have lk2 : (Cond.fieldLink RX5 22 "RegexSimplifier$Search" "distances" "[I").before _ s = true := hts _ (List.mem_cons_of_mem _ (List.mem_append_left _ (List.mem_of_getElem? (i := 2) rfl)))
  have hl := lv_entry ([.ref hsr, .long (lN v), .int (nI d)]) (n := 5) (Nat.le_of_ble_eq_true rfl)
  rw [lg_entry_eq]
  generalize (lg_sl ([.ref hsr, .long (lN v), .int (nI d)]) ++ List.replicate (5 - (lg_sl ([.ref hsr, .long (lN v), .int (nI d)])).length) Slot.unset).toArray = ls at hl ⊢
  have hl : lv_has ls 5 [(0, .ref hsr), (1, .long (lN v)), (3, .int (nI d))] := hl
  refine lv_iconst (pc := 0) (v := (nI (0))) hx hb dX5_meet_0 (by decide) ?_
  refine lv_istore (pc := 1) (lv' := [(4, .int (nI 0)), (0, .ref hsr), (1, .long (lN v)), (3, .int (nI d))]) hx hb dX5_meet_1 hl (by decide) rfl (fun ls hl => ?_)
  have loop3 : ∀ (fuel : Nat) (k : Nat) (ls : Array Slot) (H : Heap) (locs : List Loc), cn - k < fuel → (k ≤ cn) → (∀ j, j < k → mt j ≠ v) → lv_has ls 5 [(0, .ref hsr), (1, .long (lN v)), (3, .int (nI d)), (4, .int (nI k))] → va_P D vwCl [(hsr, .inr (3, oS as1 cn)), (as1 1, .inl (cL, 60, .inr (.inl (lA mt)))), (as1 2, .inl (cI, 60, .inl (nA ds)))] H → va_D (va_A [(hsr, .inr (3, oS as1 cn)), (as1 1, .inl (cL, 60, .inr (.inl (lA mt)))), (as1 2, .inl (cI, 60, .inl (nA ds)))] s.heap.size) [(hsr, .inr (3, oS as1 cn)), (as1 1, .inl (cL, 60, .inr (.inl (lA mt)))), (as1 2, .inl (cI, 60, .inl (nA ds)))] → va_S (va_A [(hsr, .inr (3, oS as1 cn)), (as1 1, .inl (cL, 60, .inr (.inl (lA mt)))), (as1 2, .inl (cI, 60, .inl (nA ds)))] s.heap.size) s.heap H locs → W pG l eG (headSpec wsX5_meet { frames := 0, cells := 0, slots := 0, locals := 0 }).room s mG [.ref hsr, .long (lN v), .int (nI d)].toArray below meth cG H locs 0 0 (MQ below (va_Qi (fun (r : Int32) (u : (Nat → Nat) × (Nat → Nat) × Nat) => r = (nI (pN (mtO mt cn v = true))) ∧ (u.1 = mtM mt cn v ∧ u.2.1 = mtD mt ds cn v d ∧ u.2.2 = mtC mt cn v)) (fun (u : (Nat → Nat) × (Nat → Nat) × Nat) (t : State) => mB D (tyL cI cL cZ) (va_A [(hsr, .inr (3, oS as1 cn)), (as1 1, .inl (cL, 60, .inr (.inl (lA mt)))), (as1 2, .inl (cI, 60, .inl (nA ds)))] s.heap.size) [(hsr, .inr (3, oS as1 (u.2.2))), (as1 1, .inl (cL, 60, .inr (.inl (lA (u.1))))), (as1 2, .inl (cI, 60, .inl (nA (u.2.1))))] t) (va_A [(hsr, .inr (3, oS as1 cn)), (as1 1, .inl (cL, 60, .inr (.inl (lA mt)))), (as1 2, .inl (cI, 60, .inl (nA ds)))] s.heap.size)) [.ref hsr, .long (lN v), .int (nI d)].toArray s 0 0 (va_A [(hsr, .inr (3, oS as1 cn)), (as1 1, .inl (cL, 60, .inr (.inl (lA mt)))), (as1 2, .inl (cI, 60, .inl (nA ds)))] s.heap.size)) (F0 mG 3 ls []) := by
    intro fuel
    induction fuel with
    | zero => intro k ls H locs hmeas i1 i2 hl hP hD hS; exact absurd hmeas (Nat.not_lt_zero _)
    | succ fuel ih3 =>
      intro k ls H locs hmeas i1 i2 hl hP hD hS
      refine lv_iload (pc := 3) hx hb dX5_meet_3 (lv_at hl 3 rfl) ?_
      refine lv_aload_n (pc := 5) hx hb dX5_meet_5 rfl (lv_at hl 0 rfl) ?_
      refine va_get (pc := 6) (D := D) (ci := 3) (v := .int (nI cn)) (C := RX5) (T := TX5) (N := 4) hx hb hts hinX5 hown hK hP 0 rfl rfl 3 (by decide) lk0 (fun _ h9 => h9) rfl dX5_meet_6 ?_
      refine xn_icmp_ge (pc := 9) (tgt := 39) hx hb (by omega) (by omega) dX5_meet_9 (by decide) (fun c9 => ?_) (fun c9 => ?_)
      · have hno : ¬ fnd mt cn v = true := fnd_no (fun i hi => i2 i (by omega))
        refine lv_aload_n (pc := 39) hx hb dX5_meet_39 rfl (lv_at hl 0 rfl) ?_
        refine va_get (pc := 40) (D := D) (ci := 3) (v := .int (nI cn)) (C := RX5) (T := TX5) (N := 4) hx hb hts hinX5 hown hK hP 0 rfl rfl 3 (by decide) lk0 (fun _ h9 => h9) rfl dX5_meet_40 ?_
        refine lv_bipush (pc := 43) (v := (nI (60))) hx hb dX5_meet_43 (by decide) ?_
        refine xn_icmp_lt (pc := 45) (tgt := 50) hx hb (by omega) (by omega) dX5_meet_45 (by decide) (fun c45 => ?_) (fun c45 => ?_)
        · refine lv_aload_n (pc := 50) hx hb dX5_meet_50 rfl (lv_at hl 0 rfl) ?_
          refine va_get (pc := 51) (D := D) (ci := 3) (v := .ref (as1 1)) (C := RX5) (T := TX5) (N := 4) hx hb hts hinX5 hown hK hP 0 rfl rfl 1 (by decide) lk1 (fun _ h9 => h9) rfl dX5_meet_51 ?_
          refine lv_aload_n (pc := 54) hx hb dX5_meet_54 rfl (lv_at hl 0 rfl) ?_
          refine va_get (pc := 55) (D := D) (ci := 3) (v := .int (nI cn)) (C := RX5) (T := TX5) (N := 4) hx hb hts hinX5 hown hK hP 0 rfl rfl 3 (by decide) lk0 (fun _ h9 => h9) rfl dX5_meet_55 ?_
          refine lv_lload_n (pc := 58) hx hb dX5_meet_58 rfl (lv_at hl 1 rfl) ?_
          refine xa_last (pc := 59) hx hb hK hP hD hS 1 1 rfl rfl (by omega) (by omega) dX5_meet_59 (fun H locs hP hD hS => ?_)
          have hP : va_P D vwCl [(hsr, .inr (3, oS as1 cn)), (as1 1, .inl (cL, 60, .inr (.inl (lA (up mt cn v))))), (as1 2, .inl (cI, 60, .inl (nA ds)))] H := hP
          have hD : va_D _ [(hsr, .inr (3, oS as1 cn)), (as1 1, .inl (cL, 60, .inr (.inl (lA (up mt cn v))))), (as1 2, .inl (cI, 60, .inl (nA ds)))] := hD
          refine lv_aload_n (pc := 60) hx hb dX5_meet_60 rfl (lv_at hl 0 rfl) ?_
          refine va_get (pc := 61) (D := D) (ci := 3) (v := .ref (as1 2)) (C := RX5) (T := TX5) (N := 4) hx hb hts hinX5 hown hK hP 0 rfl rfl 2 (by decide) lk2 (fun _ h9 => h9) rfl dX5_meet_61 ?_
          refine lv_aload_n (pc := 64) hx hb dX5_meet_64 rfl (lv_at hl 0 rfl) ?_
          refine va_get (pc := 65) (D := D) (ci := 3) (v := .int (nI cn)) (C := RX5) (T := TX5) (N := 4) hx hb hts hinX5 hown hK hP 0 rfl rfl 3 (by decide) lk0 (fun _ h9 => h9) rfl dX5_meet_65 ?_
          refine lv_iload_n (pc := 68) hx hb dX5_meet_68 rfl (lv_at hl 2 rfl) ?_
          refine xa_iast (pc := 69) hx hb hK hP hD hS 2 0 rfl rfl (by omega) (by omega) dX5_meet_69 (fun H locs hP hD hS => ?_)
          have hP : va_P D vwCl [(hsr, .inr (3, oS as1 cn)), (as1 1, .inl (cL, 60, .inr (.inl (lA (up mt cn v))))), (as1 2, .inl (cI, 60, .inl (nA (up ds cn d))))] H := hP
          have hD : va_D _ [(hsr, .inr (3, oS as1 cn)), (as1 1, .inl (cL, 60, .inr (.inl (lA (up mt cn v))))), (as1 2, .inl (cI, 60, .inl (nA (up ds cn d))))] := hD
          refine lv_aload_n (pc := 70) hx hb dX5_meet_70 rfl (lv_at hl 0 rfl) ?_
          refine lv_dup (pc := 71) hx hb dX5_meet_71 rfl ?_
          refine va_get (pc := 72) (D := D) (ci := 3) (v := .int (nI cn)) (C := RX5) (T := TX5) (N := 4) hx hb hts hinX5 hown hK hP 0 rfl rfl 3 (by decide) lk0 (fun _ h9 => h9) rfl dX5_meet_72 ?_
          refine lv_iconst (pc := 75) (v := (nI (1))) hx hb dX5_meet_75 (by decide) ?_
          refine xn_iadd (pc := 76) hx hb  dX5_meet_76 ?_
          refine va_put (pc := 77) (D := D) (ci := 3) (v := .int (nI (cn + 1))) (ty := .int) (C := RX5) (T := TX5) (N := 4) hx hb hts hinX5 tyX5 tyX5_ok nmX5 hown hK hP hD hS 0 rfl rfl 3 (by decide) lk0 (fun _ h9 => h9) rfl (by decide +kernel) rfl rfl (Nat.le_of_ble_eq_true rfl) dX5_meet_77 (fun H locs hP hD hS => ?_)
          have hP : va_P D vwCl [(hsr, .inr (3, oS as1 (cn + 1))), (as1 1, .inl (cL, 60, .inr (.inl (lA (up mt cn v))))), (as1 2, .inl (cI, 60, .inl (nA (up ds cn d))))] H := hP
          have hD : va_D _ [(hsr, .inr (3, oS as1 (cn + 1))), (as1 1, .inl (cL, 60, .inr (.inl (lA (up mt cn v))))), (as1 2, .inl (cI, 60, .inl (nA (up ds cn d))))] := hD
          refine lv_iconst (pc := 80) (v := (nI (1))) hx hb dX5_meet_80 (by decide) ?_
          have hP9 : va_P D vwCl [(hsr, .inr (3, oS as1 ((cn + 1)))), (as1 1, .inl (cL, 60, .inr (.inl (lA ((up mt cn v)))))), (as1 2, .inl (cI, 60, .inl (nA ((up ds cn d)))))] H := hP.sub [0, 1, 2] rfl
          have hD9 : va_D _ [(hsr, .inr (3, oS as1 ((cn + 1)))), (as1 1, .inl (cL, 60, .inr (.inl (lA ((up mt cn v)))))), (as1 2, .inl (cI, 60, .inl (nA ((up ds cn d)))))] := hD.sub [0, 1, 2] (by decide) rfl
          exact W.zret (pc := 81) (v := (nI (1))) (ty := .boolean) hx hb hr (by decide) (fun t ht hW => ⟨⟨_, (up mt cn v, up ds cn d, cn + 1), rfl, ⟨(congrArg nI (pN_t (mtO_t (Or.inr c45))).symm), (mt_new hno c45)⟩, by rw [ht]; exact hP9, va_K.moved hW.alike hK, hD9⟩, hS.F ht⟩) hS.2.2 dX5_meet_81
        · refine lv_iconst (pc := 48) (v := (nI (0))) hx hb dX5_meet_48 (by decide) ?_
          have hP9 : va_P D vwCl [(hsr, .inr (3, oS as1 cn)), (as1 1, .inl (cL, 60, .inr (.inl (lA mt)))), (as1 2, .inl (cI, 60, .inl (nA ds)))] H := hP.sub [0, 1, 2] rfl
          have hD9 : va_D _ [(hsr, .inr (3, oS as1 cn)), (as1 1, .inl (cL, 60, .inr (.inl (lA mt)))), (as1 2, .inl (cI, 60, .inl (nA ds)))] := hD.sub [0, 1, 2] (by decide) rfl
          exact W.zret (pc := 49) (v := (nI (0))) (ty := .boolean) hx hb hr (by decide) (fun t ht hW => ⟨⟨_, (mt, ds, cn), rfl, ⟨(congrArg nI (pN_f (mtO_f hno (by omega))).symm), (mt_old (Or.inr c45))⟩, by rw [ht]; exact hP9, va_K.moved hW.alike hK, hD9⟩, hS.F ht⟩) hS.2.2 dX5_meet_49
      · refine lv_iload (pc := 12) hx hb dX5_meet_12 (lv_at hl 3 rfl) ?_
        refine lv_bipush (pc := 14) (v := (nI (60))) hx hb dX5_meet_14 (by decide) ?_
        refine xn_icmp_ge (pc := 16) (tgt := 39) hx hb (by omega) (by omega) dX5_meet_16 (by decide) (fun c16 => ?_) (fun c16 => ?_)
        · have hno : ¬ fnd mt cn v = true := fnd_no (fun i hi => i2 i (by omega))
          refine lv_aload_n (pc := 39) hx hb dX5_meet_39 rfl (lv_at hl 0 rfl) ?_
          refine va_get (pc := 40) (D := D) (ci := 3) (v := .int (nI cn)) (C := RX5) (T := TX5) (N := 4) hx hb hts hinX5 hown hK hP 0 rfl rfl 3 (by decide) lk0 (fun _ h9 => h9) rfl dX5_meet_40 ?_
          refine lv_bipush (pc := 43) (v := (nI (60))) hx hb dX5_meet_43 (by decide) ?_
          refine xn_icmp_lt (pc := 45) (tgt := 50) hx hb (by omega) (by omega) dX5_meet_45 (by decide) (fun c45 => ?_) (fun c45 => ?_)
          · refine lv_aload_n (pc := 50) hx hb dX5_meet_50 rfl (lv_at hl 0 rfl) ?_
            refine va_get (pc := 51) (D := D) (ci := 3) (v := .ref (as1 1)) (C := RX5) (T := TX5) (N := 4) hx hb hts hinX5 hown hK hP 0 rfl rfl 1 (by decide) lk1 (fun _ h9 => h9) rfl dX5_meet_51 ?_
            refine lv_aload_n (pc := 54) hx hb dX5_meet_54 rfl (lv_at hl 0 rfl) ?_
            refine va_get (pc := 55) (D := D) (ci := 3) (v := .int (nI cn)) (C := RX5) (T := TX5) (N := 4) hx hb hts hinX5 hown hK hP 0 rfl rfl 3 (by decide) lk0 (fun _ h9 => h9) rfl dX5_meet_55 ?_
            refine lv_lload_n (pc := 58) hx hb dX5_meet_58 rfl (lv_at hl 1 rfl) ?_
            refine xa_last (pc := 59) hx hb hK hP hD hS 1 1 rfl rfl (by omega) (by omega) dX5_meet_59 (fun H locs hP hD hS => ?_)
            have hP : va_P D vwCl [(hsr, .inr (3, oS as1 cn)), (as1 1, .inl (cL, 60, .inr (.inl (lA (up mt cn v))))), (as1 2, .inl (cI, 60, .inl (nA ds)))] H := hP
            have hD : va_D _ [(hsr, .inr (3, oS as1 cn)), (as1 1, .inl (cL, 60, .inr (.inl (lA (up mt cn v))))), (as1 2, .inl (cI, 60, .inl (nA ds)))] := hD
            refine lv_aload_n (pc := 60) hx hb dX5_meet_60 rfl (lv_at hl 0 rfl) ?_
            refine va_get (pc := 61) (D := D) (ci := 3) (v := .ref (as1 2)) (C := RX5) (T := TX5) (N := 4) hx hb hts hinX5 hown hK hP 0 rfl rfl 2 (by decide) lk2 (fun _ h9 => h9) rfl dX5_meet_61 ?_
            refine lv_aload_n (pc := 64) hx hb dX5_meet_64 rfl (lv_at hl 0 rfl) ?_
            refine va_get (pc := 65) (D := D) (ci := 3) (v := .int (nI cn)) (C := RX5) (T := TX5) (N := 4) hx hb hts hinX5 hown hK hP 0 rfl rfl 3 (by decide) lk0 (fun _ h9 => h9) rfl dX5_meet_65 ?_
            refine lv_iload_n (pc := 68) hx hb dX5_meet_68 rfl (lv_at hl 2 rfl) ?_
            refine xa_iast (pc := 69) hx hb hK hP hD hS 2 0 rfl rfl (by omega) (by omega) dX5_meet_69 (fun H locs hP hD hS => ?_)
            have hP : va_P D vwCl [(hsr, .inr (3, oS as1 cn)), (as1 1, .inl (cL, 60, .inr (.inl (lA (up mt cn v))))), (as1 2, .inl (cI, 60, .inl (nA (up ds cn d))))] H := hP
            have hD : va_D _ [(hsr, .inr (3, oS as1 cn)), (as1 1, .inl (cL, 60, .inr (.inl (lA (up mt cn v))))), (as1 2, .inl (cI, 60, .inl (nA (up ds cn d))))] := hD
            refine lv_aload_n (pc := 70) hx hb dX5_meet_70 rfl (lv_at hl 0 rfl) ?_
            refine lv_dup (pc := 71) hx hb dX5_meet_71 rfl ?_
            refine va_get (pc := 72) (D := D) (ci := 3) (v := .int (nI cn)) (C := RX5) (T := TX5) (N := 4) hx hb hts hinX5 hown hK hP 0 rfl rfl 3 (by decide) lk0 (fun _ h9 => h9) rfl dX5_meet_72 ?_
            refine lv_iconst (pc := 75) (v := (nI (1))) hx hb dX5_meet_75 (by decide) ?_
            refine xn_iadd (pc := 76) hx hb  dX5_meet_76 ?_
            refine va_put (pc := 77) (D := D) (ci := 3) (v := .int (nI (cn + 1))) (ty := .int) (C := RX5) (T := TX5) (N := 4) hx hb hts hinX5 tyX5 tyX5_ok nmX5 hown hK hP hD hS 0 rfl rfl 3 (by decide) lk0 (fun _ h9 => h9) rfl (by decide +kernel) rfl rfl (Nat.le_of_ble_eq_true rfl) dX5_meet_77 (fun H locs hP hD hS => ?_)
            have hP : va_P D vwCl [(hsr, .inr (3, oS as1 (cn + 1))), (as1 1, .inl (cL, 60, .inr (.inl (lA (up mt cn v))))), (as1 2, .inl (cI, 60, .inl (nA (up ds cn d))))] H := hP
            have hD : va_D _ [(hsr, .inr (3, oS as1 (cn + 1))), (as1 1, .inl (cL, 60, .inr (.inl (lA (up mt cn v))))), (as1 2, .inl (cI, 60, .inl (nA (up ds cn d))))] := hD
            refine lv_iconst (pc := 80) (v := (nI (1))) hx hb dX5_meet_80 (by decide) ?_
            have hP9 : va_P D vwCl [(hsr, .inr (3, oS as1 ((cn + 1)))), (as1 1, .inl (cL, 60, .inr (.inl (lA ((up mt cn v)))))), (as1 2, .inl (cI, 60, .inl (nA ((up ds cn d)))))] H := hP.sub [0, 1, 2] rfl
            have hD9 : va_D _ [(hsr, .inr (3, oS as1 ((cn + 1)))), (as1 1, .inl (cL, 60, .inr (.inl (lA ((up mt cn v)))))), (as1 2, .inl (cI, 60, .inl (nA ((up ds cn d)))))] := hD.sub [0, 1, 2] (by decide) rfl
            exact W.zret (pc := 81) (v := (nI (1))) (ty := .boolean) hx hb hr (by decide) (fun t ht hW => ⟨⟨_, (up mt cn v, up ds cn d, cn + 1), rfl, ⟨(congrArg nI (pN_t (mtO_t (Or.inr c45))).symm), (mt_new hno c45)⟩, by rw [ht]; exact hP9, va_K.moved hW.alike hK, hD9⟩, hS.F ht⟩) hS.2.2 dX5_meet_81
          · refine lv_iconst (pc := 48) (v := (nI (0))) hx hb dX5_meet_48 (by decide) ?_
            have hP9 : va_P D vwCl [(hsr, .inr (3, oS as1 cn)), (as1 1, .inl (cL, 60, .inr (.inl (lA mt)))), (as1 2, .inl (cI, 60, .inl (nA ds)))] H := hP.sub [0, 1, 2] rfl
            have hD9 : va_D _ [(hsr, .inr (3, oS as1 cn)), (as1 1, .inl (cL, 60, .inr (.inl (lA mt)))), (as1 2, .inl (cI, 60, .inl (nA ds)))] := hD.sub [0, 1, 2] (by decide) rfl
            exact W.zret (pc := 49) (v := (nI (0))) (ty := .boolean) hx hb hr (by decide) (fun t ht hW => ⟨⟨_, (mt, ds, cn), rfl, ⟨(congrArg nI (pN_f (mtO_f hno (by omega))).symm), (mt_old (Or.inr c45))⟩, by rw [ht]; exact hP9, va_K.moved hW.alike hK, hD9⟩, hS.F ht⟩) hS.2.2 dX5_meet_49
        · refine lv_aload_n (pc := 19) hx hb dX5_meet_19 rfl (lv_at hl 0 rfl) ?_
          refine va_get (pc := 20) (D := D) (ci := 3) (v := .ref (as1 1)) (C := RX5) (T := TX5) (N := 4) hx hb hts hinX5 hown hK hP 0 rfl rfl 1 (by decide) lk1 (fun _ h9 => h9) rfl dX5_meet_20 ?_
          refine lv_iload (pc := 23) hx hb dX5_meet_23 (lv_at hl 3 rfl) ?_
          refine xa_lald (pc := 25) hx hb hK hP 1 1 rfl rfl (by omega) (by omega) dX5_meet_25 ?_
          refine lv_lload_n (pc := 26) hx hb dX5_meet_26 rfl (lv_at hl 1 rfl) ?_
          refine xnl_ne (pc := 27) (tgt := 33) hx hb (hmt k c9) hv dX5_meet_27 dX5_meet_28 (by decide) (fun c27 => ?_) (fun c27 => ?_)
          · refine lv_iinc (pc := 33) (v := (nI (k + 1))) (lv' := [(4, .int (nI (k + 1))), (0, .ref hsr), (1, .long (lN v)), (3, .int (nI d))]) hx hb dX5_meet_33 hl (k := 3) rfl (nI_incr _) (by decide) rfl (fun ls hl => ?_)
            refine lv_goto (pc := 36) (tgt := 3) hx hb dX5_meet_36 (by decide) ?_
            exact ih3 (k + 1) ls _ _ (by omega) (by omega) (lt_s i2 c27) (lv_sub hl [1, 2, 3, 0] rfl) (hP.sub [0, 1, 2] rfl) (hD.sub [0, 1, 2] (by decide) rfl) hS
          · have hyes := fnd_yes c9 c27
            refine lv_iconst (pc := 31) (v := (nI (1))) hx hb dX5_meet_31 (by decide) ?_
            have hP9 : va_P D vwCl [(hsr, .inr (3, oS as1 cn)), (as1 1, .inl (cL, 60, .inr (.inl (lA mt)))), (as1 2, .inl (cI, 60, .inl (nA ds)))] H := hP.sub [0, 1, 2] rfl
            have hD9 : va_D _ [(hsr, .inr (3, oS as1 cn)), (as1 1, .inl (cL, 60, .inr (.inl (lA mt)))), (as1 2, .inl (cI, 60, .inl (nA ds)))] := hD.sub [0, 1, 2] (by decide) rfl
            exact W.zret (pc := 32) (v := (nI (1))) (ty := .boolean) hx hb hr (by decide) (fun t ht hW => ⟨⟨_, (mt, ds, cn), rfl, ⟨(congrArg nI (pN_t (mtO_t (Or.inl hyes))).symm), (mt_old (Or.inl hyes))⟩, by rw [ht]; exact hP9, va_K.moved hW.alike hK, hD9⟩, hS.F ht⟩) hS.2.2 dX5_meet_32
  exact loop3 (_ + 1) 0 ls _ _ (Nat.lt_succ_self _) (by omega) (fun j hj => absurd hj (by omega)) (lv_sub hl [1, 2, 3, 0] rfl) (hP.sub [0, 1, 2] rfl) (hD.sub [0, 1, 2] (by decide) rfl) hS
set_option maxHeartbeats 4000000 in
set_option maxRecDepth 100000 in
theorem c_X8_meets (l : Launch) (D : va_G) (cI cL cZ : ClassId) (sz : Nat) (hm : Nat) (am : Nat → Nat) (n : Nat) (pos : Nat) (cmp : Nat) (que : Nat) (dsz : Nat) (mad : Nat) (cur : Nat) (stp : Nat) (cn : Nat) (bst : Nat) (mt : Nat → Nat) (ds : Nat → Nat) (v : Nat) (d : Nat) (hcn : cn ≤ 60) (hmt : ∀ i, i < cn → mt i < 2 ^ 63) (hv : v < 2 ^ 63) : Met l yX8_meets wsX8_meets { frames := 0, cells := 0, slots := 0, locals := 0 } (mP D (tyL cI cL cZ) [(hm, .inr (6, oM am n pos cmp que dsz mad cur stp cn bst)), (am 27, .inl (cL, 60, .inr (.inl (lA mt)))), (am 28, .inl (cI, 60, .inl (nA ds)))] sz [.ref hm, .long (lN v), .int (nI d)]) (va_Qi (fun (r : Int32) (u : (Nat → Nat) × (Nat → Nat) × Nat) => r = (nI (pN (mtO mt cn v = true))) ∧ (u.1 = mtM mt cn v ∧ u.2.1 = mtD mt ds cn v d ∧ u.2.2 = mtC mt cn v)) (fun (u : (Nat → Nat) × (Nat → Nat) × Nat) (t : State) => mB D (tyL cI cL cZ) (va_A [(hm, .inr (6, oM am n pos cmp que dsz mad cur stp cn bst)), (am 27, .inl (cL, 60, .inr (.inl (lA mt)))), (am 28, .inl (cI, 60, .inl (nA ds)))] sz) [(hm, .inr (6, oM am n pos cmp que dsz mad cur stp (u.2.2) bst)), (am 27, .inl (cL, 60, .inr (.inl (lA (u.1))))), (am 28, .inl (cI, 60, .inl (nA (u.2.1))))] t) (va_A [(hm, .inr (6, oM am n pos cmp que dsz mad cur stp cn bst)), (am 27, .inl (cL, 60, .inr (.inl (lA mt)))), (am 28, .inl (cI, 60, .inl (nA ds)))] sz)) 0 0 (va_A [(hm, .inr (6, oM am n pos cmp que dsz mad cur stp cn bst)), (am 27, .inl (cL, 60, .inr (.inl (lA mt)))), (am 28, .inl (cI, 60, .inl (nA ds)))] sz) := by
  refine Met.ofW (cc := cX8_meets) (maxL := 5) (ret := (some .boolean)) (by decide) rfl ?_
  intro pG eG s mG args below meth cG s₁ B hml hpre9
  obtain ⟨rfl, hsz, hP, hK, hD0⟩ := hpre9
  have hx := B.exec
  have hb := B.bytes
  have hr := B.returns
  have hts := atoms_spec (ws := wsX8_meets) B.pre
  have hown : s.vm.findClass RX8 = some mG.cls := findClass_of_methodNamed B.named
  have hlocks := B.notSynchronized
  subst hsz
  have hD := hD0.self (sz := s.heap.size)
  have hA : ∀ q : Nat, s.heap.size ≤ q → va_A [(hm, .inr (6, oM am n pos cmp que dsz mad cur stp cn bst)), (am 27, .inl (cL, 60, .inr (.inl (lA mt)))), (am 28, .inl (cI, 60, .inl (nA ds)))] s.heap.size q := fun q h => Or.inr h
  have hS : va_S (va_A [(hm, .inr (6, oM am n pos cmp que dsz mad cur stp cn bst)), (am 27, .inl (cL, 60, .inr (.inl (lA mt)))), (am 28, .inl (cI, 60, .inl (nA ds)))] s.heap.size) s.heap s.heap [] := va_S.rf
  have hinX8 : ∀ w ∈ wsX80, w ∈ wsX8_meets := fun w HH => (List.mem_cons_of_mem _ (List.mem_append_right _ HH))
  have lk0 : (Cond.fieldLink RX8 234 "RegexSimplifierModel" "met" "I").before _ s = true := hts _ (List.mem_cons_of_mem _ (List.mem_append_left _ (List.mem_of_getElem? (i := 0) rfl)))
  have lk1 : (Cond.fieldLink RX8 68 "RegexSimplifierModel" "metRegex" "[J").before _ s = true := hts _ (List.mem_cons_of_mem _ (List.mem_append_left _ (List.mem_of_getElem? (i := 1) rfl)))
  have lk2 : (Cond.fieldLink RX8 71 "RegexSimplifierModel" "metDistance" "[I").before _ s = true := hts _ (List.mem_cons_of_mem _ (List.mem_append_left _ (List.mem_of_getElem? (i := 2) rfl)))
  have hl := lv_entry ([.ref hm, .long (lN v), .int (nI d)]) (n := 5) (Nat.le_of_ble_eq_true rfl)
  rw [lg_entry_eq]
  generalize (lg_sl ([.ref hm, .long (lN v), .int (nI d)]) ++ List.replicate (5 - (lg_sl ([.ref hm, .long (lN v), .int (nI d)])).length) Slot.unset).toArray = ls at hl ⊢
  have hl : lv_has ls 5 [(0, .ref hm), (1, .long (lN v)), (3, .int (nI d))] := hl
  refine lv_iconst (pc := 0) (v := (nI (0))) hx hb dX8_meets_0 (by decide) ?_
  refine lv_istore (pc := 1) (lv' := [(4, .int (nI 0)), (0, .ref hm), (1, .long (lN v)), (3, .int (nI d))]) hx hb dX8_meets_1 hl (by decide) rfl (fun ls hl => ?_)
  have loop3 : ∀ (fuel : Nat) (k : Nat) (ls : Array Slot) (H : Heap) (locs : List Loc), cn - k < fuel → (k ≤ cn) → (∀ j, j < k → mt j ≠ v) → lv_has ls 5 [(0, .ref hm), (1, .long (lN v)), (3, .int (nI d)), (4, .int (nI k))] → va_P D vwCl [(hm, .inr (6, oM am n pos cmp que dsz mad cur stp cn bst)), (am 27, .inl (cL, 60, .inr (.inl (lA mt)))), (am 28, .inl (cI, 60, .inl (nA ds)))] H → va_D (va_A [(hm, .inr (6, oM am n pos cmp que dsz mad cur stp cn bst)), (am 27, .inl (cL, 60, .inr (.inl (lA mt)))), (am 28, .inl (cI, 60, .inl (nA ds)))] s.heap.size) [(hm, .inr (6, oM am n pos cmp que dsz mad cur stp cn bst)), (am 27, .inl (cL, 60, .inr (.inl (lA mt)))), (am 28, .inl (cI, 60, .inl (nA ds)))] → va_S (va_A [(hm, .inr (6, oM am n pos cmp que dsz mad cur stp cn bst)), (am 27, .inl (cL, 60, .inr (.inl (lA mt)))), (am 28, .inl (cI, 60, .inl (nA ds)))] s.heap.size) s.heap H locs → W pG l eG (headSpec wsX8_meets { frames := 0, cells := 0, slots := 0, locals := 0 }).room s mG [.ref hm, .long (lN v), .int (nI d)].toArray below meth cG H locs 0 0 (MQ below (va_Qi (fun (r : Int32) (u : (Nat → Nat) × (Nat → Nat) × Nat) => r = (nI (pN (mtO mt cn v = true))) ∧ (u.1 = mtM mt cn v ∧ u.2.1 = mtD mt ds cn v d ∧ u.2.2 = mtC mt cn v)) (fun (u : (Nat → Nat) × (Nat → Nat) × Nat) (t : State) => mB D (tyL cI cL cZ) (va_A [(hm, .inr (6, oM am n pos cmp que dsz mad cur stp cn bst)), (am 27, .inl (cL, 60, .inr (.inl (lA mt)))), (am 28, .inl (cI, 60, .inl (nA ds)))] s.heap.size) [(hm, .inr (6, oM am n pos cmp que dsz mad cur stp (u.2.2) bst)), (am 27, .inl (cL, 60, .inr (.inl (lA (u.1))))), (am 28, .inl (cI, 60, .inl (nA (u.2.1))))] t) (va_A [(hm, .inr (6, oM am n pos cmp que dsz mad cur stp cn bst)), (am 27, .inl (cL, 60, .inr (.inl (lA mt)))), (am 28, .inl (cI, 60, .inl (nA ds)))] s.heap.size)) [.ref hm, .long (lN v), .int (nI d)].toArray s 0 0 (va_A [(hm, .inr (6, oM am n pos cmp que dsz mad cur stp cn bst)), (am 27, .inl (cL, 60, .inr (.inl (lA mt)))), (am 28, .inl (cI, 60, .inl (nA ds)))] s.heap.size)) (F0 mG 3 ls []) := by
    intro fuel
    induction fuel with
    | zero => intro k ls H locs hmeas i1 i2 hl hP hD hS; exact absurd hmeas (Nat.not_lt_zero _)
    | succ fuel ih3 =>
      intro k ls H locs hmeas i1 i2 hl hP hD hS
      refine lv_iload (pc := 3) hx hb dX8_meets_3 (lv_at hl 3 rfl) ?_
      refine lv_aload_n (pc := 5) hx hb dX8_meets_5 rfl (lv_at hl 0 rfl) ?_
      refine va_get (pc := 6) (D := D) (ci := 6) (v := .int (nI cn)) (C := RX8) (T := TX8) (N := 30) hx hb hts hinX8 hown hK hP 0 rfl rfl 26 (by decide) lk0 (fun _ h9 => h9) rfl dX8_meets_6 ?_
      refine xn_icmp_ge (pc := 9) (tgt := 32) hx hb (by omega) (by omega) dX8_meets_9 (by decide) (fun c9 => ?_) (fun c9 => ?_)
      · have hno : ¬ fnd mt cn v = true := fnd_no (fun i hi => i2 i (by omega))
        refine lv_aload_n (pc := 32) hx hb dX8_meets_32 rfl (lv_at hl 0 rfl) ?_
        refine va_get (pc := 33) (D := D) (ci := 6) (v := .int (nI cn)) (C := RX8) (T := TX8) (N := 30) hx hb hts hinX8 hown hK hP 0 rfl rfl 26 (by decide) lk0 (fun _ h9 => h9) rfl dX8_meets_33 ?_
        refine lv_bipush (pc := 36) (v := (nI (60))) hx hb dX8_meets_36 (by decide) ?_
        refine xn_icmp_ne (pc := 38) (tgt := 43) hx hb (by omega) (by omega) dX8_meets_38 (by decide) (fun c38 => ?_) (fun c38 => ?_)
        · refine lv_aload_n (pc := 43) hx hb dX8_meets_43 rfl (lv_at hl 0 rfl) ?_
          refine va_get (pc := 44) (D := D) (ci := 6) (v := .ref (am 27)) (C := RX8) (T := TX8) (N := 30) hx hb hts hinX8 hown hK hP 0 rfl rfl 27 (by decide) lk1 (fun _ h9 => h9) rfl dX8_meets_44 ?_
          refine lv_aload_n (pc := 47) hx hb dX8_meets_47 rfl (lv_at hl 0 rfl) ?_
          refine va_get (pc := 48) (D := D) (ci := 6) (v := .int (nI cn)) (C := RX8) (T := TX8) (N := 30) hx hb hts hinX8 hown hK hP 0 rfl rfl 26 (by decide) lk0 (fun _ h9 => h9) rfl dX8_meets_48 ?_
          refine lv_lload_n (pc := 51) hx hb dX8_meets_51 rfl (lv_at hl 1 rfl) ?_
          refine xa_last (pc := 52) hx hb hK hP hD hS 1 1 rfl rfl (by omega) (by omega) dX8_meets_52 (fun H locs hP hD hS => ?_)
          have hP : va_P D vwCl [(hm, .inr (6, oM am n pos cmp que dsz mad cur stp cn bst)), (am 27, .inl (cL, 60, .inr (.inl (lA (up mt cn v))))), (am 28, .inl (cI, 60, .inl (nA ds)))] H := hP
          have hD : va_D _ [(hm, .inr (6, oM am n pos cmp que dsz mad cur stp cn bst)), (am 27, .inl (cL, 60, .inr (.inl (lA (up mt cn v))))), (am 28, .inl (cI, 60, .inl (nA ds)))] := hD
          refine lv_aload_n (pc := 53) hx hb dX8_meets_53 rfl (lv_at hl 0 rfl) ?_
          refine va_get (pc := 54) (D := D) (ci := 6) (v := .ref (am 28)) (C := RX8) (T := TX8) (N := 30) hx hb hts hinX8 hown hK hP 0 rfl rfl 28 (by decide) lk2 (fun _ h9 => h9) rfl dX8_meets_54 ?_
          refine lv_aload_n (pc := 57) hx hb dX8_meets_57 rfl (lv_at hl 0 rfl) ?_
          refine va_get (pc := 58) (D := D) (ci := 6) (v := .int (nI cn)) (C := RX8) (T := TX8) (N := 30) hx hb hts hinX8 hown hK hP 0 rfl rfl 26 (by decide) lk0 (fun _ h9 => h9) rfl dX8_meets_58 ?_
          refine lv_iload_n (pc := 61) hx hb dX8_meets_61 rfl (lv_at hl 2 rfl) ?_
          refine xa_iast (pc := 62) hx hb hK hP hD hS 2 0 rfl rfl (by omega) (by omega) dX8_meets_62 (fun H locs hP hD hS => ?_)
          have hP : va_P D vwCl [(hm, .inr (6, oM am n pos cmp que dsz mad cur stp cn bst)), (am 27, .inl (cL, 60, .inr (.inl (lA (up mt cn v))))), (am 28, .inl (cI, 60, .inl (nA (up ds cn d))))] H := hP
          have hD : va_D _ [(hm, .inr (6, oM am n pos cmp que dsz mad cur stp cn bst)), (am 27, .inl (cL, 60, .inr (.inl (lA (up mt cn v))))), (am 28, .inl (cI, 60, .inl (nA (up ds cn d))))] := hD
          refine lv_aload_n (pc := 63) hx hb dX8_meets_63 rfl (lv_at hl 0 rfl) ?_
          refine lv_dup (pc := 64) hx hb dX8_meets_64 rfl ?_
          refine va_get (pc := 65) (D := D) (ci := 6) (v := .int (nI cn)) (C := RX8) (T := TX8) (N := 30) hx hb hts hinX8 hown hK hP 0 rfl rfl 26 (by decide) lk0 (fun _ h9 => h9) rfl dX8_meets_65 ?_
          refine lv_iconst (pc := 68) (v := (nI (1))) hx hb dX8_meets_68 (by decide) ?_
          refine xn_iadd (pc := 69) hx hb  dX8_meets_69 ?_
          refine va_put (pc := 70) (D := D) (ci := 6) (v := .int (nI (cn + 1))) (ty := .int) (C := RX8) (T := TX8) (N := 30) hx hb hts hinX8 tyX8 tyX8_ok nmX8 hown hK hP hD hS 0 rfl rfl 26 (by decide) lk0 (fun _ h9 => h9) rfl (by decide +kernel) rfl rfl (Nat.le_of_ble_eq_true rfl) dX8_meets_70 (fun H locs hP hD hS => ?_)
          have hP : va_P D vwCl [(hm, .inr (6, oM am n pos cmp que dsz mad cur stp (cn + 1) bst)), (am 27, .inl (cL, 60, .inr (.inl (lA (up mt cn v))))), (am 28, .inl (cI, 60, .inl (nA (up ds cn d))))] H := hP
          have hD : va_D _ [(hm, .inr (6, oM am n pos cmp que dsz mad cur stp (cn + 1) bst)), (am 27, .inl (cL, 60, .inr (.inl (lA (up mt cn v))))), (am 28, .inl (cI, 60, .inl (nA (up ds cn d))))] := hD
          refine lv_iconst (pc := 73) (v := (nI (1))) hx hb dX8_meets_73 (by decide) ?_
          have hP9 : va_P D vwCl [(hm, .inr (6, oM am n pos cmp que dsz mad cur stp ((cn + 1)) bst)), (am 27, .inl (cL, 60, .inr (.inl (lA ((up mt cn v)))))), (am 28, .inl (cI, 60, .inl (nA ((up ds cn d)))))] H := hP.sub [0, 1, 2] rfl
          have hD9 : va_D _ [(hm, .inr (6, oM am n pos cmp que dsz mad cur stp ((cn + 1)) bst)), (am 27, .inl (cL, 60, .inr (.inl (lA ((up mt cn v)))))), (am 28, .inl (cI, 60, .inl (nA ((up ds cn d)))))] := hD.sub [0, 1, 2] (by decide) rfl
          exact W.zret (pc := 74) (v := (nI (1))) (ty := .boolean) hx hb hr (by decide) (fun t ht hW => ⟨⟨_, (up mt cn v, up ds cn d, cn + 1), rfl, ⟨(congrArg nI (pN_t (mtO_t (Or.inr (by omega)))).symm), (mt_new hno (by omega))⟩, by rw [ht]; exact hP9, va_K.moved hW.alike hK, hD9⟩, hS.F ht⟩) hS.2.2 dX8_meets_74
        · refine lv_iconst (pc := 41) (v := (nI (0))) hx hb dX8_meets_41 (by decide) ?_
          have hP9 : va_P D vwCl [(hm, .inr (6, oM am n pos cmp que dsz mad cur stp cn bst)), (am 27, .inl (cL, 60, .inr (.inl (lA mt)))), (am 28, .inl (cI, 60, .inl (nA ds)))] H := hP.sub [0, 1, 2] rfl
          have hD9 : va_D _ [(hm, .inr (6, oM am n pos cmp que dsz mad cur stp cn bst)), (am 27, .inl (cL, 60, .inr (.inl (lA mt)))), (am 28, .inl (cI, 60, .inl (nA ds)))] := hD.sub [0, 1, 2] (by decide) rfl
          exact W.zret (pc := 42) (v := (nI (0))) (ty := .boolean) hx hb hr (by decide) (fun t ht hW => ⟨⟨_, (mt, ds, cn), rfl, ⟨(congrArg nI (pN_f (mtO_f hno (by omega))).symm), (mt_old (Or.inr (by omega)))⟩, by rw [ht]; exact hP9, va_K.moved hW.alike hK, hD9⟩, hS.F ht⟩) hS.2.2 dX8_meets_42
      · refine lv_aload_n (pc := 12) hx hb dX8_meets_12 rfl (lv_at hl 0 rfl) ?_
        refine va_get (pc := 13) (D := D) (ci := 6) (v := .ref (am 27)) (C := RX8) (T := TX8) (N := 30) hx hb hts hinX8 hown hK hP 0 rfl rfl 27 (by decide) lk1 (fun _ h9 => h9) rfl dX8_meets_13 ?_
        refine lv_iload (pc := 16) hx hb dX8_meets_16 (lv_at hl 3 rfl) ?_
        refine xa_lald (pc := 18) hx hb hK hP 1 1 rfl rfl (by omega) (by omega) dX8_meets_18 ?_
        refine lv_lload_n (pc := 19) hx hb dX8_meets_19 rfl (lv_at hl 1 rfl) ?_
        refine xnl_ne (pc := 20) (tgt := 26) hx hb (hmt k c9) hv dX8_meets_20 dX8_meets_21 (by decide) (fun c20 => ?_) (fun c20 => ?_)
        · refine lv_iinc (pc := 26) (v := (nI (k + 1))) (lv' := [(4, .int (nI (k + 1))), (0, .ref hm), (1, .long (lN v)), (3, .int (nI d))]) hx hb dX8_meets_26 hl (k := 3) rfl (nI_incr _) (by decide) rfl (fun ls hl => ?_)
          refine lv_goto (pc := 29) (tgt := 3) hx hb dX8_meets_29 (by decide) ?_
          exact ih3 (k + 1) ls _ _ (by omega) (by omega) (lt_s i2 c20) (lv_sub hl [1, 2, 3, 0] rfl) (hP.sub [0, 1, 2] rfl) (hD.sub [0, 1, 2] (by decide) rfl) hS
        · have hyes := fnd_yes c9 c20
          refine lv_iconst (pc := 24) (v := (nI (1))) hx hb dX8_meets_24 (by decide) ?_
          have hP9 : va_P D vwCl [(hm, .inr (6, oM am n pos cmp que dsz mad cur stp cn bst)), (am 27, .inl (cL, 60, .inr (.inl (lA mt)))), (am 28, .inl (cI, 60, .inl (nA ds)))] H := hP.sub [0, 1, 2] rfl
          have hD9 : va_D _ [(hm, .inr (6, oM am n pos cmp que dsz mad cur stp cn bst)), (am 27, .inl (cL, 60, .inr (.inl (lA mt)))), (am 28, .inl (cI, 60, .inl (nA ds)))] := hD.sub [0, 1, 2] (by decide) rfl
          exact W.zret (pc := 25) (v := (nI (1))) (ty := .boolean) hx hb hr (by decide) (fun t ht hW => ⟨⟨_, (mt, ds, cn), rfl, ⟨(congrArg nI (pN_t (mtO_t (Or.inl hyes))).symm), (mt_old (Or.inl hyes))⟩, by rw [ht]; exact hP9, va_K.moved hW.alike hK, hD9⟩, hS.F ht⟩) hS.2.2 dX8_meets_25
  exact loop3 (_ + 1) 0 ls _ _ (Nat.lt_succ_self _) (by omega) (fun j hj => absurd hj (by omega)) (lv_sub hl [1, 2, 3, 0] rfl) (hP.sub [0, 1, 2] rfl) (hD.sub [0, 1, 2] (by decide) rfl) hS
set_option maxHeartbeats 4000000 in
set_option maxRecDepth 100000 in
theorem c_X5_metCount (l : Launch) (D : va_G) (cI cL cZ : ClassId) (hsr : Nat) (as1 : Nat → Nat) (mt : Nat → Nat) (ds : Nat → Nat) (cn : Nat)  : Met l yX5_metCount wsX5_metCount { frames := 0, cells := 0, slots := 0, locals := 0 } (rP D (tyL cI cL cZ) [(hsr, .inr (3, oS as1 cn)), (as1 1, .inl (cL, 60, .inr (.inl (lA mt)))), (as1 2, .inl (cI, 60, .inl (nA ds)))] [.ref hsr]) (vp_Si (fun r => r = (nI (cn)))) 0 0 (fun _ => False) := by
  refine Met.ofW (cc := cX5_metCount) (maxL := 1) (ret := (some .int)) (by decide) rfl ?_
  intro pG eG s mG args below meth cG s₁ B hml hpre9
  obtain ⟨rfl, hP, hK⟩ := hpre9
  have hx := B.exec
  have hb := B.bytes
  have hr := B.returns
  have hts := atoms_spec (ws := wsX5_metCount) B.pre
  have hown : s.vm.findClass RX5 = some mG.cls := findClass_of_methodNamed B.named
  have hlocks := B.notSynchronized
  have hS : va_S (fun _ => False) s.heap s.heap [] := va_S.rf
  have hinX5 : ∀ w ∈ wsX50, w ∈ wsX5_metCount := fun w HH => (List.mem_cons_of_mem _ (List.mem_append_right _ HH))
  have lk0 : (Cond.fieldLink RX5 26 "RegexSimplifier$Search" "count" "I").before _ s = true := hts _ (List.mem_cons_of_mem _ (List.mem_append_left _ (List.mem_of_getElem? (i := 0) rfl)))
  have hl := lv_entry ([.ref hsr]) (n := 1) (Nat.le_of_ble_eq_true rfl)
  rw [lg_entry_eq]
  generalize (lg_sl ([.ref hsr]) ++ List.replicate (1 - (lg_sl ([.ref hsr])).length) Slot.unset).toArray = ls at hl ⊢
  have hl : lv_has ls 1 [(0, .ref hsr)] := hl
  refine lv_aload_n (pc := 0) hx hb dX5_metCount_0 rfl (lv_at hl 0 rfl) ?_
  refine va_get (pc := 1) (D := D) (ci := 3) (v := .int (nI cn)) (C := RX5) (T := TX5) (N := 4) hx hb hts hinX5 hown hK hP 0 rfl rfl 3 (by decide) lk0 (fun _ h9 => h9) rfl dX5_metCount_1 ?_
  exact W.iret (pc := 4) (v := (nI (cn))) hx hb hr (fun t ht _ => ⟨_, rfl, (by first | rfl | ((repeat' split) <;> first | rfl | omega)), ht⟩) (fun _ h => absurd h List.not_mem_nil) dX5_metCount_4
set_option maxHeartbeats 4000000 in
set_option maxRecDepth 100000 in
theorem c_X5_answerIndex (l : Launch) (D : va_G) (cI cL cZ : ClassId) (tp tr : Nat) (hsr : Nat) (as1 : Nat → Nat) (mt : Nat → Nat) (ds : Nat → Nat) (cn : Nat) (hcn : cn ≤ 60) (hmt : ∀ i, i < cn → mt i < 2 ^ 63) (h0 : 0 < cn) : Met l yX5_answerIndex wsX5_answerIndex { frames := 1, cells := 0, slots := 0, locals := 22 } (rPS D (tyL cI cL cZ) tp tr [(hsr, .inr (3, oS as1 cn)), (as1 1, .inl (cL, 60, .inr (.inl (lA mt)))), (as1 2, .inl (cI, 60, .inl (nA ds)))] [.ref hsr]) (vp_Si (fun r => r = (nI (bsI mt cn)))) 0 0 (fun _ => False) := by
  refine Met.ofW (cc := cX5_answerIndex) (maxL := 3) (ret := (some .int)) (by decide) rfl ?_
  intro pG eG s mG args below meth cG s₁ B hml hpre9
  obtain ⟨rfl, hP, hK, hZ⟩ := hpre9
  have hx := B.exec
  have hb := B.bytes
  have hr := B.returns
  have hts := atoms_spec (ws := wsX5_answerIndex) B.pre
  have hown : s.vm.findClass RX5 = some mG.cls := findClass_of_methodNamed B.named
  have hlocks := B.notSynchronized
  have hS : va_S (fun _ => False) s.heap s.heap [] := va_S.rf
  have hinX5 : ∀ w ∈ wsX50, w ∈ wsX5_answerIndex := fun w HH => (List.mem_cons_of_mem _ (List.mem_append_right _ HH))
  have lk0 : (Cond.fieldLink RX5 26 "RegexSimplifier$Search" "count" "I").before _ s = true := hts _ (List.mem_cons_of_mem _ (List.mem_append_left _ (List.mem_of_getElem? (i := 0) rfl)))
  have lk1 : (Cond.fieldLink RX5 18 "RegexSimplifier$Search" "met" "[J").before _ s = true := hts _ (List.mem_cons_of_mem _ (List.mem_append_left _ (List.mem_of_getElem? (i := 1) rfl)))
  have hl := lv_entry ([.ref hsr]) (n := 3) (Nat.le_of_ble_eq_true rfl)
  rw [lg_entry_eq]
  generalize (lg_sl ([.ref hsr]) ++ List.replicate (3 - (lg_sl ([.ref hsr])).length) Slot.unset).toArray = ls at hl ⊢
  have hl : lv_has ls 3 [(0, .ref hsr)] := hl
  refine lv_iconst (pc := 0) (v := (nI (0))) hx hb dX5_answerIndex_0 (by decide) ?_
  refine lv_istore_n (pc := 1) (lv' := [(1, .int (nI 0)), (0, .ref hsr)]) hx hb dX5_answerIndex_1 rfl hl (by decide) rfl (fun ls hl => ?_)
  refine lv_iconst (pc := 2) (v := (nI (1))) hx hb dX5_answerIndex_2 (by decide) ?_
  refine lv_istore_n (pc := 3) (lv' := [(2, .int (nI 1)), (1, .int (nI 0)), (0, .ref hsr)]) hx hb dX5_answerIndex_3 rfl hl (by decide) rfl (fun ls hl => ?_)
  have loop4 : ∀ (fuel : Nat) (k : Nat) (o : Nat) (ls : Array Slot), cn - k < fuel → (0 < k) → (k ≤ cn) → (o = bsI mt k) → (o < k) → lv_has ls 3 [(0, .ref hsr), (1, .int (nI o)), (2, .int (nI k))] → W pG l eG (headSpec wsX5_answerIndex { frames := 1, cells := 0, slots := 0, locals := 22 }).room s mG [.ref hsr].toArray below meth cG s.heap [] 0 0 (MQ below (vp_Si (fun r => r = (nI (bsI mt cn)))) [.ref hsr].toArray s 0 0 (fun _ => False)) (F0 mG 4 ls []) := by
    intro fuel
    induction fuel with
    | zero => intro k o ls hmeas i0 i1 i2 i3 hl; exact absurd hmeas (Nat.not_lt_zero _)
    | succ fuel ih4 =>
      intro k o ls hmeas i0 i1 i2 i3 hl
      refine lv_iload_n (pc := 4) hx hb dX5_answerIndex_4 rfl (lv_at hl 2 rfl) ?_
      refine lv_aload_n (pc := 5) hx hb dX5_answerIndex_5 rfl (lv_at hl 0 rfl) ?_
      refine va_get (pc := 6) (D := D) (ci := 3) (v := .int (nI cn)) (C := RX5) (T := TX5) (N := 4) hx hb hts hinX5 hown hK hP 0 rfl rfl 3 (by decide) lk0 (fun _ h9 => h9) rfl dX5_answerIndex_6 ?_
      refine xn_icmp_ge (pc := 9) (tgt := 47) hx hb (by omega) (by omega) dX5_answerIndex_9 (by decide) (fun c9 => ?_) (fun c9 => ?_)
      · refine lv_iload_n (pc := 47) hx hb dX5_answerIndex_47 rfl (lv_at hl 1 rfl) ?_
        exact W.iret (pc := 48) (v := (nI (o))) hx hb hr (fun t ht _ => ⟨_, rfl, (by rw [i2, show k = cn from by omega]), ht⟩) (fun _ h => absurd h List.not_mem_nil) dX5_answerIndex_48
      · refine lv_iload_n (pc := 12) hx hb dX5_answerIndex_12 rfl (lv_at hl 2 rfl) ?_
        refine lv_bipush (pc := 13) (v := (nI (60))) hx hb dX5_answerIndex_13 (by decide) ?_
        refine xn_icmp_ge (pc := 15) (tgt := 47) hx hb (by omega) (by omega) dX5_answerIndex_15 (by decide) (fun c15 => ?_) (fun c15 => ?_)
        · refine lv_iload_n (pc := 47) hx hb dX5_answerIndex_47 rfl (lv_at hl 1 rfl) ?_
          exact W.iret (pc := 48) (v := (nI (o))) hx hb hr (fun t ht _ => ⟨_, rfl, (by rw [i2, show k = cn from by omega]), ht⟩) (fun _ h => absurd h List.not_mem_nil) dX5_answerIndex_48
        · refine lv_aload_n (pc := 18) hx hb dX5_answerIndex_18 rfl (lv_at hl 0 rfl) ?_
          refine va_get (pc := 19) (D := D) (ci := 3) (v := .ref (as1 1)) (C := RX5) (T := TX5) (N := 4) hx hb hts hinX5 hown hK hP 0 rfl rfl 1 (by decide) lk1 (fun _ h9 => h9) rfl dX5_answerIndex_19 ?_
          refine lv_iload_n (pc := 22) hx hb dX5_answerIndex_22 rfl (lv_at hl 2 rfl) ?_
          refine xa_lald (pc := 23) hx hb hK hP 1 1 rfl rfl (by omega) (by omega) dX5_answerIndex_23 ?_
          refine vp_callSi (pc := 24) (W.runS (As := [.long (lN (mt k))]) (rest := []) ⟨hx, hb, hml, hown, hts⟩ (c_X1_digitCount l D cI cL cZ tp tr (mt k) (hmt k c9)) (va_cwS 1 hts gX5_answerIndex_X1_digitCount rfl rfl rfl (by decide +kernel) ⟨Nat.le_of_ble_eq_true rfl, Nat.le_of_ble_eq_true rfl⟩) (rPS_S (wc := []) hK hP hZ hS [] rfl) rfl rfl hl.1 rfl (lv_room (Nat.le_of_ble_eq_true rfl)) dX5_answerIndex_24 ⟨Nat.zero_le _, Nat.zero_le _⟩) (fun r9 hrr => ?_)
          rw [hrr]
          refine lv_aload_n (pc := 27) hx hb dX5_answerIndex_27 rfl (lv_at hl 0 rfl) ?_
          refine va_get (pc := 28) (D := D) (ci := 3) (v := .ref (as1 1)) (C := RX5) (T := TX5) (N := 4) hx hb hts hinX5 hown hK hP 0 rfl rfl 1 (by decide) lk1 (fun _ h9 => h9) rfl dX5_answerIndex_28 ?_
          refine lv_iload_n (pc := 31) hx hb dX5_answerIndex_31 rfl (lv_at hl 1 rfl) ?_
          refine xa_lald (pc := 32) hx hb hK hP 1 1 rfl rfl (by omega) (by omega) dX5_answerIndex_32 ?_
          refine vp_callSi (pc := 33) (W.runS (As := [.long (lN (mt o))]) (rest := [.int (nI (dc (mt k)))]) ⟨hx, hb, hml, hown, hts⟩ (c_X1_digitCount l D cI cL cZ tp tr (mt o) (hmt o (by omega))) (va_cwS 1 hts gX5_answerIndex_X1_digitCount rfl rfl rfl (by decide +kernel) ⟨Nat.le_of_ble_eq_true rfl, Nat.le_of_ble_eq_true rfl⟩) (rPS_S (wc := []) hK hP hZ hS [] rfl) rfl rfl hl.1 rfl (lv_room (Nat.le_of_ble_eq_true rfl)) dX5_answerIndex_33 ⟨Nat.zero_le _, Nat.zero_le _⟩) (fun r9 hrr => ?_)
          rw [hrr]
          refine xn_icmp_ge (pc := 36) (tgt := 41) hx hb (by have := (dc_in (mt k)).2; omega) (by have := (dc_in (mt o)).2; omega) dX5_answerIndex_36 (by decide) (fun c36 => ?_) (fun c36 => ?_)
          · refine lv_iinc (pc := 41) (v := (nI (k + 1))) (lv' := [(2, .int (nI (k + 1))), (0, .ref hsr), (1, .int (nI o))]) hx hb dX5_answerIndex_41 hl (k := 2) rfl (nI_incr _) (by decide) rfl (fun ls hl => ?_)
            refine lv_goto (pc := 44) (tgt := 4) hx hb dX5_answerIndex_44 (by decide) ?_
            exact ih4 (k + 1) o ls (by omega) (by omega) (by omega) (by rw [bsI_step i0, ← i2]; first | (rw [if_pos c36]; done) | (rw [if_neg (by omega)]; done)) (by omega) (lv_sub hl [1, 2, 0] rfl)
          · refine lv_iload_n (pc := 39) hx hb dX5_answerIndex_39 rfl (lv_at hl 2 rfl) ?_
            refine lv_istore_n (pc := 40) (lv' := [(1, .int (nI k)), (0, .ref hsr), (2, .int (nI k))]) hx hb dX5_answerIndex_40 rfl hl (by decide) rfl (fun ls hl => ?_)
            refine lv_iinc (pc := 41) (v := (nI (k + 1))) (lv' := [(2, .int (nI (k + 1))), (1, .int (nI k)), (0, .ref hsr)]) hx hb dX5_answerIndex_41 hl (k := 2) rfl (nI_incr _) (by decide) rfl (fun ls hl => ?_)
            refine lv_goto (pc := 44) (tgt := 4) hx hb dX5_answerIndex_44 (by decide) ?_
            exact ih4 (k + 1) k ls (by omega) (by omega) (by omega) (by rw [bsI_step i0, ← i2]; first | (rw [if_pos c36]; done) | (rw [if_neg (by omega)]; done)) (by omega) (lv_sub hl [2, 1, 0] rfl)
  exact loop4 (_ + 1) 1 0 ls (Nat.lt_succ_self _) (by omega) (by omega) rfl (by omega) (lv_sub hl [2, 1, 0] rfl)
set_option maxHeartbeats 4000000 in
set_option maxRecDepth 100000 in
theorem c_X5_answer (l : Launch) (D : va_G) (cI cL cZ : ClassId) (tp tr : Nat) (hsr : Nat) (as1 : Nat → Nat) (mt : Nat → Nat) (ds : Nat → Nat) (cn : Nat) (hcn : cn ≤ 60) (hmt : ∀ i, i < cn → mt i < 2 ^ 63) (h0 : 0 < cn) : Met l yX5_answer wsX5_answer { frames := 2, cells := 0, slots := 0, locals := 44 } (rPS D (tyL cI cL cZ) tp tr [(hsr, .inr (3, oS as1 cn)), (as1 1, .inl (cL, 60, .inr (.inl (lA mt)))), (as1 2, .inl (cI, 60, .inl (nA ds)))] [.ref hsr]) (vp_Sl (fun r => r = (lN (mt (bsI mt cn))))) 0 0 (fun _ => False) := by
  refine Met.ofW (cc := cX5_answer) (maxL := 1) (ret := (some .long)) (by decide) rfl ?_
  intro pG eG s mG args below meth cG s₁ B hml hpre9
  obtain ⟨rfl, hP, hK, hZ⟩ := hpre9
  have hx := B.exec
  have hb := B.bytes
  have hr := B.returns
  have hts := atoms_spec (ws := wsX5_answer) B.pre
  have hown : s.vm.findClass RX5 = some mG.cls := findClass_of_methodNamed B.named
  have hlocks := B.notSynchronized
  have hS : va_S (fun _ => False) s.heap s.heap [] := va_S.rf
  have hinX5 : ∀ w ∈ wsX50, w ∈ wsX5_answer := fun w HH => (List.mem_cons_of_mem _ (List.mem_append_right _ HH))
  have lk0 : (Cond.fieldLink RX5 18 "RegexSimplifier$Search" "met" "[J").before _ s = true := hts _ (List.mem_cons_of_mem _ (List.mem_append_left _ (List.mem_of_getElem? (i := 0) rfl)))
  have hl := lv_entry ([.ref hsr]) (n := 1) (Nat.le_of_ble_eq_true rfl)
  rw [lg_entry_eq]
  generalize (lg_sl ([.ref hsr]) ++ List.replicate (1 - (lg_sl ([.ref hsr])).length) Slot.unset).toArray = ls at hl ⊢
  have hl : lv_has ls 1 [(0, .ref hsr)] := hl
  refine lv_aload_n (pc := 0) hx hb dX5_answer_0 rfl (lv_at hl 0 rfl) ?_
  refine va_get (pc := 1) (D := D) (ci := 3) (v := .ref (as1 1)) (C := RX5) (T := TX5) (N := 4) hx hb hts hinX5 hown hK hP 0 rfl rfl 1 (by decide) lk0 (fun _ h9 => h9) rfl dX5_answer_1 ?_
  refine lv_aload_n (pc := 4) hx hb dX5_answer_4 rfl (lv_at hl 0 rfl) ?_
  refine vp_callSi (pc := 5) (W.runV (As := []) (rest := [.ref (as1 1)]) ⟨hx, hb, hml, hown, hts⟩ (c_X5_answerIndex l D cI cL cZ tp tr hsr as1 mt ds cn hcn hmt h0) (cwV 0 hts gX5_answer_X5_answerIndex rfl rfl rfl (by decide +kernel) ⟨Nat.le_of_ble_eq_true rfl, Nat.le_of_ble_eq_true rfl⟩) (rPS_V (wc := [(hsr, .inr (3, oS as1 cn)), (as1 1, .inl (cL, 60, .inr (.inl (lA mt)))), (as1 2, .inl (cI, 60, .inl (nA ds)))]) (ci := 3) (q0 := 0) hK hP hZ hS [0, 1, 2] rfl rfl rfl) rfl rfl hl.1 rfl (lv_room (Nat.le_of_ble_eq_true rfl)) dX5_answer_5 ⟨Nat.zero_le _, Nat.zero_le _⟩) (fun r9 hrr => ?_)
  rw [hrr]
  refine xa_lald (pc := 8) hx hb hK hP 1 1 rfl rfl (by have := bsI_lt mt cn h0; omega) (by omega) dX5_answer_8 ?_
  exact W.lret (pc := 9) (v := (lN (mt (bsI mt cn)))) hx hb hr (fun t ht _ => ⟨_, rfl, (by first | rfl | ((repeat' split) <;> first | rfl | omega)), ht⟩) (fun _ h => absurd h List.not_mem_nil) dX5_answer_9
set_option maxHeartbeats 4000000 in
set_option maxRecDepth 100000 in
theorem c_X5_answerDistance (l : Launch) (D : va_G) (cI cL cZ : ClassId) (tp tr : Nat) (hsr : Nat) (as1 : Nat → Nat) (mt : Nat → Nat) (ds : Nat → Nat) (cn : Nat) (hcn : cn ≤ 60) (hmt : ∀ i, i < cn → mt i < 2 ^ 63) (h0 : 0 < cn) : Met l yX5_answerDistance wsX5_answerDistance { frames := 2, cells := 0, slots := 0, locals := 44 } (rPS D (tyL cI cL cZ) tp tr [(hsr, .inr (3, oS as1 cn)), (as1 1, .inl (cL, 60, .inr (.inl (lA mt)))), (as1 2, .inl (cI, 60, .inl (nA ds)))] [.ref hsr]) (vp_Si (fun r => r = (nI (ds (bsI mt cn))))) 0 0 (fun _ => False) := by
  refine Met.ofW (cc := cX5_answerDistance) (maxL := 1) (ret := (some .int)) (by decide) rfl ?_
  intro pG eG s mG args below meth cG s₁ B hml hpre9
  obtain ⟨rfl, hP, hK, hZ⟩ := hpre9
  have hx := B.exec
  have hb := B.bytes
  have hr := B.returns
  have hts := atoms_spec (ws := wsX5_answerDistance) B.pre
  have hown : s.vm.findClass RX5 = some mG.cls := findClass_of_methodNamed B.named
  have hlocks := B.notSynchronized
  have hS : va_S (fun _ => False) s.heap s.heap [] := va_S.rf
  have hinX5 : ∀ w ∈ wsX50, w ∈ wsX5_answerDistance := fun w HH => (List.mem_cons_of_mem _ (List.mem_append_right _ HH))
  have lk0 : (Cond.fieldLink RX5 22 "RegexSimplifier$Search" "distances" "[I").before _ s = true := hts _ (List.mem_cons_of_mem _ (List.mem_append_left _ (List.mem_of_getElem? (i := 0) rfl)))
  have hl := lv_entry ([.ref hsr]) (n := 1) (Nat.le_of_ble_eq_true rfl)
  rw [lg_entry_eq]
  generalize (lg_sl ([.ref hsr]) ++ List.replicate (1 - (lg_sl ([.ref hsr])).length) Slot.unset).toArray = ls at hl ⊢
  have hl : lv_has ls 1 [(0, .ref hsr)] := hl
  refine lv_aload_n (pc := 0) hx hb dX5_answerDistance_0 rfl (lv_at hl 0 rfl) ?_
  refine va_get (pc := 1) (D := D) (ci := 3) (v := .ref (as1 2)) (C := RX5) (T := TX5) (N := 4) hx hb hts hinX5 hown hK hP 0 rfl rfl 2 (by decide) lk0 (fun _ h9 => h9) rfl dX5_answerDistance_1 ?_
  refine lv_aload_n (pc := 4) hx hb dX5_answerDistance_4 rfl (lv_at hl 0 rfl) ?_
  refine vp_callSi (pc := 5) (W.runV (As := []) (rest := [.ref (as1 2)]) ⟨hx, hb, hml, hown, hts⟩ (c_X5_answerIndex l D cI cL cZ tp tr hsr as1 mt ds cn hcn hmt h0) (cwV 0 hts gX5_answerDistance_X5_answerIndex rfl rfl rfl (by decide +kernel) ⟨Nat.le_of_ble_eq_true rfl, Nat.le_of_ble_eq_true rfl⟩) (rPS_V (wc := [(hsr, .inr (3, oS as1 cn)), (as1 1, .inl (cL, 60, .inr (.inl (lA mt)))), (as1 2, .inl (cI, 60, .inl (nA ds)))]) (ci := 3) (q0 := 0) hK hP hZ hS [0, 1, 2] rfl rfl rfl) rfl rfl hl.1 rfl (lv_room (Nat.le_of_ble_eq_true rfl)) dX5_answerDistance_5 ⟨Nat.zero_le _, Nat.zero_le _⟩) (fun r9 hrr => ?_)
  rw [hrr]
  refine xa_iald (pc := 8) hx hb hK hP 2 0 rfl rfl (by have := bsI_lt mt cn h0; omega) (by omega) dX5_answerDistance_8 ?_
  exact W.iret (pc := 9) (v := (nI (ds (bsI mt cn)))) hx hb hr (fun t ht _ => ⟨_, rfl, (by first | rfl | ((repeat' split) <;> first | rfl | omega)), ht⟩) (fun _ h => absurd h List.not_mem_nil) dX5_answerDistance_9
