/-! constructors: new rows of arrays; links between nest mates -/
theorem vp_cellI (cA : ClassId) (N : Nat) : vp_cell cA (N, .inl (nA (fun _ => 0))) = arrV cA N (fun _ => defaultValue (.int)) := rfl
theorem vp_cellL (cA : ClassId) (N : Nat) : vp_cell cA (N, .inr (.inl (lA (fun _ => 0)))) = arrV cA N (fun _ => defaultValue (.long)) := rfl
theorem vp_cellZ (cA : ClassId) (N : Nat) : vp_cell cA (N, .inl (zA (fun _ => false))) = arrV cA N (fun _ => defaultValue (.boolean)) := rfl
section XNA
variable {p : Program} {l : Launch} {e : Env} {R : Room} {s : State} {m : MethodId} {args : Array Value} {below : List Frame} {meth : Method} {c : Code} {H : Heap} {locs : List Loc} {cells slots : Nat} {Q : State → Prop}
variable {pc : Nat} {ls : Array Slot} {rest : List Value} {D : va_G} {cI cL cZ : ClassId} {A : Nat → Prop} {ws : va_W} {H0 : Heap} {cc : ByteArray}
theorem xa_newI (hx : p.tables.exec = Jvm.exec) (hb : c.code = cc) (harr : (Cond.arrayClass .int).before args s = true) (hK : va_K D vwCl (tyL cI cL cZ) s) (hP : va_P D vwCl ws H) (hD : va_D A ws) (hS : va_S A H0 H locs) (hA : ∀ q, H0.size ≤ q → A q)
    {N : Nat} (hN : N < 2 ^ 31) (hbytes : N * componentBytes .int ≤ 536870912) (hcells : cells + 1 ≤ R.cells) (hslots : slots + N ≤ R.slots) (hdg : decode cc pc = .ok (.newarray .int, 2))
    (kk : ∀ (q : Nat) (H1 : Heap), va_P D vwCl (ws ++ [(q, .inl (cI, N, .inl (nA (fun _ => 0))))]) H1 → va_D A (ws ++ [(q, .inl (cI, N, .inl (nA (fun _ => 0))))]) → va_S A H0 H1 locs → W p l e R s m args below meth c H1 locs (cells + 1) (slots + N) Q (F0 m (pc + 2) ls (.ref q :: rest))) : W p l e R s m args below meth c H locs cells slots Q (F0 m pc ls (.int (nI N) :: rest)) := by
  refine va_newa (atype := .int) (ty := .int) (a0 := (N, .inl (nA (fun _ => 0)))) hx hb harr rfl hK hP hD hS hA (fun cA => vp_cellI cA N) (nI_pos hN) (nI_clamp hN) hbytes hcells hslots hdg (fun q cA H1 hK1 hP1 hD1 hS1 => ?_)
  have h1 : s.vm.findClass ("[" ++ FieldType.int.toString) = some cA := (hK1.2 3 (cA, .int) rfl).2
  have h2 : s.vm.findClass ("[" ++ FieldType.int.toString) = some cI := (hK.2 0 (cI, .int) rfl).2
  have h3 : cA = cI := Option.some.inj (h1.symm.trans h2)
  rw [h3] at hP1 hD1
  exact kk q H1 hP1 hD1 hS1
theorem xa_newL (hx : p.tables.exec = Jvm.exec) (hb : c.code = cc) (harr : (Cond.arrayClass .long).before args s = true) (hK : va_K D vwCl (tyL cI cL cZ) s) (hP : va_P D vwCl ws H) (hD : va_D A ws) (hS : va_S A H0 H locs) (hA : ∀ q, H0.size ≤ q → A q)
    {N : Nat} (hN : N < 2 ^ 31) (hbytes : N * componentBytes .long ≤ 536870912) (hcells : cells + 1 ≤ R.cells) (hslots : slots + N ≤ R.slots) (hdg : decode cc pc = .ok (.newarray .long, 2))
    (kk : ∀ (q : Nat) (H1 : Heap), va_P D vwCl (ws ++ [(q, .inl (cL, N, .inr (.inl (lA (fun _ => 0)))))]) H1 → va_D A (ws ++ [(q, .inl (cL, N, .inr (.inl (lA (fun _ => 0)))))]) → va_S A H0 H1 locs → W p l e R s m args below meth c H1 locs (cells + 1) (slots + N) Q (F0 m (pc + 2) ls (.ref q :: rest))) : W p l e R s m args below meth c H locs cells slots Q (F0 m pc ls (.int (nI N) :: rest)) := by
  refine va_newa (atype := .long) (ty := .long) (a0 := (N, .inr (.inl (lA (fun _ => 0))))) hx hb harr rfl hK hP hD hS hA (fun cA => vp_cellL cA N) (nI_pos hN) (nI_clamp hN) hbytes hcells hslots hdg (fun q cA H1 hK1 hP1 hD1 hS1 => ?_)
  have h1 : s.vm.findClass ("[" ++ FieldType.long.toString) = some cA := (hK1.2 3 (cA, .long) rfl).2
  have h2 : s.vm.findClass ("[" ++ FieldType.long.toString) = some cL := (hK.2 1 (cL, .long) rfl).2
  have h3 : cA = cL := Option.some.inj (h1.symm.trans h2)
  rw [h3] at hP1 hD1
  exact kk q H1 hP1 hD1 hS1
theorem xa_newZ (hx : p.tables.exec = Jvm.exec) (hb : c.code = cc) (harr : (Cond.arrayClass .boolean).before args s = true) (hK : va_K D vwCl (tyL cI cL cZ) s) (hP : va_P D vwCl ws H) (hD : va_D A ws) (hS : va_S A H0 H locs) (hA : ∀ q, H0.size ≤ q → A q)
    {N : Nat} (hN : N < 2 ^ 31) (hbytes : N * componentBytes .boolean ≤ 536870912) (hcells : cells + 1 ≤ R.cells) (hslots : slots + N ≤ R.slots) (hdg : decode cc pc = .ok (.newarray .boolean, 2))
    (kk : ∀ (q : Nat) (H1 : Heap), va_P D vwCl (ws ++ [(q, .inl (cZ, N, .inl (zA (fun _ => false))))]) H1 → va_D A (ws ++ [(q, .inl (cZ, N, .inl (zA (fun _ => false))))]) → va_S A H0 H1 locs → W p l e R s m args below meth c H1 locs (cells + 1) (slots + N) Q (F0 m (pc + 2) ls (.ref q :: rest))) : W p l e R s m args below meth c H locs cells slots Q (F0 m pc ls (.int (nI N) :: rest)) := by
  refine va_newa (atype := .boolean) (ty := .boolean) (a0 := (N, .inl (zA (fun _ => false)))) hx hb harr rfl hK hP hD hS hA (fun cA => vp_cellZ cA N) (nI_pos hN) (nI_clamp hN) hbytes hcells hslots hdg (fun q cA H1 hK1 hP1 hD1 hS1 => ?_)
  have h1 : s.vm.findClass ("[" ++ FieldType.boolean.toString) = some cA := (hK1.2 3 (cA, .boolean) rfl).2
  have h2 : s.vm.findClass ("[" ++ FieldType.boolean.toString) = some cZ := (hK.2 2 (cZ, .boolean) rfl).2
  have h3 : cA = cZ := Option.some.inj (h1.symm.trans h2)
  rw [h3] at hP1 hD1
  exact kk q H1 hP1 hD1 hS1
end XNA
def NE (U : State) : Prop := va_Nw (.methodLinkNest RX7 11 yX3_init RX7) U ∧ va_Nw (.methodLinkNest RX7 18 yX0_init RX7) U ∧ va_Nw (.methodLinkNest RX7 28 yX2_init RX7) U ∧ va_Nw (.methodLinkNest RX7 35 yX5_init RX7) U ∧ va_Nw (.methodLinkNest RX7 42 yX6_init RX7) U ∧ va_Nw (.methodLinkNest RX5 11 yX3_init RX7) U
theorem NE.warm {s U : State} (hW : s.WarmedH U.vm) (h : NE s) : NE U := ⟨va_Nw.warmM hW h.1, va_Nw.warmM hW h.2.1, va_Nw.warmM hW h.2.2.1, va_Nw.warmM hW h.2.2.2.1, va_Nw.warmM hW h.2.2.2.2.1, va_Nw.warmM hW h.2.2.2.2.2⟩
theorem NE.same {u U : State} (hv : u.vm = U.vm) (h : NE u) : NE U := ⟨va_Nw.same rfl hv h.1, va_Nw.same rfl hv h.2.1, va_Nw.same rfl hv h.2.2.1, va_Nw.same rfl hv h.2.2.2.1, va_Nw.same rfl hv h.2.2.2.2.1, va_Nw.same rfl hv h.2.2.2.2.2⟩
abbrev mPN (D : va_G) (ty : List (ClassId × FieldType)) (ws : va_W) (sz : Nat) (av : List Value) : Array Value → State → Prop := va_Pc av (fun U => U.heap.size = sz ∧ va_P D vwCl ws U.heap ∧ va_K D vwCl ty U ∧ va_D (fun _ => True) ws ∧ NE U)
section XCN
variable {D : va_G} {ty : List (ClassId × FieldType)} {ws wc : va_W} {av As : List Value} {sz : Nat} {s : State} {H : Heap} {A : Nat → Prop}
theorem mPN_b : FrameBlind (mPN D ty ws sz av) := fun a U g mk q => ⟨q.1, q.2.1, q.2.2.1, va_K.moved (u := U) (U := U.calling g mk a) (Vm.Alike.refl U.vm) q.2.2.2.1, q.2.2.2.2.1, NE.same (u := U) (U := U.calling g mk a) rfl q.2.2.2.2.2⟩
theorem mPN_S (hK : va_K D vwCl ty s) (hP : va_P D vwCl ws H) (hD : va_D A ws) (hN : NE s) (is : List Nat) (hn : va_nd is = true) (hs : is.map (fun i => ws[i]?) = wc.map some) : PreS s H (mPN D ty wc H.size As) As :=
  ⟨mPN_b, fun U hU hW => ⟨rfl, by rw [hU], by rw [hU]; exact hP.sub is (filt_of_map hs), va_K.moved hW.alike hK, (hD.sub is hn hs).weaken (fun _ _ _ _ => trivial), NE.warm hW hN⟩⟩
end XCN
