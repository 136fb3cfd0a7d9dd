/-! rows for counting down to -1, and for adding -1 -/
theorem nI_dec1 {a : Nat} (h : 0 < a) : nI a - 1 = nI (a - 1) := by
  obtain ⟨b, rfl⟩ : ∃ b, a = b + 1 := ⟨a - 1, by omega⟩
  exact nI_pred b
theorem nI_decm (a : Nat) : nI a + Int32.ofInt (-1) = nI a - 1 := by
  rw [show Int32.ofInt (-1) = -1 from by decide, Int32.sub_eq_add_neg]
theorem nI_m1_lt {a : Nat} (h : a < 2 ^ 31) : nI a - 1 < 0 ↔ a = 0 := by
  rcases Nat.eq_zero_or_pos a with q | q
  · subst q; exact ⟨fun _ => rfl, fun _ => by decide⟩
  · rw [nI_dec1 q]; exact ⟨fun z => absurd z (nI_pos (by omega)), fun z => by omega⟩
section XN2
variable {p : Program} {l : Launch} {e : Env} {R : Room} {s : State} {m : MethodId} {args : Array Value} {below : List Frame} {meth : Method} {c : Code} {H : Heap} {locs : List Loc} {cells slots : Nat} {Q : State → Prop}
variable {cc : ByteArray} {pc : Nat} {ls : Array Slot} {rest : List Value}
theorem xm_if_lt (hx : p.tables.exec = Jvm.exec) (hb : c.code = cc) {a : Nat} (h1 : a < 2 ^ 31) {off : Int} {tgt : Nat} (hdg : decode cc pc = .ok (.ifCond .lt off, 3)) (ht : (pc : Int) + off = (tgt : Int)) (kt : a = 0 → W p l e R s m args below meth c H locs cells slots Q (F0 m tgt ls rest)) (kf : 0 < a → W p l e R s m args below meth c H locs cells slots Q (F0 m (pc + 3) ls rest)) : W p l e R s m args below meth c H locs cells slots Q (F0 m pc ls (.int (nI a - 1) :: rest)) := lv_if_lt hx hb hdg ht (fun h => kt ((nI_m1_lt h1).mp h)) (fun h => kf (Nat.pos_of_ne_zero (fun q => h ((nI_m1_lt h1).mpr q))))
theorem xn_iaddm (hx : p.tables.exec = Jvm.exec) (hb : c.code = cc) {a : Nat} (h : 0 < a) (hdg : decode cc pc = .ok (.iadd, 1)) (k : W p l e R s m args below meth c H locs cells slots Q (F0 m (pc + 1) ls (.int (nI (a - 1)) :: rest))) : W p l e R s m args below meth c H locs cells slots Q (F0 m pc ls (.int (-1) :: .int (nI a) :: rest)) := lv_iadd hx hb hdg (by rw [sb_m1 h]; exact k)
end XN2
