theorem oV_ix {v r p : Nat} (hr : r < 16) : oV v ((16 * p + r) % 16) ((16 * p + r) / 16) = oV v r p := by
  rw [show (16 * p + r) % 16 = r from by omega, show (16 * p + r) / 16 = p from by omega]
/-- the applicable pairs among the first k -/
def apk (v k : Nat) : Nat := fa_cnt (fun k => (oV v (k % 16) (k / 16)).isSome) k
theorem apk_yes {v k : Nat} (h : (oV v (k % 16) (k / 16)).isSome = true) : apk v (k + 1) = apk v k + 1 := fa_cnt_yes h
theorem apk_no {v k : Nat} (h : ¬ (oV v (k % 16) (k / 16)).isSome = true) : apk v (k + 1) = apk v k := fa_cnt_no (by simpa using h)
theorem apk_le (v k : Nat) : apk v k ≤ k := fa_cnt_le _ k
