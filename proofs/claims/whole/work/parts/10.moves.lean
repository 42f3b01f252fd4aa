/-! solving by moves: three to an area, in their order -/
def bz_ot (r i : Nat) : Nat := if i < r then i else i + 1
noncomputable def bz_mv (t : bz_T) : Nat → Nat → (Nat → Nat) → (Nat → Nat)
  | 0, _, f => f
  | k + 1, mi, f => if mi < 3 * bz_n t then (if bz_co t (bz_fu (va_up f (mi / 3) (bz_ot (f (mi / 3)) (mi % 3)))) < bz_co t (bz_fu f) then bz_mv t k 0 (va_up f (mi / 3) (bz_ot (f (mi / 3)) (mi % 3))) else bz_mv t k (mi + 1) f) else f
theorem bz_mv_end {t : bz_T} {mi : Nat} (h : 3 * bz_n t ≤ mi) (k : Nat) (f : Nat → Nat) : bz_mv t k mi f = f := by
  cases k with
  | zero => rfl
  | succ k => unfold bz_mv; rw [if_neg (by omega)]
theorem bz_mv_do {t : bz_T} {mi k : Nat} {f : Nat → Nat} (h : mi < 3 * bz_n t) (hc : bz_co t (bz_fu (va_up f (mi / 3) (bz_ot (f (mi / 3)) (mi % 3)))) < bz_co t (bz_fu f)) : bz_mv t (k + 1) mi f = bz_mv t k 0 (va_up f (mi / 3) (bz_ot (f (mi / 3)) (mi % 3))) := by
  rw [bz_mv, if_pos h, if_pos hc]
theorem bz_mv_no {t : bz_T} {mi k : Nat} {f : Nat → Nat} (h : mi < 3 * bz_n t) (hc : ¬ bz_co t (bz_fu (va_up f (mi / 3) (bz_ot (f (mi / 3)) (mi % 3)))) < bz_co t (bz_fu f)) : bz_mv t (k + 1) mi f = bz_mv t k (mi + 1) f := by
  rw [bz_mv, if_pos h, if_neg hc]
