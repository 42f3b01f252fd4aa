/-! what putting an area into a round, and taking it out, does to the kept numbers -/
def bz_pu (s : bz_S) (a r : Nat) : bz_S := (va_up s.1 a r, va_up s.2 a false)
def bz_ta (s : bz_S) (a : Nat) : bz_S := (s.1, va_up s.2 a true)
abbrev bz_RT : Type := (Nat → Int64) × (Nat → Int32) × (Nat → Int32) × (Nat → Int32) × (Nat → Int64) × Int32
abbrev bz_RS : Type := (Nat → Int32) × (Nat → Int32) × (Nat → Int64) × Int32 × Int32
def bz_tR (t : bz_T) : bz_RT := (fun j => lN (bz_l t j), fun j => nI (bz_d t j), fun a => bz_m (bz_j t a), fun r => bz_m (bz_k t r), fun r => lN (bz_h t r), nI (bz_n t))
def bz_sR (t : bz_T) (s : bz_S) : bz_RS := (fun a => nI (s.1 a), fun r => bz_m (bz_in t s r), fun r => lN (bz_ld t s r), bz_m (bz_op t s), nI (bz_ch t s))
theorem bz_up_s {α : Type} (f : Nat → α) (k : Nat) (v : α) : va_up f k v k = v := by unfold va_up; rw [if_pos rfl]
theorem bz_up_n {α : Type} (f : Nat → α) {k j : Nat} (v : α) (h : j ≠ k) : va_up f k v j = f j := by unfold va_up; rw [if_neg h]
theorem bz_updI (f : Nat → Nat) (a r : Nat) : upd (fun i => nI (f i)) a (nI r) = fun i => nI (va_up f a r i) := by
  funext i
  unfold upd va_up
  split <;> rfl
theorem bz_updL (f : Nat → Nat) (a r : Nat) : vp_updL (fun i => lN (f i)) a (lN r) = fun i => lN (va_up f a r i) := by
  funext i
  unfold vp_updL va_up
  split <;> rfl
theorem bz_updM (f : Nat → Nat → Bool) (a : Nat) (g : Nat → Bool) : upd (fun i => bz_m (f i)) a (bz_m g) = fun i => bz_m (va_up f a g i) := by
  funext i
  unfold upd va_up
  split <;> rfl
section BZP
variable {t : bz_T} {s : bz_S} {a r : Nat}
theorem bz_in_pu (ho : s.2 a = true) (q : Nat) : bz_in t (bz_pu s a r) q = fun i => bz_in t s q i || (decide (i = a) && (decide (a < bz_n t) && decide (r = q))) := by
  funext i
  unfold bz_in bz_pu
  by_cases e : i = a
  · subst e
    simp [bz_up_s, ho]
  · simp [bz_up_n _ _ e, e]
theorem bz_op_pu : bz_op t (bz_pu s a r) = fun i => bz_op t s i && !decide (i = a) := by
  funext i
  unfold bz_op bz_pu
  by_cases e : i = a
  · subst e
    simp [bz_up_s]
  · simp [bz_up_n _ _ e, e]
theorem bz_ld_pu (ha : a < bz_n t) (ho : s.2 a = true) (q : Nat) : bz_ld t (bz_pu s a r) q = if q = r then bz_ld t s q + bz_w t a q else bz_ld t s q := by
  have h0 : bz_in t s q a = false := by
    unfold bz_in
    simp [ho]
  have e1 : bz_in t (bz_pu s a r) q a = decide (r = q) := by
    rw [bz_in_pu ho]
    simp [h0, ha]
  have h : bz_ld t (bz_pu s a r) q + (if bz_in t s q a then bz_w t a q else 0) = bz_ld t s q + (if bz_in t (bz_pu s a r) q a then bz_w t a q else 0) := bz_sm_one (f := fun i => if bz_in t (bz_pu s a r) q i then bz_w t i q else 0) (g := fun i => if bz_in t s q i then bz_w t i q else 0) (a := a) (n := bz_n t) ha (fun i _ hne => by
    rw [bz_in_pu ho]
    simp [hne])
  rw [h0, e1] at h
  by_cases e : q = r
  · rw [if_pos e]
    rw [if_pos (decide_eq_true e.symm), if_neg (by simp)] at h
    omega
  · rw [if_neg e]
    rw [if_neg (by simp), if_neg (by simpa using fun z : r = q => e z.symm)] at h
    omega
theorem bz_ch_pu (ha : a < bz_n t) (ho : s.2 a = true) : bz_ch t (bz_pu s a r) = if r = bz_d t a then bz_ch t s else bz_ch t s + 1 := by
  have h : bz_ch t (bz_pu s a r) + (if (!s.2 a && decide (s.1 a ≠ bz_d t a)) then 1 else 0) = bz_ch t s + (if (!(bz_pu s a r).2 a && decide ((bz_pu s a r).1 a ≠ bz_d t a)) then 1 else 0) := bz_sm_one (f := fun i => if (!(bz_pu s a r).2 i && decide ((bz_pu s a r).1 i ≠ bz_d t i)) then 1 else 0) (g := fun i => if (!s.2 i && decide (s.1 i ≠ bz_d t i)) then 1 else 0) (a := a) (n := bz_n t) ha (fun i _ hne => by
    unfold bz_pu
    simp [bz_up_n _ _ hne])
  have e1 : (bz_pu s a r).2 a = false := bz_up_s _ _ _
  have e2 : (bz_pu s a r).1 a = r := bz_up_s _ _ _
  rw [e1, e2, ho] at h
  by_cases e : r = bz_d t a
  · rw [if_pos e]
    simp [e] at h
    rw [e]
    omega
  · rw [if_neg e]
    simp [e] at h
    omega
theorem bz_in_ta (q : Nat) : bz_in t (bz_ta s a) q = fun i => bz_in t s q i && !decide (i = a) := by
  funext i
  unfold bz_in bz_ta
  by_cases e : i = a
  · subst e
    simp [bz_up_s]
  · simp [bz_up_n _ _ e, e]
theorem bz_op_ta : bz_op t (bz_ta s a) = fun i => bz_op t s i || (decide (i = a) && decide (a < bz_n t)) := by
  funext i
  unfold bz_op bz_ta
  by_cases e : i = a
  · subst e
    by_cases q : i < bz_n t <;> simp [bz_up_s, q]
  · simp [bz_up_n _ _ e, e]
theorem bz_ld_ta (ha : a < bz_n t) (ho : s.2 a = false) (q : Nat) : bz_ld t s q = bz_ld t (bz_ta s a) q + if q = s.1 a then bz_w t a q else 0 := by
  have h0 : bz_in t s q a = decide (q = s.1 a) := by
    unfold bz_in
    simp [ho, ha, eq_comm]
  have e1 : bz_in t (bz_ta s a) q a = false := by
    rw [bz_in_ta]
    simp
  have h : bz_ld t (bz_ta s a) q + (if bz_in t s q a then bz_w t a q else 0) = bz_ld t s q + (if bz_in t (bz_ta s a) q a then bz_w t a q else 0) := bz_sm_one (f := fun i => if bz_in t (bz_ta s a) q i then bz_w t i q else 0) (g := fun i => if bz_in t s q i then bz_w t i q else 0) (a := a) (n := bz_n t) ha (fun i _ hne => by
    rw [bz_in_ta]
    simp [hne])
  rw [h0, e1] at h
  by_cases e : q = s.1 a
  · rw [if_pos e]
    rw [if_pos (decide_eq_true e), if_neg (by simp)] at h
    omega
  · rw [if_neg e]
    rw [if_neg (by simpa using e), if_neg (by simp)] at h
    omega
theorem bz_ch_ta (ha : a < bz_n t) (ho : s.2 a = false) : bz_ch t s = bz_ch t (bz_ta s a) + if s.1 a = bz_d t a then 0 else 1 := by
  have h : bz_ch t (bz_ta s a) + (if (!s.2 a && decide (s.1 a ≠ bz_d t a)) then 1 else 0) = bz_ch t s + (if (!(bz_ta s a).2 a && decide ((bz_ta s a).1 a ≠ bz_d t a)) then 1 else 0) := bz_sm_one (f := fun i => if (!(bz_ta s a).2 i && decide ((bz_ta s a).1 i ≠ bz_d t i)) then 1 else 0) (g := fun i => if (!s.2 i && decide (s.1 i ≠ bz_d t i)) then 1 else 0) (a := a) (n := bz_n t) ha (fun i _ hne => by
    unfold bz_ta
    simp [bz_up_n _ _ hne])
  have e1 : (bz_ta s a).2 a = true := bz_up_s _ _ _
  rw [e1, ho] at h
  by_cases e : s.1 a = bz_d t a
  · rw [if_pos e]
    simp [e] at h
    omega
  · rw [if_neg e]
    simp [e] at h
    omega
end BZP
