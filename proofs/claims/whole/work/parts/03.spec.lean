/-! what a town and a share are, in plain numbers -/
def bz_sm (f : Nat → Nat) : Nat → Nat
  | 0 => 0
  | k + 1 => bz_sm f k + f k
theorem bz_sm_ext {f g : Nat → Nat} : ∀ {n : Nat}, (∀ i, i < n → f i = g i) → bz_sm f n = bz_sm g n
  | 0, _ => rfl
  | n + 1, h => by
    show bz_sm f n + f n = bz_sm g n + g n
    rw [bz_sm_ext (fun i hi => h i (by omega)), h n (by omega)]
theorem bz_sm_le {f g : Nat → Nat} : ∀ {n : Nat}, (∀ i, i < n → f i ≤ g i) → bz_sm f n ≤ bz_sm g n
  | 0, _ => Nat.le_refl _
  | n + 1, h => Nat.add_le_add (bz_sm_le (fun i hi => h i (by omega))) (h n (by omega))
theorem bz_sm_bd {f : Nat → Nat} {b : Nat} : ∀ {n : Nat}, (∀ i, i < n → f i ≤ b) → bz_sm f n ≤ n * b
  | 0, _ => Nat.zero_le _
  | n + 1, h => by
    show bz_sm f n + f n ≤ (n + 1) * b
    have h1 := bz_sm_bd (f := f) (b := b) (n := n) (fun i hi => h i (by omega))
    have h2 := h n (by omega)
    rw [Nat.add_mul]
    omega
/-- one place changed -/
theorem bz_sm_one {f g : Nat → Nat} {a : Nat} : ∀ {n : Nat}, a < n → (∀ i, i < n → i ≠ a → f i = g i) → bz_sm f n + g a = bz_sm g n + f a
  | 0, h, _ => absurd h (by omega)
  | n + 1, h, he => by
    show bz_sm f n + f n + g a = bz_sm g n + g n + f a
    by_cases e : a = n
    · subst e
      have := bz_sm_ext (f := f) (g := g) (n := a) (fun i hi => he i (by omega) (by omega))
      omega
    · have h1 := bz_sm_one (f := f) (g := g) (a := a) (n := n) (by omega) (fun i hi hn => he i (by omega) hn)
      have h2 := he n (by omega) (fun q => e q.symm)
      omega
def bz_ct (f : Nat → Bool) (n : Nat) : Nat := bz_sm (fun i => if f i then 1 else 0) n
abbrev bz_T : Type := Nat × (Nat → Nat) × (Nat → Nat) × (Nat → Nat → Bool) × (Nat → Nat → Bool) × (Nat → Nat)
abbrev bz_n (t : bz_T) : Nat := t.1
abbrev bz_l (t : bz_T) : Nat → Nat := t.2.1
abbrev bz_d (t : bz_T) : Nat → Nat := t.2.2.1
abbrev bz_j (t : bz_T) : Nat → Nat → Bool := t.2.2.2.1
abbrev bz_k (t : bz_T) : Nat → Nat → Bool := t.2.2.2.2.1
abbrev bz_h (t : bz_T) : Nat → Nat := t.2.2.2.2.2
/-- a town as it can come to be -/
def bz_ok (t : bz_T) : Prop := bz_n t ≤ 30 ∧ (∀ a, bz_l t a ≤ 1000000) ∧ (∀ a, bz_d t a < 4) ∧ (∀ a b, bz_j t a b = true → a < bz_n t ∧ b < bz_n t ∧ a ≠ b) ∧ (∀ a b, bz_j t a b = bz_j t b a) ∧ (∀ r a, bz_k t r a = true → r < 4 ∧ a < bz_n t) ∧ (∀ r, bz_h t r ≤ 1000000000)
/-- an area's load in a round -/
def bz_w (t : bz_T) (a r : Nat) : Nat := if bz_k t r a then (bz_l t a * 9 + 9) / 10 else bz_l t a
theorem bz_w_le {t : bz_T} (h : bz_ok t) (a r : Nat) : bz_w t a r ≤ 1000000 := by
  have := h.2.1 a
  unfold bz_w
  split <;> omega
/-- a share: each area's round, and which areas are still open -/
abbrev bz_S : Type := (Nat → Nat) × (Nat → Bool)
def bz_in (t : bz_T) (s : bz_S) (r a : Nat) : Bool := decide (a < bz_n t) && (!s.2 a && decide (s.1 a = r))
def bz_op (t : bz_T) (s : bz_S) (a : Nat) : Bool := decide (a < bz_n t) && s.2 a
def bz_ld (t : bz_T) (s : bz_S) (r : Nat) : Nat := bz_sm (fun a => if bz_in t s r a then bz_w t a r else 0) (bz_n t)
def bz_ch (t : bz_T) (s : bz_S) : Nat := bz_ct (fun a => !s.2 a && decide (s.1 a ≠ bz_d t a)) (bz_n t)
def bz_rc (j : Nat → Nat → Bool) (o : Nat → Bool) (a b : Nat) : Prop := ∀ x : Nat → Bool, x a = true → (∀ i k, x i = true → j i k = true → o k = true → x k = true) → x b = true
/-- from the least area of a set there is a way to each of them -/
def bz_tg (j : Nat → Nat → Bool) (f o : Nat → Bool) : Prop := ∀ a, f a = true → (∀ i, i < a → f i = false) → ∀ b, f b = true → bz_rc j o a b
def bz_ht (t : bz_T) (s : bz_S) (r : Nat) : Prop := bz_tg (bz_j t) (bz_in t s r) (fun a => bz_in t s r a || bz_op t s a)
noncomputable def bz_b (q : Prop) : Nat := @ite Nat q (Classical.propDecidable q) 1 0
theorem bz_b1 {q : Prop} (h : q) : bz_b q = 1 := by unfold bz_b; rw [if_pos h]
theorem bz_b0 {q : Prop} (h : ¬ q) : bz_b q = 0 := by unfold bz_b; rw [if_neg h]
theorem bz_b_le (q : Prop) : bz_b q ≤ 1 := by
  by_cases h : q
  · rw [bz_b1 h]; exact Nat.le_refl _
  · rw [bz_b0 h]; exact Nat.zero_le _
theorem bz_b_mono {q1 q2 : Prop} (h : q1 → q2) : bz_b q1 ≤ bz_b q2 := by
  by_cases h1 : q1
  · rw [bz_b1 h1, bz_b1 (h h1)]; exact Nat.le_refl _
  · rw [bz_b0 h1]; exact Nat.zero_le _
/-- the faults of a round -/
noncomputable def bz_fr (t : bz_T) (s : bz_S) (r : Nat) : Nat := bz_b (¬ bz_ht t s r) + (if bz_h t r = 0 then bz_ct (bz_in t s r) (bz_n t) else bz_b (bz_h t r < bz_ld t s r))
/-- where no round has hours each open area will be a fault -/
def bz_fo (t : bz_T) (s : bz_S) : Nat := if bz_h t 0 = 0 ∧ bz_h t 1 = 0 ∧ bz_h t 2 = 0 ∧ bz_h t 3 = 0 then bz_ct (bz_op t s) (bz_n t) else 0
noncomputable def bz_ft (t : bz_T) (s : bz_S) : Nat := bz_fo t s + bz_sm (bz_fr t s) 4
def bz_gl (t : bz_T) (s : bz_S) : Nat := max (max (max (bz_ld t s 0) (bz_ld t s 1)) (bz_ld t s 2)) (bz_ld t s 3)
noncomputable def bz_co (t : bz_T) (s : bz_S) : Nat := 1000000000000 * bz_ft t s + 100 * bz_gl t s + bz_ch t s
theorem bz_ct_le (f : Nat → Bool) (n : Nat) : bz_ct f n ≤ n := by
  have := bz_sm_bd (f := fun i => if f i then 1 else 0) (b := 1) (n := n) (fun i _ => by split <;> omega)
  unfold bz_ct
  omega
theorem bz_ld_le {t : bz_T} (h : bz_ok t) (s : bz_S) (r : Nat) : bz_ld t s r ≤ 30000000 := by
  have h1 := bz_sm_bd (f := fun a => if bz_in t s r a then bz_w t a r else 0) (b := 1000000) (n := bz_n t) (fun i _ => by
    have := bz_w_le h i r
    show (if bz_in t s r i then bz_w t i r else 0) ≤ 1000000
    split <;> omega)
  have h2 := h.1
  unfold bz_ld
  omega
theorem bz_gl_le {t : bz_T} (h : bz_ok t) (s : bz_S) : bz_gl t s ≤ 30000000 := by
  have h0 := bz_ld_le h s 0
  have h1 := bz_ld_le h s 1
  have h2 := bz_ld_le h s 2
  have h3 := bz_ld_le h s 3
  unfold bz_gl
  omega
theorem bz_fr_le {t : bz_T} (h : bz_ok t) (s : bz_S) (r : Nat) : bz_fr t s r ≤ 31 := by
  have h1 := bz_ct_le (bz_in t s r) (bz_n t)
  have h2 := bz_b_le (¬ bz_ht t s r)
  have h3 := bz_b_le (bz_h t r < bz_ld t s r)
  have h4 := h.1
  unfold bz_fr
  split <;> omega
theorem bz_fo_le {t : bz_T} (h : bz_ok t) (s : bz_S) : bz_fo t s ≤ 30 := by
  have h1 := bz_ct_le (bz_op t s) (bz_n t)
  have h2 := h.1
  unfold bz_fo
  split <;> omega
theorem bz_ft_le {t : bz_T} (h : bz_ok t) (s : bz_S) : bz_ft t s ≤ 154 := by
  have := bz_sm_bd (f := bz_fr t s) (b := 31) (n := 4) (fun i _ => bz_fr_le h s i)
  have h2 := bz_fo_le h s
  unfold bz_ft
  omega
theorem bz_ch_le {t : bz_T} (h : bz_ok t) (s : bz_S) : bz_ch t s ≤ 30 := by
  have h1 := bz_ct_le (fun a => !s.2 a && decide (s.1 a ≠ bz_d t a)) (bz_n t)
  have h2 := h.1
  unfold bz_ch
  omega
theorem bz_co_le {t : bz_T} (h : bz_ok t) (s : bz_S) : bz_co t s ≤ 154003000000030 := by
  have h1 := bz_ft_le h s
  have h2 := bz_gl_le h s
  have h3 := bz_ch_le h s
  unfold bz_co
  omega
