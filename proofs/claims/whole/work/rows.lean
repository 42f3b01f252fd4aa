section
/-! sets of areas as the bits of an int -/
def bt (x : Int32) (i : Nat) : Bool := x.toBitVec.getLsbD i
theorem b_ext {x y : Int32} (h : ∀ i, i < 32 → bt x i = bt y i) : x = y := Int32.toBitVec_inj.mp (BitVec.eq_of_getLsbD_eq (fun i hi => h i hi))
theorem b_or (x y : Int32) (i : Nat) : bt (x ||| y) i = (bt x i || bt y i) := by unfold bt; rw [Int32.toBitVec_or, BitVec.getLsbD_or]
theorem b_and (x y : Int32) (i : Nat) : bt (x &&& y) i = (bt x i && bt y i) := by unfold bt; rw [Int32.toBitVec_and, BitVec.getLsbD_and]
theorem b_xor (x y : Int32) (i : Nat) : bt (x ^^^ y) i = (bt x i ^^ bt y i) := by unfold bt; rw [Int32.toBitVec_xor, BitVec.getLsbD_xor]
theorem b_big {x : Int32} {i : Nat} (h : 32 ≤ i) : bt x i = false := BitVec.getLsbD_of_ge _ _ h
theorem b_m1 : ∀ i, i < 32 → bt (-1) i = true := by decide +kernel
theorem b_0 (i : Nat) : bt 0 i = false := BitVec.getLsbD_zero
theorem b_shl1 : ∀ n, n < 32 → ∀ i, i < 32 → bt ((1 : Int32) <<< (nI n &&& 31)) i = decide (i = n) := by decide +kernel
/-- the int whose bits are the set -/
def bz_m (f : Nat → Bool) : Int32 := Int32.ofBitVec ((BitVec.ofBoolListLE ((List.range 32).map f)).cast (by simp))
theorem bz_bt (f : Nat → Bool) {i : Nat} (hi : i < 32) : bt (bz_m f) i = f i := by
  unfold bt bz_m
  rw [show (Int32.ofBitVec ((BitVec.ofBoolListLE ((List.range 32).map f)).cast (by simp))).toBitVec = ((BitVec.ofBoolListLE ((List.range 32).map f)).cast (by simp)) from rfl, BitVec.getLsbD_cast, BitVec.getLsbD_ofBoolListLE]
  simp [hi]
theorem bz_ext {f g : Nat → Bool} (h : ∀ i, i < 32 → f i = g i) : bz_m f = bz_m g := b_ext fun i hi => by rw [bz_bt f hi, bz_bt g hi, h i hi]
theorem bz_inj {f g : Nat → Bool} (h : bz_m f = bz_m g) {i : Nat} (hi : i < 32) : f i = g i := by rw [← bz_bt f hi, ← bz_bt g hi, h]
theorem bz_or (f g : Nat → Bool) : bz_m f ||| bz_m g = bz_m (fun i => f i || g i) := b_ext fun i hi => by rw [b_or, bz_bt f hi, bz_bt g hi, bz_bt _ hi]
theorem bz_and (f g : Nat → Bool) : bz_m f &&& bz_m g = bz_m (fun i => f i && g i) := b_ext fun i hi => by rw [b_and, bz_bt f hi, bz_bt g hi, bz_bt _ hi]
theorem bz_xor (f g : Nat → Bool) : bz_m f ^^^ bz_m g = bz_m (fun i => f i ^^ g i) := b_ext fun i hi => by rw [b_xor, bz_bt f hi, bz_bt g hi, bz_bt _ hi]
theorem bz_not (f : Nat → Bool) : bz_m f ^^^ (-1) = bz_m (fun i => !f i) := b_ext fun i hi => by rw [b_xor, bz_bt f hi, b_m1 i hi, bz_bt _ hi]; cases f i <;> rfl
theorem bz_one {n : Nat} (hn : n < 32) : (1 : Int32) <<< (nI n &&& 31) = bz_m (fun i => decide (i = n)) := b_ext fun i hi => by rw [b_shl1 n hn i hi, bz_bt _ hi]
theorem bz_zero : (0 : Int32) = bz_m (fun _ => false) := b_ext fun i hi => by rw [b_0, bz_bt _ hi]
theorem bz_eq0 (f : Nat → Bool) : bz_m f = 0 ↔ ∀ i, i < 32 → f i = false := by
  rw [bz_zero]
  exact ⟨fun h i hi => bz_inj h hi, fun h => bz_ext h⟩
theorem bz_eqI (f g : Nat → Bool) : bz_m f = bz_m g ↔ ∀ i, i < 32 → f i = g i := ⟨fun h i hi => bz_inj h hi, fun h => bz_ext h⟩
theorem bz_test (f : Nat → Bool) {n : Nat} (hn : n < 32) : bz_m f &&& ((1 : Int32) <<< (nI n &&& 31)) = 0 ↔ f n = false := by
  rw [bz_one hn, bz_and, bz_eq0]
  constructor
  · intro h
    have := h n hn
    simpa using this
  · intro h i hi
    by_cases e : i = n
    · subst e; simp [h]
    · simp [e]
theorem bz_all : ∀ n, n < 31 → ((1 : Int32) <<< (nI n &&& 31)) - 1 = bz_m (fun i => decide (i < n)) := by decide +kernel
/-- the least bit of a set -/
theorem bz_low (f : Nat → Bool) : bz_m f &&& (-(bz_m f)) = bz_m (fun i => f i && !(decide (∃ j, j < i ∧ f j = true))) := by
  apply b_ext
  intro i hi
  rw [b_and, bz_bt f hi, bz_bt _ hi]
  have h : bt (-(bz_m f)) i = (f i ^^ decide (∃ j, j < i ∧ f j = true)) := by
    show ((-(bz_m f)).toBitVec).getLsbD i = _
    rw [Int32.toBitVec_neg, BitVec.getLsbD_neg]
    rw [show (bz_m f).toBitVec.getLsbD i = f i from bz_bt f hi]
    have e : (f i ^^ decide (i < 32) && decide (∃ j, j < i ∧ (bz_m f).toBitVec.getLsbD j = true)) = (f i ^^ decide (∃ j, j < i ∧ f j = true)) := by
      rw [decide_eq_true hi, Bool.true_and]
      congr 1
      apply decide_eq_decide.mpr
      constructor
      · rintro ⟨j, h1, h2⟩
        exact ⟨j, h1, by rw [← bz_bt f (show j < 32 by omega)]; exact h2⟩
      · rintro ⟨j, h1, h2⟩
        exact ⟨j, h1, by rw [show (bz_m f).toBitVec.getLsbD j = f j from bz_bt f (show j < 32 by omega)]; exact h2⟩
    exact e
  rw [h]
  cases f i <;> simp
end
section
/-! what a town and a share are, in plain numbers -/
def bz_sm (f : Nat → Nat) : Nat → Nat
  | 0 => 0
  | k + 1 => bz_sm f k + f k
theorem bz_sm_ext {f g : Nat → Nat} : ∀ {n : Nat}, (∀ i, i < n → f i = g i) → bz_sm f n = bz_sm g n
  | 0, _ => rfl
  | n + 1, h => by
    show bz_sm f n + f n = bz_sm g n + g n
    rw [bz_sm_ext (fun i hi => h i (by omega)), h n (by omega)]
theorem bz_sm_le {f g : Nat → Nat} : ∀ {n : Nat}, (∀ i, i < n → f i ≤ g i) → bz_sm f n ≤ bz_sm g n
  | 0, _ => Nat.le_refl _
  | n + 1, h => Nat.add_le_add (bz_sm_le (fun i hi => h i (by omega))) (h n (by omega))
theorem bz_sm_bd {f : Nat → Nat} {b : Nat} : ∀ {n : Nat}, (∀ i, i < n → f i ≤ b) → bz_sm f n ≤ n * b
  | 0, _ => Nat.zero_le _
  | n + 1, h => by
    show bz_sm f n + f n ≤ (n + 1) * b
    have h1 := bz_sm_bd (f := f) (b := b) (n := n) (fun i hi => h i (by omega))
    have h2 := h n (by omega)
    rw [Nat.add_mul]
    omega
/-- one place changed -/
theorem bz_sm_one {f g : Nat → Nat} {a : Nat} : ∀ {n : Nat}, a < n → (∀ i, i < n → i ≠ a → f i = g i) → bz_sm f n + g a = bz_sm g n + f a
  | 0, h, _ => absurd h (by omega)
  | n + 1, h, he => by
    show bz_sm f n + f n + g a = bz_sm g n + g n + f a
    by_cases e : a = n
    · subst e
      have := bz_sm_ext (f := f) (g := g) (n := a) (fun i hi => he i (by omega) (by omega))
      omega
    · have h1 := bz_sm_one (f := f) (g := g) (a := a) (n := n) (by omega) (fun i hi hn => he i (by omega) hn)
      have h2 := he n (by omega) (fun q => e q.symm)
      omega
def bz_ct (f : Nat → Bool) (n : Nat) : Nat := bz_sm (fun i => if f i then 1 else 0) n
abbrev bz_T : Type := Nat × (Nat → Nat) × (Nat → Nat) × (Nat → Nat → Bool) × (Nat → Nat → Bool) × (Nat → Nat)
abbrev bz_n (t : bz_T) : Nat := t.1
abbrev bz_l (t : bz_T) : Nat → Nat := t.2.1
abbrev bz_d (t : bz_T) : Nat → Nat := t.2.2.1
abbrev bz_j (t : bz_T) : Nat → Nat → Bool := t.2.2.2.1
abbrev bz_k (t : bz_T) : Nat → Nat → Bool := t.2.2.2.2.1
abbrev bz_h (t : bz_T) : Nat → Nat := t.2.2.2.2.2
/-- a town as it can come to be -/
def bz_ok (t : bz_T) : Prop := bz_n t ≤ 30 ∧ (∀ a, bz_l t a ≤ 1000000) ∧ (∀ a, bz_d t a < 4) ∧ (∀ a b, bz_j t a b = true → a < bz_n t ∧ b < bz_n t ∧ a ≠ b) ∧ (∀ a b, bz_j t a b = bz_j t b a) ∧ (∀ r a, bz_k t r a = true → r < 4 ∧ a < bz_n t) ∧ (∀ r, bz_h t r ≤ 1000000000)
/-- an area's load in a round -/
def bz_w (t : bz_T) (a r : Nat) : Nat := if bz_k t r a then (bz_l t a * 9 + 9) / 10 else bz_l t a
theorem bz_w_le {t : bz_T} (h : bz_ok t) (a r : Nat) : bz_w t a r ≤ 1000000 := by
  have := h.2.1 a
  unfold bz_w
  split <;> omega
/-- a share: each area's round, and which areas are still open -/
abbrev bz_S : Type := (Nat → Nat) × (Nat → Bool)
def bz_in (t : bz_T) (s : bz_S) (r a : Nat) : Bool := decide (a < bz_n t) && (!s.2 a && decide (s.1 a = r))
def bz_op (t : bz_T) (s : bz_S) (a : Nat) : Bool := decide (a < bz_n t) && s.2 a
def bz_ld (t : bz_T) (s : bz_S) (r : Nat) : Nat := bz_sm (fun a => if bz_in t s r a then bz_w t a r else 0) (bz_n t)
def bz_ch (t : bz_T) (s : bz_S) : Nat := bz_ct (fun a => !s.2 a && decide (s.1 a ≠ bz_d t a)) (bz_n t)
def bz_rc (j : Nat → Nat → Bool) (o : Nat → Bool) (a b : Nat) : Prop := ∀ x : Nat → Bool, x a = true → (∀ i k, x i = true → j i k = true → o k = true → x k = true) → x b = true
/-- from the least area of a set there is a way to each of them -/
def bz_tg (j : Nat → Nat → Bool) (f o : Nat → Bool) : Prop := ∀ a, f a = true → (∀ i, i < a → f i = false) → ∀ b, f b = true → bz_rc j o a b
def bz_ht (t : bz_T) (s : bz_S) (r : Nat) : Prop := bz_tg (bz_j t) (bz_in t s r) (fun a => bz_in t s r a || bz_op t s a)
noncomputable def bz_b (q : Prop) : Nat := @ite Nat q (Classical.propDecidable q) 1 0
theorem bz_b1 {q : Prop} (h : q) : bz_b q = 1 := by unfold bz_b; rw [if_pos h]
theorem bz_b0 {q : Prop} (h : ¬ q) : bz_b q = 0 := by unfold bz_b; rw [if_neg h]
theorem bz_b_le (q : Prop) : bz_b q ≤ 1 := by
  by_cases h : q
  · rw [bz_b1 h]; exact Nat.le_refl _
  · rw [bz_b0 h]; exact Nat.zero_le _
theorem bz_b_mono {q1 q2 : Prop} (h : q1 → q2) : bz_b q1 ≤ bz_b q2 := by
  by_cases h1 : q1
  · rw [bz_b1 h1, bz_b1 (h h1)]; exact Nat.le_refl _
  · rw [bz_b0 h1]; exact Nat.zero_le _
/-- the faults of a round -/
noncomputable def bz_fr (t : bz_T) (s : bz_S) (r : Nat) : Nat := bz_b (¬ bz_ht t s r) + (if bz_h t r = 0 then bz_ct (bz_in t s r) (bz_n t) else bz_b (bz_h t r < bz_ld t s r))
noncomputable def bz_ft (t : bz_T) (s : bz_S) : Nat := bz_sm (bz_fr t s) 4
def bz_gl (t : bz_T) (s : bz_S) : Nat := max (max (max (bz_ld t s 0) (bz_ld t s 1)) (bz_ld t s 2)) (bz_ld t s 3)
noncomputable def bz_co (t : bz_T) (s : bz_S) : Nat := 1000000000000 * bz_ft t s + 100 * bz_gl t s + bz_ch t s
theorem bz_ct_le (f : Nat → Bool) (n : Nat) : bz_ct f n ≤ n := by
  have := bz_sm_bd (f := fun i => if f i then 1 else 0) (b := 1) (n := n) (fun i _ => by split <;> omega)
  unfold bz_ct
  omega
theorem bz_ld_le {t : bz_T} (h : bz_ok t) (s : bz_S) (r : Nat) : bz_ld t s r ≤ 30000000 := by
  have h1 := bz_sm_bd (f := fun a => if bz_in t s r a then bz_w t a r else 0) (b := 1000000) (n := bz_n t) (fun i _ => by
    have := bz_w_le h i r
    show (if bz_in t s r i then bz_w t i r else 0) ≤ 1000000
    split <;> omega)
  have h2 := h.1
  unfold bz_ld
  omega
theorem bz_gl_le {t : bz_T} (h : bz_ok t) (s : bz_S) : bz_gl t s ≤ 30000000 := by
  have h0 := bz_ld_le h s 0
  have h1 := bz_ld_le h s 1
  have h2 := bz_ld_le h s 2
  have h3 := bz_ld_le h s 3
  unfold bz_gl
  omega
theorem bz_fr_le {t : bz_T} (h : bz_ok t) (s : bz_S) (r : Nat) : bz_fr t s r ≤ 31 := by
  have h1 := bz_ct_le (bz_in t s r) (bz_n t)
  have h2 := bz_b_le (¬ bz_ht t s r)
  have h3 := bz_b_le (bz_h t r < bz_ld t s r)
  have h4 := h.1
  unfold bz_fr
  split <;> omega
theorem bz_ft_le {t : bz_T} (h : bz_ok t) (s : bz_S) : bz_ft t s ≤ 124 := by
  have := bz_sm_bd (f := bz_fr t s) (b := 31) (n := 4) (fun i _ => bz_fr_le h s i)
  unfold bz_ft
  omega
theorem bz_ch_le {t : bz_T} (h : bz_ok t) (s : bz_S) : bz_ch t s ≤ 30 := by
  have h1 := bz_ct_le (fun a => !s.2 a && decide (s.1 a ≠ bz_d t a)) (bz_n t)
  have h2 := h.1
  unfold bz_ch
  omega
theorem bz_co_le {t : bz_T} (h : bz_ok t) (s : bz_S) : bz_co t s ≤ 124003000000030 := by
  have h1 := bz_ft_le h s
  have h2 := bz_gl_le h s
  have h3 := bz_ch_le h s
  unfold bz_co
  omega
end
section
/-! the exact search: what a beginning costs is no more than what it can become; scanning in the order of the rows keeps the first of the least -/
theorem bz_in_ext {t : bz_T} {s s2 : bz_S} (h : ∀ a, a < bz_n t → s.1 a = s2.1 a ∧ s.2 a = s2.2 a) (r : Nat) : bz_in t s r = bz_in t s2 r := by
  funext a
  unfold bz_in
  by_cases ha : a < bz_n t
  · rw [(h a ha).1, (h a ha).2]
  · simp [ha]
theorem bz_op_ext {t : bz_T} {s s2 : bz_S} (h : ∀ a, a < bz_n t → s.1 a = s2.1 a ∧ s.2 a = s2.2 a) : bz_op t s = bz_op t s2 := by
  funext a
  unfold bz_op
  by_cases ha : a < bz_n t
  · rw [(h a ha).2]
  · simp [ha]
theorem bz_ld_ext {t : bz_T} {s s2 : bz_S} (h : ∀ a, a < bz_n t → s.1 a = s2.1 a ∧ s.2 a = s2.2 a) (r : Nat) : bz_ld t s r = bz_ld t s2 r := by
  unfold bz_ld
  rw [bz_in_ext h r]
theorem bz_ch_ext {t : bz_T} {s s2 : bz_S} (h : ∀ a, a < bz_n t → s.1 a = s2.1 a ∧ s.2 a = s2.2 a) : bz_ch t s = bz_ch t s2 := by
  unfold bz_ch bz_ct
  exact bz_sm_ext fun i hi => by simp only [(h i hi).1, (h i hi).2]
theorem bz_ht_ext {t : bz_T} {s s2 : bz_S} (h : ∀ a, a < bz_n t → s.1 a = s2.1 a ∧ s.2 a = s2.2 a) (r : Nat) : bz_ht t s r = bz_ht t s2 r := by
  unfold bz_ht
  rw [bz_in_ext h r, bz_op_ext h]
theorem bz_fr_ext {t : bz_T} {s s2 : bz_S} (h : ∀ a, a < bz_n t → s.1 a = s2.1 a ∧ s.2 a = s2.2 a) (r : Nat) : bz_fr t s r = bz_fr t s2 r := by
  unfold bz_fr
  rw [bz_in_ext h r, bz_ht_ext h r, bz_ld_ext h r]
theorem bz_ft_ext {t : bz_T} {s s2 : bz_S} (h : ∀ a, a < bz_n t → s.1 a = s2.1 a ∧ s.2 a = s2.2 a) : bz_ft t s = bz_ft t s2 := bz_sm_ext fun r _ => bz_fr_ext h r
theorem bz_gl_ext {t : bz_T} {s s2 : bz_S} (h : ∀ a, a < bz_n t → s.1 a = s2.1 a ∧ s.2 a = s2.2 a) : bz_gl t s = bz_gl t s2 := by
  unfold bz_gl
  rw [bz_ld_ext h 0, bz_ld_ext h 1, bz_ld_ext h 2, bz_ld_ext h 3]
theorem bz_co_ext {t : bz_T} {s s2 : bz_S} (h : ∀ a, a < bz_n t → s.1 a = s2.1 a ∧ s.2 a = s2.2 a) : bz_co t s = bz_co t s2 := by
  unfold bz_co
  rw [bz_ft_ext h, bz_gl_ext h, bz_ch_ext h]
/-- the beginning of a share: the areas from k on are open -/
def bz_be (k : Nat) (f : Nat → Nat) : bz_S := (f, fun a => decide (k ≤ a))
def bz_fu (f : Nat → Nat) : bz_S := (f, fun _ => false)
theorem bz_be_fu {t : bz_T} {k : Nat} {f g : Nat → Nat} (hk : bz_n t ≤ k) (h : ∀ a, a < bz_n t → f a = g a) : bz_co t (bz_be k f) = bz_co t (bz_fu g) := bz_co_ext fun a ha => ⟨h a ha, by
  show decide (k ≤ a) = false
  exact decide_eq_false (by omega)⟩
theorem bz_rc_mono {j : Nat → Nat → Bool} {o1 o2 : Nat → Bool} (h : ∀ i, o1 i = true → o2 i = true) {a b : Nat} (hr : bz_rc j o1 a b) : bz_rc j o2 a b := fun x h1 h2 => hr x h1 fun i k q1 q2 q3 => h2 i k q1 q2 (h k q3)
section BZM
variable {t : bz_T} {k m : Nat} {f g : Nat → Nat} (hkm : k ≤ m) (hfg : ∀ a, a < k → a < bz_n t → f a = g a)
theorem bz_in_be (i r : Nat) (f : Nat → Nat) (k : Nat) : bz_in t (bz_be k f) r i = true ↔ i < bz_n t ∧ i < k ∧ f i = r := by
  unfold bz_in bz_be
  simp [Nat.not_le]
theorem bz_in_mono {r i : Nat} (hkm : k ≤ m) (hfg : ∀ a, a < k → a < bz_n t → f a = g a) (h : bz_in t (bz_be k f) r i = true) : bz_in t (bz_be m g) r i = true := by
  rw [bz_in_be] at h ⊢
  exact ⟨h.1, by omega, by rw [← hfg i h.2.1 h.1]; exact h.2.2⟩
theorem bz_ld_mono (hkm : k ≤ m) (hfg : ∀ a, a < k → a < bz_n t → f a = g a) (r : Nat) : bz_ld t (bz_be k f) r ≤ bz_ld t (bz_be m g) r := by
  unfold bz_ld
  refine bz_sm_le fun i _ => ?_
  by_cases h : bz_in t (bz_be k f) r i = true
  · rw [if_pos h, if_pos (bz_in_mono hkm hfg h)]
    exact Nat.le_refl _
  · rw [if_neg h]
    exact Nat.zero_le _
theorem bz_ct_mono {f g : Nat → Bool} {n : Nat} (h : ∀ i, i < n → f i = true → g i = true) : bz_ct f n ≤ bz_ct g n := by
  unfold bz_ct
  refine bz_sm_le fun i hi => ?_
  by_cases q : f i = true
  · rw [if_pos q, if_pos (h i hi q)]
    exact Nat.le_refl _
  · rw [if_neg q]
    exact Nat.zero_le _
theorem bz_ch_mono (hkm : k ≤ m) (hfg : ∀ a, a < k → a < bz_n t → f a = g a) : bz_ch t (bz_be k f) ≤ bz_ch t (bz_be m g) := by
  unfold bz_ch
  refine bz_ct_mono fun i hi h => ?_
  have h := (Bool.and_eq_true _ _).mp h
  have h1 : i < k := by
    have := h.1
    simp [bz_be] at this
    omega
  have h2 : f i ≠ bz_d t i := of_decide_eq_true h.2
  refine (Bool.and_eq_true _ _).mpr ⟨?_, decide_eq_true ?_⟩
  · simp [bz_be]
    omega
  · show g i ≠ bz_d t i
    rw [← hfg i h1 hi]
    exact h2
theorem bz_ht_mono (hkm : k ≤ m) (hfg : ∀ a, a < k → a < bz_n t → f a = g a) {r : Nat} (h : bz_ht t (bz_be m g) r) : bz_ht t (bz_be k f) r := by
  intro a ha hl b hb
  have ha' := (bz_in_be a r f k).mp ha
  refine bz_rc_mono ?_ (h a (bz_in_mono hkm hfg ha) ?_ b (bz_in_mono hkm hfg hb))
  · intro i hi
    by_cases hik : i < k
    · have e : bz_in t (bz_be m g) r i = true → bz_in t (bz_be k f) r i = true := by
        rw [bz_in_be, bz_in_be]
        exact fun q => ⟨q.1, hik, by rw [hfg i hik q.1]; exact q.2.2⟩
      rcases (Bool.or_eq_true _ _).mp hi with q | q
      · simp [e q]
      · simp [bz_op, bz_be] at q
        omega
    · have hn : i < bz_n t := by
        rcases (Bool.or_eq_true _ _).mp hi with q | q
        · exact ((bz_in_be i r g m).mp q).1
        · simp [bz_op] at q
          exact q.1
      simp [bz_op, bz_be, hn, Nat.not_lt.mp hik]
  · intro i hi
    have q := hl i hi
    cases e : bz_in t (bz_be m g) r i
    · rfl
    · have e' := (bz_in_be i r g m).mp e
      have : bz_in t (bz_be k f) r i = true := (bz_in_be i r f k).mpr ⟨e'.1, by omega, by rw [hfg i (by omega) e'.1]; exact e'.2.2⟩
      rw [this] at q
      exact q
theorem bz_fr_mono (hkm : k ≤ m) (hfg : ∀ a, a < k → a < bz_n t → f a = g a) (r : Nat) : bz_fr t (bz_be k f) r ≤ bz_fr t (bz_be m g) r := by
  have h1 : bz_b (¬ bz_ht t (bz_be k f) r) ≤ bz_b (¬ bz_ht t (bz_be m g) r) := bz_b_mono fun h q => h (bz_ht_mono hkm hfg q)
  have h2 : bz_ct (bz_in t (bz_be k f) r) (bz_n t) ≤ bz_ct (bz_in t (bz_be m g) r) (bz_n t) := bz_ct_mono fun i _ h => bz_in_mono hkm hfg h
  have h3 : bz_b (bz_h t r < bz_ld t (bz_be k f) r) ≤ bz_b (bz_h t r < bz_ld t (bz_be m g) r) := bz_b_mono fun h => Nat.lt_of_lt_of_le h (bz_ld_mono hkm hfg r)
  unfold bz_fr
  split <;> omega
theorem bz_co_mono (hkm : k ≤ m) (hfg : ∀ a, a < k → a < bz_n t → f a = g a) : bz_co t (bz_be k f) ≤ bz_co t (bz_be m g) := by
  have h1 : bz_ft t (bz_be k f) ≤ bz_ft t (bz_be m g) := bz_sm_le fun r _ => bz_fr_mono hkm hfg r
  have a0 := bz_ld_mono hkm hfg 0
  have a1 := bz_ld_mono hkm hfg 1
  have a2 := bz_ld_mono hkm hfg 2
  have a3 := bz_ld_mono hkm hfg 3
  have h2 : bz_gl t (bz_be k f) ≤ bz_gl t (bz_be m g) := by
    unfold bz_gl
    omega
  have h3 := bz_ch_mono hkm hfg
  unfold bz_co
  omega
end BZM
/-- the whole shares that go on from a beginning -/
def bz_E (t : bz_T) (k : Nat) (f s : Nat → Nat) : Prop := (∀ a, a < bz_n t → s a < 4) ∧ ∀ a, a < k → a < bz_n t → s a = f a
def bz_lx (n : Nat) (f g : Nat → Nat) : Prop := (∀ a, a < n → f a = g a) ∨ ∃ a, a < n ∧ (∀ i, i < a → f i = g i) ∧ f a < g a
def bz_up (t : bz_T) (E : (Nat → Nat) → Prop) (b c : Nat × (Nat → Nat)) : Prop :=
  (c.1 = b.1 ∧ (∀ a, a < bz_n t → c.2 a = b.2 a) ∧ ∀ s, E s → b.1 ≤ bz_co t (bz_fu s)) ∨
  (E c.2 ∧ c.1 = bz_co t (bz_fu c.2) ∧ c.1 < b.1 ∧ ∀ s, E s → c.1 < bz_co t (bz_fu s) ∨ (c.1 = bz_co t (bz_fu s) ∧ bz_lx (bz_n t) c.2 s))
theorem bz_cut {t : bz_T} {k : Nat} {f : Nat → Nat} {b : Nat × (Nat → Nat)} (hk : k ≤ bz_n t) (h : b.1 ≤ bz_co t (bz_be k f)) : bz_up t (bz_E t k f) b b :=
  Or.inl ⟨rfl, fun _ _ => rfl, fun s hs => Nat.le_trans h (by
    have := bz_co_mono (t := t) (f := f) (g := s) hk (fun a ha hn => (hs.2 a ha hn).symm)
    rw [bz_be_fu (Nat.le_refl _) (fun _ _ => rfl)] at this
    exact this)⟩
theorem bz_leaf {t : bz_T} {k : Nat} {f g : Nat → Nat} {b : Nat × (Nat → Nat)} (hk : bz_n t ≤ k) (hf : ∀ a, a < bz_n t → f a < 4) (hg : ∀ a, a < bz_n t → g a = f a) (h : bz_co t (bz_be k f) < b.1) : bz_up t (bz_E t k f) b (bz_co t (bz_be k f), g) := by
  have e : bz_co t (bz_be k f) = bz_co t (bz_fu g) := bz_be_fu hk (fun a ha => (hg a ha).symm)
  refine Or.inr ⟨⟨fun a ha => by rw [show (bz_co t (bz_be k f), g).2 a = g a from rfl, hg a ha]; exact hf a ha, fun a _ hn => hg a hn⟩, e, h, fun s hs => Or.inr ⟨?_, Or.inl fun a ha => ?_⟩⟩
  · exact bz_be_fu hk fun a ha => (hs.2 a (by omega) ha).symm
  · show g a = s a
    rw [hg a ha, hs.2 a (by omega) ha]
/-- two parts of the rows, the first one before the second -/
theorem bz_seq {t : bz_T} {E E1 E2 : (Nat → Nat) → Prop} {b c d : Nat × (Nat → Nat)} (hE : ∀ s, E s ↔ E1 s ∨ E2 s) (hlt : ∀ s1 s2, E1 s1 → E2 s2 → bz_lx (bz_n t) s1 s2) (hx : ∀ s s2, E1 s → (∀ a, a < bz_n t → s2 a = s a) → E1 s2) (h1 : bz_up t E1 b c) (h2 : bz_up t E2 c d) : bz_up t E b d := by
  rcases h1 with ⟨p1, p2, p3⟩ | ⟨p1, p2, p3, p4⟩
  · rcases h2 with ⟨q1, q2, q3⟩ | ⟨q1, q2, q3, q4⟩
    · refine Or.inl ⟨q1.trans p1, fun a ha => (q2 a ha).trans (p2 a ha), fun s hs => ?_⟩
      rcases (hE s).mp hs with h | h
      · exact p3 s h
      · rw [← p1]
        exact q3 s h
    · refine Or.inr ⟨(hE _).mpr (Or.inr q1), q2, by omega, fun s hs => ?_⟩
      rcases (hE s).mp hs with h | h
      · have := p3 s h
        exact Or.inl (by omega)
      · exact q4 s h
  · rcases h2 with ⟨q1, q2, q3⟩ | ⟨q1, q2, q3, q4⟩
    · have e1 : E1 d.2 := hx c.2 d.2 p1 q2
      have e2 : bz_co t (bz_fu d.2) = bz_co t (bz_fu c.2) := bz_co_ext fun a ha => ⟨q2 a ha, rfl⟩
      refine Or.inr ⟨(hE _).mpr (Or.inl e1), by rw [q1, e2, p2], by omega, fun s hs => ?_⟩
      rcases (hE s).mp hs with h | h
      · rcases p4 s h with z | ⟨z1, z2⟩
        · exact Or.inl (by omega)
        · refine Or.inr ⟨by omega, ?_⟩
          rcases z2 with z | ⟨a, z3, z4, z5⟩
          · exact Or.inl fun a ha => (q2 a ha).trans (z a ha)
          · exact Or.inr ⟨a, z3, fun i hi => (q2 i (by omega)).trans (z4 i hi), by rw [q2 a z3]; exact z5⟩
      · have z := q3 s h
        by_cases w : d.1 = bz_co t (bz_fu s)
        · exact Or.inr ⟨w, hlt d.2 s e1 h⟩
        · exact Or.inl (by omega)
    · refine Or.inr ⟨(hE _).mpr (Or.inr q1), q2, by omega, fun s hs => ?_⟩
      rcases (hE s).mp hs with h | h
      · rcases p4 s h with z | ⟨z1, z2⟩
        · exact Or.inl (by omega)
        · exact Or.inl (by omega)
      · exact q4 s h
theorem bz_up_iff {t : bz_T} {E E2 : (Nat → Nat) → Prop} {b c : Nat × (Nat → Nat)} (hE : ∀ s, E s ↔ E2 s) (h : bz_up t E b c) : bz_up t E2 b c := by
  have e : E = E2 := funext fun s => propext (hE s)
  rw [← e]
  exact h
theorem bz_rd0 {t : bz_T} {k : Nat} {f : Nat → Nat} {b : Nat × (Nat → Nat)} : bz_up t (fun s => bz_E t k f s ∧ s k < 0) b b := Or.inl ⟨rfl, fun _ _ => rfl, fun _ hs => absurd hs.2 (by omega)⟩
theorem bz_rd1 {t : bz_T} {k j : Nat} {f f2 : Nat → Nat} {b c d : Nat × (Nat → Nat)} (hk : k < bz_n t) (hf : ∀ a, a < k → f2 a = f a) (hfk : f2 k = j) (h1 : bz_up t (fun s => bz_E t k f s ∧ s k < j) b c) (h2 : bz_up t (bz_E t (k + 1) f2) c d) : bz_up t (fun s => bz_E t k f s ∧ s k < j + 1) b d := by
  refine bz_seq (E1 := fun s => bz_E t k f s ∧ s k < j) (E2 := fun s => bz_E t (k + 1) f2 s) ?_ ?_ ?_ h1 h2
  · intro s
    constructor
    · rintro ⟨⟨q1, q2⟩, q3⟩
      by_cases e : s k < j
      · exact Or.inl ⟨⟨q1, q2⟩, e⟩
      · refine Or.inr ⟨q1, fun a ha hn => ?_⟩
        by_cases e2 : a = k
        · subst e2
          rw [hfk]
          omega
        · rw [hf a (by omega)]
          exact q2 a (by omega) hn
    · rintro (⟨q1, q2⟩ | ⟨q1, q2⟩)
      · exact ⟨q1, by omega⟩
      · refine ⟨⟨q1, fun a ha hn => ?_⟩, ?_⟩
        · rw [← hf a ha]
          exact q2 a (by omega) hn
        · have := q2 k (by omega) hk
          omega
  · rintro s1 s2 ⟨⟨q1, q2⟩, q3⟩ ⟨q4, q5⟩
    refine Or.inr ⟨k, hk, fun i hi => ?_, ?_⟩
    · rw [q2 i hi (by omega), q5 i (by omega) (by omega), hf i hi]
    · rw [q5 k (by omega) hk, hfk]
      exact q3
  · rintro s s2 ⟨⟨q1, q2⟩, q3⟩ h
    exact ⟨⟨fun a ha => by rw [h a ha]; exact q1 a ha, fun a ha hn => by rw [h a hn]; exact q2 a ha hn⟩, by rw [h k hk]; exact q3⟩
theorem bz_rd4 {t : bz_T} {k : Nat} {f : Nat → Nat} {b c : Nat × (Nat → Nat)} (hk : k < bz_n t) (h : bz_up t (fun s => bz_E t k f s ∧ s k < 4) b c) : bz_up t (bz_E t k f) b c := bz_up_iff (fun s => ⟨fun q => q.1, fun q => ⟨q, q.1 k hk⟩⟩) h
/-- the share that is due: the first one of those with the least cost -/
def bz_bs (t : bz_T) (f : Nat → Nat) : Prop := (∀ a, a < bz_n t → f a < 4) ∧ ∀ s, (∀ a, a < bz_n t → s a < 4) → bz_co t (bz_fu f) < bz_co t (bz_fu s) ∨ (bz_co t (bz_fu f) = bz_co t (bz_fu s) ∧ bz_lx (bz_n t) f s)
theorem bz_bs_of {t : bz_T} {f : Nat → Nat} {b c : Nat × (Nat → Nat)} (ht : ∀ a, bz_d t a < 4) (hb : bz_co t (bz_fu (bz_d t)) < b.1) (h : bz_up t (bz_E t 0 f) b c) : bz_bs t c.2 := by
  have hd : bz_E t 0 f (bz_d t) := ⟨fun a _ => ht a, fun a ha => absurd ha (by omega)⟩
  rcases h with ⟨-, -, q⟩ | ⟨q1, q2, q3, q4⟩
  · have := q _ hd
    omega
  · refine ⟨q1.1, fun s hs => ?_⟩
    rw [← q2]
    exact q4 s ⟨hs, fun a ha => absurd ha (by omega)⟩
theorem bz_lx_eq {n : Nat} {f g : Nat → Nat} (h1 : bz_lx n f g) (h2 : bz_lx n g f) : ∀ a, a < n → f a = g a := by
  rcases h1 with h | ⟨a, a1, a2, a3⟩
  · exact h
  · rcases h2 with h | ⟨b, b1, b2, b3⟩
    · exact fun i hi => (h i hi).symm
    · exfalso
      rcases Nat.lt_trichotomy a b with q | q | q
      · have := b2 a q
        omega
      · subst q
        omega
      · have := a2 b q
        omega
theorem bz_bs_eq {t : bz_T} {f g : Nat → Nat} (h1 : bz_bs t f) (h2 : bz_bs t g) : ∀ a, a < bz_n t → f a = g a := by
  have q1 := h1.2 g h2.1
  have q2 := h2.2 f h1.1
  rcases q1 with z | ⟨z1, z2⟩
  · rcases q2 with w | ⟨w1, w2⟩
    · omega
    · omega
  · rcases q2 with w | ⟨w1, w2⟩
    · omega
    · exact bz_lx_eq z2 w2
end
section
/-! ways: a pass over the areas; when a pass finds nothing more, all that can be reached is reached -/
/-- one pass over the areas up to k -/
def bz_ps (j : Nat → Nat → Bool) (o : Nat → Bool) (x : Nat → Bool) : Nat → Nat → Bool
  | 0 => x
  | k + 1 => if bz_ps j o x k k then (fun i => bz_ps j o x k i || (j k i && o i)) else bz_ps j o x k
theorem bz_ps_up {j : Nat → Nat → Bool} {o x : Nat → Bool} {i : Nat} (h : x i = true) : ∀ k, bz_ps j o x k i = true
  | 0 => h
  | k + 1 => by
    have := bz_ps_up (j := j) (o := o) h k
    unfold bz_ps
    split
    · simp [this]
    · exact this
/-- what a pass finds can be reached -/
theorem bz_ps_rc {j : Nat → Nat → Bool} {o x : Nat → Bool} {a : Nat} (h : ∀ i, x i = true → bz_rc j o a i) : ∀ k i, bz_ps j o x k i = true → bz_rc j o a i
  | 0, i, hi => h i hi
  | k + 1, i, hi => by
    have ih := bz_ps_rc (j := j) (o := o) (x := x) (a := a) h k
    unfold bz_ps at hi
    split at hi
    · rename_i hk
      rcases (Bool.or_eq_true _ _).mp hi with q | q
      · exact ih i q
      · have q2 := (Bool.and_eq_true _ _).mp q
        exact fun y h1 h2 => h2 k i (ih k hk y h1 h2) q2.1 q2.2
    · exact ih i hi
/-- a pass that finds nothing more: the set is closed -/
theorem bz_ps_cl {j : Nat → Nat → Bool} {o x : Nat → Bool} {n : Nat} (h : ∀ i, i < 32 → bz_ps j o x n i = x i) {k : Nat} (hk : k < n) (hn : n ≤ 32) {i : Nat} (hi : i < 32) (hx : x k = true) (hj : j k i = true) (ho : o i = true) : x i = true := by
  have mono : ∀ m d, bz_ps j o x m i = true → bz_ps j o x (m + d) i = true := by
    intro m d hm
    induction d with
    | zero => exact hm
    | succ d ih =>
      rw [← Nat.add_assoc]
      unfold bz_ps
      split
      · simp [ih]
      · exact ih
  have h1 : bz_ps j o x (k + 1) i = true := by
    unfold bz_ps
    rw [if_pos (bz_ps_up hx k)]
    simp [hj, ho]
  have h2 := mono (k + 1) (n - (k + 1)) h1
  rw [show k + 1 + (n - (k + 1)) = n by omega, h i hi] at h2
  exact h2
theorem bz_ct_lt {f g : Nat → Bool} {n : Nat} (h : ∀ i, i < n → f i = true → g i = true) {a : Nat} (ha : a < n) (hf : f a = false) (hg : g a = true) : bz_ct f n < bz_ct g n := by
  have h1 : bz_ct f n + 1 = bz_ct (fun i => f i || decide (i = a)) n := by
    unfold bz_ct
    have := bz_sm_one (f := fun i => if f i then 1 else 0) (g := fun i => if (f i || decide (i = a)) then 1 else 0) (a := a) (n := n) ha (fun i _ hne => by simp [hne])
    have e0 : (if (f a || decide (a = a)) = true then 1 else 0 : Nat) = 1 := by simp
    have e1 : (if f a = true then 1 else 0 : Nat) = 0 := by simp [hf]
    dsimp only at this ⊢
    rw [e0, e1] at this
    omega
  have h2 : bz_ct (fun i => f i || decide (i = a)) n ≤ bz_ct g n := bz_ct_mono fun i hi q => by
    rcases (Bool.or_eq_true _ _).mp q with z | z
    · exact h i hi z
    · have : i = a := by simpa using z
      rw [this]
      exact hg
  omega
/-- what holds at the head of the passes: x is reached, y was reached a pass before -/
def bz_hw (t : bz_T) (f o x y : Nat → Bool) (q : Nat) : Prop :=
  (∀ a, f a = true → (∀ i, i < a → f i = false) → x a = true ∧ ∀ i, x i = true → bz_rc (bz_j t) o a i) ∧
  (∀ i, x i = true → i < bz_n t) ∧ (∀ i, y i = true → x i = true) ∧ q ≤ bz_ct y 32 ∧ ((∀ i, y i = false) ∨ x = bz_ps (bz_j t) o y (bz_n t))
theorem bz_least {f : Nat → Bool} : ∀ {b : Nat}, f b = true → ∃ a, a ≤ b ∧ f a = true ∧ ∀ i, i < a → f i = false := by
  intro b hb
  obtain ⟨a, h1, h2⟩ := pk_least (fun k => f k = true) ⟨b, hb⟩
  refine ⟨a, ?_, h1, fun i hi => ?_⟩
  · rcases Nat.lt_or_ge b a with q | q
    · exact absurd hb (h2 b q)
    · exact q
  · cases e : f i
    · rfl
    · exact absurd e (h2 i hi)
theorem bz_hw0 {t : bz_T} {f o : Nat → Bool} (hf : ∀ i, f i = true → i < bz_n t) : bz_hw t f o (fun i => f i && !(decide (∃ j, j < i ∧ f j = true))) (fun _ => false) 0 := by
  refine ⟨fun a ha hl => ⟨?_, fun i hi => ?_⟩, fun i hi => hf i ((Bool.and_eq_true _ _).mp hi).1, fun i hi => absurd hi (by simp), Nat.zero_le _, Or.inl fun _ => rfl⟩
  · have : ¬ ∃ j, j < a ∧ f j = true := fun ⟨j, h1, h2⟩ => by
      rw [hl j h1] at h2
      exact absurd h2 (by simp)
    simp [ha, this]
  · have h := (Bool.and_eq_true _ _).mp hi
    have h2 : ¬ ∃ j, j < i ∧ f j = true := by simpa using h.2
    have e : i = a := by
      rcases Nat.lt_trichotomy i a with q | q | q
      · rw [hl i q] at h
        exact absurd h.1 (by simp)
      · exact q
      · exact absurd ⟨a, q, ha⟩ h2
    subst e
    exact fun y h1 _ => h1
theorem bz_ps_in {t : bz_T} (ht : bz_ok t) {o x : Nat → Bool} (hx : ∀ i, x i = true → i < bz_n t) : ∀ k i, bz_ps (bz_j t) o x k i = true → i < bz_n t
  | 0, i, hi => hx i hi
  | k + 1, i, hi => by
    unfold bz_ps at hi
    split at hi
    · rcases (Bool.or_eq_true _ _).mp hi with q | q
      · exact bz_ps_in ht hx k i q
      · exact (ht.2.2.2.1 k i ((Bool.and_eq_true _ _).mp q).1).2.1
    · exact bz_ps_in ht hx k i hi
theorem bz_hw1 {t : bz_T} (ht : bz_ok t) {f o x y : Nat → Bool} {q : Nat} (h : bz_hw t f o x y q) (hne : ¬ ∀ i, i < 32 → x i = y i) : bz_hw t f o (bz_ps (bz_j t) o x (bz_n t)) x (q + 1) := by
  obtain ⟨h1, h2, h3, h4, h5⟩ := h
  refine ⟨fun a ha hl => ⟨bz_ps_up (h1 a ha hl).1 _, fun i hi => bz_ps_rc (h1 a ha hl).2 _ i hi⟩, fun i hi => bz_ps_in ht h2 _ i hi, fun i hi => bz_ps_up hi _, ?_, Or.inr rfl⟩
  have : ∃ i, i < 32 ∧ ¬ x i = y i := Classical.byContradiction fun z => hne fun i hi => Classical.byContradiction fun w => z ⟨i, hi, w⟩
  obtain ⟨i, hi, hxy⟩ := this
  have : y i = false ∧ x i = true := by
    cases e1 : y i
    · cases e2 : x i
      · rw [e1, e2] at hxy
        exact absurd rfl hxy
      · exact ⟨rfl, rfl⟩
    · rw [h3 i e1, e1] at hxy
      exact absurd rfl hxy
  have := bz_ct_lt (fun j _ => h3 j) hi this.1 this.2
  omega
theorem bz_hw_t {t : bz_T} {f o x y : Nat → Bool} {q : Nat} (h : bz_hw t f o x y q) (hs : ∀ i, f i = true → x i = true) : bz_tg (bz_j t) f o := fun a ha hl b hb => (h.1 a ha hl).2 b (hs b hb)
theorem bz_ct_cut {f : Nat → Bool} {n : Nat} : ∀ {m : Nat}, n ≤ m → (∀ i, f i = true → i < n) → bz_ct f m ≤ n := by
  intro m hm hf
  have e : ∀ d, bz_ct f (n + d) = bz_ct f n := by
    intro d
    induction d with
    | zero => rfl
    | succ d ih =>
      show bz_ct f (n + d) + (if f (n + d) then 1 else 0) = bz_ct f n
      have : ¬ f (n + d) = true := fun z => by
        have := hf _ z
        omega
      rw [if_neg this, ih]
      rfl
  rw [show m = n + (m - n) by omega, e]
  exact bz_ct_le f n
theorem bz_hw_f {t : bz_T} (ht : bz_ok t) {f o x y : Nat → Bool} {q : Nat} (hf : ∀ i, f i = true → i < bz_n t) (h : bz_hw t f o x y q) (hend : 30 ≤ q ∨ ∀ i, i < 32 → x i = y i) {b : Nat} (hb : f b = true) (hx : x b = false) : ¬ bz_tg (bz_j t) f o := by
  intro htg
  have hn : bz_n t ≤ 30 := ht.1
  obtain ⟨a, -, ha, hl⟩ := bz_least hb
  have hcl : ∀ i, i < 32 → x i = y i := by
    rcases hend with hq | hq
    · refine Classical.byContradiction fun hne => ?_
      have h1 := (bz_hw1 ht h hne).2.2.2.1
      have h2 := bz_ct_cut (f := x) (n := bz_n t) (m := 32) (by omega) h.2.1
      omega
    · exact hq
  obtain ⟨h1, h2, h3, h4, h5⟩ := h
  have hxa := (h1 a ha hl).1
  rcases h5 with h5 | h5
  · have := hcl a (by have := h2 a hxa; omega)
    rw [hxa, h5 a] at this
    exact absurd this (by simp)
  · have hall : ∀ i, i < 32 → bz_ps (bz_j t) o x (bz_n t) i = x i := by
      intro i hi
      have exy : x = y := by
        funext z
        rcases Nat.lt_or_ge z 32 with w | w
        · exact hcl z w
        · have e1 : x z = false := by
            cases e : x z
            · rfl
            · have := h2 z e
              omega
          have e2 : y z = false := by
            cases e : y z
            · rfl
            · rw [h3 z e] at e1
              exact absurd e1 (by simp)
          rw [e1, e2]
      rw [← exy] at h5
      exact (congrFun h5 i).symm
    have := htg a ha hl b hb x hxa (fun i k q1 q2 q3 => by
      have w := ht.2.2.2.1 i k q2
      exact bz_ps_cl hall w.1 (by omega) (by omega) q1 q2 q3)
    rw [hx] at this
    exact absurd this (by simp)
end
section
/-! counting bits by the sums of neighbours -/
theorem bz_an {u v c w : Nat} (hu : u < 256) (hc : c < 256) : (u + 256 * v) &&& (c + 256 * w) = (u &&& c) + 256 * (v &&& w) := by
  have h1 : ((u + 256 * v) &&& (c + 256 * w)) % 2 ^ 8 = ((u + 256 * v) % 2 ^ 8) &&& ((c + 256 * w) % 2 ^ 8) := Nat.and_mod_two_pow
  have h2 : ((u + 256 * v) &&& (c + 256 * w)) / 2 ^ 8 = ((u + 256 * v) / 2 ^ 8) &&& ((c + 256 * w) / 2 ^ 8) := Nat.and_div_two_pow
  rw [show (u + 256 * v) % 2 ^ 8 = u by omega, show (c + 256 * w) % 2 ^ 8 = c by omega] at h1
  rw [show (u + 256 * v) / 2 ^ 8 = v by omega, show (c + 256 * w) / 2 ^ 8 = w by omega] at h2
  omega
def bz_p1 (x : Nat) : Nat := x - (x / 2 &&& 85)
def bz_p2 (x : Nat) : Nat := (x &&& 51) + (x / 4 &&& 51)
def bz_p3 (x : Nat) : Nat := (x + x / 16) &&& 15
theorem bz_q1 : ∀ a, a < 256 → ∀ y, y < 2 → (a / 2 + 128 * y) &&& 85 = a / 2 &&& 85 := by decide +kernel
theorem bz_q2 : ∀ a, a < 256 → ∀ y, y < 4 → (a / 4 + 64 * y) &&& 51 = a / 4 &&& 51 := by decide +kernel
theorem bz_q3 : ∀ a, a < 69 → ∀ y, y < 5 → (a + a / 16 + 16 * y) &&& 15 = (a + a / 16) &&& 15 := by decide +kernel
theorem bz_q4 : ∀ a, a < 256 → bz_p1 a < 256 ∧ (a / 2 &&& 85) ≤ a ∧ bz_p2 (bz_p1 a) < 69 ∧ bz_p2 (bz_p1 a) % 16 < 5 ∧ bz_p3 (bz_p2 (bz_p1 a)) = bz_ct (fun i => a.testBit i) 8 ∧ bz_p3 (bz_p2 (bz_p1 a)) ≤ 8 := by decide +kernel
theorem bz_s1 {a y m : Nat} (ha : a < 256) : (a + 256 * y) - ((a + 256 * y) / 2 &&& (85 + 256 * m)) = bz_p1 a + 256 * (y - (y / 2 &&& m)) := by
  have e : (a + 256 * y) / 2 = (a / 2 + 128 * (y % 2)) + 256 * (y / 2) := by omega
  have h1 := bz_q1 a ha (y % 2) (by omega)
  have h2 := (bz_q4 a ha).2.1
  have h3 : (y / 2 &&& m) ≤ y / 2 := Nat.and_le_left
  rw [e, bz_an (by omega) (by omega), h1]
  unfold bz_p1
  omega
theorem bz_s2 {a y m : Nat} (ha : a < 256) : ((a + 256 * y) &&& (51 + 256 * m)) + ((a + 256 * y) / 4 &&& (51 + 256 * m)) = bz_p2 a + 256 * ((y &&& m) + (y / 4 &&& m)) := by
  have e : (a + 256 * y) / 4 = (a / 4 + 64 * (y % 4)) + 256 * (y / 4) := by omega
  have h1 := bz_q2 a ha (y % 4) (by omega)
  rw [e, bz_an ha (by omega), bz_an (by omega) (by omega), h1]
  unfold bz_p2
  omega
theorem bz_s3 {a y m : Nat} (ha : a < 69) (hy : y % 16 < 5) : ((a + 256 * y) + (a + 256 * y) / 16) &&& (15 + 256 * m) = bz_p3 a + 256 * ((y + y / 16) &&& m) := by
  have e : (a + 256 * y) + (a + 256 * y) / 16 = (a + a / 16 + 16 * (y % 16)) + 256 * (y + y / 16) := by omega
  have h1 := bz_q3 a ha (y % 16) hy
  rw [e, bz_an (by omega) (by omega), h1]
  rfl
/-- the whole count of a number of four bytes -/
def bz_pc (x : Nat) : Nat :=
  let x1 := x - (x / 2 &&& 1431655765)
  let x2 := (x1 &&& 858993459) + (x1 / 4 &&& 858993459)
  let x3 := (x2 + x2 / 16) &&& 252645135
  let x4 := x3 + x3 / 256
  let x5 := x4 + x4 / 65536
  x5 &&& 63
theorem bz_pc_eq {a b c d : Nat} (ha : a < 256) (hb : b < 256) (hc : c < 256) (hd : d < 256) : bz_pc (a + 256 * (b + 256 * (c + 256 * d))) = bz_ct (fun i => a.testBit i) 8 + bz_ct (fun i => b.testBit i) 8 + bz_ct (fun i => c.testBit i) 8 + bz_ct (fun i => d.testBit i) 8 := by
  obtain ⟨a1, -, a2, a3, a4, a5⟩ := bz_q4 a ha
  obtain ⟨b1, -, b2, b3, b4, b5⟩ := bz_q4 b hb
  obtain ⟨c1, -, c2, c3, c4, c5⟩ := bz_q4 c hc
  obtain ⟨d1, -, d2, d3, d4, d5⟩ := bz_q4 d hd
  have e1 : (a + 256 * (b + 256 * (c + 256 * d))) - ((a + 256 * (b + 256 * (c + 256 * d))) / 2 &&& 1431655765) = bz_p1 a + 256 * (bz_p1 b + 256 * (bz_p1 c + 256 * bz_p1 d)) := by
    rw [show (1431655765 : Nat) = 85 + 256 * (85 + 256 * (85 + 256 * 85)) from rfl, bz_s1 ha, bz_s1 hb, bz_s1 hc]
    rfl
  have e2 : ((bz_p1 a + 256 * (bz_p1 b + 256 * (bz_p1 c + 256 * bz_p1 d))) &&& 858993459) + ((bz_p1 a + 256 * (bz_p1 b + 256 * (bz_p1 c + 256 * bz_p1 d))) / 4 &&& 858993459) = bz_p2 (bz_p1 a) + 256 * (bz_p2 (bz_p1 b) + 256 * (bz_p2 (bz_p1 c) + 256 * bz_p2 (bz_p1 d))) := by
    rw [show (858993459 : Nat) = 51 + 256 * (51 + 256 * (51 + 256 * 51)) from rfl, bz_s2 a1, bz_s2 b1, bz_s2 c1]
    rfl
  have e3 : ((bz_p2 (bz_p1 a) + 256 * (bz_p2 (bz_p1 b) + 256 * (bz_p2 (bz_p1 c) + 256 * bz_p2 (bz_p1 d)))) + (bz_p2 (bz_p1 a) + 256 * (bz_p2 (bz_p1 b) + 256 * (bz_p2 (bz_p1 c) + 256 * bz_p2 (bz_p1 d)))) / 16) &&& 252645135 = bz_p3 (bz_p2 (bz_p1 a)) + 256 * (bz_p3 (bz_p2 (bz_p1 b)) + 256 * (bz_p3 (bz_p2 (bz_p1 c)) + 256 * bz_p3 (bz_p2 (bz_p1 d)))) := by
    rw [show (252645135 : Nat) = 15 + 256 * (15 + 256 * (15 + 256 * 15)) from rfl, bz_s3 a2 (by omega), bz_s3 b2 (by omega), bz_s3 c2 (by omega)]
    rfl
  have h63 : ∀ z : Nat, z &&& 63 = z % 64 := fun z => by
    rw [show (63 : Nat) = 2 ^ 6 - 1 from rfl, Nat.and_two_pow_sub_one_eq_mod]
  unfold bz_pc
  dsimp only
  rw [e1, e2, e3, h63, a4, b4, c4, d4]
  rw [a4] at a5
  rw [b4] at b5
  rw [c4] at c5
  rw [d4] at d5
  clear e1 e2 e3 a4 b4 c4 d4 a1 a2 a3 b1 b2 b3 c1 c2 c3 d1 d2 d3 h63
  generalize bz_ct (fun i => a.testBit i) 8 = p0 at *
  generalize bz_ct (fun i => b.testBit i) 8 = p1 at *
  generalize bz_ct (fun i => c.testBit i) 8 = p2 at *
  generalize bz_ct (fun i => d.testBit i) 8 = p3 at *
  rw [show (p0 + 256 * (p1 + 256 * (p2 + 256 * p3))) / 256 = p1 + 256 * (p2 + 256 * p3) by omega]
  rw [show (p0 + 256 * (p1 + 256 * (p2 + 256 * p3)) + (p1 + 256 * (p2 + 256 * p3))) / 65536 = p2 + p3 + 256 * p3 by omega]
  omega
theorem bz_ct_ext {f g : Nat → Bool} {n : Nat} (h : ∀ i, i < n → f i = g i) : bz_ct f n = bz_ct g n := by
  unfold bz_ct
  exact bz_sm_ext fun i hi => by rw [h i hi]
theorem bz_ct_add (f : Nat → Bool) (m : Nat) : ∀ k, bz_ct f (m + k) = bz_ct f m + bz_ct (fun i => f (m + i)) k
  | 0 => rfl
  | k + 1 => by
    show bz_ct f (m + k) + (if f (m + k) then 1 else 0) = bz_ct f m + (bz_ct (fun i => f (m + i)) k + (if f (m + k) then 1 else 0))
    rw [bz_ct_add f m k]
    omega
theorem bz_pc_ct {x : Nat} (hx : x < 2 ^ 32) : bz_pc x = bz_ct (fun i => x.testBit i) 32 := by
  have e : x = x % 256 + 256 * (x / 256 % 256 + 256 * (x / 65536 % 256 + 256 * (x / 16777216))) := by omega
  have h := bz_pc_eq (a := x % 256) (b := x / 256 % 256) (c := x / 65536 % 256) (d := x / 16777216) (by omega) (by omega) (by omega) (by omega)
  rw [← e] at h
  rw [h, show (32 : Nat) = 8 + (8 + (8 + 8)) from rfl, bz_ct_add, bz_ct_add, bz_ct_add]
  have e0 : bz_ct (fun i => (x % 256).testBit i) 8 = bz_ct (fun i => x.testBit i) 8 := bz_ct_ext fun i hi => by
    rw [show (256 : Nat) = 2 ^ 8 from rfl, Nat.testBit_mod_two_pow]
    simp [hi]
  have e1 : bz_ct (fun i => (x / 256 % 256).testBit i) 8 = bz_ct (fun i => x.testBit (8 + i)) 8 := bz_ct_ext fun i hi => by
    rw [show (256 : Nat) = 2 ^ 8 from rfl, Nat.testBit_mod_two_pow, Nat.testBit_div_two_pow, Nat.add_comm i 8]
    simp [hi]
  have e2 : bz_ct (fun i => (x / 65536 % 256).testBit i) 8 = bz_ct (fun i => x.testBit (8 + (8 + i))) 8 := bz_ct_ext fun i hi => by
    rw [show (256 : Nat) = 2 ^ 8 from rfl, show (65536 : Nat) = 2 ^ 16 from rfl, Nat.testBit_mod_two_pow, Nat.testBit_div_two_pow, show i + 16 = 8 + (8 + i) by omega]
    simp [hi]
  have e3 : bz_ct (fun i => (x / 16777216).testBit i) 8 = bz_ct (fun i => x.testBit (8 + (8 + (8 + i)))) 8 := bz_ct_ext fun i hi => by
    rw [show (16777216 : Nat) = 2 ^ 24 from rfl, Nat.testBit_div_two_pow, show i + 24 = 8 + (8 + (8 + i)) by omega]
  rw [e0, e1, e2, e3]
  omega
theorem bz_m_nI (f : Nat → Bool) : ∃ x, x < 2 ^ 32 ∧ bz_m f = nI x ∧ ∀ i, i < 32 → x.testBit i = f i := by
  refine ⟨(bz_m f).toBitVec.toNat, (bz_m f).toBitVec.isLt, ?_, fun i hi => ?_⟩
  · apply Int32.toBitVec_inj.1
    show (bz_m f).toBitVec = BitVec.ofNat 32 (bz_m f).toBitVec.toNat
    simp
  · rw [BitVec.testBit_toNat]
    exact bz_bt f hi
end
section
/-! what putting an area into a round, and taking it out, does to the kept numbers -/
def bz_pu (s : bz_S) (a r : Nat) : bz_S := (va_up s.1 a r, va_up s.2 a false)
def bz_ta (s : bz_S) (a : Nat) : bz_S := (s.1, va_up s.2 a true)
abbrev bz_RT : Type := (Nat → Int64) × (Nat → Int32) × (Nat → Int32) × (Nat → Int32) × (Nat → Int64) × Int32
abbrev bz_RS : Type := (Nat → Int32) × (Nat → Int32) × (Nat → Int64) × Int32 × Int32
def bz_tR (t : bz_T) : bz_RT := (fun j => lN (bz_l t j), fun j => nI (bz_d t j), fun a => bz_m (bz_j t a), fun r => bz_m (bz_k t r), fun r => lN (bz_h t r), nI (bz_n t))
def bz_sR (t : bz_T) (s : bz_S) : bz_RS := (fun a => nI (s.1 a), fun r => bz_m (bz_in t s r), fun r => lN (bz_ld t s r), bz_m (bz_op t s), nI (bz_ch t s))
theorem bz_up_s {α : Type} (f : Nat → α) (k : Nat) (v : α) : va_up f k v k = v := by unfold va_up; rw [if_pos rfl]
theorem bz_up_n {α : Type} (f : Nat → α) {k j : Nat} (v : α) (h : j ≠ k) : va_up f k v j = f j := by unfold va_up; rw [if_neg h]
theorem bz_updI (f : Nat → Nat) (a r : Nat) : upd (fun i => nI (f i)) a (nI r) = fun i => nI (va_up f a r i) := by
  funext i
  unfold upd va_up
  split <;> rfl
theorem bz_updL (f : Nat → Nat) (a r : Nat) : vp_updL (fun i => lN (f i)) a (lN r) = fun i => lN (va_up f a r i) := by
  funext i
  unfold vp_updL va_up
  split <;> rfl
theorem bz_updM (f : Nat → Nat → Bool) (a : Nat) (g : Nat → Bool) : upd (fun i => bz_m (f i)) a (bz_m g) = fun i => bz_m (va_up f a g i) := by
  funext i
  unfold upd va_up
  split <;> rfl
section BZP
variable {t : bz_T} {s : bz_S} {a r : Nat}
theorem bz_in_pu (ho : s.2 a = true) (q : Nat) : bz_in t (bz_pu s a r) q = fun i => bz_in t s q i || (decide (i = a) && (decide (a < bz_n t) && decide (r = q))) := by
  funext i
  unfold bz_in bz_pu
  by_cases e : i = a
  · subst e
    simp [bz_up_s, ho]
  · simp [bz_up_n _ _ e, e]
theorem bz_op_pu : bz_op t (bz_pu s a r) = fun i => bz_op t s i && !decide (i = a) := by
  funext i
  unfold bz_op bz_pu
  by_cases e : i = a
  · subst e
    simp [bz_up_s]
  · simp [bz_up_n _ _ e, e]
theorem bz_ld_pu (ha : a < bz_n t) (ho : s.2 a = true) (q : Nat) : bz_ld t (bz_pu s a r) q = if q = r then bz_ld t s q + bz_w t a q else bz_ld t s q := by
  have h0 : bz_in t s q a = false := by
    unfold bz_in
    simp [ho]
  have e1 : bz_in t (bz_pu s a r) q a = decide (r = q) := by
    rw [bz_in_pu ho]
    simp [h0, ha]
  have h : bz_ld t (bz_pu s a r) q + (if bz_in t s q a then bz_w t a q else 0) = bz_ld t s q + (if bz_in t (bz_pu s a r) q a then bz_w t a q else 0) := bz_sm_one (f := fun i => if bz_in t (bz_pu s a r) q i then bz_w t i q else 0) (g := fun i => if bz_in t s q i then bz_w t i q else 0) (a := a) (n := bz_n t) ha (fun i _ hne => by
    rw [bz_in_pu ho]
    simp [hne])
  rw [h0, e1] at h
  by_cases e : q = r
  · rw [if_pos e]
    rw [if_pos (decide_eq_true e.symm), if_neg (by simp)] at h
    omega
  · rw [if_neg e]
    rw [if_neg (by simp), if_neg (by simpa using fun z : r = q => e z.symm)] at h
    omega
theorem bz_ch_pu (ha : a < bz_n t) (ho : s.2 a = true) : bz_ch t (bz_pu s a r) = if r = bz_d t a then bz_ch t s else bz_ch t s + 1 := by
  have h : bz_ch t (bz_pu s a r) + (if (!s.2 a && decide (s.1 a ≠ bz_d t a)) then 1 else 0) = bz_ch t s + (if (!(bz_pu s a r).2 a && decide ((bz_pu s a r).1 a ≠ bz_d t a)) then 1 else 0) := bz_sm_one (f := fun i => if (!(bz_pu s a r).2 i && decide ((bz_pu s a r).1 i ≠ bz_d t i)) then 1 else 0) (g := fun i => if (!s.2 i && decide (s.1 i ≠ bz_d t i)) then 1 else 0) (a := a) (n := bz_n t) ha (fun i _ hne => by
    unfold bz_pu
    simp [bz_up_n _ _ hne])
  have e1 : (bz_pu s a r).2 a = false := bz_up_s _ _ _
  have e2 : (bz_pu s a r).1 a = r := bz_up_s _ _ _
  rw [e1, e2, ho] at h
  by_cases e : r = bz_d t a
  · rw [if_pos e]
    simp [e] at h
    rw [e]
    omega
  · rw [if_neg e]
    simp [e] at h
    omega
theorem bz_in_ta (q : Nat) : bz_in t (bz_ta s a) q = fun i => bz_in t s q i && !decide (i = a) := by
  funext i
  unfold bz_in bz_ta
  by_cases e : i = a
  · subst e
    simp [bz_up_s]
  · simp [bz_up_n _ _ e, e]
theorem bz_op_ta : bz_op t (bz_ta s a) = fun i => bz_op t s i || (decide (i = a) && decide (a < bz_n t)) := by
  funext i
  unfold bz_op bz_ta
  by_cases e : i = a
  · subst e
    by_cases q : i < bz_n t <;> simp [bz_up_s, q]
  · simp [bz_up_n _ _ e, e]
theorem bz_ld_ta (ha : a < bz_n t) (ho : s.2 a = false) (q : Nat) : bz_ld t s q = bz_ld t (bz_ta s a) q + if q = s.1 a then bz_w t a q else 0 := by
  have h0 : bz_in t s q a = decide (q = s.1 a) := by
    unfold bz_in
    simp [ho, ha, eq_comm]
  have e1 : bz_in t (bz_ta s a) q a = false := by
    rw [bz_in_ta]
    simp
  have h : bz_ld t (bz_ta s a) q + (if bz_in t s q a then bz_w t a q else 0) = bz_ld t s q + (if bz_in t (bz_ta s a) q a then bz_w t a q else 0) := bz_sm_one (f := fun i => if bz_in t (bz_ta s a) q i then bz_w t i q else 0) (g := fun i => if bz_in t s q i then bz_w t i q else 0) (a := a) (n := bz_n t) ha (fun i _ hne => by
    rw [bz_in_ta]
    simp [hne])
  rw [h0, e1] at h
  by_cases e : q = s.1 a
  · rw [if_pos e]
    rw [if_pos (decide_eq_true e), if_neg (by simp)] at h
    omega
  · rw [if_neg e]
    rw [if_neg (by simpa using e), if_neg (by simp)] at h
    omega
theorem bz_ch_ta (ha : a < bz_n t) (ho : s.2 a = false) : bz_ch t s = bz_ch t (bz_ta s a) + if s.1 a = bz_d t a then 0 else 1 := by
  have h : bz_ch t (bz_ta s a) + (if (!s.2 a && decide (s.1 a ≠ bz_d t a)) then 1 else 0) = bz_ch t s + (if (!(bz_ta s a).2 a && decide ((bz_ta s a).1 a ≠ bz_d t a)) then 1 else 0) := bz_sm_one (f := fun i => if (!(bz_ta s a).2 i && decide ((bz_ta s a).1 i ≠ bz_d t i)) then 1 else 0) (g := fun i => if (!s.2 i && decide (s.1 i ≠ bz_d t i)) then 1 else 0) (a := a) (n := bz_n t) ha (fun i _ hne => by
    unfold bz_ta
    simp [bz_up_n _ _ hne])
  have e1 : (bz_ta s a).2 a = true := bz_up_s _ _ _
  rw [e1, ho] at h
  by_cases e : s.1 a = bz_d t a
  · rw [if_pos e]
    simp [e] at h
    omega
  · rw [if_neg e]
    simp [e] at h
    omega
end BZP
end
section
/-! solving by moves: three to an area, in their order -/
def bz_ot (r i : Nat) : Nat := if i < r then i else i + 1
noncomputable def bz_mv (t : bz_T) : Nat → Nat → (Nat → Nat) → (Nat → Nat)
  | 0, _, f => f
  | k + 1, mi, f => if mi < 3 * bz_n t then (if bz_co t (bz_fu (va_up f (mi / 3) (bz_ot (f (mi / 3)) (mi % 3)))) < bz_co t (bz_fu f) then bz_mv t k 0 (va_up f (mi / 3) (bz_ot (f (mi / 3)) (mi % 3))) else bz_mv t k (mi + 1) f) else f
theorem bz_mv_end {t : bz_T} {mi : Nat} (h : 3 * bz_n t ≤ mi) (k : Nat) (f : Nat → Nat) : bz_mv t k mi f = f := by
  cases k with
  | zero => rfl
  | succ k => unfold bz_mv; rw [if_neg (by omega)]
theorem bz_mv_do {t : bz_T} {mi k : Nat} {f : Nat → Nat} (h : mi < 3 * bz_n t) (hc : bz_co t (bz_fu (va_up f (mi / 3) (bz_ot (f (mi / 3)) (mi % 3)))) < bz_co t (bz_fu f)) : bz_mv t (k + 1) mi f = bz_mv t k 0 (va_up f (mi / 3) (bz_ot (f (mi / 3)) (mi % 3))) := by
  rw [bz_mv, if_pos h, if_pos hc]
theorem bz_mv_no {t : bz_T} {mi k : Nat} {f : Nat → Nat} (h : mi < 3 * bz_n t) (hc : ¬ bz_co t (bz_fu (va_up f (mi / 3) (bz_ot (f (mi / 3)) (mi % 3)))) < bz_co t (bz_fu f)) : bz_mv t (k + 1) mi f = bz_mv t k (mi + 1) f := by
  rw [bz_mv, if_pos h, if_neg hc]
end
