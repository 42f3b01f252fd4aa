/-! sets of areas as the bits of an int -/
def bt (x : Int32) (i : Nat) : Bool := x.toBitVec.getLsbD i
theorem b_ext {x y : Int32} (h : ∀ i, i < 32 → bt x i = bt y i) : x = y := Int32.toBitVec_inj.mp (BitVec.eq_of_getLsbD_eq (fun i hi => h i hi))
theorem b_or (x y : Int32) (i : Nat) : bt (x ||| y) i = (bt x i || bt y i) := by unfold bt; rw [Int32.toBitVec_or, BitVec.getLsbD_or]
theorem b_and (x y : Int32) (i : Nat) : bt (x &&& y) i = (bt x i && bt y i) := by unfold bt; rw [Int32.toBitVec_and, BitVec.getLsbD_and]
theorem b_xor (x y : Int32) (i : Nat) : bt (x ^^^ y) i = (bt x i ^^ bt y i) := by unfold bt; rw [Int32.toBitVec_xor, BitVec.getLsbD_xor]
theorem b_big {x : Int32} {i : Nat} (h : 32 ≤ i) : bt x i = false := BitVec.getLsbD_of_ge _ _ h
theorem b_m1 : ∀ i, i < 32 → bt (-1) i = true := by decide +kernel
theorem b_0 (i : Nat) : bt 0 i = false := BitVec.getLsbD_zero
theorem ts_nf {x : Bool} (h : ¬ x = false) : x = true := by cases x; exact absurd rfl h; rfl
theorem b_shl1 : ∀ n, n < 32 → ∀ i, i < 32 → bt ((1 : Int32) <<< (nI n &&& 31)) i = decide (i = n) := by decide +kernel
/-- the int whose bits are the set -/
def bz_m (f : Nat → Bool) : Int32 := Int32.ofBitVec ((BitVec.ofBoolListLE ((List.range 32).map f)).cast (by simp))
theorem bz_bt (f : Nat → Bool) {i : Nat} (hi : i < 32) : bt (bz_m f) i = f i := by
  unfold bt bz_m
  rw [show (Int32.ofBitVec ((BitVec.ofBoolListLE ((List.range 32).map f)).cast (by simp))).toBitVec = ((BitVec.ofBoolListLE ((List.range 32).map f)).cast (by simp)) from rfl, BitVec.getLsbD_cast, BitVec.getLsbD_ofBoolListLE]
  simp [hi]
theorem bz_ext {f g : Nat → Bool} (h : ∀ i, i < 32 → f i = g i) : bz_m f = bz_m g := b_ext fun i hi => by rw [bz_bt f hi, bz_bt g hi, h i hi]
theorem bz_inj {f g : Nat → Bool} (h : bz_m f = bz_m g) {i : Nat} (hi : i < 32) : f i = g i := by rw [← bz_bt f hi, ← bz_bt g hi, h]
theorem bz_or (f g : Nat → Bool) : bz_m f ||| bz_m g = bz_m (fun i => f i || g i) := b_ext fun i hi => by rw [b_or, bz_bt f hi, bz_bt g hi, bz_bt _ hi]
theorem bz_and (f g : Nat → Bool) : bz_m f &&& bz_m g = bz_m (fun i => f i && g i) := b_ext fun i hi => by rw [b_and, bz_bt f hi, bz_bt g hi, bz_bt _ hi]
theorem bz_xor (f g : Nat → Bool) : bz_m f ^^^ bz_m g = bz_m (fun i => f i ^^ g i) := b_ext fun i hi => by rw [b_xor, bz_bt f hi, bz_bt g hi, bz_bt _ hi]
theorem bz_not (f : Nat → Bool) : bz_m f ^^^ (-1) = bz_m (fun i => !f i) := b_ext fun i hi => by rw [b_xor, bz_bt f hi, b_m1 i hi, bz_bt _ hi]; cases f i <;> rfl
theorem bz_one {n : Nat} (hn : n < 32) : (1 : Int32) <<< (nI n &&& 31) = bz_m (fun i => decide (i = n)) := b_ext fun i hi => by rw [b_shl1 n hn i hi, bz_bt _ hi]
theorem bz_zero : (0 : Int32) = bz_m (fun _ => false) := b_ext fun i hi => by rw [b_0, bz_bt _ hi]
theorem bz_eq0 (f : Nat → Bool) : bz_m f = 0 ↔ ∀ i, i < 32 → f i = false := by
  rw [bz_zero]
  exact ⟨fun h i hi => bz_inj h hi, fun h => bz_ext h⟩
theorem bz_eqI (f g : Nat → Bool) : bz_m f = bz_m g ↔ ∀ i, i < 32 → f i = g i := ⟨fun h i hi => bz_inj h hi, fun h => bz_ext h⟩
theorem bz_test (f : Nat → Bool) {n : Nat} (hn : n < 32) : bz_m f &&& ((1 : Int32) <<< (nI n &&& 31)) = 0 ↔ f n = false := by
  rw [bz_one hn, bz_and, bz_eq0]
  constructor
  · intro h
    have := h n hn
    simpa using this
  · intro h i hi
    by_cases e : i = n
    · subst e; simp [h]
    · simp [e]
theorem bz_all : ∀ n, n < 31 → ((1 : Int32) <<< (nI n &&& 31)) - 1 = bz_m (fun i => decide (i < n)) := by decide +kernel
/-- the least bit of a set -/
theorem bz_low (f : Nat → Bool) : bz_m f &&& (-(bz_m f)) = bz_m (fun i => f i && !(decide (∃ j, j < i ∧ f j = true))) := by
  apply b_ext
  intro i hi
  rw [b_and, bz_bt f hi, bz_bt _ hi]
  have h : bt (-(bz_m f)) i = (f i ^^ decide (∃ j, j < i ∧ f j = true)) := by
    show ((-(bz_m f)).toBitVec).getLsbD i = _
    rw [Int32.toBitVec_neg, BitVec.getLsbD_neg]
    rw [show (bz_m f).toBitVec.getLsbD i = f i from bz_bt f hi]
    have e : (f i ^^ decide (i < 32) && decide (∃ j, j < i ∧ (bz_m f).toBitVec.getLsbD j = true)) = (f i ^^ decide (∃ j, j < i ∧ f j = true)) := by
      rw [decide_eq_true hi, Bool.true_and]
      congr 1
      apply decide_eq_decide.mpr
      constructor
      · rintro ⟨j, h1, h2⟩
        exact ⟨j, h1, by rw [← bz_bt f (show j < 32 by omega)]; exact h2⟩
      · rintro ⟨j, h1, h2⟩
        exact ⟨j, h1, by rw [show (bz_m f).toBitVec.getLsbD j = f j from bz_bt f (show j < 32 by omega)]; exact h2⟩
    exact e
  rw [h]
  cases f i <;> simp
