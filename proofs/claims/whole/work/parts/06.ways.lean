/-! ways: a pass over the areas; when a pass finds nothing more, all that can be reached is reached -/
/-- one pass over the areas up to k -/
def bz_ps (j : Nat → Nat → Bool) (o : Nat → Bool) (x : Nat → Bool) : Nat → Nat → Bool
  | 0 => x
  | k + 1 => if bz_ps j o x k k then (fun i => bz_ps j o x k i || (j k i && o i)) else bz_ps j o x k
theorem bz_ps_up {j : Nat → Nat → Bool} {o x : Nat → Bool} {i : Nat} (h : x i = true) : ∀ k, bz_ps j o x k i = true
  | 0 => h
  | k + 1 => by
    have := bz_ps_up (j := j) (o := o) h k
    unfold bz_ps
    split
    · simp [this]
    · exact this
/-- what a pass finds can be reached -/
theorem bz_ps_rc {j : Nat → Nat → Bool} {o x : Nat → Bool} {a : Nat} (h : ∀ i, x i = true → bz_rc j o a i) : ∀ k i, bz_ps j o x k i = true → bz_rc j o a i
  | 0, i, hi => h i hi
  | k + 1, i, hi => by
    have ih := bz_ps_rc (j := j) (o := o) (x := x) (a := a) h k
    unfold bz_ps at hi
    split at hi
    · rename_i hk
      rcases (Bool.or_eq_true _ _).mp hi with q | q
      · exact ih i q
      · have q2 := (Bool.and_eq_true _ _).mp q
        exact fun y h1 h2 => h2 k i (ih k hk y h1 h2) q2.1 q2.2
    · exact ih i hi
/-- a pass that finds nothing more: the set is closed -/
theorem bz_ps_cl {j : Nat → Nat → Bool} {o x : Nat → Bool} {n : Nat} (h : ∀ i, i < 32 → bz_ps j o x n i = x i) {k : Nat} (hk : k < n) (hn : n ≤ 32) {i : Nat} (hi : i < 32) (hx : x k = true) (hj : j k i = true) (ho : o i = true) : x i = true := by
  have mono : ∀ m d, bz_ps j o x m i = true → bz_ps j o x (m + d) i = true := by
    intro m d hm
    induction d with
    | zero => exact hm
    | succ d ih =>
      rw [← Nat.add_assoc]
      unfold bz_ps
      split
      · simp [ih]
      · exact ih
  have h1 : bz_ps j o x (k + 1) i = true := by
    unfold bz_ps
    rw [if_pos (bz_ps_up hx k)]
    simp [hj, ho]
  have h2 := mono (k + 1) (n - (k + 1)) h1
  rw [show k + 1 + (n - (k + 1)) = n by omega, h i hi] at h2
  exact h2
theorem bz_ct_lt {f g : Nat → Bool} {n : Nat} (h : ∀ i, i < n → f i = true → g i = true) {a : Nat} (ha : a < n) (hf : f a = false) (hg : g a = true) : bz_ct f n < bz_ct g n := by
  have h1 : bz_ct f n + 1 = bz_ct (fun i => f i || decide (i = a)) n := by
    unfold bz_ct
    have := bz_sm_one (f := fun i => if f i then 1 else 0) (g := fun i => if (f i || decide (i = a)) then 1 else 0) (a := a) (n := n) ha (fun i _ hne => by simp [hne])
    have e0 : (if (f a || decide (a = a)) = true then 1 else 0 : Nat) = 1 := by simp
    have e1 : (if f a = true then 1 else 0 : Nat) = 0 := by simp [hf]
    dsimp only at this ⊢
    rw [e0, e1] at this
    omega
  have h2 : bz_ct (fun i => f i || decide (i = a)) n ≤ bz_ct g n := bz_ct_mono fun i hi q => by
    rcases (Bool.or_eq_true _ _).mp q with z | z
    · exact h i hi z
    · have : i = a := by simpa using z
      rw [this]
      exact hg
  omega
/-- what holds at the head of the passes: x is reached, y was reached a pass before -/
def bz_hw (t : bz_T) (f o x y : Nat → Bool) (q : Nat) : Prop :=
  (∀ a, f a = true → (∀ i, i < a → f i = false) → x a = true ∧ ∀ i, x i = true → bz_rc (bz_j t) o a i) ∧
  (∀ i, x i = true → i < bz_n t) ∧ (∀ i, y i = true → x i = true) ∧ q ≤ bz_ct y 32 ∧ ((∀ i, y i = false) ∨ x = bz_ps (bz_j t) o y (bz_n t))
theorem bz_least {f : Nat → Bool} : ∀ {b : Nat}, f b = true → ∃ a, a ≤ b ∧ f a = true ∧ ∀ i, i < a → f i = false := by
  intro b hb
  obtain ⟨a, h1, h2⟩ := pk_least (fun k => f k = true) ⟨b, hb⟩
  refine ⟨a, ?_, h1, fun i hi => ?_⟩
  · rcases Nat.lt_or_ge b a with q | q
    · exact absurd hb (h2 b q)
    · exact q
  · cases e : f i
    · rfl
    · exact absurd e (h2 i hi)
theorem bz_hw0 {t : bz_T} {f o : Nat → Bool} (hf : ∀ i, f i = true → i < bz_n t) : bz_hw t f o (fun i => f i && !(decide (∃ j, j < i ∧ f j = true))) (fun _ => false) 0 := by
  refine ⟨fun a ha hl => ⟨?_, fun i hi => ?_⟩, fun i hi => hf i ((Bool.and_eq_true _ _).mp hi).1, fun i hi => absurd hi (by simp), Nat.zero_le _, Or.inl fun _ => rfl⟩
  · have : ¬ ∃ j, j < a ∧ f j = true := fun ⟨j, h1, h2⟩ => by
      rw [hl j h1] at h2
      exact absurd h2 (by simp)
    simp [ha, this]
  · have h := (Bool.and_eq_true _ _).mp hi
    have h2 : ¬ ∃ j, j < i ∧ f j = true := by simpa using h.2
    have e : i = a := by
      rcases Nat.lt_trichotomy i a with q | q | q
      · rw [hl i q] at h
        exact absurd h.1 (by simp)
      · exact q
      · exact absurd ⟨a, q, ha⟩ h2
    subst e
    exact fun y h1 _ => h1
theorem bz_ps_in {t : bz_T} (ht : bz_ok t) {o x : Nat → Bool} (hx : ∀ i, x i = true → i < bz_n t) : ∀ k i, bz_ps (bz_j t) o x k i = true → i < bz_n t
  | 0, i, hi => hx i hi
  | k + 1, i, hi => by
    unfold bz_ps at hi
    split at hi
    · rcases (Bool.or_eq_true _ _).mp hi with q | q
      · exact bz_ps_in ht hx k i q
      · exact (ht.2.2.2.1 k i ((Bool.and_eq_true _ _).mp q).1).2.1
    · exact bz_ps_in ht hx k i hi
theorem bz_hw1 {t : bz_T} (ht : bz_ok t) {f o x y : Nat → Bool} {q : Nat} (h : bz_hw t f o x y q) (hne : ¬ ∀ i, i < 32 → x i = y i) : bz_hw t f o (bz_ps (bz_j t) o x (bz_n t)) x (q + 1) := by
  obtain ⟨h1, h2, h3, h4, h5⟩ := h
  refine ⟨fun a ha hl => ⟨bz_ps_up (h1 a ha hl).1 _, fun i hi => bz_ps_rc (h1 a ha hl).2 _ i hi⟩, fun i hi => bz_ps_in ht h2 _ i hi, fun i hi => bz_ps_up hi _, ?_, Or.inr rfl⟩
  have : ∃ i, i < 32 ∧ ¬ x i = y i := Classical.byContradiction fun z => hne fun i hi => Classical.byContradiction fun w => z ⟨i, hi, w⟩
  obtain ⟨i, hi, hxy⟩ := this
  have : y i = false ∧ x i = true := by
    cases e1 : y i
    · cases e2 : x i
      · rw [e1, e2] at hxy
        exact absurd rfl hxy
      · exact ⟨rfl, rfl⟩
    · rw [h3 i e1, e1] at hxy
      exact absurd rfl hxy
  have := bz_ct_lt (fun j _ => h3 j) hi this.1 this.2
  omega
theorem bz_hw_t {t : bz_T} {f o x y : Nat → Bool} {q : Nat} (h : bz_hw t f o x y q) (hs : ∀ i, f i = true → x i = true) : bz_tg (bz_j t) f o := fun a ha hl b hb => (h.1 a ha hl).2 b (hs b hb)
theorem bz_ct_cut {f : Nat → Bool} {n : Nat} : ∀ {m : Nat}, n ≤ m → (∀ i, f i = true → i < n) → bz_ct f m ≤ n := by
  intro m hm hf
  have e : ∀ d, bz_ct f (n + d) = bz_ct f n := by
    intro d
    induction d with
    | zero => rfl
    | succ d ih =>
      show bz_ct f (n + d) + (if f (n + d) then 1 else 0) = bz_ct f n
      have : ¬ f (n + d) = true := fun z => by
        have := hf _ z
        omega
      rw [if_neg this, ih]
      rfl
  rw [show m = n + (m - n) by omega, e]
  exact bz_ct_le f n
theorem bz_hw_f {t : bz_T} (ht : bz_ok t) {f o x y : Nat → Bool} {q : Nat} (hf : ∀ i, f i = true → i < bz_n t) (h : bz_hw t f o x y q) (hend : 30 ≤ q ∨ ∀ i, i < 32 → x i = y i) {b : Nat} (hb : f b = true) (hx : x b = false) : ¬ bz_tg (bz_j t) f o := by
  intro htg
  have hn : bz_n t ≤ 30 := ht.1
  obtain ⟨a, -, ha, hl⟩ := bz_least hb
  have hcl : ∀ i, i < 32 → x i = y i := by
    rcases hend with hq | hq
    · refine Classical.byContradiction fun hne => ?_
      have h1 := (bz_hw1 ht h hne).2.2.2.1
      have h2 := bz_ct_cut (f := x) (n := bz_n t) (m := 32) (by omega) h.2.1
      omega
    · exact hq
  obtain ⟨h1, h2, h3, h4, h5⟩ := h
  have hxa := (h1 a ha hl).1
  rcases h5 with h5 | h5
  · have := hcl a (by have := h2 a hxa; omega)
    rw [hxa, h5 a] at this
    exact absurd this (by simp)
  · have hall : ∀ i, i < 32 → bz_ps (bz_j t) o x (bz_n t) i = x i := by
      intro i hi
      have exy : x = y := by
        funext z
        rcases Nat.lt_or_ge z 32 with w | w
        · exact hcl z w
        · have e1 : x z = false := by
            cases e : x z
            · rfl
            · have := h2 z e
              omega
          have e2 : y z = false := by
            cases e : y z
            · rfl
            · rw [h3 z e] at e1
              exact absurd e1 (by simp)
          rw [e1, e2]
      rw [← exy] at h5
      exact (congrFun h5 i).symm
    have := htg a ha hl b hb x hxa (fun i k q1 q2 q3 => by
      have w := ht.2.2.2.1 i k q2
      exact bz_ps_cl hall w.1 (by omega) (by omega) q1 q2 q3)
    rw [hx] at this
    exact absurd this (by simp)
