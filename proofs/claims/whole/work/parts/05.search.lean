/-! the exact search: what a beginning costs is no more than what it can become; scanning in the order of the rows keeps the first of the least -/
theorem bz_in_ext {t : bz_T} {s s2 : bz_S} (h : ∀ a, a < bz_n t → s.1 a = s2.1 a ∧ s.2 a = s2.2 a) (r : Nat) : bz_in t s r = bz_in t s2 r := by
  funext a
  unfold bz_in
  by_cases ha : a < bz_n t
  · rw [(h a ha).1, (h a ha).2]
  · simp [ha]
theorem bz_op_ext {t : bz_T} {s s2 : bz_S} (h : ∀ a, a < bz_n t → s.1 a = s2.1 a ∧ s.2 a = s2.2 a) : bz_op t s = bz_op t s2 := by
  funext a
  unfold bz_op
  by_cases ha : a < bz_n t
  · rw [(h a ha).2]
  · simp [ha]
theorem bz_ld_ext {t : bz_T} {s s2 : bz_S} (h : ∀ a, a < bz_n t → s.1 a = s2.1 a ∧ s.2 a = s2.2 a) (r : Nat) : bz_ld t s r = bz_ld t s2 r := by
  unfold bz_ld
  rw [bz_in_ext h r]
theorem bz_ch_ext {t : bz_T} {s s2 : bz_S} (h : ∀ a, a < bz_n t → s.1 a = s2.1 a ∧ s.2 a = s2.2 a) : bz_ch t s = bz_ch t s2 := by
  unfold bz_ch bz_ct
  exact bz_sm_ext fun i hi => by simp only [(h i hi).1, (h i hi).2]
theorem bz_ht_ext {t : bz_T} {s s2 : bz_S} (h : ∀ a, a < bz_n t → s.1 a = s2.1 a ∧ s.2 a = s2.2 a) (r : Nat) : bz_ht t s r = bz_ht t s2 r := by
  unfold bz_ht
  rw [bz_in_ext h r, bz_op_ext h]
theorem bz_fr_ext {t : bz_T} {s s2 : bz_S} (h : ∀ a, a < bz_n t → s.1 a = s2.1 a ∧ s.2 a = s2.2 a) (r : Nat) : bz_fr t s r = bz_fr t s2 r := by
  unfold bz_fr
  rw [bz_in_ext h r, bz_ht_ext h r, bz_ld_ext h r]
theorem bz_fo_ext {t : bz_T} {s s2 : bz_S} (h : ∀ a, a < bz_n t → s.1 a = s2.1 a ∧ s.2 a = s2.2 a) : bz_fo t s = bz_fo t s2 := by
  unfold bz_fo
  rw [bz_op_ext h]
theorem bz_ft_ext {t : bz_T} {s s2 : bz_S} (h : ∀ a, a < bz_n t → s.1 a = s2.1 a ∧ s.2 a = s2.2 a) : bz_ft t s = bz_ft t s2 := by
  unfold bz_ft
  rw [bz_fo_ext h, bz_sm_ext fun r _ => bz_fr_ext h r]
theorem bz_gl_ext {t : bz_T} {s s2 : bz_S} (h : ∀ a, a < bz_n t → s.1 a = s2.1 a ∧ s.2 a = s2.2 a) : bz_gl t s = bz_gl t s2 := by
  unfold bz_gl
  rw [bz_ld_ext h 0, bz_ld_ext h 1, bz_ld_ext h 2, bz_ld_ext h 3]
theorem bz_co_ext {t : bz_T} {s s2 : bz_S} (h : ∀ a, a < bz_n t → s.1 a = s2.1 a ∧ s.2 a = s2.2 a) : bz_co t s = bz_co t s2 := by
  unfold bz_co
  rw [bz_ft_ext h, bz_gl_ext h, bz_ch_ext h]
/-- the beginning of a share: the areas from k on are open -/
def bz_be (k : Nat) (f : Nat → Nat) : bz_S := (f, fun a => decide (k ≤ a))
def bz_fu (f : Nat → Nat) : bz_S := (f, fun _ => false)
theorem bz_ct_f : ∀ n, bz_ct (fun _ => false) n = 0
  | 0 => rfl
  | n + 1 => by
    show bz_ct (fun _ => false) n + 0 = 0
    rw [bz_ct_f n]
theorem bz_fo_fu (t : bz_T) (f : Nat → Nat) : bz_fo t (bz_fu f) = 0 := by
  have e : bz_op t (bz_fu f) = fun _ => false := funext fun a => by
    unfold bz_op bz_fu
    simp
  unfold bz_fo
  rw [e, bz_ct_f]
  split <;> rfl
theorem bz_be_fu {t : bz_T} {k : Nat} {f g : Nat → Nat} (hk : bz_n t ≤ k) (h : ∀ a, a < bz_n t → f a = g a) : bz_co t (bz_be k f) = bz_co t (bz_fu g) := bz_co_ext fun a ha => ⟨h a ha, by
  show decide (k ≤ a) = false
  exact decide_eq_false (by omega)⟩
theorem bz_rc_mono {j : Nat → Nat → Bool} {o1 o2 : Nat → Bool} (h : ∀ i, o1 i = true → o2 i = true) {a b : Nat} (hr : bz_rc j o1 a b) : bz_rc j o2 a b := fun x h1 h2 => hr x h1 fun i k q1 q2 q3 => h2 i k q1 q2 (h k q3)
section BZM
variable {t : bz_T} {k m : Nat} {f g : Nat → Nat} (hkm : k ≤ m) (hfg : ∀ a, a < k → a < bz_n t → f a = g a)
theorem bz_in_be (i r : Nat) (f : Nat → Nat) (k : Nat) : bz_in t (bz_be k f) r i = true ↔ i < bz_n t ∧ i < k ∧ f i = r := by
  unfold bz_in bz_be
  simp [Nat.not_le]
theorem bz_in_mono {r i : Nat} (hkm : k ≤ m) (hfg : ∀ a, a < k → a < bz_n t → f a = g a) (h : bz_in t (bz_be k f) r i = true) : bz_in t (bz_be m g) r i = true := by
  rw [bz_in_be] at h ⊢
  exact ⟨h.1, by omega, by rw [← hfg i h.2.1 h.1]; exact h.2.2⟩
theorem bz_ld_mono (hkm : k ≤ m) (hfg : ∀ a, a < k → a < bz_n t → f a = g a) (r : Nat) : bz_ld t (bz_be k f) r ≤ bz_ld t (bz_be m g) r := by
  unfold bz_ld
  refine bz_sm_le fun i _ => ?_
  by_cases h : bz_in t (bz_be k f) r i = true
  · rw [if_pos h, if_pos (bz_in_mono hkm hfg h)]
    exact Nat.le_refl _
  · rw [if_neg h]
    exact Nat.zero_le _
theorem bz_ct_mono {f g : Nat → Bool} {n : Nat} (h : ∀ i, i < n → f i = true → g i = true) : bz_ct f n ≤ bz_ct g n := by
  unfold bz_ct
  refine bz_sm_le fun i hi => ?_
  by_cases q : f i = true
  · rw [if_pos q, if_pos (h i hi q)]
    exact Nat.le_refl _
  · rw [if_neg q]
    exact Nat.zero_le _
theorem bz_ch_mono (hkm : k ≤ m) (hfg : ∀ a, a < k → a < bz_n t → f a = g a) : bz_ch t (bz_be k f) ≤ bz_ch t (bz_be m g) := by
  unfold bz_ch
  refine bz_ct_mono fun i hi h => ?_
  have h := (Bool.and_eq_true _ _).mp h
  have h1 : i < k := by
    have := h.1
    simp [bz_be] at this
    omega
  have h2 : f i ≠ bz_d t i := of_decide_eq_true h.2
  refine (Bool.and_eq_true _ _).mpr ⟨?_, decide_eq_true ?_⟩
  · simp [bz_be]
    omega
  · show g i ≠ bz_d t i
    rw [← hfg i h1 hi]
    exact h2
theorem bz_ht_mono (hkm : k ≤ m) (hfg : ∀ a, a < k → a < bz_n t → f a = g a) {r : Nat} (h : bz_ht t (bz_be m g) r) : bz_ht t (bz_be k f) r := by
  intro a ha hl b hb
  have ha' := (bz_in_be a r f k).mp ha
  refine bz_rc_mono ?_ (h a (bz_in_mono hkm hfg ha) ?_ b (bz_in_mono hkm hfg hb))
  · intro i hi
    by_cases hik : i < k
    · have e : bz_in t (bz_be m g) r i = true → bz_in t (bz_be k f) r i = true := by
        rw [bz_in_be, bz_in_be]
        exact fun q => ⟨q.1, hik, by rw [hfg i hik q.1]; exact q.2.2⟩
      rcases (Bool.or_eq_true _ _).mp hi with q | q
      · simp [e q]
      · simp [bz_op, bz_be] at q
        omega
    · have hn : i < bz_n t := by
        rcases (Bool.or_eq_true _ _).mp hi with q | q
        · exact ((bz_in_be i r g m).mp q).1
        · simp [bz_op] at q
          exact q.1
      simp [bz_op, bz_be, hn, Nat.not_lt.mp hik]
  · intro i hi
    have q := hl i hi
    cases e : bz_in t (bz_be m g) r i
    · rfl
    · have e' := (bz_in_be i r g m).mp e
      have : bz_in t (bz_be k f) r i = true := (bz_in_be i r f k).mpr ⟨e'.1, by omega, by rw [hfg i (by omega) e'.1]; exact e'.2.2⟩
      rw [this] at q
      exact q
theorem bz_fr_mono (hkm : k ≤ m) (hfg : ∀ a, a < k → a < bz_n t → f a = g a) (r : Nat) : bz_fr t (bz_be k f) r ≤ bz_fr t (bz_be m g) r := by
  have h1 : bz_b (¬ bz_ht t (bz_be k f) r) ≤ bz_b (¬ bz_ht t (bz_be m g) r) := bz_b_mono fun h q => h (bz_ht_mono hkm hfg q)
  have h2 : bz_ct (bz_in t (bz_be k f) r) (bz_n t) ≤ bz_ct (bz_in t (bz_be m g) r) (bz_n t) := bz_ct_mono fun i _ h => bz_in_mono hkm hfg h
  have h3 : bz_b (bz_h t r < bz_ld t (bz_be k f) r) ≤ bz_b (bz_h t r < bz_ld t (bz_be m g) r) := bz_b_mono fun h => Nat.lt_of_lt_of_le h (bz_ld_mono hkm hfg r)
  unfold bz_fr
  split <;> omega
/-- each area is open or in one round -/
theorem bz_pt_le (s : bz_S) : ∀ j, bz_ct (bz_op t s) j + (bz_ct (bz_in t s 0) j + bz_ct (bz_in t s 1) j + bz_ct (bz_in t s 2) j + bz_ct (bz_in t s 3) j) ≤ j
  | 0 => Nat.le_refl _
  | j + 1 => by
    have ih := bz_pt_le s j
    have e : ∀ f : Nat → Bool, bz_ct f (j + 1) = bz_ct f j + (if f j then 1 else 0) := fun _ => rfl
    have h1 : (if bz_op t s j then 1 else 0) + ((if bz_in t s 0 j then 1 else 0) + (if bz_in t s 1 j then 1 else 0) + (if bz_in t s 2 j then 1 else 0) + (if bz_in t s 3 j then 1 else 0)) ≤ 1 := by
      unfold bz_op bz_in
      by_cases hj : j < bz_n t
      · cases ho : s.2 j
        · simp only [hj, decide_true, Bool.true_and, Bool.not_false, Bool.false_eq_true, if_false, decide_eq_true_eq]
          repeat' split
          all_goals omega
        · simp [hj]
      · simp [hj]
    rw [e, e, e, e, e]
    omega
theorem bz_pt_ge (s : bz_S) (hs : ∀ a, a < bz_n t → s.2 a = false → s.1 a < 4) : ∀ j, j ≤ bz_n t → j ≤ bz_ct (bz_op t s) j + (bz_ct (bz_in t s 0) j + bz_ct (bz_in t s 1) j + bz_ct (bz_in t s 2) j + bz_ct (bz_in t s 3) j)
  | 0, _ => Nat.zero_le _
  | j + 1, hj => by
    have ih := bz_pt_ge s hs j (by omega)
    have e : ∀ f : Nat → Bool, bz_ct f (j + 1) = bz_ct f j + (if f j then 1 else 0) := fun _ => rfl
    have h1 : 1 ≤ (if bz_op t s j then 1 else 0) + ((if bz_in t s 0 j then 1 else 0) + (if bz_in t s 1 j then 1 else 0) + (if bz_in t s 2 j then 1 else 0) + (if bz_in t s 3 j then 1 else 0)) := by
      have hj : j < bz_n t := by omega
      have h4 := hs j hj
      unfold bz_op bz_in
      cases ho : s.2 j
      · have h4 := h4 ho
        simp only [hj, decide_true, Bool.true_and, Bool.not_false, Bool.false_eq_true, if_false, decide_eq_true_eq]
        repeat' split
        all_goals omega
      · simp [hj]
    rw [e, e, e, e, e]
    omega
theorem bz_ft_mono (hkm : k ≤ m) (hfg : ∀ a, a < k → a < bz_n t → f a = g a) (hg : ∀ a, a < bz_n t → g a < 4) : bz_ft t (bz_be k f) ≤ bz_ft t (bz_be m g) := by
  by_cases hz : bz_h t 0 = 0 ∧ bz_h t 1 = 0 ∧ bz_h t 2 = 0 ∧ bz_h t 3 = 0
  · have e : ∀ s : bz_S, bz_ft t s = bz_ct (bz_op t s) (bz_n t) + (bz_ct (bz_in t s 0) (bz_n t) + bz_ct (bz_in t s 1) (bz_n t) + bz_ct (bz_in t s 2) (bz_n t) + bz_ct (bz_in t s 3) (bz_n t)) + (bz_b (¬ bz_ht t s 0) + bz_b (¬ bz_ht t s 1) + bz_b (¬ bz_ht t s 2) + bz_b (¬ bz_ht t s 3)) := by
      intro s
      show bz_fo t s + (0 + bz_fr t s 0 + bz_fr t s 1 + bz_fr t s 2 + bz_fr t s 3) = _
      unfold bz_fo bz_fr
      rw [if_pos hz, if_pos hz.1, if_pos hz.2.1, if_pos hz.2.2.1, if_pos hz.2.2.2]
      omega
    have h1 := bz_pt_le (t := t) (bz_be k f) (bz_n t)
    have h2 := bz_pt_ge (t := t) (bz_be m g) (fun a ha _ => hg a ha) (bz_n t) (Nat.le_refl _)
    have h3 : ∀ r, bz_b (¬ bz_ht t (bz_be k f) r) ≤ bz_b (¬ bz_ht t (bz_be m g) r) := fun r => bz_b_mono fun h q => h (bz_ht_mono hkm hfg q)
    have a0 := h3 0
    have a1 := h3 1
    have a2 := h3 2
    have a3 := h3 3
    rw [e, e]
    omega
  · unfold bz_ft bz_fo
    rw [if_neg hz, if_neg hz]
    exact Nat.add_le_add_left (bz_sm_le fun r _ => bz_fr_mono hkm hfg r) 0
theorem bz_co_mono (hkm : k ≤ m) (hfg : ∀ a, a < k → a < bz_n t → f a = g a) (hg : ∀ a, a < bz_n t → g a < 4) : bz_co t (bz_be k f) ≤ bz_co t (bz_be m g) := by
  have h1 := bz_ft_mono hkm hfg hg
  have a0 := bz_ld_mono hkm hfg 0
  have a1 := bz_ld_mono hkm hfg 1
  have a2 := bz_ld_mono hkm hfg 2
  have a3 := bz_ld_mono hkm hfg 3
  have h2 : bz_gl t (bz_be k f) ≤ bz_gl t (bz_be m g) := by
    unfold bz_gl
    omega
  have h3 := bz_ch_mono hkm hfg
  unfold bz_co
  omega
end BZM
/-- the whole shares that go on from a beginning -/
def bz_E (t : bz_T) (k : Nat) (f s : Nat → Nat) : Prop := (∀ a, a < bz_n t → s a < 4) ∧ ∀ a, a < k → a < bz_n t → s a = f a
def bz_lx (n : Nat) (f g : Nat → Nat) : Prop := (∀ a, a < n → f a = g a) ∨ ∃ a, a < n ∧ (∀ i, i < a → f i = g i) ∧ f a < g a
def bz_up (t : bz_T) (E : (Nat → Nat) → Prop) (b c : Nat × (Nat → Nat)) : Prop :=
  (c.1 = b.1 ∧ (∀ a, a < bz_n t → c.2 a = b.2 a) ∧ ∀ s, E s → b.1 ≤ bz_co t (bz_fu s)) ∨
  (E c.2 ∧ c.1 = bz_co t (bz_fu c.2) ∧ c.1 < b.1 ∧ ∀ s, E s → c.1 < bz_co t (bz_fu s) ∨ (c.1 = bz_co t (bz_fu s) ∧ bz_lx (bz_n t) c.2 s))
theorem bz_cut {t : bz_T} {k : Nat} {f : Nat → Nat} {b : Nat × (Nat → Nat)} (hk : k ≤ bz_n t) (h : b.1 ≤ bz_co t (bz_be k f)) : bz_up t (bz_E t k f) b b :=
  Or.inl ⟨rfl, fun _ _ => rfl, fun s hs => Nat.le_trans h (by
    have := bz_co_mono (t := t) (f := f) (g := s) hk (fun a ha hn => (hs.2 a ha hn).symm) hs.1
    rw [bz_be_fu (Nat.le_refl _) (fun _ _ => rfl)] at this
    exact this)⟩
theorem bz_leaf {t : bz_T} {k : Nat} {f g : Nat → Nat} {b : Nat × (Nat → Nat)} (hk : bz_n t ≤ k) (hf : ∀ a, a < bz_n t → f a < 4) (hg : ∀ a, a < bz_n t → g a = f a) (h : bz_co t (bz_be k f) < b.1) : bz_up t (bz_E t k f) b (bz_co t (bz_be k f), g) := by
  have e : bz_co t (bz_be k f) = bz_co t (bz_fu g) := bz_be_fu hk (fun a ha => (hg a ha).symm)
  refine Or.inr ⟨⟨fun a ha => by rw [show (bz_co t (bz_be k f), g).2 a = g a from rfl, hg a ha]; exact hf a ha, fun a _ hn => hg a hn⟩, e, h, fun s hs => Or.inr ⟨?_, Or.inl fun a ha => ?_⟩⟩
  · exact bz_be_fu hk fun a ha => (hs.2 a (by omega) ha).symm
  · show g a = s a
    rw [hg a ha, hs.2 a (by omega) ha]
/-- two parts of the rows, the first one before the second -/
theorem bz_seq {t : bz_T} {E E1 E2 : (Nat → Nat) → Prop} {b c d : Nat × (Nat → Nat)} (hE : ∀ s, E s ↔ E1 s ∨ E2 s) (hlt : ∀ s1 s2, E1 s1 → E2 s2 → bz_lx (bz_n t) s1 s2) (hx : ∀ s s2, E1 s → (∀ a, a < bz_n t → s2 a = s a) → E1 s2) (h1 : bz_up t E1 b c) (h2 : bz_up t E2 c d) : bz_up t E b d := by
  rcases h1 with ⟨p1, p2, p3⟩ | ⟨p1, p2, p3, p4⟩
  · rcases h2 with ⟨q1, q2, q3⟩ | ⟨q1, q2, q3, q4⟩
    · refine Or.inl ⟨q1.trans p1, fun a ha => (q2 a ha).trans (p2 a ha), fun s hs => ?_⟩
      rcases (hE s).mp hs with h | h
      · exact p3 s h
      · rw [← p1]
        exact q3 s h
    · refine Or.inr ⟨(hE _).mpr (Or.inr q1), q2, by omega, fun s hs => ?_⟩
      rcases (hE s).mp hs with h | h
      · have := p3 s h
        exact Or.inl (by omega)
      · exact q4 s h
  · rcases h2 with ⟨q1, q2, q3⟩ | ⟨q1, q2, q3, q4⟩
    · have e1 : E1 d.2 := hx c.2 d.2 p1 q2
      have e2 : bz_co t (bz_fu d.2) = bz_co t (bz_fu c.2) := bz_co_ext fun a ha => ⟨q2 a ha, rfl⟩
      refine Or.inr ⟨(hE _).mpr (Or.inl e1), by rw [q1, e2, p2], by omega, fun s hs => ?_⟩
      rcases (hE s).mp hs with h | h
      · rcases p4 s h with z | ⟨z1, z2⟩
        · exact Or.inl (by omega)
        · refine Or.inr ⟨by omega, ?_⟩
          rcases z2 with z | ⟨a, z3, z4, z5⟩
          · exact Or.inl fun a ha => (q2 a ha).trans (z a ha)
          · exact Or.inr ⟨a, z3, fun i hi => (q2 i (by omega)).trans (z4 i hi), by rw [q2 a z3]; exact z5⟩
      · have z := q3 s h
        by_cases w : d.1 = bz_co t (bz_fu s)
        · exact Or.inr ⟨w, hlt d.2 s e1 h⟩
        · exact Or.inl (by omega)
    · refine Or.inr ⟨(hE _).mpr (Or.inr q1), q2, by omega, fun s hs => ?_⟩
      rcases (hE s).mp hs with h | h
      · rcases p4 s h with z | ⟨z1, z2⟩
        · exact Or.inl (by omega)
        · exact Or.inl (by omega)
      · exact q4 s h
theorem bz_up_iff {t : bz_T} {E E2 : (Nat → Nat) → Prop} {b c : Nat × (Nat → Nat)} (hE : ∀ s, E s ↔ E2 s) (h : bz_up t E b c) : bz_up t E2 b c := by
  have e : E = E2 := funext fun s => propext (hE s)
  rw [← e]
  exact h
theorem bz_rd0 {t : bz_T} {k : Nat} {f : Nat → Nat} {b : Nat × (Nat → Nat)} : bz_up t (fun s => bz_E t k f s ∧ s k < 0) b b := Or.inl ⟨rfl, fun _ _ => rfl, fun _ hs => absurd hs.2 (by omega)⟩
theorem bz_rd1 {t : bz_T} {k j : Nat} {f f2 : Nat → Nat} {b c d : Nat × (Nat → Nat)} (hk : k < bz_n t) (hf : ∀ a, a < k → f2 a = f a) (hfk : f2 k = j) (h1 : bz_up t (fun s => bz_E t k f s ∧ s k < j) b c) (h2 : bz_up t (bz_E t (k + 1) f2) c d) : bz_up t (fun s => bz_E t k f s ∧ s k < j + 1) b d := by
  refine bz_seq (E1 := fun s => bz_E t k f s ∧ s k < j) (E2 := fun s => bz_E t (k + 1) f2 s) ?_ ?_ ?_ h1 h2
  · intro s
    constructor
    · rintro ⟨⟨q1, q2⟩, q3⟩
      by_cases e : s k < j
      · exact Or.inl ⟨⟨q1, q2⟩, e⟩
      · refine Or.inr ⟨q1, fun a ha hn => ?_⟩
        by_cases e2 : a = k
        · subst e2
          rw [hfk]
          omega
        · rw [hf a (by omega)]
          exact q2 a (by omega) hn
    · rintro (⟨q1, q2⟩ | ⟨q1, q2⟩)
      · exact ⟨q1, by omega⟩
      · refine ⟨⟨q1, fun a ha hn => ?_⟩, ?_⟩
        · rw [← hf a ha]
          exact q2 a (by omega) hn
        · have := q2 k (by omega) hk
          omega
  · rintro s1 s2 ⟨⟨q1, q2⟩, q3⟩ ⟨q4, q5⟩
    refine Or.inr ⟨k, hk, fun i hi => ?_, ?_⟩
    · rw [q2 i hi (by omega), q5 i (by omega) (by omega), hf i hi]
    · rw [q5 k (by omega) hk, hfk]
      exact q3
  · rintro s s2 ⟨⟨q1, q2⟩, q3⟩ h
    exact ⟨⟨fun a ha => by rw [h a ha]; exact q1 a ha, fun a ha hn => by rw [h a hn]; exact q2 a ha hn⟩, by rw [h k hk]; exact q3⟩
theorem bz_rd4 {t : bz_T} {k : Nat} {f : Nat → Nat} {b c : Nat × (Nat → Nat)} (hk : k < bz_n t) (h : bz_up t (fun s => bz_E t k f s ∧ s k < 4) b c) : bz_up t (bz_E t k f) b c := bz_up_iff (fun s => ⟨fun q => q.1, fun q => ⟨q, q.1 k hk⟩⟩) h
/-- the share that is due: the first one of those with the least cost -/
def bz_bs (t : bz_T) (f : Nat → Nat) : Prop := (∀ a, a < bz_n t → f a < 4) ∧ ∀ s, (∀ a, a < bz_n t → s a < 4) → bz_co t (bz_fu f) < bz_co t (bz_fu s) ∨ (bz_co t (bz_fu f) = bz_co t (bz_fu s) ∧ bz_lx (bz_n t) f s)
theorem bz_bs_of {t : bz_T} {f : Nat → Nat} {b c : Nat × (Nat → Nat)} (ht : ∀ a, bz_d t a < 4) (hb : bz_co t (bz_fu (bz_d t)) < b.1) (h : bz_up t (bz_E t 0 f) b c) : bz_bs t c.2 := by
  have hd : bz_E t 0 f (bz_d t) := ⟨fun a _ => ht a, fun a ha => absurd ha (by omega)⟩
  rcases h with ⟨-, -, q⟩ | ⟨q1, q2, q3, q4⟩
  · have := q _ hd
    omega
  · refine ⟨q1.1, fun s hs => ?_⟩
    rw [← q2]
    exact q4 s ⟨hs, fun a ha => absurd ha (by omega)⟩
theorem bz_lx_eq {n : Nat} {f g : Nat → Nat} (h1 : bz_lx n f g) (h2 : bz_lx n g f) : ∀ a, a < n → f a = g a := by
  rcases h1 with h | ⟨a, a1, a2, a3⟩
  · exact h
  · rcases h2 with h | ⟨b, b1, b2, b3⟩
    · exact fun i hi => (h i hi).symm
    · exfalso
      rcases Nat.lt_trichotomy a b with q | q | q
      · have := b2 a q
        omega
      · subst q
        omega
      · have := a2 b q
        omega
theorem bz_bs_eq {t : bz_T} {f g : Nat → Nat} (h1 : bz_bs t f) (h2 : bz_bs t g) : ∀ a, a < bz_n t → f a = g a := by
  have q1 := h1.2 g h2.1
  have q2 := h2.2 f h1.1
  rcases q1 with z | ⟨z1, z2⟩
  · rcases q2 with w | ⟨w1, w2⟩
    · omega
    · omega
  · rcases q2 with w | ⟨w1, w2⟩
    · omega
    · exact bz_lx_eq z2 w2
