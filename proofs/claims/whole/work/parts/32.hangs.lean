theorem d_M_hangs_0 : decode b_M_hangs 0 = .ok (.iconst 0, 1) := by decide +kernel
theorem d_M_hangs_1 : decode b_M_hangs 1 = .ok (.istore_n 3, 1) := by decide +kernel
theorem d_M_hangs_2 : decode b_M_hangs 2 = .ok (.iconst 0, 1) := by decide +kernel
theorem d_M_hangs_3 : decode b_M_hangs 3 = .ok (.istore 4, 2) := by decide +kernel
theorem d_M_hangs_5 : decode b_M_hangs 5 = .ok (.iload 4, 2) := by decide +kernel
theorem d_M_hangs_7 : decode b_M_hangs 7 = .ok (.aload_n 0, 1) := by decide +kernel
theorem d_M_hangs_8 : decode b_M_hangs 8 = .ok (.getfield 36, 3) := by decide +kernel
theorem d_M_hangs_11 : decode b_M_hangs 11 = .ok (.if_icmp .ge 51, 3) := by decide +kernel
theorem d_M_hangs_14 : decode b_M_hangs 14 = .ok (.aload_n 0, 1) := by decide +kernel
theorem d_M_hangs_15 : decode b_M_hangs 15 = .ok (.getfield 33, 3) := by decide +kernel
theorem d_M_hangs_18 : decode b_M_hangs 18 = .ok (.iload 4, 2) := by decide +kernel
theorem d_M_hangs_20 : decode b_M_hangs 20 = .ok (.aload_n 1, 1) := by decide +kernel
theorem d_M_hangs_21 : decode b_M_hangs 21 = .ok (.iload 4, 2) := by decide +kernel
theorem d_M_hangs_23 : decode b_M_hangs 23 = .ok (.iaload, 1) := by decide +kernel
theorem d_M_hangs_24 : decode b_M_hangs 24 = .ok (.iload_n 2, 1) := by decide +kernel
theorem d_M_hangs_25 : decode b_M_hangs 25 = .ok (.if_icmp .ne 11, 3) := by decide +kernel
theorem d_M_hangs_28 : decode b_M_hangs 28 = .ok (.iload_n 3, 1) := by decide +kernel
theorem d_M_hangs_29 : decode b_M_hangs 29 = .ok (.ifCond .ne 7, 3) := by decide +kernel
theorem d_M_hangs_32 : decode b_M_hangs 32 = .ok (.iconst 1, 1) := by decide +kernel
theorem d_M_hangs_33 : decode b_M_hangs 33 = .ok (.goto 4, 3) := by decide +kernel
theorem d_M_hangs_36 : decode b_M_hangs 36 = .ok (.iconst 0, 1) := by decide +kernel
theorem d_M_hangs_37 : decode b_M_hangs 37 = .ok (.bastore, 1) := by decide +kernel
theorem d_M_hangs_38 : decode b_M_hangs 38 = .ok (.iload_n 3, 1) := by decide +kernel
theorem d_M_hangs_39 : decode b_M_hangs 39 = .ok (.ifCond .ne 11, 3) := by decide +kernel
theorem d_M_hangs_42 : decode b_M_hangs 42 = .ok (.aload_n 1, 1) := by decide +kernel
theorem d_M_hangs_43 : decode b_M_hangs 43 = .ok (.iload 4, 2) := by decide +kernel
theorem d_M_hangs_45 : decode b_M_hangs 45 = .ok (.iaload, 1) := by decide +kernel
theorem d_M_hangs_46 : decode b_M_hangs 46 = .ok (.iload_n 2, 1) := by decide +kernel
theorem d_M_hangs_47 : decode b_M_hangs 47 = .ok (.if_icmp .ne 7, 3) := by decide +kernel
theorem d_M_hangs_50 : decode b_M_hangs 50 = .ok (.iconst 1, 1) := by decide +kernel
theorem d_M_hangs_51 : decode b_M_hangs 51 = .ok (.goto 4, 3) := by decide +kernel
theorem d_M_hangs_54 : decode b_M_hangs 54 = .ok (.iconst 0, 1) := by decide +kernel
theorem d_M_hangs_55 : decode b_M_hangs 55 = .ok (.istore_n 3, 1) := by decide +kernel
theorem d_M_hangs_56 : decode b_M_hangs 56 = .ok (.iinc 4 1, 3) := by decide +kernel
theorem d_M_hangs_59 : decode b_M_hangs 59 = .ok (.goto (-54), 3) := by decide +kernel
theorem d_M_hangs_62 : decode b_M_hangs 62 = .ok (.iconst 1, 1) := by decide +kernel
theorem d_M_hangs_63 : decode b_M_hangs 63 = .ok (.istore 4, 2) := by decide +kernel
theorem d_M_hangs_65 : decode b_M_hangs 65 = .ok (.iload 4, 2) := by decide +kernel
theorem d_M_hangs_67 : decode b_M_hangs 67 = .ok (.ifCond .eq 100, 3) := by decide +kernel
theorem d_M_hangs_70 : decode b_M_hangs 70 = .ok (.iconst 0, 1) := by decide +kernel
theorem d_M_hangs_71 : decode b_M_hangs 71 = .ok (.istore 4, 2) := by decide +kernel
theorem d_M_hangs_73 : decode b_M_hangs 73 = .ok (.iconst 0, 1) := by decide +kernel
theorem d_M_hangs_74 : decode b_M_hangs 74 = .ok (.istore 5, 2) := by decide +kernel
theorem d_M_hangs_76 : decode b_M_hangs 76 = .ok (.iload 5, 2) := by decide +kernel
theorem d_M_hangs_78 : decode b_M_hangs 78 = .ok (.aload_n 0, 1) := by decide +kernel
theorem d_M_hangs_79 : decode b_M_hangs 79 = .ok (.getfield 36, 3) := by decide +kernel
theorem d_M_hangs_82 : decode b_M_hangs 82 = .ok (.if_icmp .ge 82, 3) := by decide +kernel
theorem d_M_hangs_85 : decode b_M_hangs 85 = .ok (.iconst 0, 1) := by decide +kernel
theorem d_M_hangs_86 : decode b_M_hangs 86 = .ok (.istore 6, 2) := by decide +kernel
theorem d_M_hangs_88 : decode b_M_hangs 88 = .ok (.iload 6, 2) := by decide +kernel
theorem d_M_hangs_90 : decode b_M_hangs 90 = .ok (.aload_n 0, 1) := by decide +kernel
theorem d_M_hangs_91 : decode b_M_hangs 91 = .ok (.getfield 36, 3) := by decide +kernel
theorem d_M_hangs_94 : decode b_M_hangs 94 = .ok (.if_icmp .ge 64, 3) := by decide +kernel
theorem d_M_hangs_97 : decode b_M_hangs 97 = .ok (.aload_n 0, 1) := by decide +kernel
theorem d_M_hangs_98 : decode b_M_hangs 98 = .ok (.getfield 33, 3) := by decide +kernel
theorem d_M_hangs_101 : decode b_M_hangs 101 = .ok (.iload 5, 2) := by decide +kernel
theorem d_M_hangs_103 : decode b_M_hangs 103 = .ok (.baload, 1) := by decide +kernel
theorem d_M_hangs_104 : decode b_M_hangs 104 = .ok (.ifCond .eq 48, 3) := by decide +kernel
theorem d_M_hangs_107 : decode b_M_hangs 107 = .ok (.aload_n 1, 1) := by decide +kernel
theorem d_M_hangs_108 : decode b_M_hangs 108 = .ok (.iload 6, 2) := by decide +kernel
theorem d_M_hangs_110 : decode b_M_hangs 110 = .ok (.iaload, 1) := by decide +kernel
theorem d_M_hangs_111 : decode b_M_hangs 111 = .ok (.iload_n 2, 1) := by decide +kernel
theorem d_M_hangs_112 : decode b_M_hangs 112 = .ok (.if_icmp .ne 40, 3) := by decide +kernel
theorem d_M_hangs_115 : decode b_M_hangs 115 = .ok (.aload_n 0, 1) := by decide +kernel
theorem d_M_hangs_116 : decode b_M_hangs 116 = .ok (.getfield 33, 3) := by decide +kernel
theorem d_M_hangs_119 : decode b_M_hangs 119 = .ok (.iload 6, 2) := by decide +kernel
theorem d_M_hangs_121 : decode b_M_hangs 121 = .ok (.baload, 1) := by decide +kernel
theorem d_M_hangs_122 : decode b_M_hangs 122 = .ok (.ifCond .ne 30, 3) := by decide +kernel
theorem d_M_hangs_125 : decode b_M_hangs 125 = .ok (.aload_n 0, 1) := by decide +kernel
theorem d_M_hangs_126 : decode b_M_hangs 126 = .ok (.getfield 17, 3) := by decide +kernel
theorem d_M_hangs_129 : decode b_M_hangs 129 = .ok (.bipush 30, 2) := by decide +kernel
theorem d_M_hangs_131 : decode b_M_hangs 131 = .ok (.iload 5, 2) := by decide +kernel
theorem d_M_hangs_133 : decode b_M_hangs 133 = .ok (.imul, 1) := by decide +kernel
theorem d_M_hangs_134 : decode b_M_hangs 134 = .ok (.iload 6, 2) := by decide +kernel
theorem d_M_hangs_136 : decode b_M_hangs 136 = .ok (.iadd, 1) := by decide +kernel
theorem d_M_hangs_137 : decode b_M_hangs 137 = .ok (.baload, 1) := by decide +kernel
theorem d_M_hangs_138 : decode b_M_hangs 138 = .ok (.ifCond .eq 14, 3) := by decide +kernel
theorem d_M_hangs_141 : decode b_M_hangs 141 = .ok (.aload_n 0, 1) := by decide +kernel
theorem d_M_hangs_142 : decode b_M_hangs 142 = .ok (.getfield 33, 3) := by decide +kernel
theorem d_M_hangs_145 : decode b_M_hangs 145 = .ok (.iload 6, 2) := by decide +kernel
theorem d_M_hangs_147 : decode b_M_hangs 147 = .ok (.iconst 1, 1) := by decide +kernel
theorem d_M_hangs_148 : decode b_M_hangs 148 = .ok (.bastore, 1) := by decide +kernel
theorem d_M_hangs_149 : decode b_M_hangs 149 = .ok (.iconst 1, 1) := by decide +kernel
theorem d_M_hangs_150 : decode b_M_hangs 150 = .ok (.istore 4, 2) := by decide +kernel
theorem d_M_hangs_152 : decode b_M_hangs 152 = .ok (.iinc 6 1, 3) := by decide +kernel
theorem d_M_hangs_155 : decode b_M_hangs 155 = .ok (.goto (-67), 3) := by decide +kernel
theorem d_M_hangs_158 : decode b_M_hangs 158 = .ok (.iinc 5 1, 3) := by decide +kernel
theorem d_M_hangs_161 : decode b_M_hangs 161 = .ok (.goto (-85), 3) := by decide +kernel
theorem d_M_hangs_164 : decode b_M_hangs 164 = .ok (.goto (-99), 3) := by decide +kernel
theorem d_M_hangs_167 : decode b_M_hangs 167 = .ok (.iconst 1, 1) := by decide +kernel
theorem d_M_hangs_168 : decode b_M_hangs 168 = .ok (.istore 5, 2) := by decide +kernel
theorem d_M_hangs_170 : decode b_M_hangs 170 = .ok (.iconst 0, 1) := by decide +kernel
theorem d_M_hangs_171 : decode b_M_hangs 171 = .ok (.istore 6, 2) := by decide +kernel
theorem d_M_hangs_173 : decode b_M_hangs 173 = .ok (.iload 6, 2) := by decide +kernel
theorem d_M_hangs_175 : decode b_M_hangs 175 = .ok (.aload_n 0, 1) := by decide +kernel
theorem d_M_hangs_176 : decode b_M_hangs 176 = .ok (.getfield 36, 3) := by decide +kernel
theorem d_M_hangs_179 : decode b_M_hangs 179 = .ok (.if_icmp .ge 39, 3) := by decide +kernel
theorem d_M_hangs_182 : decode b_M_hangs 182 = .ok (.iload 5, 2) := by decide +kernel
theorem d_M_hangs_184 : decode b_M_hangs 184 = .ok (.ifCond .eq 25, 3) := by decide +kernel
theorem d_M_hangs_187 : decode b_M_hangs 187 = .ok (.aload_n 1, 1) := by decide +kernel
theorem d_M_hangs_188 : decode b_M_hangs 188 = .ok (.iload 6, 2) := by decide +kernel
theorem d_M_hangs_190 : decode b_M_hangs 190 = .ok (.iaload, 1) := by decide +kernel
theorem d_M_hangs_191 : decode b_M_hangs 191 = .ok (.iload_n 2, 1) := by decide +kernel
theorem d_M_hangs_192 : decode b_M_hangs 192 = .ok (.if_icmp .ne 13, 3) := by decide +kernel
theorem d_M_hangs_195 : decode b_M_hangs 195 = .ok (.aload_n 0, 1) := by decide +kernel
theorem d_M_hangs_196 : decode b_M_hangs 196 = .ok (.getfield 33, 3) := by decide +kernel
theorem d_M_hangs_199 : decode b_M_hangs 199 = .ok (.iload 6, 2) := by decide +kernel
theorem d_M_hangs_201 : decode b_M_hangs 201 = .ok (.baload, 1) := by decide +kernel
theorem d_M_hangs_202 : decode b_M_hangs 202 = .ok (.ifCond .eq 7, 3) := by decide +kernel
theorem d_M_hangs_205 : decode b_M_hangs 205 = .ok (.iconst 1, 1) := by decide +kernel
theorem d_M_hangs_206 : decode b_M_hangs 206 = .ok (.goto 4, 3) := by decide +kernel
theorem d_M_hangs_209 : decode b_M_hangs 209 = .ok (.iconst 0, 1) := by decide +kernel
theorem d_M_hangs_210 : decode b_M_hangs 210 = .ok (.istore 5, 2) := by decide +kernel
theorem d_M_hangs_212 : decode b_M_hangs 212 = .ok (.iinc 6 1, 3) := by decide +kernel
theorem d_M_hangs_215 : decode b_M_hangs 215 = .ok (.goto (-42), 3) := by decide +kernel
theorem d_M_hangs_218 : decode b_M_hangs 218 = .ok (.iload 5, 2) := by decide +kernel
theorem d_M_hangs_220 : decode b_M_hangs 220 = .ok (.ireturn, 1) := by decide +kernel

def bz_se (n : Nat) (x : Nat → Bool) (S : Nat → Int32) : Nat → Int32 := fun j => if j < n then bz_i (x j) else S j
theorem bz_se_0 (x : Nat → Bool) (S : Nat → Int32) : bz_se 0 x S = S := funext fun j => by
  unfold bz_se
  rw [if_neg (by omega)]
theorem bz_se_at {n b : Nat} (h : b < n) (x : Nat → Bool) (S : Nat → Int32) : bz_se n x S b = bz_i (x b) := by
  unfold bz_se
  rw [if_pos h]
theorem bz_se_add (i : Nat) (x : Nat → Bool) (S : Nat → Int32) : bz_se (i + 1) x S = upd (bz_se i x S) i (bz_i (x i)) := funext fun j => by
  show (if j < i + 1 then bz_i (x j) else S j) = if j = i then bz_i (x i) else (if j < i then bz_i (x j) else S j)
  by_cases e : j = i
  · subst e
    rw [if_pos rfl, if_pos (by omega)]
  · rw [if_neg e]
    by_cases h : j < i
    · rw [if_pos h, if_pos (by omega)]
    · rw [if_neg h, if_neg (by omega)]
theorem bz_se_put {n b : Nat} (h : b < n) (x : Nat → Bool) (v : Bool) (S : Nat → Int32) : bz_se n (va_up x b v) S = upd (bz_se n x S) b (bz_i v) := funext fun j => by
  show (if j < n then bz_i (va_up x b v j) else S j) = if j = b then bz_i v else (if j < n then bz_i (x j) else S j)
  by_cases e : j = b
  · subst e
    rw [if_pos rfl, if_pos h, bz_up_s]
  · rw [if_neg e, bz_up_n _ _ e]
def bz_bn (F : Nat → Bool) (i : Nat) : Bool := decide (∃ j, j < i ∧ F j = true)
def bz_x0 (F : Nat → Bool) (i : Nat) : Bool := F i && !(bz_bn F i)
theorem bz_bn_0 (F : Nat → Bool) : bz_bn F 0 = false := decide_eq_false fun ⟨j, h, _⟩ => absurd h (by omega)
theorem bz_bn_t {F : Nat → Bool} {i : Nat} (h : bz_bn F i = true) : bz_bn F (i + 1) = true := by
  obtain ⟨j, h1, h2⟩ := of_decide_eq_true h
  exact decide_eq_true ⟨j, by omega, h2⟩
theorem bz_bn_i {F : Nat → Bool} {i : Nat} (h : F i = true) : bz_bn F (i + 1) = true := decide_eq_true ⟨i, by omega, h⟩
theorem bz_bn_f {F : Nat → Bool} {i : Nat} (h : bz_bn F i = false) (hf : F i = false) : bz_bn F (i + 1) = false := decide_eq_false fun ⟨j, h1, h2⟩ => by
  by_cases e : j = i
  · subst e
    rw [hf] at h2
    exact absurd h2 (by simp)
  · exact absurd ⟨j, by omega, h2⟩ (of_decide_eq_false h)
/-- reached from the least one, and of the set -/
def bz_hr (j : Nat → Nat → Bool) (F o x : Nat → Bool) : Prop := (∀ a, F a = true → (∀ i, i < a → F i = false) → x a = true ∧ ∀ i, x i = true → bz_rc j o a i) ∧ ∀ i, x i = true → F i = true
theorem bz_hr_0 {t : bz_T} {F o : Nat → Bool} (hF : ∀ i, F i = true → i < bz_n t) : bz_hr (bz_j t) F o (bz_x0 F) := ⟨(bz_hw0 (t := t) (o := o) hF).1, fun i hi => ((Bool.and_eq_true _ _).mp hi).1⟩
theorem bz_hr_1 {j : Nat → Nat → Bool} {F o z : Nat → Bool} (h : bz_hr j F o z) {a b : Nat} (ha : z a = true) (hb : F b = true) (ho : o b = true) (hj : j a b = true) : bz_hr j F o (va_up z b true) := by
  refine ⟨fun q hq hl => ⟨?_, fun i hi => ?_⟩, fun i hi => ?_⟩
  · by_cases e : q = b
    · rw [e, bz_up_s]
    · rw [bz_up_n _ _ e]
      exact (h.1 q hq hl).1
  · by_cases e : i = b
    · subst e
      exact fun y h1 h2 => h2 a i ((h.1 q hq hl).2 a ha y h1 h2) hj ho
    · rw [bz_up_n _ _ e] at hi
      exact (h.1 q hq hl).2 i hi
  · by_cases e : i = b
    · rw [e]
      exact hb
    · rw [bz_up_n _ _ e] at hi
      exact h.2 i hi
theorem bz_ct_up {z : Nat → Bool} {b n : Nat} (hb : b < n) (h : z b = false) : bz_ct z n < bz_ct (va_up z b true) n := bz_ct_lt (fun i _ hi => by
  by_cases e : i = b
  · rw [e, bz_up_s]
  · rw [bz_up_n _ _ e]
    exact hi) hb h (bz_up_s _ _ _)
def bz_al (F x : Nat → Bool) : Nat → Bool
  | 0 => true
  | i + 1 => bz_al F x i && (!F i || x i)
theorem bz_al_t {F x : Nat → Bool} : ∀ {n : Nat}, bz_al F x n = true → ∀ j, j < n → F j = true → x j = true
  | 0, _, j, hj, _ => absurd hj (by omega)
  | n + 1, h, j, hj, hF => by
    have h := (Bool.and_eq_true _ _).mp h
    by_cases e : j = n
    · subst e
      have := h.2
      rw [hF] at this
      simpa using this
    · exact bz_al_t h.1 j (by omega) hF
theorem bz_al_f {F x : Nat → Bool} : ∀ {n : Nat}, bz_al F x n = false → ∃ j, j < n ∧ F j = true ∧ x j = false
  | 0, h => absurd h (by simp [bz_al])
  | n + 1, h => by
    cases e1 : bz_al F x n
    · obtain ⟨j, h1, h2⟩ := bz_al_f e1
      exact ⟨j, by omega, h2⟩
    · have h : (bz_al F x n && (!F n || x n)) = false := h
      rw [e1] at h
      cases e2 : F n
      · rw [e2] at h
        exact absurd h (by simp)
      · cases e3 : x n
        · exact ⟨n, by omega, e2, e3⟩
        · rw [e2, e3] at h
          exact absurd h (by simp)
theorem bz_al_1 {F x : Nat → Bool} {i : Nat} (h : bz_al F x i = true) (h2 : F i = false ∨ x i = true) : bz_al F x (i + 1) = true := by
  show (bz_al F x i && (!F i || x i)) = true
  rw [h]
  rcases h2 with h2 | h2 <;> simp [h2]
theorem bz_al_0 {F x : Nat → Bool} {i : Nat} (h : bz_al F x i = false) : bz_al F x (i + 1) = false := by
  show (bz_al F x i && (!F i || x i)) = false
  rw [h]
  rfl
theorem bz_al_n {F x : Nat → Bool} {i : Nat} (h1 : F i = true) (h2 : x i = false) : bz_al F x (i + 1) = false := by
  show (bz_al F x i && (!F i || x i)) = false
  rw [h1, h2]
  simp
theorem bz_hang {t : bz_T} {f : Nat → Nat} {r : Nat} {x : Nat → Bool} (hx : bz_hr (bz_j t) (bz_in t (bz_fu f) r) (fun a => bz_in t (bz_fu f) r a || bz_op t (bz_fu f) a) x) (hcl : ∀ a, a < bz_n t → ∀ b, b < bz_n t → x a = true → bz_in t (bz_fu f) r b = true → bz_j t a b = true → x b = true) : bz_i (bz_al (bz_in t (bz_fu f) r) x (bz_n t)) = nI (bz_b (bz_ht t (bz_fu f) r)) := by
  cases e : bz_al (bz_in t (bz_fu f) r) x (bz_n t)
  · obtain ⟨b, b1, b2, b3⟩ := bz_al_f e
    have hno : ¬ bz_ht t (bz_fu f) r := by
      intro htg
      obtain ⟨a, -, ha, hl⟩ := bz_least b2
      have := htg a ha hl b b2 x (hx.1 a ha hl).1 (fun i k q1 q2 q3 => by
        have hk : bz_in t (bz_fu f) r k = true := by
          rcases (Bool.or_eq_true _ _).mp q3 with z | z
          · exact z
          · unfold bz_op bz_fu at z
            simp at z
        exact hcl i (bz_in_n (hx.2 i q1)) k (bz_in_n hk) q1 hk q2)
      rw [b3] at this
      exact absurd this (by simp)
    rw [bz_b0 hno]
    rfl
  · have hyes : bz_ht t (bz_fu f) r := fun a ha hl b hb => (hx.1 a ha hl).2 b (bz_al_t e b (bz_in_n hb) hb)
    rw [bz_b1 hyes]
    rfl
theorem bz_nari (b : Bool) : narrow .boolean (.int (bz_i b)) = .int (bz_i b) := by cases b <;> rfl

set_option maxHeartbeats 4000000 in
set_option maxRecDepth 100000 in
/-- hangs of share -/
theorem c_M_hangs_share (l : Launch) (dC : Nat → ClassId) (dI : Nat → Nat → Nat) (sz : Nat) (am : Nat → Nat) (cI cL cZ : ClassId) (t : bz_T) (th sv ex : Int32) (f : Nat → Nat) (S2 S3 : Nat → Int32) (ht : bz_ok t) (r : Nat) (hr4 : r < 4) (hf : ∀ a, a < bz_n t → f a < 4) : Met l y_M_hangs w_M_hangs ({ frames := 0, cells := 0, slots := 0, locals := 0 }) (bz_Pw (dC, dI) [(cI, .int), (cL, .long), (cZ, .boolean)] (bz_wM am cI cL cZ (bz_tM t) (th, sv, ex) ((fun a => nI (f a)), S2, S3)) sz [.ref (am 0), .ref (am 6), .int (nI r)]) (bz_Qxi (dC, dI) [(cI, .int), (cL, .long), (cZ, .boolean)] (va_A (bz_wM am cI cL cZ (bz_tM t) (th, sv, ex) ((fun a => nI (f a)), S2, S3)) sz) (fun r9 (u : Nat → Int32) => r9 = nI (bz_b (bz_ht t (bz_fu f) r))) (fun u : Nat → Int32 => bz_wM am cI cL cZ (bz_tM t) (th, sv, ex) ((fun a => nI (f a)), S2, u))) 0 0 (va_A (bz_wM am cI cL cZ (bz_tM t) (th, sv, ex) ((fun a => nI (f a)), S2, S3)) sz) := by
  refine Met.ofW (cc := b_M_hangs) (maxL := 7) (ret := (some .boolean)) (by decide) rfl ?_
  intro p e s m args below meth c s₁ B hml hv
  obtain ⟨rfl, hsz, hP, hK, hD0, hN⟩ := hv
  have hx := B.exec
  have hb := B.bytes
  have hr := B.returns
  have hts := atoms_spec (ws := w_M_hangs) B.pre
  have hown : s.vm.findClass R_M = some m.cls := findClass_of_methodNamed B.named
  have htb : ∀ w ∈ bz_tb, w.before _ s = true := fun w h => hts w (List.mem_cons_of_mem _ h)
  have hlocks := B.notSynchronized
  subst hsz
  have hD := hD0.self (sz := s.heap.size)
  generalize hAe : va_A (bz_wM am cI cL cZ (bz_tM t) (th, sv, ex) ((fun a => nI (f a)), S2, S3)) s.heap.size = A at hD ⊢
  have hA : ∀ q : Nat, s.heap.size ≤ q → A q := fun q h => by rw [← hAe]; exact Or.inr h
  have hS : va_S A s.heap s.heap [] := va_S.rf
  have hl := lv_entry ([.ref (am 0), .ref (am 6), .int (nI r)]) (n := 7) (Nat.le_of_ble_eq_true rfl)
  rw [lg_entry_eq]
  generalize (lg_sl ([.ref (am 0), .ref (am 6), .int (nI r)]) ++ List.replicate (7 - (lg_sl ([.ref (am 0), .ref (am 6), .int (nI r)])).length) Slot.unset).toArray = ls at hl ⊢
  have hl : lv_has ls 7 [(0, .ref (am 0)), (1, .ref (am 6)), (2, .int (nI r))] := hl
  have hn30 := ht.1
  refine lv_iconst (v := nI 0) hx hb d_M_hangs_0 (by decide) ?_
  refine lv_istore_n (lv' := [(3, .int (nI 0)), (0, .ref (am 0)), (1, .ref (am 6)), (2, .int (nI r))]) hx hb d_M_hangs_1 rfl hl (by decide) rfl (fun ls hl => ?_)
  refine lv_iconst (v := nI 0) hx hb d_M_hangs_2 (by decide) ?_
  refine lv_istore (lv' := [(4, .int (nI 0)), (3, .int (nI 0)), (0, .ref (am 0)), (1, .ref (am 6)), (2, .int (nI r))]) hx hb d_M_hangs_3 hl (by decide) rfl (fun ls hl => ?_)
  have e9 : (bz_se 0 (bz_x0 (bz_in t (bz_fu f) r)) S3) = S3 := bz_se_0 _ _
  rw [← e9] at hP hD
  have hl : lv_has ls 7 [(4, .int (nI 0)), (3, .int (bz_i (bz_bn (bz_in t (bz_fu f) r) 0))), (0, .ref (am 0)), (1, .ref (am 6)), (2, .int (nI r))] := by rw [show bz_i (bz_bn (bz_in t (bz_fu f) r) 0) = nI 0 from by rw [bz_bn_0]; rfl]; exact hl
  have lpa : ∀ (k9 : Nat) (i : Nat), bz_n t - i < k9 → (i ≤ bz_n t) → ∀ (H : Heap) (locs : List Loc), va_P (dC, dI) vwCl (bz_wM am cI cL cZ (bz_tM t) (th, sv, ex) ((fun a => nI (f a)), S2, (bz_se i (bz_x0 (bz_in t (bz_fu f) r)) S3))) H → va_D A (bz_wM am cI cL cZ (bz_tM t) (th, sv, ex) ((fun a => nI (f a)), S2, (bz_se i (bz_x0 (bz_in t (bz_fu f) r)) S3))) → va_S A s.heap H locs → ∀ (ls : Array Slot), lv_has ls 7 [(0, .ref (am 0)), (1, .ref (am 6)), (2, .int (nI r)), (3, .int (bz_i (bz_bn (bz_in t (bz_fu f) r) i))), (4, .int (nI i))] → W p l e (headSpec w_M_hangs ({ frames := 0, cells := 0, slots := 0, locals := 0 })).room s m ([.ref (am 0), .ref (am 6), .int (nI r)]).toArray below meth c H locs 0 0 (MQ below (bz_Qxi (dC, dI) [(cI, .int), (cL, .long), (cZ, .boolean)] A (fun r9 (u : Nat → Int32) => r9 = nI (bz_b (bz_ht t (bz_fu f) r))) (fun u : Nat → Int32 => bz_wM am cI cL cZ (bz_tM t) (th, sv, ex) ((fun a => nI (f a)), S2, u))) ([.ref (am 0), .ref (am 6), .int (nI r)]).toArray s 0 0 (A)) (F0 m 5 ls []) := by
    intro k9
    induction k9 with
    | zero =>
      intro i h9
      exact absurd h9 (Nat.not_lt_zero _)
    | succ k9 ihlpa =>
      intro i h9_lpa hi H locs hP hD hS ls hl
      refine lv_iload hx hb d_M_hangs_5 (lv_at hl 4 rfl) ?_
      refine lv_aload_n hx hb d_M_hangs_7 rfl (lv_at hl 0 rfl) ?_
      refine va_get (D := (dC, dI)) (ci := 4) (v := .int (nI (bz_n t))) (C := R_M) (T := F_M) (N := 12) hx hb htb in_M hown hK hP 0 rfl rfl 1 (by decide) (htb _ wd_412) (fun _ h9 => h9) rfl d_M_hangs_8 ?_
      refine lv_icmp_ge (tgt := 62) hx hb d_M_hangs_11 (by decide) (fun c_11 => ?_) (fun c_11 => ?_)
      · skip
        have hin : i = bz_n t := by have := (nI_leI (by omega) (by omega)).mp c_11; omega
        have e9 : (bz_se (bz_n t) (bz_x0 (bz_in t (bz_fu f) r)) S3) = (bz_se i (bz_x0 (bz_in t (bz_fu f) r)) S3) := by rw [hin]
        rw [← e9] at hP hD
        refine lv_iconst (v := nI 1) hx hb d_M_hangs_62 (by decide) ?_
        refine lv_istore (lv' := [(4, .int (nI 1)), (0, .ref (am 0)), (1, .ref (am 6)), (2, .int (nI r)), (3, .int (bz_i (bz_bn (bz_in t (bz_fu f) r) i)))]) hx hb d_M_hangs_63 hl (by decide) rfl (fun ls hl => ?_)
        have lpw : ∀ (k9 : Nat) (x : Nat → Bool) (mo : Bool), 2 * (bz_n t - bz_ct x (bz_n t)) + (if mo then 1 else 0) < k9 → (bz_hr (bz_j t) (bz_in t (bz_fu f) r) (fun a => bz_in t (bz_fu f) r a || bz_op t (bz_fu f) a) x) → (mo = false → ∀ a, a < bz_n t → ∀ b, b < bz_n t → x a = true → bz_in t (bz_fu f) r b = true → bz_j t a b = true → x b = true) → ∀ (H : Heap) (locs : List Loc), va_P (dC, dI) vwCl (bz_wM am cI cL cZ (bz_tM t) (th, sv, ex) ((fun a => nI (f a)), S2, (bz_se (bz_n t) x S3))) H → va_D A (bz_wM am cI cL cZ (bz_tM t) (th, sv, ex) ((fun a => nI (f a)), S2, (bz_se (bz_n t) x S3))) → va_S A s.heap H locs → ∀ (ls : Array Slot), lv_has ls 7 [(0, .ref (am 0)), (1, .ref (am 6)), (2, .int (nI r)), (4, .int (bz_i mo))] → W p l e (headSpec w_M_hangs ({ frames := 0, cells := 0, slots := 0, locals := 0 })).room s m ([.ref (am 0), .ref (am 6), .int (nI r)]).toArray below meth c H locs 0 0 (MQ below (bz_Qxi (dC, dI) [(cI, .int), (cL, .long), (cZ, .boolean)] A (fun r9 (u : Nat → Int32) => r9 = nI (bz_b (bz_ht t (bz_fu f) r))) (fun u : Nat → Int32 => bz_wM am cI cL cZ (bz_tM t) (th, sv, ex) ((fun a => nI (f a)), S2, u))) ([.ref (am 0), .ref (am 6), .int (nI r)]).toArray s 0 0 (A)) (F0 m 65 ls []) := by
          intro k9
          induction k9 with
          | zero =>
            intro x mo h9
            exact absurd h9 (Nat.not_lt_zero _)
          | succ k9 ihlpw =>
            intro x mo h9_lpw hx2 hcl H locs hP hD hS ls hl
            refine lv_iload hx hb d_M_hangs_65 (lv_at hl 3 rfl) ?_
            refine lv_if_eq (tgt := 167) hx hb d_M_hangs_67 (by decide) (fun c_67 => ?_) (fun c_67 => ?_)
            · skip
              have hmo := bz_i_eq c_67
              refine lv_iconst (v := nI 1) hx hb d_M_hangs_167 (by decide) ?_
              refine lv_istore (lv' := [(5, .int (nI 1)), (0, .ref (am 0)), (1, .ref (am 6)), (2, .int (nI r)), (4, .int (bz_i mo))]) hx hb d_M_hangs_168 hl (by decide) rfl (fun ls hl => ?_)
              refine lv_iconst (v := nI 0) hx hb d_M_hangs_170 (by decide) ?_
              refine lv_istore (lv' := [(6, .int (nI 0)), (5, .int (nI 1)), (0, .ref (am 0)), (1, .ref (am 6)), (2, .int (nI r)), (4, .int (bz_i mo))]) hx hb d_M_hangs_171 hl (by decide) rfl (fun ls hl => ?_)
              have lpe : ∀ (k9 : Nat) (i : Nat), bz_n t - i < k9 → (i ≤ bz_n t) → ∀ (H : Heap) (locs : List Loc), va_P (dC, dI) vwCl (bz_wM am cI cL cZ (bz_tM t) (th, sv, ex) ((fun a => nI (f a)), S2, (bz_se (bz_n t) x S3))) H → va_D A (bz_wM am cI cL cZ (bz_tM t) (th, sv, ex) ((fun a => nI (f a)), S2, (bz_se (bz_n t) x S3))) → va_S A s.heap H locs → ∀ (ls : Array Slot), lv_has ls 7 [(0, .ref (am 0)), (1, .ref (am 6)), (2, .int (nI r)), (5, .int (bz_i (bz_al (bz_in t (bz_fu f) r) x i))), (6, .int (nI i))] → W p l e (headSpec w_M_hangs ({ frames := 0, cells := 0, slots := 0, locals := 0 })).room s m ([.ref (am 0), .ref (am 6), .int (nI r)]).toArray below meth c H locs 0 0 (MQ below (bz_Qxi (dC, dI) [(cI, .int), (cL, .long), (cZ, .boolean)] A (fun r9 (u : Nat → Int32) => r9 = nI (bz_b (bz_ht t (bz_fu f) r))) (fun u : Nat → Int32 => bz_wM am cI cL cZ (bz_tM t) (th, sv, ex) ((fun a => nI (f a)), S2, u))) ([.ref (am 0), .ref (am 6), .int (nI r)]).toArray s 0 0 (A)) (F0 m 173 ls []) := by
                intro k9
                induction k9 with
                | zero =>
                  intro i h9
                  exact absurd h9 (Nat.not_lt_zero _)
                | succ k9 ihlpe =>
                  intro i h9_lpe hi H locs hP hD hS ls hl
                  refine lv_iload hx hb d_M_hangs_173 (lv_at hl 4 rfl) ?_
                  refine lv_aload_n hx hb d_M_hangs_175 rfl (lv_at hl 0 rfl) ?_
                  refine va_get (D := (dC, dI)) (ci := 4) (v := .int (nI (bz_n t))) (C := R_M) (T := F_M) (N := 12) hx hb htb in_M hown hK hP 0 rfl rfl 1 (by decide) (htb _ wd_412) (fun _ h9 => h9) rfl d_M_hangs_176 ?_
                  refine lv_icmp_ge (tgt := 218) hx hb d_M_hangs_179 (by decide) (fun c_179 => ?_) (fun c_179 => ?_)
                  · skip
                    have hin : i = bz_n t := by have := (nI_leI (by omega) (by omega)).mp c_179; omega
                    refine lv_iload hx hb d_M_hangs_218 (lv_at hl 3 rfl) ?_
                    exact W.zret (v := bz_i (bz_al (bz_in t (bz_fu f) r) x i)) hx hb hr (bz_nari _) (fun t9 ht9 hW => ⟨⟨_, (bz_se (bz_n t) x S3), rfl, by rw [hin]; exact bz_hang hx2 (hcl hmo), by rw [ht9]; exact hP, va_K.moved hW.alike hK, hD⟩, hS.F ht9⟩) hS.2.2 d_M_hangs_220
                  · skip
                    have hin : i < bz_n t := Nat.lt_of_not_le fun z => c_179 ((nI_leI (by omega) (by omega)).mpr z)
                    have hfi := hf i hin
                    refine lv_iload hx hb d_M_hangs_182 (lv_at hl 3 rfl) ?_
                    refine lv_if_eq (tgt := 209) hx hb d_M_hangs_184 (by decide) (fun c_184 => ?_) (fun c_184 => ?_)
                    · skip
                      have hA5 := bz_al_0 (bz_i_eq c_184)
                      refine lv_iconst (v := nI 0) hx hb d_M_hangs_209 (by decide) ?_
                      refine bz_ri (y := bz_i (bz_al (bz_in t (bz_fu f) r) x (i + 1))) (by rw [hA5]; rfl) ?_
                      refine lv_istore (lv' := [(5, .int (bz_i (bz_al (bz_in t (bz_fu f) r) x (i + 1)))), (0, .ref (am 0)), (1, .ref (am 6)), (2, .int (nI r)), (6, .int (nI i))]) hx hb d_M_hangs_210 hl (by decide) rfl (fun ls hl => ?_)
                      refine lv_iinc (v := nI (i + 1)) (lv' := [(6, .int (nI (i + 1))), (5, .int (bz_i (bz_al (bz_in t (bz_fu f) r) x (i + 1)))), (0, .ref (am 0)), (1, .ref (am 6)), (2, .int (nI r))]) hx hb d_M_hangs_212 hl (k := 4) rfl (nI_1 _) (by decide) rfl (fun ls hl => ?_)
                      refine lv_goto (tgt := 173) hx hb d_M_hangs_215 (by decide) ?_
                      exact ihlpe (i + 1) (by omega) (by omega) _ _ hP hD hS ls (lv_sub hl [2, 3, 4, 1, 0] rfl)
                    · skip
                      have hA4 := bz_i_ne c_184
                      refine lv_aload_n hx hb d_M_hangs_187 rfl (lv_at hl 1 rfl) ?_
                      refine lv_iload hx hb d_M_hangs_188 (lv_at hl 4 rfl) ?_
                      refine bz_iald (v := nI (f i)) hx hb hK hP 6 0 rfl rfl (a9 := i) (by omega) (by decide) (rfl) d_M_hangs_190 ?_
                      refine lv_iload_n hx hb d_M_hangs_191 rfl (lv_at hl 2 rfl) ?_
                      refine lv_icmp_ne (tgt := 205) hx hb d_M_hangs_192 (by decide) (fun c_192 => ?_) (fun c_192 => ?_)
                      · skip
                        have hFi : bz_in t (bz_fu f) r i = false := by rw [bz_inf hin]; exact decide_eq_false fun z => c_192 (by rw [z])
                        have hA5 := bz_al_1 hA4 (Or.inl hFi)
                        refine lv_iconst (v := 1) hx hb d_M_hangs_205 (by decide) ?_
                        refine lv_goto (tgt := 210) hx hb d_M_hangs_206 (by decide) ?_
                        refine bz_ri (y := bz_i (bz_al (bz_in t (bz_fu f) r) x (i + 1))) (by rw [hA5]; rfl) ?_
                        refine lv_istore (lv' := [(5, .int (bz_i (bz_al (bz_in t (bz_fu f) r) x (i + 1)))), (0, .ref (am 0)), (1, .ref (am 6)), (2, .int (nI r)), (6, .int (nI i))]) hx hb d_M_hangs_210 hl (by decide) rfl (fun ls hl => ?_)
                        refine lv_iinc (v := nI (i + 1)) (lv' := [(6, .int (nI (i + 1))), (5, .int (bz_i (bz_al (bz_in t (bz_fu f) r) x (i + 1)))), (0, .ref (am 0)), (1, .ref (am 6)), (2, .int (nI r))]) hx hb d_M_hangs_212 hl (k := 4) rfl (nI_1 _) (by decide) rfl (fun ls hl => ?_)
                        refine lv_goto (tgt := 173) hx hb d_M_hangs_215 (by decide) ?_
                        exact ihlpe (i + 1) (by omega) (by omega) _ _ hP hD hS ls (lv_sub hl [2, 3, 4, 1, 0] rfl)
                      · skip
                        have hFi : bz_in t (bz_fu f) r i = true := by rw [bz_inf hin]; exact decide_eq_true ((nI_eq (by omega) (by omega)).mp c_192)
                        refine lv_aload_n hx hb d_M_hangs_195 rfl (lv_at hl 0 rfl) ?_
                        refine va_get (D := (dC, dI)) (ci := 4) (v := .ref (am 8)) (C := R_M) (T := F_M) (N := 12) hx hb htb in_M hown hK hP 0 rfl rfl 11 (by decide) (htb _ wd_422) (fun _ h9 => h9) rfl d_M_hangs_196 ?_
                        refine lv_iload hx hb d_M_hangs_199 (lv_at hl 4 rfl) ?_
                        refine bz_zald (v := bz_i (x i)) hx hb hK hP 8 2 rfl rfl (a9 := i) (by omega) (by decide) (bz_se_at (by omega) _ _) d_M_hangs_201 ?_
                        refine lv_if_eq (tgt := 209) hx hb d_M_hangs_202 (by decide) (fun c_202 => ?_) (fun c_202 => ?_)
                        · skip
                          have hA5 := bz_al_n hFi (bz_i_eq c_202)
                          refine lv_iconst (v := nI 0) hx hb d_M_hangs_209 (by decide) ?_
                          refine bz_ri (y := bz_i (bz_al (bz_in t (bz_fu f) r) x (i + 1))) (by rw [hA5]; rfl) ?_
                          refine lv_istore (lv' := [(5, .int (bz_i (bz_al (bz_in t (bz_fu f) r) x (i + 1)))), (0, .ref (am 0)), (1, .ref (am 6)), (2, .int (nI r)), (6, .int (nI i))]) hx hb d_M_hangs_210 hl (by decide) rfl (fun ls hl => ?_)
                          refine lv_iinc (v := nI (i + 1)) (lv' := [(6, .int (nI (i + 1))), (5, .int (bz_i (bz_al (bz_in t (bz_fu f) r) x (i + 1)))), (0, .ref (am 0)), (1, .ref (am 6)), (2, .int (nI r))]) hx hb d_M_hangs_212 hl (k := 4) rfl (nI_1 _) (by decide) rfl (fun ls hl => ?_)
                          refine lv_goto (tgt := 173) hx hb d_M_hangs_215 (by decide) ?_
                          exact ihlpe (i + 1) (by omega) (by omega) _ _ hP hD hS ls (lv_sub hl [2, 3, 4, 1, 0] rfl)
                        · skip
                          have hA5 := bz_al_1 hA4 (Or.inr (bz_i_ne c_202))
                          refine lv_iconst (v := 1) hx hb d_M_hangs_205 (by decide) ?_
                          refine lv_goto (tgt := 210) hx hb d_M_hangs_206 (by decide) ?_
                          refine bz_ri (y := bz_i (bz_al (bz_in t (bz_fu f) r) x (i + 1))) (by rw [hA5]; rfl) ?_
                          refine lv_istore (lv' := [(5, .int (bz_i (bz_al (bz_in t (bz_fu f) r) x (i + 1)))), (0, .ref (am 0)), (1, .ref (am 6)), (2, .int (nI r)), (6, .int (nI i))]) hx hb d_M_hangs_210 hl (by decide) rfl (fun ls hl => ?_)
                          refine lv_iinc (v := nI (i + 1)) (lv' := [(6, .int (nI (i + 1))), (5, .int (bz_i (bz_al (bz_in t (bz_fu f) r) x (i + 1)))), (0, .ref (am 0)), (1, .ref (am 6)), (2, .int (nI r))]) hx hb d_M_hangs_212 hl (k := 4) rfl (nI_1 _) (by decide) rfl (fun ls hl => ?_)
                          refine lv_goto (tgt := 173) hx hb d_M_hangs_215 (by decide) ?_
                          exact ihlpe (i + 1) (by omega) (by omega) _ _ hP hD hS ls (lv_sub hl [2, 3, 4, 1, 0] rfl)
              exact lpe _ 0 (Nat.lt_succ_self _) (by omega) _ _ hP hD hS ls (lv_sub hl [2, 3, 4, 1, 0] rfl)
            · skip
              have hmo := bz_i_ne c_67
              refine lv_iconst (v := nI 0) hx hb d_M_hangs_70 (by decide) ?_
              refine lv_istore (lv' := [(4, .int (nI 0)), (0, .ref (am 0)), (1, .ref (am 6)), (2, .int (nI r))]) hx hb d_M_hangs_71 hl (by decide) rfl (fun ls hl => ?_)
              refine lv_iconst (v := nI 0) hx hb d_M_hangs_73 (by decide) ?_
              refine lv_istore (lv' := [(5, .int (nI 0)), (4, .int (nI 0)), (0, .ref (am 0)), (1, .ref (am 6)), (2, .int (nI r))]) hx hb d_M_hangs_74 hl (by decide) rfl (fun ls hl => ?_)
              have lpo : ∀ (k9 : Nat) (a : Nat) (y : Nat → Bool) (m2 : Bool), bz_n t - a < k9 → (a ≤ bz_n t) → (bz_hr (bz_j t) (bz_in t (bz_fu f) r) (fun a => bz_in t (bz_fu f) r a || bz_op t (bz_fu f) a) y) → ((m2 = true ∧ bz_ct x (bz_n t) < bz_ct y (bz_n t)) ∨ (m2 = false ∧ y = x ∧ ∀ q, q < a → ∀ b, b < bz_n t → x q = true → bz_in t (bz_fu f) r b = true → bz_j t q b = true → x b = true)) → ∀ (H : Heap) (locs : List Loc), va_P (dC, dI) vwCl (bz_wM am cI cL cZ (bz_tM t) (th, sv, ex) ((fun a => nI (f a)), S2, (bz_se (bz_n t) y S3))) H → va_D A (bz_wM am cI cL cZ (bz_tM t) (th, sv, ex) ((fun a => nI (f a)), S2, (bz_se (bz_n t) y S3))) → va_S A s.heap H locs → ∀ (ls : Array Slot), lv_has ls 7 [(0, .ref (am 0)), (1, .ref (am 6)), (2, .int (nI r)), (4, .int (bz_i m2)), (5, .int (nI a))] → W p l e (headSpec w_M_hangs ({ frames := 0, cells := 0, slots := 0, locals := 0 })).room s m ([.ref (am 0), .ref (am 6), .int (nI r)]).toArray below meth c H locs 0 0 (MQ below (bz_Qxi (dC, dI) [(cI, .int), (cL, .long), (cZ, .boolean)] A (fun r9 (u : Nat → Int32) => r9 = nI (bz_b (bz_ht t (bz_fu f) r))) (fun u : Nat → Int32 => bz_wM am cI cL cZ (bz_tM t) (th, sv, ex) ((fun a => nI (f a)), S2, u))) ([.ref (am 0), .ref (am 6), .int (nI r)]).toArray s 0 0 (A)) (F0 m 76 ls []) := by
                intro k9
                induction k9 with
                | zero =>
                  intro a y m2 h9
                  exact absurd h9 (Nat.not_lt_zero _)
                | succ k9 ihlpo =>
                  intro a y m2 h9_lpo ha hy hrel H locs hP hD hS ls hl
                  refine lv_iload hx hb d_M_hangs_76 (lv_at hl 4 rfl) ?_
                  refine lv_aload_n hx hb d_M_hangs_78 rfl (lv_at hl 0 rfl) ?_
                  refine va_get (D := (dC, dI)) (ci := 4) (v := .int (nI (bz_n t))) (C := R_M) (T := F_M) (N := 12) hx hb htb in_M hown hK hP 0 rfl rfl 1 (by decide) (htb _ wd_412) (fun _ h9 => h9) rfl d_M_hangs_79 ?_
                  refine lv_icmp_ge (tgt := 164) hx hb d_M_hangs_82 (by decide) (fun c_82 => ?_) (fun c_82 => ?_)
                  · skip
                    have han : a = bz_n t := by have := (nI_leI (by omega) (by omega)).mp c_82; omega
                    refine lv_goto (tgt := 65) hx hb d_M_hangs_164 (by decide) ?_
                    exact ihlpw y m2 (by rcases hrel with ⟨h1, h2⟩ | ⟨h1, h2, -⟩; { subst h1; rw [hmo] at h9_lpw; simp at h9_lpw; have := bz_ct_le y (bz_n t); simp; omega }; { subst h1; rw [h2]; rw [hmo] at h9_lpw; simp at h9_lpw; simp; omega }) (hy) (fun h => by rcases hrel with ⟨h1, -⟩ | ⟨-, h2, h3⟩; { rw [h] at h1; exact absurd h1 (by simp) }; { rw [h2]; intro q hq; exact h3 q (by omega) }) _ _ hP hD hS ls (lv_sub hl [0, 1, 2, 3] rfl)
                  · skip
                    have han : a < bz_n t := Nat.lt_of_not_le fun z => c_82 ((nI_leI (by omega) (by omega)).mpr z)
                    refine lv_iconst (v := nI 0) hx hb d_M_hangs_85 (by decide) ?_
                    refine lv_istore (lv' := [(6, .int (nI 0)), (0, .ref (am 0)), (1, .ref (am 6)), (2, .int (nI r)), (4, .int (bz_i m2)), (5, .int (nI a))]) hx hb d_M_hangs_86 hl (by decide) rfl (fun ls hl => ?_)
                    have lpi : ∀ (k9 : Nat) (b : Nat) (z : Nat → Bool) (m3 : Bool), bz_n t - b < k9 → (b ≤ bz_n t) → (bz_hr (bz_j t) (bz_in t (bz_fu f) r) (fun a => bz_in t (bz_fu f) r a || bz_op t (bz_fu f) a) z) → ((m3 = true ∧ bz_ct x (bz_n t) < bz_ct z (bz_n t)) ∨ (m3 = false ∧ z = x ∧ (∀ q, q < a → ∀ b, b < bz_n t → x q = true → bz_in t (bz_fu f) r b = true → bz_j t q b = true → x b = true) ∧ ∀ q, q < b → x a = true → bz_in t (bz_fu f) r q = true → bz_j t a q = true → x q = true)) → ∀ (H : Heap) (locs : List Loc), va_P (dC, dI) vwCl (bz_wM am cI cL cZ (bz_tM t) (th, sv, ex) ((fun a => nI (f a)), S2, (bz_se (bz_n t) z S3))) H → va_D A (bz_wM am cI cL cZ (bz_tM t) (th, sv, ex) ((fun a => nI (f a)), S2, (bz_se (bz_n t) z S3))) → va_S A s.heap H locs → ∀ (ls : Array Slot), lv_has ls 7 [(0, .ref (am 0)), (1, .ref (am 6)), (2, .int (nI r)), (4, .int (bz_i m3)), (5, .int (nI a)), (6, .int (nI b))] → W p l e (headSpec w_M_hangs ({ frames := 0, cells := 0, slots := 0, locals := 0 })).room s m ([.ref (am 0), .ref (am 6), .int (nI r)]).toArray below meth c H locs 0 0 (MQ below (bz_Qxi (dC, dI) [(cI, .int), (cL, .long), (cZ, .boolean)] A (fun r9 (u : Nat → Int32) => r9 = nI (bz_b (bz_ht t (bz_fu f) r))) (fun u : Nat → Int32 => bz_wM am cI cL cZ (bz_tM t) (th, sv, ex) ((fun a => nI (f a)), S2, u))) ([.ref (am 0), .ref (am 6), .int (nI r)]).toArray s 0 0 (A)) (F0 m 88 ls []) := by
                      intro k9
                      induction k9 with
                      | zero =>
                        intro b z m3 h9
                        exact absurd h9 (Nat.not_lt_zero _)
                      | succ k9 ihlpi =>
                        intro b z m3 h9_lpi hbb hz hre3 H locs hP hD hS ls hl
                        refine lv_iload hx hb d_M_hangs_88 (lv_at hl 5 rfl) ?_
                        refine lv_aload_n hx hb d_M_hangs_90 rfl (lv_at hl 0 rfl) ?_
                        refine va_get (D := (dC, dI)) (ci := 4) (v := .int (nI (bz_n t))) (C := R_M) (T := F_M) (N := 12) hx hb htb in_M hown hK hP 0 rfl rfl 1 (by decide) (htb _ wd_412) (fun _ h9 => h9) rfl d_M_hangs_91 ?_
                        refine lv_icmp_ge (tgt := 158) hx hb d_M_hangs_94 (by decide) (fun c_94 => ?_) (fun c_94 => ?_)
                        · skip
                          have hbn : b = bz_n t := by have := (nI_leI (by omega) (by omega)).mp c_94; omega
                          refine lv_iinc (v := nI (a + 1)) (lv' := [(5, .int (nI (a + 1))), (0, .ref (am 0)), (1, .ref (am 6)), (2, .int (nI r)), (4, .int (bz_i m3)), (6, .int (nI b))]) hx hb d_M_hangs_158 hl (k := 4) rfl (nI_1 _) (by decide) rfl (fun ls hl => ?_)
                          refine lv_goto (tgt := 76) hx hb d_M_hangs_161 (by decide) ?_
                          exact ihlpo (a + 1) z m3 (by omega) (by omega) (hz) (by rcases hre3 with h | ⟨h1, h2, h3, h4⟩; { exact Or.inl h }; { refine Or.inr ⟨h1, h2, fun q hq => ?_⟩; by_cases e : q = a; { subst e; intro b2 hb2; exact h4 b2 (by omega) }; { exact h3 q (by omega) } }) _ _ hP hD hS ls (lv_sub hl [1, 2, 3, 4, 0] rfl)
                        · skip
                          have hbn : b < bz_n t := Nat.lt_of_not_le fun z => c_94 ((nI_leI (by omega) (by omega)).mpr z)
                          refine lv_aload_n hx hb d_M_hangs_97 rfl (lv_at hl 0 rfl) ?_
                          refine va_get (D := (dC, dI)) (ci := 4) (v := .ref (am 8)) (C := R_M) (T := F_M) (N := 12) hx hb htb in_M hown hK hP 0 rfl rfl 11 (by decide) (htb _ wd_422) (fun _ h9 => h9) rfl d_M_hangs_98 ?_
                          refine lv_iload hx hb d_M_hangs_101 (lv_at hl 4 rfl) ?_
                          refine bz_zald (v := bz_i (z a)) hx hb hK hP 8 2 rfl rfl (a9 := a) (by omega) (by decide) (bz_se_at (by omega) _ _) d_M_hangs_103 ?_
                          refine lv_if_eq (tgt := 152) hx hb d_M_hangs_104 (by decide) (fun c_104 => ?_) (fun c_104 => ?_)
                          · skip
                            have hP4 : z a = true → bz_in t (bz_fu f) r b = true → bz_j t a b = true → z b = true := fun q => by rw [bz_i_eq c_104] at q; exact absurd q (by simp)
                            refine lv_iinc (v := nI (b + 1)) (lv' := [(6, .int (nI (b + 1))), (0, .ref (am 0)), (1, .ref (am 6)), (2, .int (nI r)), (4, .int (bz_i m3)), (5, .int (nI a))]) hx hb d_M_hangs_152 hl (k := 5) rfl (nI_1 _) (by decide) rfl (fun ls hl => ?_)
                            refine lv_goto (tgt := 88) hx hb d_M_hangs_155 (by decide) ?_
                            exact ihlpi (b + 1) z m3 (by omega) (by omega) (hz) (by rcases hre3 with h | ⟨h1, h2, h3, h4⟩; { exact Or.inl h }; { refine Or.inr ⟨h1, h2, h3, fun q hq => ?_⟩; by_cases e : q = b; { subst e; rw [← h2]; intro p1 p2 p3; exact hP4 p1 p2 p3 }; { exact h4 q (by omega) } }) _ _ hP hD hS ls (lv_sub hl [1, 2, 3, 4, 5, 0] rfl)
                          · skip
                            have hza := bz_i_ne c_104
                            have hfb := hf b hbn
                            refine lv_aload_n hx hb d_M_hangs_107 rfl (lv_at hl 1 rfl) ?_
                            refine lv_iload hx hb d_M_hangs_108 (lv_at hl 5 rfl) ?_
                            refine bz_iald (v := nI (f b)) hx hb hK hP 6 0 rfl rfl (a9 := b) (by omega) (by decide) (rfl) d_M_hangs_110 ?_
                            refine lv_iload_n hx hb d_M_hangs_111 rfl (lv_at hl 2 rfl) ?_
                            refine lv_icmp_ne (tgt := 152) hx hb d_M_hangs_112 (by decide) (fun c_112 => ?_) (fun c_112 => ?_)
                            · skip
                              have hFb : bz_in t (bz_fu f) r b = false := by rw [bz_inf hbn]; exact decide_eq_false fun z => c_112 (by rw [z])
                              have hP4 : z a = true → bz_in t (bz_fu f) r b = true → bz_j t a b = true → z b = true := fun _ q => by rw [hFb] at q; exact absurd q (by simp)
                              refine lv_iinc (v := nI (b + 1)) (lv' := [(6, .int (nI (b + 1))), (0, .ref (am 0)), (1, .ref (am 6)), (2, .int (nI r)), (4, .int (bz_i m3)), (5, .int (nI a))]) hx hb d_M_hangs_152 hl (k := 5) rfl (nI_1 _) (by decide) rfl (fun ls hl => ?_)
                              refine lv_goto (tgt := 88) hx hb d_M_hangs_155 (by decide) ?_
                              exact ihlpi (b + 1) z m3 (by omega) (by omega) (hz) (by rcases hre3 with h | ⟨h1, h2, h3, h4⟩; { exact Or.inl h }; { refine Or.inr ⟨h1, h2, h3, fun q hq => ?_⟩; by_cases e : q = b; { subst e; rw [← h2]; intro p1 p2 p3; exact hP4 p1 p2 p3 }; { exact h4 q (by omega) } }) _ _ hP hD hS ls (lv_sub hl [1, 2, 3, 4, 5, 0] rfl)
                            · skip
                              have hFb : bz_in t (bz_fu f) r b = true := by rw [bz_inf hbn]; exact decide_eq_true ((nI_eq (by omega) (by omega)).mp c_112)
                              refine lv_aload_n hx hb d_M_hangs_115 rfl (lv_at hl 0 rfl) ?_
                              refine va_get (D := (dC, dI)) (ci := 4) (v := .ref (am 8)) (C := R_M) (T := F_M) (N := 12) hx hb htb in_M hown hK hP 0 rfl rfl 11 (by decide) (htb _ wd_422) (fun _ h9 => h9) rfl d_M_hangs_116 ?_
                              refine lv_iload hx hb d_M_hangs_119 (lv_at hl 5 rfl) ?_
                              refine bz_zald (v := bz_i (z b)) hx hb hK hP 8 2 rfl rfl (a9 := b) (by omega) (by decide) (bz_se_at (by omega) _ _) d_M_hangs_121 ?_
                              refine lv_if_ne (tgt := 152) hx hb d_M_hangs_122 (by decide) (fun c_122 => ?_) (fun c_122 => ?_)
                              · skip
                                have hP4 : z a = true → bz_in t (bz_fu f) r b = true → bz_j t a b = true → z b = true := fun _ _ _ => bz_i_ne c_122
                                refine lv_iinc (v := nI (b + 1)) (lv' := [(6, .int (nI (b + 1))), (0, .ref (am 0)), (1, .ref (am 6)), (2, .int (nI r)), (4, .int (bz_i m3)), (5, .int (nI a))]) hx hb d_M_hangs_152 hl (k := 5) rfl (nI_1 _) (by decide) rfl (fun ls hl => ?_)
                                refine lv_goto (tgt := 88) hx hb d_M_hangs_155 (by decide) ?_
                                exact ihlpi (b + 1) z m3 (by omega) (by omega) (hz) (by rcases hre3 with h | ⟨h1, h2, h3, h4⟩; { exact Or.inl h }; { refine Or.inr ⟨h1, h2, h3, fun q hq => ?_⟩; by_cases e : q = b; { subst e; rw [← h2]; intro p1 p2 p3; exact hP4 p1 p2 p3 }; { exact h4 q (by omega) } }) _ _ hP hD hS ls (lv_sub hl [1, 2, 3, 4, 5, 0] rfl)
                              · skip
                                have hzb := bz_i_eq c_122
                                refine lv_aload_n hx hb d_M_hangs_125 rfl (lv_at hl 0 rfl) ?_
                                refine va_get (D := (dC, dI)) (ci := 4) (v := .ref (am 3)) (C := R_M) (T := F_M) (N := 12) hx hb htb in_M hown hK hP 0 rfl rfl 4 (by decide) (htb _ wd_415) (fun _ h9 => h9) rfl d_M_hangs_126 ?_
                                refine lv_bipush (v := 30) hx hb d_M_hangs_129 (by decide) ?_
                                refine lv_iload hx hb d_M_hangs_131 (lv_at hl 4 rfl) ?_
                                refine lv_imul hx hb d_M_hangs_133 ?_
                                refine bz_ri (y := nI (30 * a)) (pk_mul 30 _) ?_
                                refine lv_iload hx hb d_M_hangs_134 (lv_at hl 5 rfl) ?_
                                refine lv_iadd hx hb d_M_hangs_136 ?_
                                refine bz_ri (y := nI (30 * a + b)) (nI_add _ _) ?_
                                refine bz_zald (v := bz_i (bz_j t a b)) hx hb hK hP 3 2 rfl rfl (a9 := (30 * a + b)) (by omega) (by decide) (by show bz_i (bz_j t ((30 * a + b) / 30) ((30 * a + b) % 30)) = _; rw [show (30 * a + b) / 30 = a by omega, show (30 * a + b) % 30 = b by omega]) d_M_hangs_137 ?_
                                refine lv_if_eq (tgt := 152) hx hb d_M_hangs_138 (by decide) (fun c_138 => ?_) (fun c_138 => ?_)
                                · skip
                                  have hP4 : z a = true → bz_in t (bz_fu f) r b = true → bz_j t a b = true → z b = true := fun _ _ q => by rw [bz_i_eq c_138] at q; exact absurd q (by simp)
                                  refine lv_iinc (v := nI (b + 1)) (lv' := [(6, .int (nI (b + 1))), (0, .ref (am 0)), (1, .ref (am 6)), (2, .int (nI r)), (4, .int (bz_i m3)), (5, .int (nI a))]) hx hb d_M_hangs_152 hl (k := 5) rfl (nI_1 _) (by decide) rfl (fun ls hl => ?_)
                                  refine lv_goto (tgt := 88) hx hb d_M_hangs_155 (by decide) ?_
                                  exact ihlpi (b + 1) z m3 (by omega) (by omega) (hz) (by rcases hre3 with h | ⟨h1, h2, h3, h4⟩; { exact Or.inl h }; { refine Or.inr ⟨h1, h2, h3, fun q hq => ?_⟩; by_cases e : q = b; { subst e; rw [← h2]; intro p1 p2 p3; exact hP4 p1 p2 p3 }; { exact h4 q (by omega) } }) _ _ hP hD hS ls (lv_sub hl [1, 2, 3, 4, 5, 0] rfl)
                                · skip
                                  have hJ := bz_i_ne c_138
                                  refine lv_aload_n hx hb d_M_hangs_141 rfl (lv_at hl 0 rfl) ?_
                                  refine va_get (D := (dC, dI)) (ci := 4) (v := .ref (am 8)) (C := R_M) (T := F_M) (N := 12) hx hb htb in_M hown hK hP 0 rfl rfl 11 (by decide) (htb _ wd_422) (fun _ h9 => h9) rfl d_M_hangs_142 ?_
                                  refine lv_iload hx hb d_M_hangs_145 (lv_at hl 5 rfl) ?_
                                  refine lv_iconst (v := 1) hx hb d_M_hangs_147 (by decide) ?_
                                  refine bz_zast (b9 := true) hx hb hK hP hD hS 8 2 rfl rfl (a9 := b) (by omega) (by decide) (rfl) d_M_hangs_148 (fun H locs hP hD hS => ?_)
                                  have hP : va_P (dC, dI) vwCl (bz_wM am cI cL cZ (bz_tM t) (th, sv, ex) ((fun a => nI (f a)), S2, (upd (bz_se (bz_n t) z S3) b (bz_i true)))) H := hP
                                  have hD : va_D A (bz_wM am cI cL cZ (bz_tM t) (th, sv, ex) ((fun a => nI (f a)), S2, (upd (bz_se (bz_n t) z S3) b (bz_i true)))) := hD
                                  have e9 : (bz_se (bz_n t) (va_up z b true) S3) = (upd (bz_se (bz_n t) z S3) b (bz_i true)) := bz_se_put hbn _ _ _
                                  rw [← e9] at hP hD
                                  refine lv_iconst (v := nI 1) hx hb d_M_hangs_149 (by decide) ?_
                                  refine lv_istore (lv' := [(4, .int (nI 1)), (0, .ref (am 0)), (1, .ref (am 6)), (2, .int (nI r)), (5, .int (nI a)), (6, .int (nI b))]) hx hb d_M_hangs_150 hl (by decide) rfl (fun ls hl => ?_)
                                  refine lv_iinc (v := nI (b + 1)) (lv' := [(6, .int (nI (b + 1))), (4, .int (nI 1)), (0, .ref (am 0)), (1, .ref (am 6)), (2, .int (nI r)), (5, .int (nI a))]) hx hb d_M_hangs_152 hl (k := 5) rfl (nI_1 _) (by decide) rfl (fun ls hl => ?_)
                                  refine lv_goto (tgt := 88) hx hb d_M_hangs_155 (by decide) ?_
                                  exact ihlpi (b + 1) (va_up z b true) true (by omega) (by omega) (bz_hr_1 hz hza hFb (by show (_ || _) = true; rw [hFb]; rfl) hJ) (Or.inl ⟨rfl, by have := bz_ct_up hbn hzb; rcases hre3 with ⟨-, h⟩ | ⟨-, h, -⟩; { omega }; { rw [h] at this; rw [h]; exact this }⟩) _ _ hP hD hS ls (lv_sub hl [2, 3, 4, 1, 5, 0] rfl)
                    exact lpi _ 0 y m2 (Nat.lt_succ_self _) (by omega) (hy) (by rcases hrel with h | ⟨h1, h2, h3⟩; { exact Or.inl h }; { exact Or.inr ⟨h1, h2, h3, fun q hq => absurd hq (by omega)⟩ }) _ _ hP hD hS ls (lv_sub hl [1, 2, 3, 4, 5, 0] rfl)
              exact lpo _ 0 x false (Nat.lt_succ_self _) (by omega) (hx2) (Or.inr ⟨rfl, rfl, fun q hq => absurd hq (by omega)⟩) _ _ hP hD hS ls (lv_sub hl [2, 3, 4, 1, 0] rfl)
        exact lpw _ (bz_x0 (bz_in t (bz_fu f) r)) true (Nat.lt_succ_self _) (bz_hr_0 fun i hi => bz_in_n hi) (fun h => absurd h (by simp)) _ _ hP hD hS ls (lv_sub hl [1, 2, 3, 0] rfl)
      · skip
        have hin : i < bz_n t := Nat.lt_of_not_le fun z => c_11 ((nI_leI (by omega) (by omega)).mpr z)
        have hfi := hf i hin
        refine lv_aload_n hx hb d_M_hangs_14 rfl (lv_at hl 0 rfl) ?_
        refine va_get (D := (dC, dI)) (ci := 4) (v := .ref (am 8)) (C := R_M) (T := F_M) (N := 12) hx hb htb in_M hown hK hP 0 rfl rfl 11 (by decide) (htb _ wd_422) (fun _ h9 => h9) rfl d_M_hangs_15 ?_
        refine lv_iload hx hb d_M_hangs_18 (lv_at hl 4 rfl) ?_
        refine lv_aload_n hx hb d_M_hangs_20 rfl (lv_at hl 1 rfl) ?_
        refine lv_iload hx hb d_M_hangs_21 (lv_at hl 4 rfl) ?_
        refine bz_iald (v := nI (f i)) hx hb hK hP 6 0 rfl rfl (a9 := i) (by omega) (by decide) (rfl) d_M_hangs_23 ?_
        refine lv_iload_n hx hb d_M_hangs_24 rfl (lv_at hl 2 rfl) ?_
        refine lv_icmp_ne (tgt := 36) hx hb d_M_hangs_25 (by decide) (fun c_25 => ?_) (fun c_25 => ?_)
        · skip
          have hFi : bz_in t (bz_fu f) r i = false := by rw [bz_inf hin]; exact decide_eq_false fun z => c_25 (by rw [z])
          have hX : bz_x0 (bz_in t (bz_fu f) r) i = false := by unfold bz_x0; rw [hFi]; rfl
          refine lv_iconst (v := 0) hx hb d_M_hangs_36 (by decide) ?_
          refine bz_zast (b9 := bz_x0 (bz_in t (bz_fu f) r) i) hx hb hK hP hD hS 8 2 rfl rfl (a9 := i) (by omega) (by decide) (by rw [hX]; rfl) d_M_hangs_37 (fun H locs hP hD hS => ?_)
          have hP : va_P (dC, dI) vwCl (bz_wM am cI cL cZ (bz_tM t) (th, sv, ex) ((fun a => nI (f a)), S2, (upd (bz_se i (bz_x0 (bz_in t (bz_fu f) r)) S3) i (bz_i (bz_x0 (bz_in t (bz_fu f) r) i))))) H := hP
          have hD : va_D A (bz_wM am cI cL cZ (bz_tM t) (th, sv, ex) ((fun a => nI (f a)), S2, (upd (bz_se i (bz_x0 (bz_in t (bz_fu f) r)) S3) i (bz_i (bz_x0 (bz_in t (bz_fu f) r) i))))) := hD
          have e9 : (bz_se (i + 1) (bz_x0 (bz_in t (bz_fu f) r)) S3) = (upd (bz_se i (bz_x0 (bz_in t (bz_fu f) r)) S3) i (bz_i (bz_x0 (bz_in t (bz_fu f) r) i))) := bz_se_add _ _ _
          rw [← e9] at hP hD
          refine lv_iload_n hx hb d_M_hangs_38 rfl (lv_at hl 3 rfl) ?_
          refine lv_if_ne (tgt := 50) hx hb d_M_hangs_39 (by decide) (fun c_39 => ?_) (fun c_39 => ?_)
          · skip
            have hB := bz_bn_t (bz_i_ne c_39)
            refine lv_iconst (v := 1) hx hb d_M_hangs_50 (by decide) ?_
            refine lv_goto (tgt := 55) hx hb d_M_hangs_51 (by decide) ?_
            refine bz_ri (y := bz_i (bz_bn (bz_in t (bz_fu f) r) (i + 1))) (by rw [hB]; rfl) ?_
            refine lv_istore_n (lv' := [(3, .int (bz_i (bz_bn (bz_in t (bz_fu f) r) (i + 1)))), (0, .ref (am 0)), (1, .ref (am 6)), (2, .int (nI r)), (4, .int (nI i))]) hx hb d_M_hangs_55 rfl hl (by decide) rfl (fun ls hl => ?_)
            refine lv_iinc (v := nI (i + 1)) (lv' := [(4, .int (nI (i + 1))), (3, .int (bz_i (bz_bn (bz_in t (bz_fu f) r) (i + 1)))), (0, .ref (am 0)), (1, .ref (am 6)), (2, .int (nI r))]) hx hb d_M_hangs_56 hl (k := 4) rfl (nI_1 _) (by decide) rfl (fun ls hl => ?_)
            refine lv_goto (tgt := 5) hx hb d_M_hangs_59 (by decide) ?_
            exact ihlpa (i + 1) (by omega) (by omega) _ _ hP hD hS ls (lv_sub hl [2, 3, 4, 1, 0] rfl)
          · skip
            refine lv_aload_n hx hb d_M_hangs_42 rfl (lv_at hl 1 rfl) ?_
            refine lv_iload hx hb d_M_hangs_43 (lv_at hl 4 rfl) ?_
            refine bz_iald (v := nI (f i)) hx hb hK hP 6 0 rfl rfl (a9 := i) (by omega) (by decide) (rfl) d_M_hangs_45 ?_
            refine lv_iload_n hx hb d_M_hangs_46 rfl (lv_at hl 2 rfl) ?_
            refine lv_icmp_ne (tgt := 54) hx hb d_M_hangs_47 (by decide) (fun c_47 => ?_) (fun c_47 => ?_)
            · skip
              have hFi : bz_in t (bz_fu f) r i = false := by rw [bz_inf hin]; exact decide_eq_false fun z => c_47 (by rw [z])
              have hB := bz_bn_f (bz_i_eq c_39) hFi
              refine lv_iconst (v := nI 0) hx hb d_M_hangs_54 (by decide) ?_
              refine bz_ri (y := bz_i (bz_bn (bz_in t (bz_fu f) r) (i + 1))) (by rw [hB]; rfl) ?_
              refine lv_istore_n (lv' := [(3, .int (bz_i (bz_bn (bz_in t (bz_fu f) r) (i + 1)))), (0, .ref (am 0)), (1, .ref (am 6)), (2, .int (nI r)), (4, .int (nI i))]) hx hb d_M_hangs_55 rfl hl (by decide) rfl (fun ls hl => ?_)
              refine lv_iinc (v := nI (i + 1)) (lv' := [(4, .int (nI (i + 1))), (3, .int (bz_i (bz_bn (bz_in t (bz_fu f) r) (i + 1)))), (0, .ref (am 0)), (1, .ref (am 6)), (2, .int (nI r))]) hx hb d_M_hangs_56 hl (k := 4) rfl (nI_1 _) (by decide) rfl (fun ls hl => ?_)
              refine lv_goto (tgt := 5) hx hb d_M_hangs_59 (by decide) ?_
              exact ihlpa (i + 1) (by omega) (by omega) _ _ hP hD hS ls (lv_sub hl [2, 3, 4, 1, 0] rfl)
            · skip
              have hFi : bz_in t (bz_fu f) r i = true := by rw [bz_inf hin]; exact decide_eq_true ((nI_eq (by omega) (by omega)).mp c_47)
              have hB := bz_bn_i hFi
              refine lv_iconst (v := 1) hx hb d_M_hangs_50 (by decide) ?_
              refine lv_goto (tgt := 55) hx hb d_M_hangs_51 (by decide) ?_
              refine bz_ri (y := bz_i (bz_bn (bz_in t (bz_fu f) r) (i + 1))) (by rw [hB]; rfl) ?_
              refine lv_istore_n (lv' := [(3, .int (bz_i (bz_bn (bz_in t (bz_fu f) r) (i + 1)))), (0, .ref (am 0)), (1, .ref (am 6)), (2, .int (nI r)), (4, .int (nI i))]) hx hb d_M_hangs_55 rfl hl (by decide) rfl (fun ls hl => ?_)
              refine lv_iinc (v := nI (i + 1)) (lv' := [(4, .int (nI (i + 1))), (3, .int (bz_i (bz_bn (bz_in t (bz_fu f) r) (i + 1)))), (0, .ref (am 0)), (1, .ref (am 6)), (2, .int (nI r))]) hx hb d_M_hangs_56 hl (k := 4) rfl (nI_1 _) (by decide) rfl (fun ls hl => ?_)
              refine lv_goto (tgt := 5) hx hb d_M_hangs_59 (by decide) ?_
              exact ihlpa (i + 1) (by omega) (by omega) _ _ hP hD hS ls (lv_sub hl [2, 3, 4, 1, 0] rfl)
        · skip
          have hFi : bz_in t (bz_fu f) r i = true := by rw [bz_inf hin]; exact decide_eq_true ((nI_eq (by omega) (by omega)).mp c_25)
          refine lv_iload_n hx hb d_M_hangs_28 rfl (lv_at hl 3 rfl) ?_
          refine lv_if_ne (tgt := 36) hx hb d_M_hangs_29 (by decide) (fun c_29 => ?_) (fun c_29 => ?_)
          · skip
            have hX : bz_x0 (bz_in t (bz_fu f) r) i = false := by unfold bz_x0; rw [bz_i_ne c_29]; simp
            refine lv_iconst (v := 0) hx hb d_M_hangs_36 (by decide) ?_
            refine bz_zast (b9 := bz_x0 (bz_in t (bz_fu f) r) i) hx hb hK hP hD hS 8 2 rfl rfl (a9 := i) (by omega) (by decide) (by rw [hX]; rfl) d_M_hangs_37 (fun H locs hP hD hS => ?_)
            have hP : va_P (dC, dI) vwCl (bz_wM am cI cL cZ (bz_tM t) (th, sv, ex) ((fun a => nI (f a)), S2, (upd (bz_se i (bz_x0 (bz_in t (bz_fu f) r)) S3) i (bz_i (bz_x0 (bz_in t (bz_fu f) r) i))))) H := hP
            have hD : va_D A (bz_wM am cI cL cZ (bz_tM t) (th, sv, ex) ((fun a => nI (f a)), S2, (upd (bz_se i (bz_x0 (bz_in t (bz_fu f) r)) S3) i (bz_i (bz_x0 (bz_in t (bz_fu f) r) i))))) := hD
            have e9 : (bz_se (i + 1) (bz_x0 (bz_in t (bz_fu f) r)) S3) = (upd (bz_se i (bz_x0 (bz_in t (bz_fu f) r)) S3) i (bz_i (bz_x0 (bz_in t (bz_fu f) r) i))) := bz_se_add _ _ _
            rw [← e9] at hP hD
            refine lv_iload_n hx hb d_M_hangs_38 rfl (lv_at hl 3 rfl) ?_
            refine lv_if_ne (tgt := 50) hx hb d_M_hangs_39 (by decide) (fun c_39 => ?_) (fun c_39 => ?_)
            · skip
              have hB := bz_bn_t (bz_i_ne c_39)
              refine lv_iconst (v := 1) hx hb d_M_hangs_50 (by decide) ?_
              refine lv_goto (tgt := 55) hx hb d_M_hangs_51 (by decide) ?_
              refine bz_ri (y := bz_i (bz_bn (bz_in t (bz_fu f) r) (i + 1))) (by rw [hB]; rfl) ?_
              refine lv_istore_n (lv' := [(3, .int (bz_i (bz_bn (bz_in t (bz_fu f) r) (i + 1)))), (0, .ref (am 0)), (1, .ref (am 6)), (2, .int (nI r)), (4, .int (nI i))]) hx hb d_M_hangs_55 rfl hl (by decide) rfl (fun ls hl => ?_)
              refine lv_iinc (v := nI (i + 1)) (lv' := [(4, .int (nI (i + 1))), (3, .int (bz_i (bz_bn (bz_in t (bz_fu f) r) (i + 1)))), (0, .ref (am 0)), (1, .ref (am 6)), (2, .int (nI r))]) hx hb d_M_hangs_56 hl (k := 4) rfl (nI_1 _) (by decide) rfl (fun ls hl => ?_)
              refine lv_goto (tgt := 5) hx hb d_M_hangs_59 (by decide) ?_
              exact ihlpa (i + 1) (by omega) (by omega) _ _ hP hD hS ls (lv_sub hl [2, 3, 4, 1, 0] rfl)
            · skip
              refine lv_aload_n hx hb d_M_hangs_42 rfl (lv_at hl 1 rfl) ?_
              refine lv_iload hx hb d_M_hangs_43 (lv_at hl 4 rfl) ?_
              refine bz_iald (v := nI (f i)) hx hb hK hP 6 0 rfl rfl (a9 := i) (by omega) (by decide) (rfl) d_M_hangs_45 ?_
              refine lv_iload_n hx hb d_M_hangs_46 rfl (lv_at hl 2 rfl) ?_
              refine lv_icmp_ne (tgt := 54) hx hb d_M_hangs_47 (by decide) (fun c_47 => ?_) (fun c_47 => ?_)
              · skip
                have hFi : bz_in t (bz_fu f) r i = false := by rw [bz_inf hin]; exact decide_eq_false fun z => c_47 (by rw [z])
                have hB := bz_bn_f (bz_i_eq c_39) hFi
                refine lv_iconst (v := nI 0) hx hb d_M_hangs_54 (by decide) ?_
                refine bz_ri (y := bz_i (bz_bn (bz_in t (bz_fu f) r) (i + 1))) (by rw [hB]; rfl) ?_
                refine lv_istore_n (lv' := [(3, .int (bz_i (bz_bn (bz_in t (bz_fu f) r) (i + 1)))), (0, .ref (am 0)), (1, .ref (am 6)), (2, .int (nI r)), (4, .int (nI i))]) hx hb d_M_hangs_55 rfl hl (by decide) rfl (fun ls hl => ?_)
                refine lv_iinc (v := nI (i + 1)) (lv' := [(4, .int (nI (i + 1))), (3, .int (bz_i (bz_bn (bz_in t (bz_fu f) r) (i + 1)))), (0, .ref (am 0)), (1, .ref (am 6)), (2, .int (nI r))]) hx hb d_M_hangs_56 hl (k := 4) rfl (nI_1 _) (by decide) rfl (fun ls hl => ?_)
                refine lv_goto (tgt := 5) hx hb d_M_hangs_59 (by decide) ?_
                exact ihlpa (i + 1) (by omega) (by omega) _ _ hP hD hS ls (lv_sub hl [2, 3, 4, 1, 0] rfl)
              · skip
                have hFi : bz_in t (bz_fu f) r i = true := by rw [bz_inf hin]; exact decide_eq_true ((nI_eq (by omega) (by omega)).mp c_47)
                have hB := bz_bn_i hFi
                refine lv_iconst (v := 1) hx hb d_M_hangs_50 (by decide) ?_
                refine lv_goto (tgt := 55) hx hb d_M_hangs_51 (by decide) ?_
                refine bz_ri (y := bz_i (bz_bn (bz_in t (bz_fu f) r) (i + 1))) (by rw [hB]; rfl) ?_
                refine lv_istore_n (lv' := [(3, .int (bz_i (bz_bn (bz_in t (bz_fu f) r) (i + 1)))), (0, .ref (am 0)), (1, .ref (am 6)), (2, .int (nI r)), (4, .int (nI i))]) hx hb d_M_hangs_55 rfl hl (by decide) rfl (fun ls hl => ?_)
                refine lv_iinc (v := nI (i + 1)) (lv' := [(4, .int (nI (i + 1))), (3, .int (bz_i (bz_bn (bz_in t (bz_fu f) r) (i + 1)))), (0, .ref (am 0)), (1, .ref (am 6)), (2, .int (nI r))]) hx hb d_M_hangs_56 hl (k := 4) rfl (nI_1 _) (by decide) rfl (fun ls hl => ?_)
                refine lv_goto (tgt := 5) hx hb d_M_hangs_59 (by decide) ?_
                exact ihlpa (i + 1) (by omega) (by omega) _ _ hP hD hS ls (lv_sub hl [2, 3, 4, 1, 0] rfl)
          · skip
            have hX : bz_x0 (bz_in t (bz_fu f) r) i = true := by unfold bz_x0; rw [bz_i_eq c_29, hFi]; rfl
            refine lv_iconst (v := 1) hx hb d_M_hangs_32 (by decide) ?_
            refine lv_goto (tgt := 37) hx hb d_M_hangs_33 (by decide) ?_
            refine bz_zast (b9 := bz_x0 (bz_in t (bz_fu f) r) i) hx hb hK hP hD hS 8 2 rfl rfl (a9 := i) (by omega) (by decide) (by rw [hX]; rfl) d_M_hangs_37 (fun H locs hP hD hS => ?_)
            have hP : va_P (dC, dI) vwCl (bz_wM am cI cL cZ (bz_tM t) (th, sv, ex) ((fun a => nI (f a)), S2, (upd (bz_se i (bz_x0 (bz_in t (bz_fu f) r)) S3) i (bz_i (bz_x0 (bz_in t (bz_fu f) r) i))))) H := hP
            have hD : va_D A (bz_wM am cI cL cZ (bz_tM t) (th, sv, ex) ((fun a => nI (f a)), S2, (upd (bz_se i (bz_x0 (bz_in t (bz_fu f) r)) S3) i (bz_i (bz_x0 (bz_in t (bz_fu f) r) i))))) := hD
            have e9 : (bz_se (i + 1) (bz_x0 (bz_in t (bz_fu f) r)) S3) = (upd (bz_se i (bz_x0 (bz_in t (bz_fu f) r)) S3) i (bz_i (bz_x0 (bz_in t (bz_fu f) r) i))) := bz_se_add _ _ _
            rw [← e9] at hP hD
            refine lv_iload_n hx hb d_M_hangs_38 rfl (lv_at hl 3 rfl) ?_
            refine lv_if_ne (tgt := 50) hx hb d_M_hangs_39 (by decide) (fun c_39 => ?_) (fun c_39 => ?_)
            · skip
              have hB := bz_bn_t (bz_i_ne c_39)
              refine lv_iconst (v := 1) hx hb d_M_hangs_50 (by decide) ?_
              refine lv_goto (tgt := 55) hx hb d_M_hangs_51 (by decide) ?_
              refine bz_ri (y := bz_i (bz_bn (bz_in t (bz_fu f) r) (i + 1))) (by rw [hB]; rfl) ?_
              refine lv_istore_n (lv' := [(3, .int (bz_i (bz_bn (bz_in t (bz_fu f) r) (i + 1)))), (0, .ref (am 0)), (1, .ref (am 6)), (2, .int (nI r)), (4, .int (nI i))]) hx hb d_M_hangs_55 rfl hl (by decide) rfl (fun ls hl => ?_)
              refine lv_iinc (v := nI (i + 1)) (lv' := [(4, .int (nI (i + 1))), (3, .int (bz_i (bz_bn (bz_in t (bz_fu f) r) (i + 1)))), (0, .ref (am 0)), (1, .ref (am 6)), (2, .int (nI r))]) hx hb d_M_hangs_56 hl (k := 4) rfl (nI_1 _) (by decide) rfl (fun ls hl => ?_)
              refine lv_goto (tgt := 5) hx hb d_M_hangs_59 (by decide) ?_
              exact ihlpa (i + 1) (by omega) (by omega) _ _ hP hD hS ls (lv_sub hl [2, 3, 4, 1, 0] rfl)
            · skip
              refine lv_aload_n hx hb d_M_hangs_42 rfl (lv_at hl 1 rfl) ?_
              refine lv_iload hx hb d_M_hangs_43 (lv_at hl 4 rfl) ?_
              refine bz_iald (v := nI (f i)) hx hb hK hP 6 0 rfl rfl (a9 := i) (by omega) (by decide) (rfl) d_M_hangs_45 ?_
              refine lv_iload_n hx hb d_M_hangs_46 rfl (lv_at hl 2 rfl) ?_
              refine lv_icmp_ne (tgt := 54) hx hb d_M_hangs_47 (by decide) (fun c_47 => ?_) (fun c_47 => ?_)
              · skip
                have hFi : bz_in t (bz_fu f) r i = false := by rw [bz_inf hin]; exact decide_eq_false fun z => c_47 (by rw [z])
                have hB := bz_bn_f (bz_i_eq c_39) hFi
                refine lv_iconst (v := nI 0) hx hb d_M_hangs_54 (by decide) ?_
                refine bz_ri (y := bz_i (bz_bn (bz_in t (bz_fu f) r) (i + 1))) (by rw [hB]; rfl) ?_
                refine lv_istore_n (lv' := [(3, .int (bz_i (bz_bn (bz_in t (bz_fu f) r) (i + 1)))), (0, .ref (am 0)), (1, .ref (am 6)), (2, .int (nI r)), (4, .int (nI i))]) hx hb d_M_hangs_55 rfl hl (by decide) rfl (fun ls hl => ?_)
                refine lv_iinc (v := nI (i + 1)) (lv' := [(4, .int (nI (i + 1))), (3, .int (bz_i (bz_bn (bz_in t (bz_fu f) r) (i + 1)))), (0, .ref (am 0)), (1, .ref (am 6)), (2, .int (nI r))]) hx hb d_M_hangs_56 hl (k := 4) rfl (nI_1 _) (by decide) rfl (fun ls hl => ?_)
                refine lv_goto (tgt := 5) hx hb d_M_hangs_59 (by decide) ?_
                exact ihlpa (i + 1) (by omega) (by omega) _ _ hP hD hS ls (lv_sub hl [2, 3, 4, 1, 0] rfl)
              · skip
                have hFi : bz_in t (bz_fu f) r i = true := by rw [bz_inf hin]; exact decide_eq_true ((nI_eq (by omega) (by omega)).mp c_47)
                have hB := bz_bn_i hFi
                refine lv_iconst (v := 1) hx hb d_M_hangs_50 (by decide) ?_
                refine lv_goto (tgt := 55) hx hb d_M_hangs_51 (by decide) ?_
                refine bz_ri (y := bz_i (bz_bn (bz_in t (bz_fu f) r) (i + 1))) (by rw [hB]; rfl) ?_
                refine lv_istore_n (lv' := [(3, .int (bz_i (bz_bn (bz_in t (bz_fu f) r) (i + 1)))), (0, .ref (am 0)), (1, .ref (am 6)), (2, .int (nI r)), (4, .int (nI i))]) hx hb d_M_hangs_55 rfl hl (by decide) rfl (fun ls hl => ?_)
                refine lv_iinc (v := nI (i + 1)) (lv' := [(4, .int (nI (i + 1))), (3, .int (bz_i (bz_bn (bz_in t (bz_fu f) r) (i + 1)))), (0, .ref (am 0)), (1, .ref (am 6)), (2, .int (nI r))]) hx hb d_M_hangs_56 hl (k := 4) rfl (nI_1 _) (by decide) rfl (fun ls hl => ?_)
                refine lv_goto (tgt := 5) hx hb d_M_hangs_59 (by decide) ?_
                exact ihlpa (i + 1) (by omega) (by omega) _ _ hP hD hS ls (lv_sub hl [2, 3, 4, 1, 0] rfl)
  exact lpa _ 0 (Nat.lt_succ_self _) (by omega) _ _ hP hD hS ls (lv_sub hl [2, 3, 4, 1, 0] rfl)

set_option maxHeartbeats 4000000 in
set_option maxRecDepth 100000 in
/-- hangs of tried -/
theorem c_M_hangs_tried (l : Launch) (dC : Nat → ClassId) (dI : Nat → Nat → Nat) (sz : Nat) (am : Nat → Nat) (cI cL cZ : ClassId) (t : bz_T) (th sv ex : Int32) (f : Nat → Nat) (S2 S3 : Nat → Int32) (ht : bz_ok t) (r : Nat) (hr4 : r < 4) (hf : ∀ a, a < bz_n t → f a < 4) : Met l y_M_hangs w_M_hangs ({ frames := 0, cells := 0, slots := 0, locals := 0 }) (bz_Pw (dC, dI) [(cI, .int), (cL, .long), (cZ, .boolean)] (bz_wM am cI cL cZ (bz_tM t) (th, sv, ex) (S2, (fun a => nI (f a)), S3)) sz [.ref (am 0), .ref (am 7), .int (nI r)]) (bz_Qxi (dC, dI) [(cI, .int), (cL, .long), (cZ, .boolean)] (va_A (bz_wM am cI cL cZ (bz_tM t) (th, sv, ex) (S2, (fun a => nI (f a)), S3)) sz) (fun r9 (u : Nat → Int32) => r9 = nI (bz_b (bz_ht t (bz_fu f) r))) (fun u : Nat → Int32 => bz_wM am cI cL cZ (bz_tM t) (th, sv, ex) (S2, (fun a => nI (f a)), u))) 0 0 (va_A (bz_wM am cI cL cZ (bz_tM t) (th, sv, ex) (S2, (fun a => nI (f a)), S3)) sz) := by
  refine Met.ofW (cc := b_M_hangs) (maxL := 7) (ret := (some .boolean)) (by decide) rfl ?_
  intro p e s m args below meth c s₁ B hml hv
  obtain ⟨rfl, hsz, hP, hK, hD0, hN⟩ := hv
  have hx := B.exec
  have hb := B.bytes
  have hr := B.returns
  have hts := atoms_spec (ws := w_M_hangs) B.pre
  have hown : s.vm.findClass R_M = some m.cls := findClass_of_methodNamed B.named
  have htb : ∀ w ∈ bz_tb, w.before _ s = true := fun w h => hts w (List.mem_cons_of_mem _ h)
  have hlocks := B.notSynchronized
  subst hsz
  have hD := hD0.self (sz := s.heap.size)
  generalize hAe : va_A (bz_wM am cI cL cZ (bz_tM t) (th, sv, ex) (S2, (fun a => nI (f a)), S3)) s.heap.size = A at hD ⊢
  have hA : ∀ q : Nat, s.heap.size ≤ q → A q := fun q h => by rw [← hAe]; exact Or.inr h
  have hS : va_S A s.heap s.heap [] := va_S.rf
  have hl := lv_entry ([.ref (am 0), .ref (am 7), .int (nI r)]) (n := 7) (Nat.le_of_ble_eq_true rfl)
  rw [lg_entry_eq]
  generalize (lg_sl ([.ref (am 0), .ref (am 7), .int (nI r)]) ++ List.replicate (7 - (lg_sl ([.ref (am 0), .ref (am 7), .int (nI r)])).length) Slot.unset).toArray = ls at hl ⊢
  have hl : lv_has ls 7 [(0, .ref (am 0)), (1, .ref (am 7)), (2, .int (nI r))] := hl
  have hn30 := ht.1
  refine lv_iconst (v := nI 0) hx hb d_M_hangs_0 (by decide) ?_
  refine lv_istore_n (lv' := [(3, .int (nI 0)), (0, .ref (am 0)), (1, .ref (am 7)), (2, .int (nI r))]) hx hb d_M_hangs_1 rfl hl (by decide) rfl (fun ls hl => ?_)
  refine lv_iconst (v := nI 0) hx hb d_M_hangs_2 (by decide) ?_
  refine lv_istore (lv' := [(4, .int (nI 0)), (3, .int (nI 0)), (0, .ref (am 0)), (1, .ref (am 7)), (2, .int (nI r))]) hx hb d_M_hangs_3 hl (by decide) rfl (fun ls hl => ?_)
  have e9 : (bz_se 0 (bz_x0 (bz_in t (bz_fu f) r)) S3) = S3 := bz_se_0 _ _
  rw [← e9] at hP hD
  have hl : lv_has ls 7 [(4, .int (nI 0)), (3, .int (bz_i (bz_bn (bz_in t (bz_fu f) r) 0))), (0, .ref (am 0)), (1, .ref (am 7)), (2, .int (nI r))] := by rw [show bz_i (bz_bn (bz_in t (bz_fu f) r) 0) = nI 0 from by rw [bz_bn_0]; rfl]; exact hl
  have lpa : ∀ (k9 : Nat) (i : Nat), bz_n t - i < k9 → (i ≤ bz_n t) → ∀ (H : Heap) (locs : List Loc), va_P (dC, dI) vwCl (bz_wM am cI cL cZ (bz_tM t) (th, sv, ex) (S2, (fun a => nI (f a)), (bz_se i (bz_x0 (bz_in t (bz_fu f) r)) S3))) H → va_D A (bz_wM am cI cL cZ (bz_tM t) (th, sv, ex) (S2, (fun a => nI (f a)), (bz_se i (bz_x0 (bz_in t (bz_fu f) r)) S3))) → va_S A s.heap H locs → ∀ (ls : Array Slot), lv_has ls 7 [(0, .ref (am 0)), (1, .ref (am 7)), (2, .int (nI r)), (3, .int (bz_i (bz_bn (bz_in t (bz_fu f) r) i))), (4, .int (nI i))] → W p l e (headSpec w_M_hangs ({ frames := 0, cells := 0, slots := 0, locals := 0 })).room s m ([.ref (am 0), .ref (am 7), .int (nI r)]).toArray below meth c H locs 0 0 (MQ below (bz_Qxi (dC, dI) [(cI, .int), (cL, .long), (cZ, .boolean)] A (fun r9 (u : Nat → Int32) => r9 = nI (bz_b (bz_ht t (bz_fu f) r))) (fun u : Nat → Int32 => bz_wM am cI cL cZ (bz_tM t) (th, sv, ex) (S2, (fun a => nI (f a)), u))) ([.ref (am 0), .ref (am 7), .int (nI r)]).toArray s 0 0 (A)) (F0 m 5 ls []) := by
    intro k9
    induction k9 with
    | zero =>
      intro i h9
      exact absurd h9 (Nat.not_lt_zero _)
    | succ k9 ihlpa =>
      intro i h9_lpa hi H locs hP hD hS ls hl
      refine lv_iload hx hb d_M_hangs_5 (lv_at hl 4 rfl) ?_
      refine lv_aload_n hx hb d_M_hangs_7 rfl (lv_at hl 0 rfl) ?_
      refine va_get (D := (dC, dI)) (ci := 4) (v := .int (nI (bz_n t))) (C := R_M) (T := F_M) (N := 12) hx hb htb in_M hown hK hP 0 rfl rfl 1 (by decide) (htb _ wd_412) (fun _ h9 => h9) rfl d_M_hangs_8 ?_
      refine lv_icmp_ge (tgt := 62) hx hb d_M_hangs_11 (by decide) (fun c_11 => ?_) (fun c_11 => ?_)
      · skip
        have hin : i = bz_n t := by have := (nI_leI (by omega) (by omega)).mp c_11; omega
        have e9 : (bz_se (bz_n t) (bz_x0 (bz_in t (bz_fu f) r)) S3) = (bz_se i (bz_x0 (bz_in t (bz_fu f) r)) S3) := by rw [hin]
        rw [← e9] at hP hD
        refine lv_iconst (v := nI 1) hx hb d_M_hangs_62 (by decide) ?_
        refine lv_istore (lv' := [(4, .int (nI 1)), (0, .ref (am 0)), (1, .ref (am 7)), (2, .int (nI r)), (3, .int (bz_i (bz_bn (bz_in t (bz_fu f) r) i)))]) hx hb d_M_hangs_63 hl (by decide) rfl (fun ls hl => ?_)
        have lpw : ∀ (k9 : Nat) (x : Nat → Bool) (mo : Bool), 2 * (bz_n t - bz_ct x (bz_n t)) + (if mo then 1 else 0) < k9 → (bz_hr (bz_j t) (bz_in t (bz_fu f) r) (fun a => bz_in t (bz_fu f) r a || bz_op t (bz_fu f) a) x) → (mo = false → ∀ a, a < bz_n t → ∀ b, b < bz_n t → x a = true → bz_in t (bz_fu f) r b = true → bz_j t a b = true → x b = true) → ∀ (H : Heap) (locs : List Loc), va_P (dC, dI) vwCl (bz_wM am cI cL cZ (bz_tM t) (th, sv, ex) (S2, (fun a => nI (f a)), (bz_se (bz_n t) x S3))) H → va_D A (bz_wM am cI cL cZ (bz_tM t) (th, sv, ex) (S2, (fun a => nI (f a)), (bz_se (bz_n t) x S3))) → va_S A s.heap H locs → ∀ (ls : Array Slot), lv_has ls 7 [(0, .ref (am 0)), (1, .ref (am 7)), (2, .int (nI r)), (4, .int (bz_i mo))] → W p l e (headSpec w_M_hangs ({ frames := 0, cells := 0, slots := 0, locals := 0 })).room s m ([.ref (am 0), .ref (am 7), .int (nI r)]).toArray below meth c H locs 0 0 (MQ below (bz_Qxi (dC, dI) [(cI, .int), (cL, .long), (cZ, .boolean)] A (fun r9 (u : Nat → Int32) => r9 = nI (bz_b (bz_ht t (bz_fu f) r))) (fun u : Nat → Int32 => bz_wM am cI cL cZ (bz_tM t) (th, sv, ex) (S2, (fun a => nI (f a)), u))) ([.ref (am 0), .ref (am 7), .int (nI r)]).toArray s 0 0 (A)) (F0 m 65 ls []) := by
          intro k9
          induction k9 with
          | zero =>
            intro x mo h9
            exact absurd h9 (Nat.not_lt_zero _)
          | succ k9 ihlpw =>
            intro x mo h9_lpw hx2 hcl H locs hP hD hS ls hl
            refine lv_iload hx hb d_M_hangs_65 (lv_at hl 3 rfl) ?_
            refine lv_if_eq (tgt := 167) hx hb d_M_hangs_67 (by decide) (fun c_67 => ?_) (fun c_67 => ?_)
            · skip
              have hmo := bz_i_eq c_67
              refine lv_iconst (v := nI 1) hx hb d_M_hangs_167 (by decide) ?_
              refine lv_istore (lv' := [(5, .int (nI 1)), (0, .ref (am 0)), (1, .ref (am 7)), (2, .int (nI r)), (4, .int (bz_i mo))]) hx hb d_M_hangs_168 hl (by decide) rfl (fun ls hl => ?_)
              refine lv_iconst (v := nI 0) hx hb d_M_hangs_170 (by decide) ?_
              refine lv_istore (lv' := [(6, .int (nI 0)), (5, .int (nI 1)), (0, .ref (am 0)), (1, .ref (am 7)), (2, .int (nI r)), (4, .int (bz_i mo))]) hx hb d_M_hangs_171 hl (by decide) rfl (fun ls hl => ?_)
              have lpe : ∀ (k9 : Nat) (i : Nat), bz_n t - i < k9 → (i ≤ bz_n t) → ∀ (H : Heap) (locs : List Loc), va_P (dC, dI) vwCl (bz_wM am cI cL cZ (bz_tM t) (th, sv, ex) (S2, (fun a => nI (f a)), (bz_se (bz_n t) x S3))) H → va_D A (bz_wM am cI cL cZ (bz_tM t) (th, sv, ex) (S2, (fun a => nI (f a)), (bz_se (bz_n t) x S3))) → va_S A s.heap H locs → ∀ (ls : Array Slot), lv_has ls 7 [(0, .ref (am 0)), (1, .ref (am 7)), (2, .int (nI r)), (5, .int (bz_i (bz_al (bz_in t (bz_fu f) r) x i))), (6, .int (nI i))] → W p l e (headSpec w_M_hangs ({ frames := 0, cells := 0, slots := 0, locals := 0 })).room s m ([.ref (am 0), .ref (am 7), .int (nI r)]).toArray below meth c H locs 0 0 (MQ below (bz_Qxi (dC, dI) [(cI, .int), (cL, .long), (cZ, .boolean)] A (fun r9 (u : Nat → Int32) => r9 = nI (bz_b (bz_ht t (bz_fu f) r))) (fun u : Nat → Int32 => bz_wM am cI cL cZ (bz_tM t) (th, sv, ex) (S2, (fun a => nI (f a)), u))) ([.ref (am 0), .ref (am 7), .int (nI r)]).toArray s 0 0 (A)) (F0 m 173 ls []) := by
                intro k9
                induction k9 with
                | zero =>
                  intro i h9
                  exact absurd h9 (Nat.not_lt_zero _)
                | succ k9 ihlpe =>
                  intro i h9_lpe hi H locs hP hD hS ls hl
                  refine lv_iload hx hb d_M_hangs_173 (lv_at hl 4 rfl) ?_
                  refine lv_aload_n hx hb d_M_hangs_175 rfl (lv_at hl 0 rfl) ?_
                  refine va_get (D := (dC, dI)) (ci := 4) (v := .int (nI (bz_n t))) (C := R_M) (T := F_M) (N := 12) hx hb htb in_M hown hK hP 0 rfl rfl 1 (by decide) (htb _ wd_412) (fun _ h9 => h9) rfl d_M_hangs_176 ?_
                  refine lv_icmp_ge (tgt := 218) hx hb d_M_hangs_179 (by decide) (fun c_179 => ?_) (fun c_179 => ?_)
                  · skip
                    have hin : i = bz_n t := by have := (nI_leI (by omega) (by omega)).mp c_179; omega
                    refine lv_iload hx hb d_M_hangs_218 (lv_at hl 3 rfl) ?_
                    exact W.zret (v := bz_i (bz_al (bz_in t (bz_fu f) r) x i)) hx hb hr (bz_nari _) (fun t9 ht9 hW => ⟨⟨_, (bz_se (bz_n t) x S3), rfl, by rw [hin]; exact bz_hang hx2 (hcl hmo), by rw [ht9]; exact hP, va_K.moved hW.alike hK, hD⟩, hS.F ht9⟩) hS.2.2 d_M_hangs_220
                  · skip
                    have hin : i < bz_n t := Nat.lt_of_not_le fun z => c_179 ((nI_leI (by omega) (by omega)).mpr z)
                    have hfi := hf i hin
                    refine lv_iload hx hb d_M_hangs_182 (lv_at hl 3 rfl) ?_
                    refine lv_if_eq (tgt := 209) hx hb d_M_hangs_184 (by decide) (fun c_184 => ?_) (fun c_184 => ?_)
                    · skip
                      have hA5 := bz_al_0 (bz_i_eq c_184)
                      refine lv_iconst (v := nI 0) hx hb d_M_hangs_209 (by decide) ?_
                      refine bz_ri (y := bz_i (bz_al (bz_in t (bz_fu f) r) x (i + 1))) (by rw [hA5]; rfl) ?_
                      refine lv_istore (lv' := [(5, .int (bz_i (bz_al (bz_in t (bz_fu f) r) x (i + 1)))), (0, .ref (am 0)), (1, .ref (am 7)), (2, .int (nI r)), (6, .int (nI i))]) hx hb d_M_hangs_210 hl (by decide) rfl (fun ls hl => ?_)
                      refine lv_iinc (v := nI (i + 1)) (lv' := [(6, .int (nI (i + 1))), (5, .int (bz_i (bz_al (bz_in t (bz_fu f) r) x (i + 1)))), (0, .ref (am 0)), (1, .ref (am 7)), (2, .int (nI r))]) hx hb d_M_hangs_212 hl (k := 4) rfl (nI_1 _) (by decide) rfl (fun ls hl => ?_)
                      refine lv_goto (tgt := 173) hx hb d_M_hangs_215 (by decide) ?_
                      exact ihlpe (i + 1) (by omega) (by omega) _ _ hP hD hS ls (lv_sub hl [2, 3, 4, 1, 0] rfl)
                    · skip
                      have hA4 := bz_i_ne c_184
                      refine lv_aload_n hx hb d_M_hangs_187 rfl (lv_at hl 1 rfl) ?_
                      refine lv_iload hx hb d_M_hangs_188 (lv_at hl 4 rfl) ?_
                      refine bz_iald (v := nI (f i)) hx hb hK hP 7 0 rfl rfl (a9 := i) (by omega) (by decide) (rfl) d_M_hangs_190 ?_
                      refine lv_iload_n hx hb d_M_hangs_191 rfl (lv_at hl 2 rfl) ?_
                      refine lv_icmp_ne (tgt := 205) hx hb d_M_hangs_192 (by decide) (fun c_192 => ?_) (fun c_192 => ?_)
                      · skip
                        have hFi : bz_in t (bz_fu f) r i = false := by rw [bz_inf hin]; exact decide_eq_false fun z => c_192 (by rw [z])
                        have hA5 := bz_al_1 hA4 (Or.inl hFi)
                        refine lv_iconst (v := 1) hx hb d_M_hangs_205 (by decide) ?_
                        refine lv_goto (tgt := 210) hx hb d_M_hangs_206 (by decide) ?_
                        refine bz_ri (y := bz_i (bz_al (bz_in t (bz_fu f) r) x (i + 1))) (by rw [hA5]; rfl) ?_
                        refine lv_istore (lv' := [(5, .int (bz_i (bz_al (bz_in t (bz_fu f) r) x (i + 1)))), (0, .ref (am 0)), (1, .ref (am 7)), (2, .int (nI r)), (6, .int (nI i))]) hx hb d_M_hangs_210 hl (by decide) rfl (fun ls hl => ?_)
                        refine lv_iinc (v := nI (i + 1)) (lv' := [(6, .int (nI (i + 1))), (5, .int (bz_i (bz_al (bz_in t (bz_fu f) r) x (i + 1)))), (0, .ref (am 0)), (1, .ref (am 7)), (2, .int (nI r))]) hx hb d_M_hangs_212 hl (k := 4) rfl (nI_1 _) (by decide) rfl (fun ls hl => ?_)
                        refine lv_goto (tgt := 173) hx hb d_M_hangs_215 (by decide) ?_
                        exact ihlpe (i + 1) (by omega) (by omega) _ _ hP hD hS ls (lv_sub hl [2, 3, 4, 1, 0] rfl)
                      · skip
                        have hFi : bz_in t (bz_fu f) r i = true := by rw [bz_inf hin]; exact decide_eq_true ((nI_eq (by omega) (by omega)).mp c_192)
                        refine lv_aload_n hx hb d_M_hangs_195 rfl (lv_at hl 0 rfl) ?_
                        refine va_get (D := (dC, dI)) (ci := 4) (v := .ref (am 8)) (C := R_M) (T := F_M) (N := 12) hx hb htb in_M hown hK hP 0 rfl rfl 11 (by decide) (htb _ wd_422) (fun _ h9 => h9) rfl d_M_hangs_196 ?_
                        refine lv_iload hx hb d_M_hangs_199 (lv_at hl 4 rfl) ?_
                        refine bz_zald (v := bz_i (x i)) hx hb hK hP 8 2 rfl rfl (a9 := i) (by omega) (by decide) (bz_se_at (by omega) _ _) d_M_hangs_201 ?_
                        refine lv_if_eq (tgt := 209) hx hb d_M_hangs_202 (by decide) (fun c_202 => ?_) (fun c_202 => ?_)
                        · skip
                          have hA5 := bz_al_n hFi (bz_i_eq c_202)
                          refine lv_iconst (v := nI 0) hx hb d_M_hangs_209 (by decide) ?_
                          refine bz_ri (y := bz_i (bz_al (bz_in t (bz_fu f) r) x (i + 1))) (by rw [hA5]; rfl) ?_
                          refine lv_istore (lv' := [(5, .int (bz_i (bz_al (bz_in t (bz_fu f) r) x (i + 1)))), (0, .ref (am 0)), (1, .ref (am 7)), (2, .int (nI r)), (6, .int (nI i))]) hx hb d_M_hangs_210 hl (by decide) rfl (fun ls hl => ?_)
                          refine lv_iinc (v := nI (i + 1)) (lv' := [(6, .int (nI (i + 1))), (5, .int (bz_i (bz_al (bz_in t (bz_fu f) r) x (i + 1)))), (0, .ref (am 0)), (1, .ref (am 7)), (2, .int (nI r))]) hx hb d_M_hangs_212 hl (k := 4) rfl (nI_1 _) (by decide) rfl (fun ls hl => ?_)
                          refine lv_goto (tgt := 173) hx hb d_M_hangs_215 (by decide) ?_
                          exact ihlpe (i + 1) (by omega) (by omega) _ _ hP hD hS ls (lv_sub hl [2, 3, 4, 1, 0] rfl)
                        · skip
                          have hA5 := bz_al_1 hA4 (Or.inr (bz_i_ne c_202))
                          refine lv_iconst (v := 1) hx hb d_M_hangs_205 (by decide) ?_
                          refine lv_goto (tgt := 210) hx hb d_M_hangs_206 (by decide) ?_
                          refine bz_ri (y := bz_i (bz_al (bz_in t (bz_fu f) r) x (i + 1))) (by rw [hA5]; rfl) ?_
                          refine lv_istore (lv' := [(5, .int (bz_i (bz_al (bz_in t (bz_fu f) r) x (i + 1)))), (0, .ref (am 0)), (1, .ref (am 7)), (2, .int (nI r)), (6, .int (nI i))]) hx hb d_M_hangs_210 hl (by decide) rfl (fun ls hl => ?_)
                          refine lv_iinc (v := nI (i + 1)) (lv' := [(6, .int (nI (i + 1))), (5, .int (bz_i (bz_al (bz_in t (bz_fu f) r) x (i + 1)))), (0, .ref (am 0)), (1, .ref (am 7)), (2, .int (nI r))]) hx hb d_M_hangs_212 hl (k := 4) rfl (nI_1 _) (by decide) rfl (fun ls hl => ?_)
                          refine lv_goto (tgt := 173) hx hb d_M_hangs_215 (by decide) ?_
                          exact ihlpe (i + 1) (by omega) (by omega) _ _ hP hD hS ls (lv_sub hl [2, 3, 4, 1, 0] rfl)
              exact lpe _ 0 (Nat.lt_succ_self _) (by omega) _ _ hP hD hS ls (lv_sub hl [2, 3, 4, 1, 0] rfl)
            · skip
              have hmo := bz_i_ne c_67
              refine lv_iconst (v := nI 0) hx hb d_M_hangs_70 (by decide) ?_
              refine lv_istore (lv' := [(4, .int (nI 0)), (0, .ref (am 0)), (1, .ref (am 7)), (2, .int (nI r))]) hx hb d_M_hangs_71 hl (by decide) rfl (fun ls hl => ?_)
              refine lv_iconst (v := nI 0) hx hb d_M_hangs_73 (by decide) ?_
              refine lv_istore (lv' := [(5, .int (nI 0)), (4, .int (nI 0)), (0, .ref (am 0)), (1, .ref (am 7)), (2, .int (nI r))]) hx hb d_M_hangs_74 hl (by decide) rfl (fun ls hl => ?_)
              have lpo : ∀ (k9 : Nat) (a : Nat) (y : Nat → Bool) (m2 : Bool), bz_n t - a < k9 → (a ≤ bz_n t) → (bz_hr (bz_j t) (bz_in t (bz_fu f) r) (fun a => bz_in t (bz_fu f) r a || bz_op t (bz_fu f) a) y) → ((m2 = true ∧ bz_ct x (bz_n t) < bz_ct y (bz_n t)) ∨ (m2 = false ∧ y = x ∧ ∀ q, q < a → ∀ b, b < bz_n t → x q = true → bz_in t (bz_fu f) r b = true → bz_j t q b = true → x b = true)) → ∀ (H : Heap) (locs : List Loc), va_P (dC, dI) vwCl (bz_wM am cI cL cZ (bz_tM t) (th, sv, ex) (S2, (fun a => nI (f a)), (bz_se (bz_n t) y S3))) H → va_D A (bz_wM am cI cL cZ (bz_tM t) (th, sv, ex) (S2, (fun a => nI (f a)), (bz_se (bz_n t) y S3))) → va_S A s.heap H locs → ∀ (ls : Array Slot), lv_has ls 7 [(0, .ref (am 0)), (1, .ref (am 7)), (2, .int (nI r)), (4, .int (bz_i m2)), (5, .int (nI a))] → W p l e (headSpec w_M_hangs ({ frames := 0, cells := 0, slots := 0, locals := 0 })).room s m ([.ref (am 0), .ref (am 7), .int (nI r)]).toArray below meth c H locs 0 0 (MQ below (bz_Qxi (dC, dI) [(cI, .int), (cL, .long), (cZ, .boolean)] A (fun r9 (u : Nat → Int32) => r9 = nI (bz_b (bz_ht t (bz_fu f) r))) (fun u : Nat → Int32 => bz_wM am cI cL cZ (bz_tM t) (th, sv, ex) (S2, (fun a => nI (f a)), u))) ([.ref (am 0), .ref (am 7), .int (nI r)]).toArray s 0 0 (A)) (F0 m 76 ls []) := by
                intro k9
                induction k9 with
                | zero =>
                  intro a y m2 h9
                  exact absurd h9 (Nat.not_lt_zero _)
                | succ k9 ihlpo =>
                  intro a y m2 h9_lpo ha hy hrel H locs hP hD hS ls hl
                  refine lv_iload hx hb d_M_hangs_76 (lv_at hl 4 rfl) ?_
                  refine lv_aload_n hx hb d_M_hangs_78 rfl (lv_at hl 0 rfl) ?_
                  refine va_get (D := (dC, dI)) (ci := 4) (v := .int (nI (bz_n t))) (C := R_M) (T := F_M) (N := 12) hx hb htb in_M hown hK hP 0 rfl rfl 1 (by decide) (htb _ wd_412) (fun _ h9 => h9) rfl d_M_hangs_79 ?_
                  refine lv_icmp_ge (tgt := 164) hx hb d_M_hangs_82 (by decide) (fun c_82 => ?_) (fun c_82 => ?_)
                  · skip
                    have han : a = bz_n t := by have := (nI_leI (by omega) (by omega)).mp c_82; omega
                    refine lv_goto (tgt := 65) hx hb d_M_hangs_164 (by decide) ?_
                    exact ihlpw y m2 (by rcases hrel with ⟨h1, h2⟩ | ⟨h1, h2, -⟩; { subst h1; rw [hmo] at h9_lpw; simp at h9_lpw; have := bz_ct_le y (bz_n t); simp; omega }; { subst h1; rw [h2]; rw [hmo] at h9_lpw; simp at h9_lpw; simp; omega }) (hy) (fun h => by rcases hrel with ⟨h1, -⟩ | ⟨-, h2, h3⟩; { rw [h] at h1; exact absurd h1 (by simp) }; { rw [h2]; intro q hq; exact h3 q (by omega) }) _ _ hP hD hS ls (lv_sub hl [0, 1, 2, 3] rfl)
                  · skip
                    have han : a < bz_n t := Nat.lt_of_not_le fun z => c_82 ((nI_leI (by omega) (by omega)).mpr z)
                    refine lv_iconst (v := nI 0) hx hb d_M_hangs_85 (by decide) ?_
                    refine lv_istore (lv' := [(6, .int (nI 0)), (0, .ref (am 0)), (1, .ref (am 7)), (2, .int (nI r)), (4, .int (bz_i m2)), (5, .int (nI a))]) hx hb d_M_hangs_86 hl (by decide) rfl (fun ls hl => ?_)
                    have lpi : ∀ (k9 : Nat) (b : Nat) (z : Nat → Bool) (m3 : Bool), bz_n t - b < k9 → (b ≤ bz_n t) → (bz_hr (bz_j t) (bz_in t (bz_fu f) r) (fun a => bz_in t (bz_fu f) r a || bz_op t (bz_fu f) a) z) → ((m3 = true ∧ bz_ct x (bz_n t) < bz_ct z (bz_n t)) ∨ (m3 = false ∧ z = x ∧ (∀ q, q < a → ∀ b, b < bz_n t → x q = true → bz_in t (bz_fu f) r b = true → bz_j t q b = true → x b = true) ∧ ∀ q, q < b → x a = true → bz_in t (bz_fu f) r q = true → bz_j t a q = true → x q = true)) → ∀ (H : Heap) (locs : List Loc), va_P (dC, dI) vwCl (bz_wM am cI cL cZ (bz_tM t) (th, sv, ex) (S2, (fun a => nI (f a)), (bz_se (bz_n t) z S3))) H → va_D A (bz_wM am cI cL cZ (bz_tM t) (th, sv, ex) (S2, (fun a => nI (f a)), (bz_se (bz_n t) z S3))) → va_S A s.heap H locs → ∀ (ls : Array Slot), lv_has ls 7 [(0, .ref (am 0)), (1, .ref (am 7)), (2, .int (nI r)), (4, .int (bz_i m3)), (5, .int (nI a)), (6, .int (nI b))] → W p l e (headSpec w_M_hangs ({ frames := 0, cells := 0, slots := 0, locals := 0 })).room s m ([.ref (am 0), .ref (am 7), .int (nI r)]).toArray below meth c H locs 0 0 (MQ below (bz_Qxi (dC, dI) [(cI, .int), (cL, .long), (cZ, .boolean)] A (fun r9 (u : Nat → Int32) => r9 = nI (bz_b (bz_ht t (bz_fu f) r))) (fun u : Nat → Int32 => bz_wM am cI cL cZ (bz_tM t) (th, sv, ex) (S2, (fun a => nI (f a)), u))) ([.ref (am 0), .ref (am 7), .int (nI r)]).toArray s 0 0 (A)) (F0 m 88 ls []) := by
                      intro k9
                      induction k9 with
                      | zero =>
                        intro b z m3 h9
                        exact absurd h9 (Nat.not_lt_zero _)
                      | succ k9 ihlpi =>
                        intro b z m3 h9_lpi hbb hz hre3 H locs hP hD hS ls hl
                        refine lv_iload hx hb d_M_hangs_88 (lv_at hl 5 rfl) ?_
                        refine lv_aload_n hx hb d_M_hangs_90 rfl (lv_at hl 0 rfl) ?_
                        refine va_get (D := (dC, dI)) (ci := 4) (v := .int (nI (bz_n t))) (C := R_M) (T := F_M) (N := 12) hx hb htb in_M hown hK hP 0 rfl rfl 1 (by decide) (htb _ wd_412) (fun _ h9 => h9) rfl d_M_hangs_91 ?_
                        refine lv_icmp_ge (tgt := 158) hx hb d_M_hangs_94 (by decide) (fun c_94 => ?_) (fun c_94 => ?_)
                        · skip
                          have hbn : b = bz_n t := by have := (nI_leI (by omega) (by omega)).mp c_94; omega
                          refine lv_iinc (v := nI (a + 1)) (lv' := [(5, .int (nI (a + 1))), (0, .ref (am 0)), (1, .ref (am 7)), (2, .int (nI r)), (4, .int (bz_i m3)), (6, .int (nI b))]) hx hb d_M_hangs_158 hl (k := 4) rfl (nI_1 _) (by decide) rfl (fun ls hl => ?_)
                          refine lv_goto (tgt := 76) hx hb d_M_hangs_161 (by decide) ?_
                          exact ihlpo (a + 1) z m3 (by omega) (by omega) (hz) (by rcases hre3 with h | ⟨h1, h2, h3, h4⟩; { exact Or.inl h }; { refine Or.inr ⟨h1, h2, fun q hq => ?_⟩; by_cases e : q = a; { subst e; intro b2 hb2; exact h4 b2 (by omega) }; { exact h3 q (by omega) } }) _ _ hP hD hS ls (lv_sub hl [1, 2, 3, 4, 0] rfl)
                        · skip
                          have hbn : b < bz_n t := Nat.lt_of_not_le fun z => c_94 ((nI_leI (by omega) (by omega)).mpr z)
                          refine lv_aload_n hx hb d_M_hangs_97 rfl (lv_at hl 0 rfl) ?_
                          refine va_get (D := (dC, dI)) (ci := 4) (v := .ref (am 8)) (C := R_M) (T := F_M) (N := 12) hx hb htb in_M hown hK hP 0 rfl rfl 11 (by decide) (htb _ wd_422) (fun _ h9 => h9) rfl d_M_hangs_98 ?_
                          refine lv_iload hx hb d_M_hangs_101 (lv_at hl 4 rfl) ?_
                          refine bz_zald (v := bz_i (z a)) hx hb hK hP 8 2 rfl rfl (a9 := a) (by omega) (by decide) (bz_se_at (by omega) _ _) d_M_hangs_103 ?_
                          refine lv_if_eq (tgt := 152) hx hb d_M_hangs_104 (by decide) (fun c_104 => ?_) (fun c_104 => ?_)
                          · skip
                            have hP4 : z a = true → bz_in t (bz_fu f) r b = true → bz_j t a b = true → z b = true := fun q => by rw [bz_i_eq c_104] at q; exact absurd q (by simp)
                            refine lv_iinc (v := nI (b + 1)) (lv' := [(6, .int (nI (b + 1))), (0, .ref (am 0)), (1, .ref (am 7)), (2, .int (nI r)), (4, .int (bz_i m3)), (5, .int (nI a))]) hx hb d_M_hangs_152 hl (k := 5) rfl (nI_1 _) (by decide) rfl (fun ls hl => ?_)
                            refine lv_goto (tgt := 88) hx hb d_M_hangs_155 (by decide) ?_
                            exact ihlpi (b + 1) z m3 (by omega) (by omega) (hz) (by rcases hre3 with h | ⟨h1, h2, h3, h4⟩; { exact Or.inl h }; { refine Or.inr ⟨h1, h2, h3, fun q hq => ?_⟩; by_cases e : q = b; { subst e; rw [← h2]; intro p1 p2 p3; exact hP4 p1 p2 p3 }; { exact h4 q (by omega) } }) _ _ hP hD hS ls (lv_sub hl [1, 2, 3, 4, 5, 0] rfl)
                          · skip
                            have hza := bz_i_ne c_104
                            have hfb := hf b hbn
                            refine lv_aload_n hx hb d_M_hangs_107 rfl (lv_at hl 1 rfl) ?_
                            refine lv_iload hx hb d_M_hangs_108 (lv_at hl 5 rfl) ?_
                            refine bz_iald (v := nI (f b)) hx hb hK hP 7 0 rfl rfl (a9 := b) (by omega) (by decide) (rfl) d_M_hangs_110 ?_
                            refine lv_iload_n hx hb d_M_hangs_111 rfl (lv_at hl 2 rfl) ?_
                            refine lv_icmp_ne (tgt := 152) hx hb d_M_hangs_112 (by decide) (fun c_112 => ?_) (fun c_112 => ?_)
                            · skip
                              have hFb : bz_in t (bz_fu f) r b = false := by rw [bz_inf hbn]; exact decide_eq_false fun z => c_112 (by rw [z])
                              have hP4 : z a = true → bz_in t (bz_fu f) r b = true → bz_j t a b = true → z b = true := fun _ q => by rw [hFb] at q; exact absurd q (by simp)
                              refine lv_iinc (v := nI (b + 1)) (lv' := [(6, .int (nI (b + 1))), (0, .ref (am 0)), (1, .ref (am 7)), (2, .int (nI r)), (4, .int (bz_i m3)), (5, .int (nI a))]) hx hb d_M_hangs_152 hl (k := 5) rfl (nI_1 _) (by decide) rfl (fun ls hl => ?_)
                              refine lv_goto (tgt := 88) hx hb d_M_hangs_155 (by decide) ?_
                              exact ihlpi (b + 1) z m3 (by omega) (by omega) (hz) (by rcases hre3 with h | ⟨h1, h2, h3, h4⟩; { exact Or.inl h }; { refine Or.inr ⟨h1, h2, h3, fun q hq => ?_⟩; by_cases e : q = b; { subst e; rw [← h2]; intro p1 p2 p3; exact hP4 p1 p2 p3 }; { exact h4 q (by omega) } }) _ _ hP hD hS ls (lv_sub hl [1, 2, 3, 4, 5, 0] rfl)
                            · skip
                              have hFb : bz_in t (bz_fu f) r b = true := by rw [bz_inf hbn]; exact decide_eq_true ((nI_eq (by omega) (by omega)).mp c_112)
                              refine lv_aload_n hx hb d_M_hangs_115 rfl (lv_at hl 0 rfl) ?_
                              refine va_get (D := (dC, dI)) (ci := 4) (v := .ref (am 8)) (C := R_M) (T := F_M) (N := 12) hx hb htb in_M hown hK hP 0 rfl rfl 11 (by decide) (htb _ wd_422) (fun _ h9 => h9) rfl d_M_hangs_116 ?_
                              refine lv_iload hx hb d_M_hangs_119 (lv_at hl 5 rfl) ?_
                              refine bz_zald (v := bz_i (z b)) hx hb hK hP 8 2 rfl rfl (a9 := b) (by omega) (by decide) (bz_se_at (by omega) _ _) d_M_hangs_121 ?_
                              refine lv_if_ne (tgt := 152) hx hb d_M_hangs_122 (by decide) (fun c_122 => ?_) (fun c_122 => ?_)
                              · skip
                                have hP4 : z a = true → bz_in t (bz_fu f) r b = true → bz_j t a b = true → z b = true := fun _ _ _ => bz_i_ne c_122
                                refine lv_iinc (v := nI (b + 1)) (lv' := [(6, .int (nI (b + 1))), (0, .ref (am 0)), (1, .ref (am 7)), (2, .int (nI r)), (4, .int (bz_i m3)), (5, .int (nI a))]) hx hb d_M_hangs_152 hl (k := 5) rfl (nI_1 _) (by decide) rfl (fun ls hl => ?_)
                                refine lv_goto (tgt := 88) hx hb d_M_hangs_155 (by decide) ?_
                                exact ihlpi (b + 1) z m3 (by omega) (by omega) (hz) (by rcases hre3 with h | ⟨h1, h2, h3, h4⟩; { exact Or.inl h }; { refine Or.inr ⟨h1, h2, h3, fun q hq => ?_⟩; by_cases e : q = b; { subst e; rw [← h2]; intro p1 p2 p3; exact hP4 p1 p2 p3 }; { exact h4 q (by omega) } }) _ _ hP hD hS ls (lv_sub hl [1, 2, 3, 4, 5, 0] rfl)
                              · skip
                                have hzb := bz_i_eq c_122
                                refine lv_aload_n hx hb d_M_hangs_125 rfl (lv_at hl 0 rfl) ?_
                                refine va_get (D := (dC, dI)) (ci := 4) (v := .ref (am 3)) (C := R_M) (T := F_M) (N := 12) hx hb htb in_M hown hK hP 0 rfl rfl 4 (by decide) (htb _ wd_415) (fun _ h9 => h9) rfl d_M_hangs_126 ?_
                                refine lv_bipush (v := 30) hx hb d_M_hangs_129 (by decide) ?_
                                refine lv_iload hx hb d_M_hangs_131 (lv_at hl 4 rfl) ?_
                                refine lv_imul hx hb d_M_hangs_133 ?_
                                refine bz_ri (y := nI (30 * a)) (pk_mul 30 _) ?_
                                refine lv_iload hx hb d_M_hangs_134 (lv_at hl 5 rfl) ?_
                                refine lv_iadd hx hb d_M_hangs_136 ?_
                                refine bz_ri (y := nI (30 * a + b)) (nI_add _ _) ?_
                                refine bz_zald (v := bz_i (bz_j t a b)) hx hb hK hP 3 2 rfl rfl (a9 := (30 * a + b)) (by omega) (by decide) (by show bz_i (bz_j t ((30 * a + b) / 30) ((30 * a + b) % 30)) = _; rw [show (30 * a + b) / 30 = a by omega, show (30 * a + b) % 30 = b by omega]) d_M_hangs_137 ?_
                                refine lv_if_eq (tgt := 152) hx hb d_M_hangs_138 (by decide) (fun c_138 => ?_) (fun c_138 => ?_)
                                · skip
                                  have hP4 : z a = true → bz_in t (bz_fu f) r b = true → bz_j t a b = true → z b = true := fun _ _ q => by rw [bz_i_eq c_138] at q; exact absurd q (by simp)
                                  refine lv_iinc (v := nI (b + 1)) (lv' := [(6, .int (nI (b + 1))), (0, .ref (am 0)), (1, .ref (am 7)), (2, .int (nI r)), (4, .int (bz_i m3)), (5, .int (nI a))]) hx hb d_M_hangs_152 hl (k := 5) rfl (nI_1 _) (by decide) rfl (fun ls hl => ?_)
                                  refine lv_goto (tgt := 88) hx hb d_M_hangs_155 (by decide) ?_
                                  exact ihlpi (b + 1) z m3 (by omega) (by omega) (hz) (by rcases hre3 with h | ⟨h1, h2, h3, h4⟩; { exact Or.inl h }; { refine Or.inr ⟨h1, h2, h3, fun q hq => ?_⟩; by_cases e : q = b; { subst e; rw [← h2]; intro p1 p2 p3; exact hP4 p1 p2 p3 }; { exact h4 q (by omega) } }) _ _ hP hD hS ls (lv_sub hl [1, 2, 3, 4, 5, 0] rfl)
                                · skip
                                  have hJ := bz_i_ne c_138
                                  refine lv_aload_n hx hb d_M_hangs_141 rfl (lv_at hl 0 rfl) ?_
                                  refine va_get (D := (dC, dI)) (ci := 4) (v := .ref (am 8)) (C := R_M) (T := F_M) (N := 12) hx hb htb in_M hown hK hP 0 rfl rfl 11 (by decide) (htb _ wd_422) (fun _ h9 => h9) rfl d_M_hangs_142 ?_
                                  refine lv_iload hx hb d_M_hangs_145 (lv_at hl 5 rfl) ?_
                                  refine lv_iconst (v := 1) hx hb d_M_hangs_147 (by decide) ?_
                                  refine bz_zast (b9 := true) hx hb hK hP hD hS 8 2 rfl rfl (a9 := b) (by omega) (by decide) (rfl) d_M_hangs_148 (fun H locs hP hD hS => ?_)
                                  have hP : va_P (dC, dI) vwCl (bz_wM am cI cL cZ (bz_tM t) (th, sv, ex) (S2, (fun a => nI (f a)), (upd (bz_se (bz_n t) z S3) b (bz_i true)))) H := hP
                                  have hD : va_D A (bz_wM am cI cL cZ (bz_tM t) (th, sv, ex) (S2, (fun a => nI (f a)), (upd (bz_se (bz_n t) z S3) b (bz_i true)))) := hD
                                  have e9 : (bz_se (bz_n t) (va_up z b true) S3) = (upd (bz_se (bz_n t) z S3) b (bz_i true)) := bz_se_put hbn _ _ _
                                  rw [← e9] at hP hD
                                  refine lv_iconst (v := nI 1) hx hb d_M_hangs_149 (by decide) ?_
                                  refine lv_istore (lv' := [(4, .int (nI 1)), (0, .ref (am 0)), (1, .ref (am 7)), (2, .int (nI r)), (5, .int (nI a)), (6, .int (nI b))]) hx hb d_M_hangs_150 hl (by decide) rfl (fun ls hl => ?_)
                                  refine lv_iinc (v := nI (b + 1)) (lv' := [(6, .int (nI (b + 1))), (4, .int (nI 1)), (0, .ref (am 0)), (1, .ref (am 7)), (2, .int (nI r)), (5, .int (nI a))]) hx hb d_M_hangs_152 hl (k := 5) rfl (nI_1 _) (by decide) rfl (fun ls hl => ?_)
                                  refine lv_goto (tgt := 88) hx hb d_M_hangs_155 (by decide) ?_
                                  exact ihlpi (b + 1) (va_up z b true) true (by omega) (by omega) (bz_hr_1 hz hza hFb (by show (_ || _) = true; rw [hFb]; rfl) hJ) (Or.inl ⟨rfl, by have := bz_ct_up hbn hzb; rcases hre3 with ⟨-, h⟩ | ⟨-, h, -⟩; { omega }; { rw [h] at this; rw [h]; exact this }⟩) _ _ hP hD hS ls (lv_sub hl [2, 3, 4, 1, 5, 0] rfl)
                    exact lpi _ 0 y m2 (Nat.lt_succ_self _) (by omega) (hy) (by rcases hrel with h | ⟨h1, h2, h3⟩; { exact Or.inl h }; { exact Or.inr ⟨h1, h2, h3, fun q hq => absurd hq (by omega)⟩ }) _ _ hP hD hS ls (lv_sub hl [1, 2, 3, 4, 5, 0] rfl)
              exact lpo _ 0 x false (Nat.lt_succ_self _) (by omega) (hx2) (Or.inr ⟨rfl, rfl, fun q hq => absurd hq (by omega)⟩) _ _ hP hD hS ls (lv_sub hl [2, 3, 4, 1, 0] rfl)
        exact lpw _ (bz_x0 (bz_in t (bz_fu f) r)) true (Nat.lt_succ_self _) (bz_hr_0 fun i hi => bz_in_n hi) (fun h => absurd h (by simp)) _ _ hP hD hS ls (lv_sub hl [1, 2, 3, 0] rfl)
      · skip
        have hin : i < bz_n t := Nat.lt_of_not_le fun z => c_11 ((nI_leI (by omega) (by omega)).mpr z)
        have hfi := hf i hin
        refine lv_aload_n hx hb d_M_hangs_14 rfl (lv_at hl 0 rfl) ?_
        refine va_get (D := (dC, dI)) (ci := 4) (v := .ref (am 8)) (C := R_M) (T := F_M) (N := 12) hx hb htb in_M hown hK hP 0 rfl rfl 11 (by decide) (htb _ wd_422) (fun _ h9 => h9) rfl d_M_hangs_15 ?_
        refine lv_iload hx hb d_M_hangs_18 (lv_at hl 4 rfl) ?_
        refine lv_aload_n hx hb d_M_hangs_20 rfl (lv_at hl 1 rfl) ?_
        refine lv_iload hx hb d_M_hangs_21 (lv_at hl 4 rfl) ?_
        refine bz_iald (v := nI (f i)) hx hb hK hP 7 0 rfl rfl (a9 := i) (by omega) (by decide) (rfl) d_M_hangs_23 ?_
        refine lv_iload_n hx hb d_M_hangs_24 rfl (lv_at hl 2 rfl) ?_
        refine lv_icmp_ne (tgt := 36) hx hb d_M_hangs_25 (by decide) (fun c_25 => ?_) (fun c_25 => ?_)
        · skip
          have hFi : bz_in t (bz_fu f) r i = false := by rw [bz_inf hin]; exact decide_eq_false fun z => c_25 (by rw [z])
          have hX : bz_x0 (bz_in t (bz_fu f) r) i = false := by unfold bz_x0; rw [hFi]; rfl
          refine lv_iconst (v := 0) hx hb d_M_hangs_36 (by decide) ?_
          refine bz_zast (b9 := bz_x0 (bz_in t (bz_fu f) r) i) hx hb hK hP hD hS 8 2 rfl rfl (a9 := i) (by omega) (by decide) (by rw [hX]; rfl) d_M_hangs_37 (fun H locs hP hD hS => ?_)
          have hP : va_P (dC, dI) vwCl (bz_wM am cI cL cZ (bz_tM t) (th, sv, ex) (S2, (fun a => nI (f a)), (upd (bz_se i (bz_x0 (bz_in t (bz_fu f) r)) S3) i (bz_i (bz_x0 (bz_in t (bz_fu f) r) i))))) H := hP
          have hD : va_D A (bz_wM am cI cL cZ (bz_tM t) (th, sv, ex) (S2, (fun a => nI (f a)), (upd (bz_se i (bz_x0 (bz_in t (bz_fu f) r)) S3) i (bz_i (bz_x0 (bz_in t (bz_fu f) r) i))))) := hD
          have e9 : (bz_se (i + 1) (bz_x0 (bz_in t (bz_fu f) r)) S3) = (upd (bz_se i (bz_x0 (bz_in t (bz_fu f) r)) S3) i (bz_i (bz_x0 (bz_in t (bz_fu f) r) i))) := bz_se_add _ _ _
          rw [← e9] at hP hD
          refine lv_iload_n hx hb d_M_hangs_38 rfl (lv_at hl 3 rfl) ?_
          refine lv_if_ne (tgt := 50) hx hb d_M_hangs_39 (by decide) (fun c_39 => ?_) (fun c_39 => ?_)
          · skip
            have hB := bz_bn_t (bz_i_ne c_39)
            refine lv_iconst (v := 1) hx hb d_M_hangs_50 (by decide) ?_
            refine lv_goto (tgt := 55) hx hb d_M_hangs_51 (by decide) ?_
            refine bz_ri (y := bz_i (bz_bn (bz_in t (bz_fu f) r) (i + 1))) (by rw [hB]; rfl) ?_
            refine lv_istore_n (lv' := [(3, .int (bz_i (bz_bn (bz_in t (bz_fu f) r) (i + 1)))), (0, .ref (am 0)), (1, .ref (am 7)), (2, .int (nI r)), (4, .int (nI i))]) hx hb d_M_hangs_55 rfl hl (by decide) rfl (fun ls hl => ?_)
            refine lv_iinc (v := nI (i + 1)) (lv' := [(4, .int (nI (i + 1))), (3, .int (bz_i (bz_bn (bz_in t (bz_fu f) r) (i + 1)))), (0, .ref (am 0)), (1, .ref (am 7)), (2, .int (nI r))]) hx hb d_M_hangs_56 hl (k := 4) rfl (nI_1 _) (by decide) rfl (fun ls hl => ?_)
            refine lv_goto (tgt := 5) hx hb d_M_hangs_59 (by decide) ?_
            exact ihlpa (i + 1) (by omega) (by omega) _ _ hP hD hS ls (lv_sub hl [2, 3, 4, 1, 0] rfl)
          · skip
            refine lv_aload_n hx hb d_M_hangs_42 rfl (lv_at hl 1 rfl) ?_
            refine lv_iload hx hb d_M_hangs_43 (lv_at hl 4 rfl) ?_
            refine bz_iald (v := nI (f i)) hx hb hK hP 7 0 rfl rfl (a9 := i) (by omega) (by decide) (rfl) d_M_hangs_45 ?_
            refine lv_iload_n hx hb d_M_hangs_46 rfl (lv_at hl 2 rfl) ?_
            refine lv_icmp_ne (tgt := 54) hx hb d_M_hangs_47 (by decide) (fun c_47 => ?_) (fun c_47 => ?_)
            · skip
              have hFi : bz_in t (bz_fu f) r i = false := by rw [bz_inf hin]; exact decide_eq_false fun z => c_47 (by rw [z])
              have hB := bz_bn_f (bz_i_eq c_39) hFi
              refine lv_iconst (v := nI 0) hx hb d_M_hangs_54 (by decide) ?_
              refine bz_ri (y := bz_i (bz_bn (bz_in t (bz_fu f) r) (i + 1))) (by rw [hB]; rfl) ?_
              refine lv_istore_n (lv' := [(3, .int (bz_i (bz_bn (bz_in t (bz_fu f) r) (i + 1)))), (0, .ref (am 0)), (1, .ref (am 7)), (2, .int (nI r)), (4, .int (nI i))]) hx hb d_M_hangs_55 rfl hl (by decide) rfl (fun ls hl => ?_)
              refine lv_iinc (v := nI (i + 1)) (lv' := [(4, .int (nI (i + 1))), (3, .int (bz_i (bz_bn (bz_in t (bz_fu f) r) (i + 1)))), (0, .ref (am 0)), (1, .ref (am 7)), (2, .int (nI r))]) hx hb d_M_hangs_56 hl (k := 4) rfl (nI_1 _) (by decide) rfl (fun ls hl => ?_)
              refine lv_goto (tgt := 5) hx hb d_M_hangs_59 (by decide) ?_
              exact ihlpa (i + 1) (by omega) (by omega) _ _ hP hD hS ls (lv_sub hl [2, 3, 4, 1, 0] rfl)
            · skip
              have hFi : bz_in t (bz_fu f) r i = true := by rw [bz_inf hin]; exact decide_eq_true ((nI_eq (by omega) (by omega)).mp c_47)
              have hB := bz_bn_i hFi
              refine lv_iconst (v := 1) hx hb d_M_hangs_50 (by decide) ?_
              refine lv_goto (tgt := 55) hx hb d_M_hangs_51 (by decide) ?_
              refine bz_ri (y := bz_i (bz_bn (bz_in t (bz_fu f) r) (i + 1))) (by rw [hB]; rfl) ?_
              refine lv_istore_n (lv' := [(3, .int (bz_i (bz_bn (bz_in t (bz_fu f) r) (i + 1)))), (0, .ref (am 0)), (1, .ref (am 7)), (2, .int (nI r)), (4, .int (nI i))]) hx hb d_M_hangs_55 rfl hl (by decide) rfl (fun ls hl => ?_)
              refine lv_iinc (v := nI (i + 1)) (lv' := [(4, .int (nI (i + 1))), (3, .int (bz_i (bz_bn (bz_in t (bz_fu f) r) (i + 1)))), (0, .ref (am 0)), (1, .ref (am 7)), (2, .int (nI r))]) hx hb d_M_hangs_56 hl (k := 4) rfl (nI_1 _) (by decide) rfl (fun ls hl => ?_)
              refine lv_goto (tgt := 5) hx hb d_M_hangs_59 (by decide) ?_
              exact ihlpa (i + 1) (by omega) (by omega) _ _ hP hD hS ls (lv_sub hl [2, 3, 4, 1, 0] rfl)
        · skip
          have hFi : bz_in t (bz_fu f) r i = true := by rw [bz_inf hin]; exact decide_eq_true ((nI_eq (by omega) (by omega)).mp c_25)
          refine lv_iload_n hx hb d_M_hangs_28 rfl (lv_at hl 3 rfl) ?_
          refine lv_if_ne (tgt := 36) hx hb d_M_hangs_29 (by decide) (fun c_29 => ?_) (fun c_29 => ?_)
          · skip
            have hX : bz_x0 (bz_in t (bz_fu f) r) i = false := by unfold bz_x0; rw [bz_i_ne c_29]; simp
            refine lv_iconst (v := 0) hx hb d_M_hangs_36 (by decide) ?_
            refine bz_zast (b9 := bz_x0 (bz_in t (bz_fu f) r) i) hx hb hK hP hD hS 8 2 rfl rfl (a9 := i) (by omega) (by decide) (by rw [hX]; rfl) d_M_hangs_37 (fun H locs hP hD hS => ?_)
            have hP : va_P (dC, dI) vwCl (bz_wM am cI cL cZ (bz_tM t) (th, sv, ex) (S2, (fun a => nI (f a)), (upd (bz_se i (bz_x0 (bz_in t (bz_fu f) r)) S3) i (bz_i (bz_x0 (bz_in t (bz_fu f) r) i))))) H := hP
            have hD : va_D A (bz_wM am cI cL cZ (bz_tM t) (th, sv, ex) (S2, (fun a => nI (f a)), (upd (bz_se i (bz_x0 (bz_in t (bz_fu f) r)) S3) i (bz_i (bz_x0 (bz_in t (bz_fu f) r) i))))) := hD
            have e9 : (bz_se (i + 1) (bz_x0 (bz_in t (bz_fu f) r)) S3) = (upd (bz_se i (bz_x0 (bz_in t (bz_fu f) r)) S3) i (bz_i (bz_x0 (bz_in t (bz_fu f) r) i))) := bz_se_add _ _ _
            rw [← e9] at hP hD
            refine lv_iload_n hx hb d_M_hangs_38 rfl (lv_at hl 3 rfl) ?_
            refine lv_if_ne (tgt := 50) hx hb d_M_hangs_39 (by decide) (fun c_39 => ?_) (fun c_39 => ?_)
            · skip
              have hB := bz_bn_t (bz_i_ne c_39)
              refine lv_iconst (v := 1) hx hb d_M_hangs_50 (by decide) ?_
              refine lv_goto (tgt := 55) hx hb d_M_hangs_51 (by decide) ?_
              refine bz_ri (y := bz_i (bz_bn (bz_in t (bz_fu f) r) (i + 1))) (by rw [hB]; rfl) ?_
              refine lv_istore_n (lv' := [(3, .int (bz_i (bz_bn (bz_in t (bz_fu f) r) (i + 1)))), (0, .ref (am 0)), (1, .ref (am 7)), (2, .int (nI r)), (4, .int (nI i))]) hx hb d_M_hangs_55 rfl hl (by decide) rfl (fun ls hl => ?_)
              refine lv_iinc (v := nI (i + 1)) (lv' := [(4, .int (nI (i + 1))), (3, .int (bz_i (bz_bn (bz_in t (bz_fu f) r) (i + 1)))), (0, .ref (am 0)), (1, .ref (am 7)), (2, .int (nI r))]) hx hb d_M_hangs_56 hl (k := 4) rfl (nI_1 _) (by decide) rfl (fun ls hl => ?_)
              refine lv_goto (tgt := 5) hx hb d_M_hangs_59 (by decide) ?_
              exact ihlpa (i + 1) (by omega) (by omega) _ _ hP hD hS ls (lv_sub hl [2, 3, 4, 1, 0] rfl)
            · skip
              refine lv_aload_n hx hb d_M_hangs_42 rfl (lv_at hl 1 rfl) ?_
              refine lv_iload hx hb d_M_hangs_43 (lv_at hl 4 rfl) ?_
              refine bz_iald (v := nI (f i)) hx hb hK hP 7 0 rfl rfl (a9 := i) (by omega) (by decide) (rfl) d_M_hangs_45 ?_
              refine lv_iload_n hx hb d_M_hangs_46 rfl (lv_at hl 2 rfl) ?_
              refine lv_icmp_ne (tgt := 54) hx hb d_M_hangs_47 (by decide) (fun c_47 => ?_) (fun c_47 => ?_)
              · skip
                have hFi : bz_in t (bz_fu f) r i = false := by rw [bz_inf hin]; exact decide_eq_false fun z => c_47 (by rw [z])
                have hB := bz_bn_f (bz_i_eq c_39) hFi
                refine lv_iconst (v := nI 0) hx hb d_M_hangs_54 (by decide) ?_
                refine bz_ri (y := bz_i (bz_bn (bz_in t (bz_fu f) r) (i + 1))) (by rw [hB]; rfl) ?_
                refine lv_istore_n (lv' := [(3, .int (bz_i (bz_bn (bz_in t (bz_fu f) r) (i + 1)))), (0, .ref (am 0)), (1, .ref (am 7)), (2, .int (nI r)), (4, .int (nI i))]) hx hb d_M_hangs_55 rfl hl (by decide) rfl (fun ls hl => ?_)
                refine lv_iinc (v := nI (i + 1)) (lv' := [(4, .int (nI (i + 1))), (3, .int (bz_i (bz_bn (bz_in t (bz_fu f) r) (i + 1)))), (0, .ref (am 0)), (1, .ref (am 7)), (2, .int (nI r))]) hx hb d_M_hangs_56 hl (k := 4) rfl (nI_1 _) (by decide) rfl (fun ls hl => ?_)
                refine lv_goto (tgt := 5) hx hb d_M_hangs_59 (by decide) ?_
                exact ihlpa (i + 1) (by omega) (by omega) _ _ hP hD hS ls (lv_sub hl [2, 3, 4, 1, 0] rfl)
              · skip
                have hFi : bz_in t (bz_fu f) r i = true := by rw [bz_inf hin]; exact decide_eq_true ((nI_eq (by omega) (by omega)).mp c_47)
                have hB := bz_bn_i hFi
                refine lv_iconst (v := 1) hx hb d_M_hangs_50 (by decide) ?_
                refine lv_goto (tgt := 55) hx hb d_M_hangs_51 (by decide) ?_
                refine bz_ri (y := bz_i (bz_bn (bz_in t (bz_fu f) r) (i + 1))) (by rw [hB]; rfl) ?_
                refine lv_istore_n (lv' := [(3, .int (bz_i (bz_bn (bz_in t (bz_fu f) r) (i + 1)))), (0, .ref (am 0)), (1, .ref (am 7)), (2, .int (nI r)), (4, .int (nI i))]) hx hb d_M_hangs_55 rfl hl (by decide) rfl (fun ls hl => ?_)
                refine lv_iinc (v := nI (i + 1)) (lv' := [(4, .int (nI (i + 1))), (3, .int (bz_i (bz_bn (bz_in t (bz_fu f) r) (i + 1)))), (0, .ref (am 0)), (1, .ref (am 7)), (2, .int (nI r))]) hx hb d_M_hangs_56 hl (k := 4) rfl (nI_1 _) (by decide) rfl (fun ls hl => ?_)
                refine lv_goto (tgt := 5) hx hb d_M_hangs_59 (by decide) ?_
                exact ihlpa (i + 1) (by omega) (by omega) _ _ hP hD hS ls (lv_sub hl [2, 3, 4, 1, 0] rfl)
          · skip
            have hX : bz_x0 (bz_in t (bz_fu f) r) i = true := by unfold bz_x0; rw [bz_i_eq c_29, hFi]; rfl
            refine lv_iconst (v := 1) hx hb d_M_hangs_32 (by decide) ?_
            refine lv_goto (tgt := 37) hx hb d_M_hangs_33 (by decide) ?_
            refine bz_zast (b9 := bz_x0 (bz_in t (bz_fu f) r) i) hx hb hK hP hD hS 8 2 rfl rfl (a9 := i) (by omega) (by decide) (by rw [hX]; rfl) d_M_hangs_37 (fun H locs hP hD hS => ?_)
            have hP : va_P (dC, dI) vwCl (bz_wM am cI cL cZ (bz_tM t) (th, sv, ex) (S2, (fun a => nI (f a)), (upd (bz_se i (bz_x0 (bz_in t (bz_fu f) r)) S3) i (bz_i (bz_x0 (bz_in t (bz_fu f) r) i))))) H := hP
            have hD : va_D A (bz_wM am cI cL cZ (bz_tM t) (th, sv, ex) (S2, (fun a => nI (f a)), (upd (bz_se i (bz_x0 (bz_in t (bz_fu f) r)) S3) i (bz_i (bz_x0 (bz_in t (bz_fu f) r) i))))) := hD
            have e9 : (bz_se (i + 1) (bz_x0 (bz_in t (bz_fu f) r)) S3) = (upd (bz_se i (bz_x0 (bz_in t (bz_fu f) r)) S3) i (bz_i (bz_x0 (bz_in t (bz_fu f) r) i))) := bz_se_add _ _ _
            rw [← e9] at hP hD
            refine lv_iload_n hx hb d_M_hangs_38 rfl (lv_at hl 3 rfl) ?_
            refine lv_if_ne (tgt := 50) hx hb d_M_hangs_39 (by decide) (fun c_39 => ?_) (fun c_39 => ?_)
            · skip
              have hB := bz_bn_t (bz_i_ne c_39)
              refine lv_iconst (v := 1) hx hb d_M_hangs_50 (by decide) ?_
              refine lv_goto (tgt := 55) hx hb d_M_hangs_51 (by decide) ?_
              refine bz_ri (y := bz_i (bz_bn (bz_in t (bz_fu f) r) (i + 1))) (by rw [hB]; rfl) ?_
              refine lv_istore_n (lv' := [(3, .int (bz_i (bz_bn (bz_in t (bz_fu f) r) (i + 1)))), (0, .ref (am 0)), (1, .ref (am 7)), (2, .int (nI r)), (4, .int (nI i))]) hx hb d_M_hangs_55 rfl hl (by decide) rfl (fun ls hl => ?_)
              refine lv_iinc (v := nI (i + 1)) (lv' := [(4, .int (nI (i + 1))), (3, .int (bz_i (bz_bn (bz_in t (bz_fu f) r) (i + 1)))), (0, .ref (am 0)), (1, .ref (am 7)), (2, .int (nI r))]) hx hb d_M_hangs_56 hl (k := 4) rfl (nI_1 _) (by decide) rfl (fun ls hl => ?_)
              refine lv_goto (tgt := 5) hx hb d_M_hangs_59 (by decide) ?_
              exact ihlpa (i + 1) (by omega) (by omega) _ _ hP hD hS ls (lv_sub hl [2, 3, 4, 1, 0] rfl)
            · skip
              refine lv_aload_n hx hb d_M_hangs_42 rfl (lv_at hl 1 rfl) ?_
              refine lv_iload hx hb d_M_hangs_43 (lv_at hl 4 rfl) ?_
              refine bz_iald (v := nI (f i)) hx hb hK hP 7 0 rfl rfl (a9 := i) (by omega) (by decide) (rfl) d_M_hangs_45 ?_
              refine lv_iload_n hx hb d_M_hangs_46 rfl (lv_at hl 2 rfl) ?_
              refine lv_icmp_ne (tgt := 54) hx hb d_M_hangs_47 (by decide) (fun c_47 => ?_) (fun c_47 => ?_)
              · skip
                have hFi : bz_in t (bz_fu f) r i = false := by rw [bz_inf hin]; exact decide_eq_false fun z => c_47 (by rw [z])
                have hB := bz_bn_f (bz_i_eq c_39) hFi
                refine lv_iconst (v := nI 0) hx hb d_M_hangs_54 (by decide) ?_
                refine bz_ri (y := bz_i (bz_bn (bz_in t (bz_fu f) r) (i + 1))) (by rw [hB]; rfl) ?_
                refine lv_istore_n (lv' := [(3, .int (bz_i (bz_bn (bz_in t (bz_fu f) r) (i + 1)))), (0, .ref (am 0)), (1, .ref (am 7)), (2, .int (nI r)), (4, .int (nI i))]) hx hb d_M_hangs_55 rfl hl (by decide) rfl (fun ls hl => ?_)
                refine lv_iinc (v := nI (i + 1)) (lv' := [(4, .int (nI (i + 1))), (3, .int (bz_i (bz_bn (bz_in t (bz_fu f) r) (i + 1)))), (0, .ref (am 0)), (1, .ref (am 7)), (2, .int (nI r))]) hx hb d_M_hangs_56 hl (k := 4) rfl (nI_1 _) (by decide) rfl (fun ls hl => ?_)
                refine lv_goto (tgt := 5) hx hb d_M_hangs_59 (by decide) ?_
                exact ihlpa (i + 1) (by omega) (by omega) _ _ hP hD hS ls (lv_sub hl [2, 3, 4, 1, 0] rfl)
              · skip
                have hFi : bz_in t (bz_fu f) r i = true := by rw [bz_inf hin]; exact decide_eq_true ((nI_eq (by omega) (by omega)).mp c_47)
                have hB := bz_bn_i hFi
                refine lv_iconst (v := 1) hx hb d_M_hangs_50 (by decide) ?_
                refine lv_goto (tgt := 55) hx hb d_M_hangs_51 (by decide) ?_
                refine bz_ri (y := bz_i (bz_bn (bz_in t (bz_fu f) r) (i + 1))) (by rw [hB]; rfl) ?_
                refine lv_istore_n (lv' := [(3, .int (bz_i (bz_bn (bz_in t (bz_fu f) r) (i + 1)))), (0, .ref (am 0)), (1, .ref (am 7)), (2, .int (nI r)), (4, .int (nI i))]) hx hb d_M_hangs_55 rfl hl (by decide) rfl (fun ls hl => ?_)
                refine lv_iinc (v := nI (i + 1)) (lv' := [(4, .int (nI (i + 1))), (3, .int (bz_i (bz_bn (bz_in t (bz_fu f) r) (i + 1)))), (0, .ref (am 0)), (1, .ref (am 7)), (2, .int (nI r))]) hx hb d_M_hangs_56 hl (k := 4) rfl (nI_1 _) (by decide) rfl (fun ls hl => ?_)
                refine lv_goto (tgt := 5) hx hb d_M_hangs_59 (by decide) ?_
                exact ihlpa (i + 1) (by omega) (by omega) _ _ hP hD hS ls (lv_sub hl [2, 3, 4, 1, 0] rfl)
  exact lpa _ 0 (Nat.lt_succ_self _) (by omega) _ _ hP hD hS ls (lv_sub hl [2, 3, 4, 1, 0] rfl)
