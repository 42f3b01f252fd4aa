/-! counting bits by the sums of neighbours -/
theorem bz_an {u v c w : Nat} (hu : u < 256) (hc : c < 256) : (u + 256 * v) &&& (c + 256 * w) = (u &&& c) + 256 * (v &&& w) := by
  have h1 : ((u + 256 * v) &&& (c + 256 * w)) % 2 ^ 8 = ((u + 256 * v) % 2 ^ 8) &&& ((c + 256 * w) % 2 ^ 8) := Nat.and_mod_two_pow
  have h2 : ((u + 256 * v) &&& (c + 256 * w)) / 2 ^ 8 = ((u + 256 * v) / 2 ^ 8) &&& ((c + 256 * w) / 2 ^ 8) := Nat.and_div_two_pow
  rw [show (u + 256 * v) % 2 ^ 8 = u by omega, show (c + 256 * w) % 2 ^ 8 = c by omega] at h1
  rw [show (u + 256 * v) / 2 ^ 8 = v by omega, show (c + 256 * w) / 2 ^ 8 = w by omega] at h2
  omega
def bz_p1 (x : Nat) : Nat := x - (x / 2 &&& 85)
def bz_p2 (x : Nat) : Nat := (x &&& 51) + (x / 4 &&& 51)
def bz_p3 (x : Nat) : Nat := (x + x / 16) &&& 15
theorem bz_q1 : ∀ a, a < 256 → ∀ y, y < 2 → (a / 2 + 128 * y) &&& 85 = a / 2 &&& 85 := by decide +kernel
theorem bz_q2 : ∀ a, a < 256 → ∀ y, y < 4 → (a / 4 + 64 * y) &&& 51 = a / 4 &&& 51 := by decide +kernel
theorem bz_q3 : ∀ a, a < 69 → ∀ y, y < 5 → (a + a / 16 + 16 * y) &&& 15 = (a + a / 16) &&& 15 := by decide +kernel
theorem bz_q4 : ∀ a, a < 256 → bz_p1 a < 256 ∧ (a / 2 &&& 85) ≤ a ∧ bz_p2 (bz_p1 a) < 69 ∧ bz_p2 (bz_p1 a) % 16 < 5 ∧ bz_p3 (bz_p2 (bz_p1 a)) = bz_ct (fun i => a.testBit i) 8 ∧ bz_p3 (bz_p2 (bz_p1 a)) ≤ 8 := by decide +kernel
theorem bz_s1 {a y m : Nat} (ha : a < 256) : (a + 256 * y) - ((a + 256 * y) / 2 &&& (85 + 256 * m)) = bz_p1 a + 256 * (y - (y / 2 &&& m)) := by
  have e : (a + 256 * y) / 2 = (a / 2 + 128 * (y % 2)) + 256 * (y / 2) := by omega
  have h1 := bz_q1 a ha (y % 2) (by omega)
  have h2 := (bz_q4 a ha).2.1
  have h3 : (y / 2 &&& m) ≤ y / 2 := Nat.and_le_left
  rw [e, bz_an (by omega) (by omega), h1]
  unfold bz_p1
  omega
theorem bz_s2 {a y m : Nat} (ha : a < 256) : ((a + 256 * y) &&& (51 + 256 * m)) + ((a + 256 * y) / 4 &&& (51 + 256 * m)) = bz_p2 a + 256 * ((y &&& m) + (y / 4 &&& m)) := by
  have e : (a + 256 * y) / 4 = (a / 4 + 64 * (y % 4)) + 256 * (y / 4) := by omega
  have h1 := bz_q2 a ha (y % 4) (by omega)
  rw [e, bz_an ha (by omega), bz_an (by omega) (by omega), h1]
  unfold bz_p2
  omega
theorem bz_s3 {a y m : Nat} (ha : a < 69) (hy : y % 16 < 5) : ((a + 256 * y) + (a + 256 * y) / 16) &&& (15 + 256 * m) = bz_p3 a + 256 * ((y + y / 16) &&& m) := by
  have e : (a + 256 * y) + (a + 256 * y) / 16 = (a + a / 16 + 16 * (y % 16)) + 256 * (y + y / 16) := by omega
  have h1 := bz_q3 a ha (y % 16) hy
  rw [e, bz_an (by omega) (by omega), h1]
  rfl
/-- the whole count of a number of four bytes -/
def bz_pc (x : Nat) : Nat :=
  let x1 := x - (x / 2 &&& 1431655765)
  let x2 := (x1 &&& 858993459) + (x1 / 4 &&& 858993459)
  let x3 := (x2 + x2 / 16) &&& 252645135
  let x4 := x3 + x3 / 256
  let x5 := x4 + x4 / 65536
  x5 &&& 63
theorem bz_pc_eq {a b c d : Nat} (ha : a < 256) (hb : b < 256) (hc : c < 256) (hd : d < 256) : bz_pc (a + 256 * (b + 256 * (c + 256 * d))) = bz_ct (fun i => a.testBit i) 8 + bz_ct (fun i => b.testBit i) 8 + bz_ct (fun i => c.testBit i) 8 + bz_ct (fun i => d.testBit i) 8 := by
  obtain ⟨a1, -, a2, a3, a4, a5⟩ := bz_q4 a ha
  obtain ⟨b1, -, b2, b3, b4, b5⟩ := bz_q4 b hb
  obtain ⟨c1, -, c2, c3, c4, c5⟩ := bz_q4 c hc
  obtain ⟨d1, -, d2, d3, d4, d5⟩ := bz_q4 d hd
  have e1 : (a + 256 * (b + 256 * (c + 256 * d))) - ((a + 256 * (b + 256 * (c + 256 * d))) / 2 &&& 1431655765) = bz_p1 a + 256 * (bz_p1 b + 256 * (bz_p1 c + 256 * bz_p1 d)) := by
    rw [show (1431655765 : Nat) = 85 + 256 * (85 + 256 * (85 + 256 * 85)) from rfl, bz_s1 ha, bz_s1 hb, bz_s1 hc]
    rfl
  have e2 : ((bz_p1 a + 256 * (bz_p1 b + 256 * (bz_p1 c + 256 * bz_p1 d))) &&& 858993459) + ((bz_p1 a + 256 * (bz_p1 b + 256 * (bz_p1 c + 256 * bz_p1 d))) / 4 &&& 858993459) = bz_p2 (bz_p1 a) + 256 * (bz_p2 (bz_p1 b) + 256 * (bz_p2 (bz_p1 c) + 256 * bz_p2 (bz_p1 d))) := by
    rw [show (858993459 : Nat) = 51 + 256 * (51 + 256 * (51 + 256 * 51)) from rfl, bz_s2 a1, bz_s2 b1, bz_s2 c1]
    rfl
  have e3 : ((bz_p2 (bz_p1 a) + 256 * (bz_p2 (bz_p1 b) + 256 * (bz_p2 (bz_p1 c) + 256 * bz_p2 (bz_p1 d)))) + (bz_p2 (bz_p1 a) + 256 * (bz_p2 (bz_p1 b) + 256 * (bz_p2 (bz_p1 c) + 256 * bz_p2 (bz_p1 d)))) / 16) &&& 252645135 = bz_p3 (bz_p2 (bz_p1 a)) + 256 * (bz_p3 (bz_p2 (bz_p1 b)) + 256 * (bz_p3 (bz_p2 (bz_p1 c)) + 256 * bz_p3 (bz_p2 (bz_p1 d)))) := by
    rw [show (252645135 : Nat) = 15 + 256 * (15 + 256 * (15 + 256 * 15)) from rfl, bz_s3 a2 (by omega), bz_s3 b2 (by omega), bz_s3 c2 (by omega)]
    rfl
  have h63 : ∀ z : Nat, z &&& 63 = z % 64 := fun z => by
    rw [show (63 : Nat) = 2 ^ 6 - 1 from rfl, Nat.and_two_pow_sub_one_eq_mod]
  unfold bz_pc
  dsimp only
  rw [e1, e2, e3, h63, a4, b4, c4, d4]
  rw [a4] at a5
  rw [b4] at b5
  rw [c4] at c5
  rw [d4] at d5
  clear e1 e2 e3 a4 b4 c4 d4 a1 a2 a3 b1 b2 b3 c1 c2 c3 d1 d2 d3 h63
  generalize bz_ct (fun i => a.testBit i) 8 = p0 at *
  generalize bz_ct (fun i => b.testBit i) 8 = p1 at *
  generalize bz_ct (fun i => c.testBit i) 8 = p2 at *
  generalize bz_ct (fun i => d.testBit i) 8 = p3 at *
  rw [show (p0 + 256 * (p1 + 256 * (p2 + 256 * p3))) / 256 = p1 + 256 * (p2 + 256 * p3) by omega]
  rw [show (p0 + 256 * (p1 + 256 * (p2 + 256 * p3)) + (p1 + 256 * (p2 + 256 * p3))) / 65536 = p2 + p3 + 256 * p3 by omega]
  omega
theorem bz_ct_ext {f g : Nat → Bool} {n : Nat} (h : ∀ i, i < n → f i = g i) : bz_ct f n = bz_ct g n := by
  unfold bz_ct
  exact bz_sm_ext fun i hi => by rw [h i hi]
theorem bz_ct_add (f : Nat → Bool) (m : Nat) : ∀ k, bz_ct f (m + k) = bz_ct f m + bz_ct (fun i => f (m + i)) k
  | 0 => rfl
  | k + 1 => by
    show bz_ct f (m + k) + (if f (m + k) then 1 else 0) = bz_ct f m + (bz_ct (fun i => f (m + i)) k + (if f (m + k) then 1 else 0))
    rw [bz_ct_add f m k]
    omega
theorem bz_pc_ct {x : Nat} (hx : x < 2 ^ 32) : bz_pc x = bz_ct (fun i => x.testBit i) 32 := by
  have e : x = x % 256 + 256 * (x / 256 % 256 + 256 * (x / 65536 % 256 + 256 * (x / 16777216))) := by omega
  have h := bz_pc_eq (a := x % 256) (b := x / 256 % 256) (c := x / 65536 % 256) (d := x / 16777216) (by omega) (by omega) (by omega) (by omega)
  rw [← e] at h
  rw [h, show (32 : Nat) = 8 + (8 + (8 + 8)) from rfl, bz_ct_add, bz_ct_add, bz_ct_add]
  have e0 : bz_ct (fun i => (x % 256).testBit i) 8 = bz_ct (fun i => x.testBit i) 8 := bz_ct_ext fun i hi => by
    rw [show (256 : Nat) = 2 ^ 8 from rfl, Nat.testBit_mod_two_pow]
    simp [hi]
  have e1 : bz_ct (fun i => (x / 256 % 256).testBit i) 8 = bz_ct (fun i => x.testBit (8 + i)) 8 := bz_ct_ext fun i hi => by
    rw [show (256 : Nat) = 2 ^ 8 from rfl, Nat.testBit_mod_two_pow, Nat.testBit_div_two_pow, Nat.add_comm i 8]
    simp [hi]
  have e2 : bz_ct (fun i => (x / 65536 % 256).testBit i) 8 = bz_ct (fun i => x.testBit (8 + (8 + i))) 8 := bz_ct_ext fun i hi => by
    rw [show (256 : Nat) = 2 ^ 8 from rfl, show (65536 : Nat) = 2 ^ 16 from rfl, Nat.testBit_mod_two_pow, Nat.testBit_div_two_pow, show i + 16 = 8 + (8 + i) by omega]
    simp [hi]
  have e3 : bz_ct (fun i => (x / 16777216).testBit i) 8 = bz_ct (fun i => x.testBit (8 + (8 + (8 + i)))) 8 := bz_ct_ext fun i hi => by
    rw [show (16777216 : Nat) = 2 ^ 24 from rfl, Nat.testBit_div_two_pow, show i + 24 = 8 + (8 + (8 + i)) by omega]
  rw [e0, e1, e2, e3]
  omega
theorem bz_m_nI (f : Nat → Bool) : ∃ x, x < 2 ^ 32 ∧ bz_m f = nI x ∧ ∀ i, i < 32 → x.testBit i = f i := by
  refine ⟨(bz_m f).toBitVec.toNat, (bz_m f).toBitVec.isLt, ?_, fun i hi => ?_⟩
  · apply Int32.toBitVec_inj.1
    show (bz_m f).toBitVec = BitVec.ofNat 32 (bz_m f).toBitVec.toNat
    simp
  · rw [BitVec.testBit_toNat]
    exact bz_bt f hi
