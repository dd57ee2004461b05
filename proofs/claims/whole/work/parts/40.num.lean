/-! ===== numbers: iz z is the int z, lz z the long z ===== -/
def iz (z : Int) : Int32 := Int32.ofInt z
def lz (z : Int) : Int64 := Int64.ofInt z
theorem iz_add (a b : Int) : iz a + iz b = iz (a + b) := (Int32.ofInt_add a b).symm
theorem iz_sub (a b : Int) : iz a - iz b = iz (a - b) := (Int32.ofInt_sub a b).symm
theorem iz_mul (a b : Int) : iz a * iz b = iz (a * b) := (Int32.ofInt_mul a b).symm
theorem iz_neg (a : Int) : -iz a = iz (-a) := (Int32.ofInt_neg a).symm
theorem iz_nI (k : Nat) : nI k = iz (k : Int) := Int32.ofInt_eq_ofNat.symm
theorem iz_of (x : Int32) : iz x.toInt = x := Int32.ofInt_toInt x
theorem iz_toInt {z : Int} (h : -2147483648 ≤ z ∧ z < 2147483648) : (iz z).toInt = z := Int32.toInt_ofInt_of_le (by omega) (by omega)
theorem i_rng (x : Int32) : -2147483648 ≤ x.toInt ∧ x.toInt < 2147483648 := ⟨Int32.le_toInt x, Int32.toInt_lt x⟩
theorem iz_le {a b : Int} (h : (-2147483648 ≤ a ∧ a < 2147483648) ∧ -2147483648 ≤ b ∧ b < 2147483648) : (iz a ≤ iz b) = (a ≤ b) := by
  rw [Int32.le_iff_toInt_le, iz_toInt h.1, iz_toInt h.2]
theorem iz_lt {a b : Int} (h : (-2147483648 ≤ a ∧ a < 2147483648) ∧ -2147483648 ≤ b ∧ b < 2147483648) : (iz a < iz b) = (a < b) := by
  rw [Int32.lt_iff_toInt_lt, iz_toInt h.1, iz_toInt h.2]
theorem iz_eq {a b : Int} (h : (-2147483648 ≤ a ∧ a < 2147483648) ∧ -2147483648 ≤ b ∧ b < 2147483648) : (iz a = iz b) = (a = b) := by
  rw [← Int32.toInt_inj, iz_toInt h.1, iz_toInt h.2]
theorem iz_cl {k : Nat} (h : k < 2147483648) : (iz (k : Int)).toNatClampNeg = k := by
  rw [← iz_nI]; exact nI_clamp h
theorem iz_clz {z : Int} (h : 0 ≤ z ∧ z < 2147483648) : (iz z).toNatClampNeg = z.toNat := by
  obtain ⟨k, rfl⟩ := Int.eq_ofNat_of_zero_le h.1
  rw [iz_cl (by omega)]; rfl
theorem iz_in {z : Int} {N : Nat} (h : 0 ≤ z ∧ z < N) (hN : N < 2147483648 := by decide) : vp_in (iz z) N := by
  rw [vp_in_iff, iz_toInt (by omega)]; exact h
theorem iz_div {a b : Int} (h : (0 ≤ a ∧ a < 2147483648) ∧ 0 < b ∧ b < 2147483648) : iz a / iz b = iz (a / b) := by
  obtain ⟨m, rfl⟩ := Int.eq_ofNat_of_zero_le h.1.1
  obtain ⟨n, rfl⟩ := Int.eq_ofNat_of_zero_le (Int.le_of_lt h.2.1)
  rw [← iz_nI, ← iz_nI, pk_div (by omega) (by omega) (by omega), iz_nI]; rfl
theorem iz_rem {a b : Int} (h : (0 ≤ a ∧ a < 2147483648) ∧ 0 < b ∧ b < 2147483648) : iz a - iz a / iz b * iz b = iz (a % b) := by
  rw [iz_div h, iz_mul, iz_sub, Int.emod_def, Int.mul_comm]
theorem ize : (0 : Int32) = iz 0 ∧ (1 : Int32) = iz 1 ∧ (2 : Int32) = iz 2 ∧ (3 : Int32) = iz 3 ∧ (4 : Int32) = iz 4 ∧ (5 : Int32) = iz 5 ∧ (6 : Int32) = iz 6 ∧ (7 : Int32) = iz 7 ∧ (8 : Int32) = iz 8 ∧ (9 : Int32) = iz 9 ∧ (10 : Int32) = iz 10 ∧ (16 : Int32) = iz 16 ∧ (30 : Int32) = iz 30 ∧ (40 : Int32) = iz 40 ∧ (50 : Int32) = iz 50 ∧ (64 : Int32) = iz 64 ∧ (99 : Int32) = iz 99 ∧ (100 : Int32) = iz 100 ∧ (200 : Int32) = iz 200 ∧ (500 : Int32) = iz 500 ∧ (1000 : Int32) = iz 1000 ∧ (5000 : Int32) = iz 5000 ∧ (6000 : Int32) = iz 6000 ∧ (1000000 : Int32) = iz 1000000 ∧ ∀ a : Int, -iz a = iz (-a) := by
  refine ⟨?_, ?_, ?_, ?_, ?_, ?_, ?_, ?_, ?_, ?_, ?_, ?_, ?_, ?_, ?_, ?_, ?_, ?_, ?_, ?_, ?_, ?_, ?_, ?_, iz_neg⟩ <;> rfl
theorem lz_of (x : Int64) : lz x.toInt = x := Int64.ofInt_toInt x
theorem lz_toInt {z : Int} (h : -9223372036854775808 ≤ z ∧ z < 9223372036854775808) : (lz z).toInt = z := Int64.toInt_ofInt_of_le (by omega) (by omega)
theorem iz_l {z : Int} (h : -2147483648 ≤ z ∧ z < 2147483648) : (iz z).toInt64 = lz z := by
  rw [← Int64.toInt_inj, Int32.toInt_toInt64, iz_toInt h, lz_toInt (by omega)]
theorem l_iz (x : Int32) : x.toInt64 = lz x.toInt := by
  rw [← Int64.toInt_inj, Int32.toInt_toInt64, lz_toInt (by have := i_rng x; omega)]
theorem lz_le {a b : Int} (h : (-9223372036854775808 ≤ a ∧ a < 9223372036854775808) ∧ -9223372036854775808 ≤ b ∧ b < 9223372036854775808) : (lz a ≤ lz b) = (a ≤ b) := by
  rw [Int64.le_iff_toInt_le, lz_toInt h.1, lz_toInt h.2]
theorem lz_lt {a b : Int} (h : (-9223372036854775808 ≤ a ∧ a < 9223372036854775808) ∧ -9223372036854775808 ≤ b ∧ b < 9223372036854775808) : (lz a < lz b) = (a < b) := by
  rw [Int64.lt_iff_toInt_lt, lz_toInt h.1, lz_toInt h.2]
theorem lz_eq {a b : Int} (h : (-9223372036854775808 ≤ a ∧ a < 9223372036854775808) ∧ -9223372036854775808 ≤ b ∧ b < 9223372036854775808) : (lz a = lz b) = (a = b) := by
  rw [← Int64.toInt_inj, lz_toInt h.1, lz_toInt h.2]
theorem l_rng (x : Int64) : -9223372036854775808 ≤ x.toInt ∧ x.toInt < 9223372036854775808 := ⟨Int64.le_toInt x, Int64.toInt_lt x⟩
theorem lz_i {z : Int} (h : -2147483648 ≤ z ∧ z < 2147483648) : (lz z).toInt32 = iz z := by
  rw [← Int32.toInt_inj, Int64.toInt_toInt32, lz_toInt (by omega), iz_toInt h]
  exact Int.bmod_eq_of_le (by omega) (by omega)
def bz (b : Bool) : Int32 := if b then 1 else 0
theorem bz_0 (b : Bool) : (bz b = 0) = (b = false) := by cases b <;> simp [bz]
theorem bz_1 (b : Bool) : (bz b = 1) = (b = true) := by cases b <;> simp [bz]
theorem bz_or (b : Bool) : bz b = 0 ∨ bz b = 1 := by cases b <;> simp [bz]
theorem nar_0 : vp_nar .boolean 0 = 0 := rfl
theorem nar_1 : vp_nar .boolean 1 = 1 := rfl
theorem nar_z (b : Bool) : vp_nar .boolean (bz b) = bz b := by cases b <;> rfl
theorem upd_s (f : Nat → Int32) (k : Nat) (x : Int32) : upd f k x k = x := by simp [upd]
theorem upd_n (f : Nat → Int32) {k j : Nat} (x : Int32) (h : j ≠ k) : upd f k x j = f j := by simp [upd, h]
theorem upL_s (f : Nat → Int64) (k : Nat) (x : Int64) : vp_updL f k x k = x := by simp [vp_updL]
theorem upL_n (f : Nat → Int64) {k j : Nat} (x : Int64) (h : j ≠ k) : vp_updL f k x j = f j := by simp [vp_updL, h]
theorem upD_s (f : Nat → UInt64) (k : Nat) (x : UInt64) : vf_upd f k x k = x := by simp [vf_upd]
theorem upD_n (f : Nat → UInt64) {k j : Nat} (x : UInt64) (h : j ≠ k) : vf_upd f k x j = f j := by simp [vf_upd, h]
