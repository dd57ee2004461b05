/-! ===== numbers that are numbers ===== -/
theorem n64_iff (r : UInt64) : vf_n64 r ↔ r.toNat % 2 ^ 63 ≤ 9218868437227405312 := by
  unfold vf_n64
  rw [UInt64.le_iff_toNat_le, UInt64.toNat_and, show (0x7fffffffffffffff : UInt64).toNat = 2 ^ 63 - 1 from rfl, Nat.and_two_pow_sub_one_eq_mod]
  rfl
theorem n64_0 : vf_n64 FP.dconst0 := by unfold vf_n64; decide +kernel
theorem n64_8 (x : Int32) : vf_n64 (FP.ddiv (FP.i2d x) 4620693217682128896) := by
  rw [n64_iff]
  have h1 := FP.Core.i2d_mag x
  have h2 := FP.Core.ddiv_mag (a := FP.i2d x) (b := 4620693217682128896) (K := 1056) (L := 1026) h1 (by decide +kernel) (by decide +kernel) (by decide) (by decide)
  show (FP.Core.ddiv (FP.i2d x) 4620693217682128896).toNat % 2 ^ 63 ≤ 9218868437227405312
  omega
theorem n64_q (x y : Int32) (hy : y.toInt ≠ 0) : vf_n64 (FP.ddiv (FP.i2d x) (FP.i2d y)) := by
  rw [n64_iff]
  have h1 := FP.Core.i2d_mag x
  have h3 := FP.Core.i2d_big hy
  have h2 := FP.Core.ddiv_mag (a := FP.i2d x) (b := FP.i2d y) (K := 1056) (L := 1023) h1 h3.1 h3.2 (by decide) (by decide)
  show (FP.Core.ddiv (FP.i2d x) (FP.i2d y)).toNat % 2 ^ 63 ≤ 9218868437227405312
  omega
theorem n64_m {d : UInt64} (h : vf_n64 d) : vf_n64 (FP.dmul 4620693217682128896 d) := by
  rw [n64_iff, ← FP.Core.ne_nan] at h ⊢
  have e8 : ∃ s c q, FP.Core.val64 4620693217682128896 = .fin s c q ∧ c ≠ 0 := ⟨false, 4503599627370496, -49, by decide +kernel, by decide⟩
  obtain ⟨s, c, q, e8, hc⟩ := e8
  rw [FP.Core.val64_dmul, e8]
  cases hd : FP.Core.val64 d with
  | nan => exact absurd hd h
  | inf t => simp [FP.Core.exactProduct, hc, FP.Core.round]
  | fin t e r => exact FP.Core.roundRatio_ne_nan _ _ _ _ _
