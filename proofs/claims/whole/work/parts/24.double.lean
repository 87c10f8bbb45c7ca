/-! ===== own: doubles that are numbers ===== -/
/-- a number of no more than 2^k -/
def MG (k : Nat) (x : UInt64) : Prop := ∃ s c q, FP.Core.decode FP.Core.b64 x.toNat = .fin s c q ∧ c * 2 ^ (q + 1074).toNat ≤ 2 ^ (k + 1074)
theorem mg_mono {a b : Nat} {x : UInt64} (h : MG a x) (hab : a ≤ b) : MG b x := by
  obtain ⟨s, c, q, e, hc⟩ := h
  exact ⟨s, c, q, e, Nat.le_trans hc (Nat.pow_le_pow_right (by decide) (by omega))⟩
theorem mg_mul {a b : Nat} {x y : UInt64} (hx : MG a x) (hy : MG b y) (hab : a + b ≤ 1000) : vf_n64 (FP.dmul x y) ∧ MG (a + b) (FP.dmul x y) := by sorry
theorem mg_add {a : Nat} {x y : UInt64} (hx : MG a x) (hy : MG a y) (ha : a ≤ 1000) : vf_n64 (FP.dadd x y) ∧ MG (a + 1) (FP.dadd x y) := by sorry
theorem mg_div {a : Nat} {x : UInt64} {y : Int32} (hx : MG a x) (hy : ¬ y = 0) (ha : a ≤ 1000) : vf_n64 (FP.ddiv x (FP.i2d y)) ∧ MG a (FP.ddiv x (FP.i2d y)) := by sorry
theorem mg_i2d (x : Int32) : MG 31 (FP.i2d x) := by sorry
theorem mg_one : MG 0 FP.dconst1 := by sorry
theorem mg_zero : MG 0 FP.dconst0 := by sorry
theorem cy_ten : (4621819117588971520 : UInt64) = FP.i2d 10 := by decide +kernel
theorem cy_fifteen : (4624633867356078080 : UInt64) = FP.i2d 15 := by decide +kernel
theorem cy_ddivN {x y : Int32} (hy : ¬ y = 0) : vf_n64 (FP.ddiv (FP.i2d x) (FP.i2d y)) := (mg_div (mg_i2d x) hy (by decide)).1
/-- a sum or product that may grow n times as often as R is long -/
def DS (n : Nat) (c : UInt64) (R : List Nat) : Prop := ∃ k, 62 ≤ k ∧ MG k c ∧ k + n * R.length ≤ 900
theorem ds_mul {c y : UInt64} {r : Nat} {R : List Nat} (h : DS 31 c (r :: R)) (hy : MG 31 y) : vf_n64 (FP.dmul c y) ∧ DS 31 (FP.dmul c y) R := by
  obtain ⟨k, h1, h2, h3⟩ := h
  rw [List.length_cons] at h3
  obtain ⟨a, b⟩ := mg_mul h2 hy (by omega)
  exact ⟨a, k + 31, by omega, b, by omega⟩
theorem ds_add {c y : UInt64} {r : Nat} {R : List Nat} (h : DS 1 c (r :: R)) (hy : MG 62 y) : vf_n64 (FP.dadd c y) ∧ DS 1 (FP.dadd c y) R := by
  obtain ⟨k, h1, h2, h3⟩ := h
  rw [List.length_cons] at h3
  obtain ⟨a, b⟩ := mg_add h2 (mg_mono hy h1) (by omega)
  exact ⟨a, k + 1, by omega, b, by omega⟩
theorem ds_one {R : List Nat} (hR : R.length ≤ 5) : DS 31 FP.dconst1 R := ⟨62, by omega, mg_mono mg_one (by omega), by omega⟩
theorem ds_zero {R : List Nat} (hR : R.length ≤ 5) : DS 1 FP.dconst0 R := ⟨62, by omega, mg_mono mg_zero (by omega), by omega⟩
