/-! ===== own: doubles that are numbers ===== -/
theorem cy_ddivN {x y : Int32} (hy : ¬ y = 0) : vf_n64 (FP.ddiv (FP.i2d x) (FP.i2d y)) := by sorry
/-- a number from 0 to 1 -/
def U1 (x : UInt64) : Prop := x.toNat ≤ 0x3ff0000000000000
theorem u1_one : U1 FP.dconst1 := by sorry
theorem u1_mul {x y : UInt64} (hx : U1 x) (hy : U1 y) : vf_n64 (FP.dmul x y) ∧ U1 (FP.dmul x y) := by sorry
/-- each trip's notes are counted right -/
def OkN (h : Hp) : Prop := ∀ t, t < xLS h 11 → ∃ n : Nat, n ≤ 30 ∧ xFI h 811 t = nI n
/-- the modes of a chain's trips -/
def OkC (h : Hp) (R : List Nat) : Prop := ∀ r ∈ R, ∃ m : Nat, m < 3 ∧ xFI h 801 (tr h r) = nI m
