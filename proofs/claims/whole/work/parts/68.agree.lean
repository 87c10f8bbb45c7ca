/-! ===== own: class and reference agree, a call ===== -/
/-- a truth value -/
def bz (x : Int32) : Int32 := if x = 0 then 0 else 1
theorem bz_ok (x : Int32) : (bz x = 0 ∨ bz x = 1) ∧ narrow .boolean (.int (bz x)) = .int (bz x) := by
  unfold bz
  split
  · exact ⟨.inl rfl, rfl⟩
  · exact ⟨.inr rfl, rfl⟩
theorem ag_arrivalAnew {S : Nat → Int32} {N : Nat} {h : Hp} (I : Inv S N h) (a b ti n : Int32) : AG S N [cy_e3, cy_e1] (F_X8_arrivalAnew h a b ti n).1 (A1_arrivalAnew h a b ti n) (F_X9_arrivalAnew (A1_arrivalAnew h a b ti n) a b ti n).2 (xAL (F_X9_arrivalAnew (A1_arrivalAnew h a b ti n) a b ti n).2 0 = (F_X9_arrivalAnew (A1_arrivalAnew h a b ti n) a b ti n).1.toInt64) := by sorry
