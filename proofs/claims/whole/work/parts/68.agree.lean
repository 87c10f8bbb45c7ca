/-! ===== own: class and reference agree, a call ===== -/
/-- a truth value -/
def bz (x : Int32) : Int32 := if x = 0 then 0 else 1
theorem bz_ok (x : Int32) : (bz x = 0 ∨ bz x = 1) ∧ narrow .boolean (.int (bz x)) = .int (bz x) := by
  unfold bz
  split
  · exact ⟨.inl rfl, rfl⟩
  · exact ⟨.inr rfl, rfl⟩
