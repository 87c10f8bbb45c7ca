/-! ===== own: class and reference agree, a call ===== -/
/-- a truth value -/
def bz (x : Int32) : Int32 := if x = 0 then 0 else 1
theorem bz_ok (x : Int32) : (bz x = 0 ∨ bz x = 1) ∧ narrow .boolean (.int (bz x)) = .int (bz x) := by
  unfold bz
  split
  · exact ⟨.inl rfl, rfl⟩
  · exact ⟨.inr rfl, rfl⟩
theorem ag_trip {S : Nat → Int32} {N : Nat} {h : Hp} (I : Inv S N h) (mo fi se da s mi : Int32) : AG S N [cy_e3, cy_e1, cy_e2] (F_X8_trip h mo fi se da s mi).1 (A1_trip h mo fi se da s mi) (F_X9_trip (A1_trip h mo fi se da s mi) mo fi se da s mi).2 (xAL (F_X9_trip (A1_trip h mo fi se da s mi) mo fi se da s mi).2 0 = (F_X9_trip (A1_trip h mo fi se da s mi) mo fi se da s mi).1.toInt64) := by sorry
theorem ag_arrivalAnew {S : Nat → Int32} {N : Nat} {h : Hp} (I : Inv S N h) (a b ti n : Int32) : AG S N [cy_e3, cy_e1] (F_X8_arrivalAnew h a b ti n).1 (A1_arrivalAnew h a b ti n) (F_X9_arrivalAnew (A1_arrivalAnew h a b ti n) a b ti n).2 (xAL (F_X9_arrivalAnew (A1_arrivalAnew h a b ti n) a b ti n).2 0 = (F_X9_arrivalAnew (A1_arrivalAnew h a b ti n) a b ti n).1.toInt64) := by sorry
theorem ag_ride {S : Nat → Int32} {N : Nat} {h : Hp} (I : Inv S N h) (a b ti n ri wh : Int32) : AG S N [cy_e3, cy_e1] (F_X8_ride h a b ti n ri wh).1 (A1_ride h a b ti n ri wh) (F_X9_ride (A1_ride h a b ti n ri wh) a b ti n ri wh).2 (xAL (F_X9_ride (A1_ride h a b ti n ri wh) a b ti n ri wh).2 0 = (F_X9_ride (A1_ride h a b ti n ri wh) a b ti n ri wh).1.toInt64) := by sorry
theorem ag_journey {S : Nat → Int32} {N : Nat} {h : Hp} (I : Inv S N h) (a b ti n wh : Int32) : AG S N [cy_e3, cy_e1] (F_X8_journey h a b ti n wh).1 (A1_journey h a b ti n wh) (F_X9_journey (A1_journey h a b ti n wh) a b ti n wh).2 (xAD (F_X9_journey (A1_journey h a b ti n wh) a b ti n wh).2 0 = (F_X9_journey (A1_journey h a b ti n wh) a b ti n wh).1) := by sorry
theorem ag_best {S : Nat → Int32} {N : Nat} {h : Hp} (I : Inv S N h) (a b ti : Int32) : AG S N [cy_e3, cy_e1] (F_X8_best h a b ti).1 (A1_best h a b ti) (F_X9_best (A1_best h a b ti) a b ti).2 (xAL (F_X9_best (A1_best h a b ti) a b ti).2 0 = (F_X9_best (A1_best h a b ti) a b ti).1.toInt64) := by sorry
theorem ag_book {S : Nat → Int32} {N : Nat} {h : Hp} (I : Inv S N h) (a b ti n : Int32) : AG S N [cy_e3, cy_e1, cy_e2] (F_X8_book h a b ti n).1 (A1_book h a b ti n) (F_X9_book (A1_book h a b ti n) a b ti n).2 (xAL (F_X9_book (A1_book h a b ti n) a b ti n).2 0 = (F_X9_book (A1_book h a b ti n) a b ti n).1.toInt64) := by sorry
