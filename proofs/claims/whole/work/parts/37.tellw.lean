/-! ===== own: a ride that is found ===== -/
theorem rt_spec {h : Hp} (W : CW h) (s k : Int32) (o : Option Nat) : ((F_X5_rideTo h s k o).1 = none ∧ (F_X5_rideTo h s k o).2 = h) ∨ ∃ t dy bo le, t < xLS h 11 ∧ F_X5_rideTo h s k o = (some (xCN h 5), F_X4_init (sNO h 5) (xCN h 5) t dy bo le o) := by sorry
theorem rt_W {h : Hp} (W : CW h) (s k : Int32) (o : Option Nat) : CW (F_X5_rideTo h s k o).2 := by sorry
theorem rt_some {h : Hp} (W : CW h) {s k : Int32} {o : Option Nat} (he : ¬ (F_X5_rideTo h s k o).1 = none) : (F_X5_rideTo h s k o).1 = some (xCN h 5) ∧ xFR (F_X5_rideTo h s k o).2 500 (xCN h 5) = some (tr (F_X5_rideTo h s k o).2 (xCN h 5)) ∧ tr (F_X5_rideTo h s k o).2 (xCN h 5) < xLS (F_X5_rideTo h s k o).2 11 := by sorry
