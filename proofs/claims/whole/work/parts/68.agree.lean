/-! ===== own: class and reference agree, a call ===== -/
/-- a truth value -/
def bz (x : Int32) : Int32 := if x = 0 then 0 else 1
theorem bz_ok (x : Int32) : (bz x = 0 ∨ bz x = 1) ∧ narrow .boolean (.int (bz x)) = .int (bz x) := by
  unfold bz
  split
  · exact ⟨.inl rfl, rfl⟩
  · exact ⟨.inr rfl, rfl⟩
def A1_stop (h : Hp) (x : Int32) : Hp := loI (F_X8_stop h x).1 ((F_X8_stop h x).2)
theorem ag_stop {S : Nat → Int32} {n : Nat} {h : Hp} (I : Inv S n h) (x : Int32) : AG S n [cy_e1, cy_e2] (F_X8_stop h x).1 (A1_stop h x) (F_X9_stop (A1_stop h x) x).2 (xAL (F_X9_stop (A1_stop h x) x).2 0 = (F_X9_stop (A1_stop h x) x).1.toInt64) := by sorry
def A1_footway (h : Hp) (a b mi : Int32) : Hp := loI (F_X8_footway h a b mi).1 ((F_X8_footway h a b mi).2)
theorem ag_footway {S : Nat → Int32} {n : Nat} {h : Hp} (I : Inv S n h) (a b mi : Int32) : AG S n [cy_e3, cy_e1] (F_X8_footway h a b mi).1 (A1_footway h a b mi) (F_X9_footway (A1_footway h a b mi) a b mi).2 (xAL (F_X9_footway (A1_footway h a b mi) a b mi).2 0 = (F_X9_footway (A1_footway h a b mi) a b mi).1.toInt64) := by sorry
def A1_trip (h : Hp) (mo fi se da s mi : Int32) : Hp := loI (F_X8_trip h mo fi se da s mi).1 ((F_X8_trip h mo fi se da s mi).2)
theorem ag_trip {S : Nat → Int32} {n : Nat} {h : Hp} (I : Inv S n h) (mo fi se da s mi : Int32) : AG S n [cy_e3, cy_e1, cy_e2] (F_X8_trip h mo fi se da s mi).1 (A1_trip h mo fi se da s mi) (F_X9_trip (A1_trip h mo fi se da s mi) mo fi se da s mi).2 (xAL (F_X9_trip (A1_trip h mo fi se da s mi) mo fi se da s mi).2 0 = (F_X9_trip (A1_trip h mo fi se da s mi) mo fi se da s mi).1.toInt64) := by sorry
def A1_calls (h : Hp) (t s ri wa : Int32) : Hp := loI (F_X8_calls h t s ri wa).1 ((F_X8_calls h t s ri wa).2)
theorem ag_calls_L {S : Nat → Int32} {n : Nat} {h : Hp} (I : Inv S n h) (t s ri wa : Int32) : okR t 0 (xFI (A1_calls h t s ri wa) 1003 0 - 1) → ¬ xAI (A1_calls h t s ri wa) 46 0 t.toNatClampNeg ≤ 0 := by sorry
theorem ag_calls {S : Nat → Int32} {n : Nat} {h : Hp} (I : Inv S n h) (t s ri wa : Int32) : AG S n [cy_e3, cy_e1, cy_e2] (F_X8_calls h t s ri wa).1 (A1_calls h t s ri wa) (F_X9_calls (A1_calls h t s ri wa) t s ri wa).2 (xAL (F_X9_calls (A1_calls h t s ri wa) t s ri wa).2 0 = (F_X9_calls (A1_calls h t s ri wa) t s ri wa).1.toInt64) := by sorry
def A1_runs (h : Hp) (t dy v : Int32) : Hp := loB (F_X8_runs h t dy v).1 ((F_X8_runs h t dy v).2)
theorem ag_runs {S : Nat → Int32} {n : Nat} {h : Hp} (I : Inv S n h) (t dy v : Int32) (hv : v = 0 ∨ v = 1) : AG S n [cy_e3, cy_e1] (F_X8_runs h t dy v).1 (A1_runs h t dy v) (F_X9_runs (A1_runs h t dy v) t dy v).2 (xAL (F_X9_runs (A1_runs h t dy v) t dy v).2 0 = if (F_X9_runs (A1_runs h t dy v) t dy v).1 = 0 then 0 else 1) := by sorry
def A1_delay (h : Hp) (t dy mi : Int32) : Hp := loI (F_X8_delay h t dy mi).1 ((F_X8_delay h t dy mi).2)
theorem ag_delay {S : Nat → Int32} {n : Nat} {h : Hp} (I : Inv S n h) (t dy mi : Int32) : AG S n [cy_e3, cy_e1] (F_X8_delay h t dy mi).1 (A1_delay h t dy mi) (F_X9_delay (A1_delay h t dy mi) t dy mi).2 (xAL (F_X9_delay (A1_delay h t dy mi) t dy mi).2 0 = (F_X9_delay (A1_delay h t dy mi) t dy mi).1.toInt64) := by sorry
def A1_note (h : Hp) (t mi : Int32) : Hp := loI (F_X8_note h t mi).1 ((F_X8_note h t mi).2)
theorem ag_note {S : Nat → Int32} {n : Nat} {h : Hp} (I : Inv S n h) (t mi : Int32) : AG S n [cy_e3, cy_e1, cy_e2] (F_X8_note h t mi).1 (A1_note h t mi) (F_X9_note (A1_note h t mi) t mi).2 (xAL (F_X9_note (A1_note h t mi) t mi).2 0 = (F_X9_note (A1_note h t mi) t mi).1.toInt64) := by sorry
def A1_prices (h : Hp) (f ba ce su : Int32) : Hp := loV (F_X8_prices h f ba ce su).1 ((F_X8_prices h f ba ce su).2)
theorem ag_prices {S : Nat → Int32} {n : Nat} {h : Hp} (I : Inv S n h) (f ba ce su : Int32) : AG S n [cy_e3, cy_e1] (F_X8_prices h f ba ce su).1 (A1_prices h f ba ce su) (F_X9_prices (A1_prices h f ba ce su) f ba ce su) (True) := by sorry
def A1_arrival (h : Hp) (a b ti n : Int32) : Hp := loI (F_X8_arrival h a b ti n).1 ((F_X8_arrival h a b ti n).2)
theorem ag_arrival {S : Nat → Int32} {n : Nat} {h : Hp} (I : Inv S n h) (a b ti n : Int32) : AG S n [cy_e3, cy_e1] (F_X8_arrival h a b ti n).1 (A1_arrival h a b ti n) (F_X9_arrival (A1_arrival h a b ti n) a b ti n).2 (xAL (F_X9_arrival (A1_arrival h a b ti n) a b ti n).2 0 = (F_X9_arrival (A1_arrival h a b ti n) a b ti n).1.toInt64) := by sorry
def A1_arrivalAnew (h : Hp) (a b ti n : Int32) : Hp := loI (F_X8_arrivalAnew h a b ti n).1 ((F_X8_arrivalAnew h a b ti n).2)
theorem ag_arrivalAnew {S : Nat → Int32} {n : Nat} {h : Hp} (I : Inv S n h) (a b ti n : Int32) : AG S n [cy_e3, cy_e1] (F_X8_arrivalAnew h a b ti n).1 (A1_arrivalAnew h a b ti n) (F_X9_arrivalAnew (A1_arrivalAnew h a b ti n) a b ti n).2 (xAL (F_X9_arrivalAnew (A1_arrivalAnew h a b ti n) a b ti n).2 0 = (F_X9_arrivalAnew (A1_arrivalAnew h a b ti n) a b ti n).1.toInt64) := by sorry
def A1_front (h : Hp) (a b ti : Int32) : Hp := loI (F_X8_front h a b ti).1 ((F_X8_front h a b ti).2)
theorem ag_front {S : Nat → Int32} {n : Nat} {h : Hp} (I : Inv S n h) (a b ti : Int32) : AG S n [cy_e3, cy_e1] (F_X8_front h a b ti).1 (A1_front h a b ti) (F_X9_front (A1_front h a b ti) a b ti).2 (xAL (F_X9_front (A1_front h a b ti) a b ti).2 0 = (F_X9_front (A1_front h a b ti) a b ti).1.toInt64) := by sorry
def A1_ride (h : Hp) (a b ti n ri wh : Int32) : Hp := loI (F_X8_ride h a b ti n ri wh).1 ((F_X8_ride h a b ti n ri wh).2)
theorem ag_ride {S : Nat → Int32} {n : Nat} {h : Hp} (I : Inv S n h) (a b ti n ri wh : Int32) : AG S n [cy_e3, cy_e1] (F_X8_ride h a b ti n ri wh).1 (A1_ride h a b ti n ri wh) (F_X9_ride (A1_ride h a b ti n ri wh) a b ti n ri wh).2 (xAL (F_X9_ride (A1_ride h a b ti n ri wh) a b ti n ri wh).2 0 = (F_X9_ride (A1_ride h a b ti n ri wh) a b ti n ri wh).1.toInt64) := by sorry
def A1_journey (h : Hp) (a b ti n wh : Int32) : Hp := loD (F_X8_journey h a b ti n wh).1 ((F_X8_journey h a b ti n wh).2)
theorem ag_journey {S : Nat → Int32} {n : Nat} {h : Hp} (I : Inv S n h) (a b ti n wh : Int32) : AG S n [cy_e3, cy_e1] (F_X8_journey h a b ti n wh).1 (A1_journey h a b ti n wh) (F_X9_journey (A1_journey h a b ti n wh) a b ti n wh).2 (xAD (F_X9_journey (A1_journey h a b ti n wh) a b ti n wh).2 0 = (F_X9_journey (A1_journey h a b ti n wh) a b ti n wh).1) := by sorry
def A1_best (h : Hp) (a b ti : Int32) : Hp := loI (F_X8_best h a b ti).1 ((F_X8_best h a b ti).2)
theorem ag_best {S : Nat → Int32} {n : Nat} {h : Hp} (I : Inv S n h) (a b ti : Int32) : AG S n [cy_e3, cy_e1] (F_X8_best h a b ti).1 (A1_best h a b ti) (F_X9_best (A1_best h a b ti) a b ti).2 (xAL (F_X9_best (A1_best h a b ti) a b ti).2 0 = (F_X9_best (A1_best h a b ti) a b ti).1.toInt64) := by sorry
def A1_book (h : Hp) (a b ti n : Int32) : Hp := loI (F_X8_book h a b ti n).1 ((F_X8_book h a b ti n).2)
theorem ag_book {S : Nat → Int32} {n : Nat} {h : Hp} (I : Inv S n h) (a b ti n : Int32) : AG S n [cy_e3, cy_e1, cy_e2] (F_X8_book h a b ti n).1 (A1_book h a b ti n) (F_X9_book (A1_book h a b ti n) a b ti n).2 (xAL (F_X9_book (A1_book h a b ti n) a b ti n).2 0 = (F_X9_book (A1_book h a b ti n) a b ti n).1.toInt64) := by sorry
def A1_buy (h : Hp) (x : Int32) : Hp := loI (F_X8_buy h x).1 ((F_X8_buy h x).2)
theorem ag_buy {S : Nat → Int32} {n : Nat} {h : Hp} (I : Inv S n h) (x : Int32) : AG S n [cy_e3, cy_e2] (F_X8_buy h x).1 (A1_buy h x) (F_X9_buy (A1_buy h x) x).2 (xAL (F_X9_buy (A1_buy h x) x).2 0 = (F_X9_buy (A1_buy h x) x).1.toInt64) := by sorry
def A1_right (h : Hp) (x : Int32) : Hp := loI (F_X8_right h x) h
theorem ag_right {S : Nat → Int32} {n : Nat} {h : Hp} (I : Inv S n h) (x : Int32) : AG S n [cy_e3] (F_X8_right h x) (A1_right h x) (F_X9_right (A1_right h x) x).2 (xAL (F_X9_right (A1_right h x) x).2 0 = (F_X9_right (A1_right h x) x).1.toInt64) := by sorry
def A1_claim (h : Hp) (x : Int32) : Hp := loI (F_X8_claim h x).1 ((F_X8_claim h x).2)
theorem ag_claim {S : Nat → Int32} {n : Nat} {h : Hp} (I : Inv S n h) (x : Int32) : AG S n [cy_e3, cy_e2] (F_X8_claim h x).1 (A1_claim h x) (F_X9_claim (A1_claim h x) x).2 (xAL (F_X9_claim (A1_claim h x) x).2 0 = (F_X9_claim (A1_claim h x) x).1.toInt64) := by sorry
def A1_concerned (h : Hp) (t dy : Int32) : Hp := loI (F_X8_concerned h t dy) h
theorem ag_concerned {S : Nat → Int32} {n : Nat} {h : Hp} (I : Inv S n h) (t dy : Int32) : AG S n [cy_e3, cy_e1] (F_X8_concerned h t dy) (A1_concerned h t dy) (F_X9_concerned (A1_concerned h t dy) t dy).2 (xAL (F_X9_concerned (A1_concerned h t dy) t dy).2 0 = (F_X9_concerned (A1_concerned h t dy) t dy).1.toInt64) := by sorry
def A1_seats (h : Hp) (t dy : Int32) : Hp := loI (F_X8_seats h t dy) h
theorem ag_seats {S : Nat → Int32} {n : Nat} {h : Hp} (I : Inv S n h) (t dy : Int32) : AG S n [cy_e3, cy_e1] (F_X8_seats h t dy) (A1_seats h t dy) (F_X9_seats (A1_seats h t dy) t dy).2 (xAL (F_X9_seats (A1_seats h t dy) t dy).2 0 = (F_X9_seats (A1_seats h t dy) t dy).1.toInt64) := by sorry
def A1_pass (h : Hp) (x : Int32) : Hp := loI (F_X8_pass h x).1 ((F_X8_pass h x).2)
theorem ag_pass {S : Nat → Int32} {n : Nat} {h : Hp} (I : Inv S n h) (x : Int32) : AG S n [cy_e1] (F_X8_pass h x).1 (A1_pass h x) (F_X9_pass (A1_pass h x) x).2 (xAL (F_X9_pass (A1_pass h x) x).2 0 = (F_X9_pass (A1_pass h x) x).1.toInt64) := by sorry
def A1_ofBooking (h : Hp) (x wh : Int32) : Hp := loI (F_X8_ofBooking h x wh) h
theorem ag_ofBooking {S : Nat → Int32} {n : Nat} {h : Hp} (I : Inv S n h) (x wh : Int32) : AG S n [cy_e3, cy_e1] (F_X8_ofBooking h x wh) (A1_ofBooking h x wh) (F_X9_ofBooking (A1_ofBooking h x wh) x wh).2 (xAL (F_X9_ofBooking (A1_ofBooking h x wh) x wh).2 0 = (F_X9_ofBooking (A1_ofBooking h x wh) x wh).1.toInt64) := by sorry
