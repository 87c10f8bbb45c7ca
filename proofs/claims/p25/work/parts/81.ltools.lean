/-! ===== own: calls as the law's methods make them ===== -/
theorem inl_of {r : Rs} (s : shI r) {v : Int32} (e : rsI r = v) (hv : -1000000 ≤ v.toInt) : r = .inl (some (.inl (.int v))) := by
  rcases s with ⟨x, rfl⟩ | rfl | rfl | rfl
  · rw [show x = v from e]
  · rw [← e] at hv
    exact absurd hv (by decide +kernel)
  · rw [← e] at hv
    exact absurd hv (by decide +kernel)
  · rw [← e] at hv
    exact absurd hv (by decide +kernel)
section OT
variable {g : GT} {d : Nat} {h k : Hp} {R : (Nat → Int32) × (Nat → Int32) × Nat}
theorem o_trip (hd : 15 ≤ d) (L : LQ h) (mo fi se da s mi : Int32) (hk : LQ (F_X8_trip h mo fi se da s mi).2) : CL g M_L_trip d 14 400 [.inr (1, some 0), .inl (.int mo), .inl (.int fi), .inl (.int se), .inl (.int da), .inl (.int s), .inl (.int mi)] (h, k, R) (cl_det (.inl (some (.inl (.int (V_trip h mo fi se da s mi))))) ((F_X8_trip h mo fi se da s mi).2, k, R)) := k_trip (q := 1) (w := (h, k, R)) hd (.inl rfl) L mo fi se da s mi hk
theorem t_trip (hd : 15 ≤ d) (L : LQ h) (mo fi se da s mi : Int32) (hk : LQ (F_X8_trip h mo fi se da s mi).2) : CL g M_L_trip d 14 400 [.inr (2, some 0), .inl (.int mo), .inl (.int fi), .inl (.int se), .inl (.int da), .inl (.int s), .inl (.int mi)] (k, h, R) (cl_det (.inl (some (.inl (.int (V_trip h mo fi se da s mi))))) (k, (F_X8_trip h mo fi se da s mi).2, R)) := k_trip (q := 2) (w := (k, h, R)) hd (.inr rfl) L mo fi se da s mi hk
theorem o_ride (hd : 15 ≤ d) (L : LQ h) (a b ti n ri wh : Int32) : CL g M_L_ride d 12 71 [.inr (1, some 0), .inl (.int a), .inl (.int b), .inl (.int ti), .inl (.int n), .inl (.int ri), .inl (.int wh)] (h, k, R) (cl_det (.inl (some (.inl (.int (V_ride h a b ti n ri wh))))) (h, k, R)) := k_ride (q := 1) (w := (h, k, R)) hd (.inl rfl) L a b ti n ri wh
theorem t_ride (hd : 15 ≤ d) (L : LQ h) (a b ti n ri wh : Int32) : CL g M_L_ride d 12 71 [.inr (2, some 0), .inl (.int a), .inl (.int b), .inl (.int ti), .inl (.int n), .inl (.int ri), .inl (.int wh)] (k, h, R) (cl_det (.inl (some (.inl (.int (V_ride h a b ti n ri wh))))) (k, h, R)) := k_ride (q := 2) (w := (k, h, R)) hd (.inr rfl) L a b ti n ri wh
theorem o_journey (hd : 15 ≤ d) (L : LQ h) (a b ti n wh : Int32) (hw : wh = 0 ∨ wh = 1 ∨ wh = 2 ∨ ¬ okR wh 0 3) : CL g M_L_journey d 11 65 [.inr (1, some 0), .inl (.int a), .inl (.int b), .inl (.int ti), .inl (.int n), .inl (.int wh)] (h, k, R) (cl_det (.inl (some (.inl (.double (V_journey h a b ti n wh))))) (h, k, R)) := k_journey (q := 1) (w := (h, k, R)) hd (.inl rfl) L a b ti n wh hw
theorem t_journey (hd : 15 ≤ d) (L : LQ h) (a b ti n wh : Int32) (hw : wh = 0 ∨ wh = 1 ∨ wh = 2 ∨ ¬ okR wh 0 3) : CL g M_L_journey d 11 65 [.inr (2, some 0), .inl (.int a), .inl (.int b), .inl (.int ti), .inl (.int n), .inl (.int wh)] (k, h, R) (cl_det (.inl (some (.inl (.double (V_journey h a b ti n wh))))) (k, h, R)) := k_journey (q := 2) (w := (k, h, R)) hd (.inr rfl) L a b ti n wh hw
-- the object itself asked
theorem q_seats {q : Nat} (hq : q = 1 ∨ q = 2) (hd : 10 ≤ d) (L : LQ h) (t dy : Int32) {v : Int32} (e : V_seats h t dy = v) (hv : -1000000 ≤ v.toInt) : CL g M_X8_seats d 2 12 [.inr (q, some 0), .inl (.int t), .inl (.int dy)] (h, h, R) (cl_det (.inl (some (.inl (.int v)))) (h, h, R)) := by
  rcases hq with rfl | rfl
  · exact detL_to (cl_seats (q := 1) (w := (h, h, R)) (by omega) t dy (.inl rfl) L) (inl_of (sp_seats h t dy) e hv) rfl
  · exact detL_to (cl_seats (q := 2) (w := (h, h, R)) (by omega) t dy (.inr rfl) L) (inl_of (sp_seats h t dy) e hv) rfl
theorem q_concerned {q : Nat} (hq : q = 1 ∨ q = 2) (hd : 10 ≤ d) (L : LQ h) (t dy : Int32) {v : Int32} (e : V_concerned h t dy = v) (hv : -1000000 ≤ v.toInt) : CL g M_X8_concerned d 2 12 [.inr (q, some 0), .inl (.int t), .inl (.int dy)] (h, h, R) (cl_det (.inl (some (.inl (.int v)))) (h, h, R)) := by
  rcases hq with rfl | rfl
  · exact detL_to (cl_concerned (q := 1) (w := (h, h, R)) (by omega) t dy (.inl rfl) L) (inl_of (sp_concerned h t dy L.1) e hv) rfl
  · exact detL_to (cl_concerned (q := 2) (w := (h, h, R)) (by omega) t dy (.inr rfl) L) (inl_of (sp_concerned h t dy L.1) e hv) rfl
theorem q_right {q : Nat} (hq : q = 1 ∨ q = 2) (hd : 10 ≤ d) (L : LQ h) (x : Int32) {v : Int32} (e : V_right h x = v) (hv : -1000000 ≤ v.toInt) : CL g M_X8_right d 1 6 [.inr (q, some 0), .inl (.int x)] (h, h, R) (cl_det (.inl (some (.inl (.int v)))) (h, h, R)) := by
  rcases hq with rfl | rfl
  · exact detL_to (cl_right (q := 1) (w := (h, h, R)) (by omega) x (.inl rfl) L) (inl_of (sp_right h x) e hv) rfl
  · exact detL_to (cl_right (q := 2) (w := (h, h, R)) (by omega) x (.inr rfl) L) (inl_of (sp_right h x) e hv) rfl
theorem q_ofBooking {q : Nat} (hq : q = 1 ∨ q = 2) (hd : 10 ≤ d) (L : LQ h) (x wh : Int32) {v : Int32} (e : V_ofBooking h x wh = v) (hv : -1000000 ≤ v.toInt) : CL g M_X8_ofBooking d 2 12 [.inr (q, some 0), .inl (.int x), .inl (.int wh)] (h, h, R) (cl_det (.inl (some (.inl (.int v)))) (h, h, R)) := by
  rcases hq with rfl | rfl
  · exact detL_to (cl_ofBooking (q := 1) (w := (h, h, R)) (by omega) x wh (.inl rfl) L) (inl_of (sp_ofBooking h x wh) e hv) rfl
  · exact detL_to (cl_ofBooking (q := 2) (w := (h, h, R)) (by omega) x wh (.inr rfl) L) (inl_of (sp_ofBooking h x wh) e hv) rfl
theorem q_arrival {q : Nat} (hq : q = 1 ∨ q = 2) (hd : 10 ≤ d) (L : LQ h) (a b ti n : Int32) {v : Int32} (e : V_arrival h a b ti n = v) (hv : -1000000 ≤ v.toInt) : CL g M_X8_arrival d 5 30 [.inr (q, some 0), .inl (.int a), .inl (.int b), .inl (.int ti), .inl (.int n)] (h, h, R) (cl_det (.inl (some (.inl (.int v)))) (h, h, R)) := by
  rcases hq with rfl | rfl
  · exact detL_to (cl_arrival (q := 1) (w := (h, h, R)) (by omega) a b ti n (.inl rfl) L) (inl_of (sp_arrival h a b ti n) e hv) rfl
  · exact detL_to (cl_arrival (q := 2) (w := (h, h, R)) (by omega) a b ti n (.inr rfl) L) (inl_of (sp_arrival h a b ti n) e hv) rfl
end OT
theorem way_ne {one t n : Nat} (h1 : one < n) (h2 : t < n - 1) : one ≠ (one + 1 + t) % n := by
  by_cases c : one + 1 + t < n
  · rw [Nat.mod_eq_of_lt c]
    omega
  · rw [Nat.mod_eq_sub_mod (by omega), Nat.mod_eq_of_lt (by omega)]
    omega
theorem wd_eq {A B : Hp} {D0 : Nat → Int32} {R : (Nat → Int32) × Nat} {k : Nat} {v : Int32} : wD (A, B, (fun z => if z = k then v else D0 z), R) k = v := if_pos rfl
theorem wd_ne {A B : Hp} {D0 : Nat → Int32} {R : (Nat → Int32) × Nat} {k q : Nat} {v u : Int32} (hq : ¬ q = k) (e : D0 q = u) : wD (A, B, (fun z => if z = k then v else D0 z), R) q = u := (if_neg hq).trans e
