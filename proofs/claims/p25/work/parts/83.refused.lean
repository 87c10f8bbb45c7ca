/-! ===== own: what is refused ===== -/
theorem rs_e3 : rsI (.inr cy_e3) = -2000000001 := by decide +kernel
theorem rs_e1 : rsI (.inr cy_e1) = -2000000002 := by decide +kernel
theorem rd_e1 : rsD (.inr cy_e1) = 13969547452856926208 := by decide +kernel
theorem no_S {h : Hp} {n k : Nat} (hn : xFI h 403 0 = nI n) (n10 : n ≤ 10) (hk : ¬ k < n) (hk2 : k < 2147483648) : ¬ okS h (nI k) := fun z => by
  obtain ⟨m, hm, e⟩ := (okS_iff hn n10).mp z
  have := nI_inj hk2 (by omega) e
  omega
theorem no_T {h : Hp} (W : CW h) {k : Nat} (hk : ¬ k < xLS h 11) (hk2 : k < 2147483648) : ¬ okT h (nI k) := fun z => by
  obtain ⟨m, hm, e⟩ := (okT_iff W).mp z
  have h20 := W.t20
  have := nI_inj hk2 (by omega) e
  omega
theorem no_B {h : Hp} (W : CW h) {k : Nat} (hk : ¬ k < xLS h 12) (hk2 : k < 2147483648) : ¬ okB h (nI k) := fun z => by
  obtain ⟨m, hm, e⟩ := (okB_iff W).mp z
  have h30 := W.b30
  have := nI_inj hk2 (by omega) e
  omega
theorem no_Sm {h : Hp} : ¬ okS h (-1) := fun z => absurd z.1 (by decide)
theorem no_Tm {h : Hp} : ¬ okT h (-1) := fun z => absurd z.1 (by decide)
theorem no_Bm {h : Hp} : ¬ okB h (-1) := fun z => absurd z.1 (by decide)
theorem no_Fm : ¬ okF (-1) := fun z => absurd z.1 (by decide)
theorem ew_o {h : Hp} {a b : Int32} (q : ¬ (okS h a ∧ okS h b)) : eW h a b = cy_e3 := if_neg q
theorem ew_b {h : Hp} {a b : Int32} (q : okS h a ∧ okS h b) : eW h a b = cy_e1 := if_pos q
theorem ok_o {h : Hp} {a b ti : Int32} (q : ¬ (okS h a ∧ okS h b)) : ¬ okW h a b ti := fun z => q z.1
theorem rf_stop {h : Hp} (x : Int32) (q : ¬ okR x 0 60) : V_stop h x = -2000000002 ∧ (F_X8_stop h x).2 = h := by
  have eF : F_X8_stop h x = (.inr cy_e1, h) := by
    unfold F_X8_stop
    rw [if_neg q]
  exact ⟨by show rsI _ = _; rw [eF]; exact rs_e1, by rw [eF]⟩
theorem rf_footway {h : Hp} (a b mi : Int32) (q : ¬ okS h a) : V_footway h a b mi = -2000000001 ∧ (F_X8_footway h a b mi).2 = h := by
  have eF : F_X8_footway h a b mi = (.inr cy_e3, h) := by
    unfold F_X8_footway
    rw [if_neg q]
  exact ⟨by show rsI _ = _; rw [eF]; exact rs_e3, by rw [eF]⟩
theorem rf_footway2 {h : Hp} (a b mi : Int32) (q : okS h a) (r : okS h b) (e : a = b) : V_footway h a b mi = -2000000002 ∧ (F_X8_footway h a b mi).2 = h := by
  have eF : F_X8_footway h a b mi = (.inr cy_e1, h) := by
    unfold F_X8_footway
    rw [if_pos q, if_pos r, if_pos e]
  exact ⟨by show rsI _ = _; rw [eF]; exact rs_e1, by rw [eF]⟩
theorem rf_footway3 {h : Hp} (a b mi : Int32) (q : okS h a) (r : okS h b) (e : ¬ a = b) (u : ¬ mi = 0) (w : ¬ okR mi (-1) 120) : V_footway h a b mi = -2000000002 ∧ (F_X8_footway h a b mi).2 = h := by
  have eF : F_X8_footway h a b mi = (.inr cy_e1, h) := by
    unfold F_X8_footway
    rw [if_pos q, if_pos r, if_neg e, if_neg u, if_neg w]
  exact ⟨by show rsI _ = _; rw [eF]; exact rs_e1, by rw [eF]⟩
theorem rf_calls {h : Hp} (t s ri wa : Int32) (q : ¬ okT h t) : V_calls h t s ri wa = -2000000001 ∧ (F_X8_calls h t s ri wa).2 = h := by
  have eF : F_X8_calls h t s ri wa = (.inr cy_e3, h) := by
    unfold F_X8_calls
    rw [if_neg q]
  exact ⟨by show rsI _ = _; rw [eF]; exact rs_e3, by rw [eF]⟩
theorem rf_runs {h : Hp} (t dy v : Int32) (q : ¬ okT h t) : V_runs h t dy v = -2000000001 ∧ (F_X8_runs h t dy (if v = 1 then 1 else 0)).2 = h := by
  have eF : F_X8_runs h t dy (if v = 1 then 1 else 0) = (.inr cy_e3, h) := by
    unfold F_X8_runs
    rw [if_neg q]
  exact ⟨by show rsI _ = _; rw [eF]; exact rs_e3, by rw [eF]⟩
theorem rf_delay {h : Hp} (t dy mi : Int32) (q : ¬ okT h t) : V_delay h t dy mi = -2000000001 ∧ (F_X8_delay h t dy mi).2 = h := by
  have eF : F_X8_delay h t dy mi = (.inr cy_e3, h) := by
    unfold F_X8_delay
    rw [if_neg q]
  exact ⟨by show rsI _ = _; rw [eF]; exact rs_e3, by rw [eF]⟩
theorem rf_note {h : Hp} (t mi : Int32) (q : ¬ okT h t) : V_note h t mi = -2000000001 ∧ (F_X8_note h t mi).2 = h := by
  have eF : F_X8_note h t mi = (.inr cy_e3, h) := by
    unfold F_X8_note
    rw [if_neg q]
  exact ⟨by show rsI _ = _; rw [eF]; exact rs_e3, by rw [eF]⟩
theorem rf_prices {h : Hp} (f ba ce su : Int32) (q : ¬ okF f) : V_prices h f ba ce su = -2000000001 ∧ (F_X8_prices h f ba ce su).2 = h := by
  have eF : F_X8_prices h f ba ce su = (.inr cy_e3, h) := by
    unfold F_X8_prices
    rw [if_neg q]
  exact ⟨by show rsI _ = _; rw [eF]; exact rs_e3, by rw [eF]⟩
theorem rf_prices2 {h : Hp} (f ba ce su : Int32) (q : okF f) (r : ¬ okR ba 0 10000) : V_prices h f ba ce su = -2000000002 ∧ (F_X8_prices h f ba ce su).2 = h := by
  have eF : F_X8_prices h f ba ce su = (.inr cy_e1, h) := by
    unfold F_X8_prices
    rw [if_pos q, if_neg r]
  exact ⟨by show rsI _ = _; rw [eF]; exact rs_e1, by rw [eF]⟩
theorem rf_trip {h : Hp} (mo fi se da s mi : Int32) (q : ¬ okF fi) : V_trip h mo fi se da s mi = -2000000001 ∧ (F_X8_trip h mo fi se da s mi).2 = h := by
  have eF : F_X8_trip h mo fi se da s mi = (.inr cy_e3, h) := by
    unfold F_X8_trip
    rw [if_neg q]
  exact ⟨by show rsI _ = _; rw [eF]; exact rs_e3, by rw [eF]⟩
theorem rf_trip2 {h : Hp} (mo fi se da s mi : Int32) (q : okF fi) (r : ¬ okS h s) : V_trip h mo fi se da s mi = -2000000001 ∧ (F_X8_trip h mo fi se da s mi).2 = h := by
  have eF : F_X8_trip h mo fi se da s mi = (.inr cy_e3, h) := by
    unfold F_X8_trip
    rw [if_pos q, if_neg r]
  exact ⟨by show rsI _ = _; rw [eF]; exact rs_e3, by rw [eF]⟩
theorem rf_arrival {h : Hp} (a b ti n : Int32) (q : ¬ (okS h a ∧ okS h b)) : V_arrival h a b ti n = -2000000001 := by
  have eF : (F_X8_arrival h a b ti n).1 = .inr cy_e3 := by
    unfold F_X8_arrival
    rw [if_neg (ok_o q), ew_o q]
  show rsI _ = _
  rw [eF]
  exact rs_e3
theorem rf_arrival2 {h : Hp} (a b ti n : Int32) (q : okS h a ∧ okS h b) (r : ¬ okW h a b ti) : V_arrival h a b ti n = -2000000002 := by
  have eF : (F_X8_arrival h a b ti n).1 = .inr cy_e1 := by
    unfold F_X8_arrival
    rw [if_neg r, ew_b q]
  show rsI _ = _
  rw [eF]
  exact rs_e1
theorem rf_front {h : Hp} (a b ti : Int32) (q : ¬ (okS h a ∧ okS h b)) : V_front h a b ti = -2000000001 := by
  have eF : (F_X8_front h a b ti).1 = .inr cy_e3 := by
    unfold F_X8_front
    rw [if_neg (ok_o q), ew_o q]
  show rsI _ = _
  rw [eF]
  exact rs_e3
theorem rf_front2 {h : Hp} (a b ti : Int32) (q : okS h a ∧ okS h b) (r : ¬ okW h a b ti) : V_front h a b ti = -2000000002 := by
  have eF : (F_X8_front h a b ti).1 = .inr cy_e1 := by
    unfold F_X8_front
    rw [if_neg r, ew_b q]
  show rsI _ = _
  rw [eF]
  exact rs_e1
theorem rf_best {h : Hp} (a b ti : Int32) (q : ¬ (okS h a ∧ okS h b)) : V_best h a b ti = -2000000001 := by
  have eF : (F_X8_best h a b ti).1 = .inr cy_e3 := by
    unfold F_X8_best
    rw [if_neg (ok_o q), ew_o q]
  show rsI _ = _
  rw [eF]
  exact rs_e3
theorem rf_best2 {h : Hp} (a b ti : Int32) (q : okS h a ∧ okS h b) (r : ¬ okW h a b ti) : V_best h a b ti = -2000000002 := by
  have eF : (F_X8_best h a b ti).1 = .inr cy_e1 := by
    unfold F_X8_best
    rw [if_neg r, ew_b q]
  show rsI _ = _
  rw [eF]
  exact rs_e1
theorem rf_book {h : Hp} (a b ti n : Int32) (q : ¬ (okS h a ∧ okS h b)) : V_book h a b ti n = -2000000001 ∧ N_book h a b ti n = h := by
  have eF : (F_X8_book h a b ti n).1 = .inr cy_e3 := by
    unfold F_X8_book
    rw [if_neg (ok_o q), ew_o q]
  exact ⟨by show rsI _ = _; rw [eF]; exact rs_e3, by unfold N_book; rw [eF]⟩
theorem rf_book2 {h : Hp} (a b ti n : Int32) (q : okS h a ∧ okS h b) (r : ¬ okW h a b ti) : V_book h a b ti n = -2000000002 ∧ N_book h a b ti n = h := by
  have eF : (F_X8_book h a b ti n).1 = .inr cy_e1 := by
    unfold F_X8_book
    rw [if_neg r, ew_b q]
  exact ⟨by show rsI _ = _; rw [eF]; exact rs_e1, by unfold N_book; rw [eF]⟩
theorem rf_book3 {h : Hp} (a b ti n : Int32) (q : okW h a b ti) (r : ¬ okR n 1 4) : V_book h a b ti n = -2000000002 ∧ N_book h a b ti n = h := by
  have eF : (F_X8_book h a b ti n).1 = .inr cy_e1 := by
    unfold F_X8_book
    rw [if_pos q, if_neg r]
  exact ⟨by show rsI _ = _; rw [eF]; exact rs_e1, by unfold N_book; rw [eF]⟩
theorem rf_arrivalAnew {h : Hp} (a b ti n : Int32) (q : ¬ (okS h a ∧ okS h b)) : V_arrivalAnew h a b ti n = -2000000001 ∧ (F_X8_arrivalAnew h a b ti n).2 = h := by
  have eF : F_X8_arrivalAnew h a b ti n = (.inr cy_e3, h) := by
    unfold F_X8_arrivalAnew
    rw [if_neg (ok_o q), ew_o q]
  exact ⟨by show rsI _ = _; rw [eF]; exact rs_e3, by rw [eF]⟩
theorem rf_arrivalAnew3 {h : Hp} (a b ti n : Int32) (q : okW h a b ti) (r : ¬ okR n 1 2) : V_arrivalAnew h a b ti n = -2000000002 ∧ (F_X8_arrivalAnew h a b ti n).2 = h := by
  have eF : F_X8_arrivalAnew h a b ti n = (.inr cy_e1, h) := by
    unfold F_X8_arrivalAnew
    rw [if_pos q, if_neg r]
  exact ⟨by show rsI _ = _; rw [eF]; exact rs_e1, by rw [eF]⟩
theorem rf_ride3 {h : Hp} (a b ti n ri wh : Int32) (q : okW h a b ti) (r : ¬ okR n 1 4) : V_ride h a b ti n ri wh = -2000000002 := by
  have eF : (F_X8_ride h a b ti n ri wh).1 = .inr cy_e1 := by
    unfold F_X8_ride
    rw [if_pos q, if_neg r]
  show rsI _ = _
  rw [eF]
  exact rs_e1
theorem rf_ride4 {h : Hp} (a b ti n ri wh : Int32) (q : okW h a b ti) (r : okR n 1 4) (u : ¬ okR wh 0 5) : V_ride h a b ti n ri wh = -2000000002 := by
  have eF : (F_X8_ride h a b ti n ri wh).1 = .inr cy_e1 := by
    unfold F_X8_ride
    rw [if_pos q, if_pos r, if_neg u]
  show rsI _ = _
  rw [eF]
  exact rs_e1
theorem rf_journey4 {h : Hp} (a b ti n wh : Int32) (q : okW h a b ti) (r : okR n 1 4) (u : ¬ okR wh 0 3) : V_journey h a b ti n wh = 13969547452856926208 := by
  have eF : (F_X8_journey h a b ti n wh).1 = .inr cy_e1 := by
    unfold F_X8_journey
    rw [if_pos q, if_pos r, if_neg u]
  show rsD _ = _
  rw [eF]
  exact rd_e1
theorem rf_buy {h : Hp} (x : Int32) (q : ¬ okB h x) : V_buy h x = -2000000001 ∧ (F_X8_buy h x).2 = h := by
  have eF : F_X8_buy h x = (.inr cy_e3, h) := by
    unfold F_X8_buy
    rw [if_neg q]
  exact ⟨by show rsI _ = _; rw [eF]; exact rs_e3, by rw [eF]⟩
theorem rf_claim {h : Hp} (x : Int32) (q : ¬ okB h x) : V_claim h x = -2000000001 ∧ (F_X8_claim h x).2 = h := by
  have eF : F_X8_claim h x = (.inr cy_e3, h) := by
    unfold F_X8_claim
    rw [if_neg q]
  exact ⟨by show rsI _ = _; rw [eF]; exact rs_e3, by rw [eF]⟩
theorem rf_right {h : Hp} (x : Int32) (q : ¬ okB h x) : V_right h x = -2000000001 := by
  have eF : F_X8_right h x = .inr cy_e3 := by
    unfold F_X8_right
    rw [if_neg q]
  exact by show rsI _ = _; rw [eF]; exact rs_e3
theorem rf_concerned {h : Hp} (t dy : Int32) (q : ¬ okT h t) : V_concerned h t dy = -2000000001 := by
  have eF : F_X8_concerned h t dy = .inr cy_e3 := by
    unfold F_X8_concerned
    rw [if_neg q]
  exact by show rsI _ = _; rw [eF]; exact rs_e3
theorem rf_seats {h : Hp} (t dy : Int32) (q : ¬ okT h t) : V_seats h t dy = -2000000001 := by
  have eF : F_X8_seats h t dy = .inr cy_e3 := by
    unfold F_X8_seats
    rw [if_neg q]
  exact by show rsI _ = _; rw [eF]; exact rs_e3
theorem rf_pass {h : Hp} (x : Int32) (q : ¬ okR x 1 1440) : V_pass h x = -2000000002 ∧ (F_X8_pass h x).2 = h := by
  have eF : F_X8_pass h x = (.inr cy_e1, h) := by
    unfold F_X8_pass
    rw [if_neg q]
  exact ⟨by show rsI _ = _; rw [eF]; exact rs_e1, by rw [eF]⟩
theorem rf_ofBooking {h : Hp} (x wh : Int32) (q : ¬ okB h x) : V_ofBooking h x wh = -2000000001 := by
  have eF : F_X8_ofBooking h x wh = .inr cy_e3 := by
    unfold F_X8_ofBooking
    rw [if_neg q]
  exact by show rsI _ = _; rw [eF]; exact rs_e3
