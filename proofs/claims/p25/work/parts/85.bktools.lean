/-! ===== own: bookings: what the law's bookings ask ===== -/
section QF
variable {g : GT} {d : Nat} {h : Hp} {R : (Nat → Int32) × (Nat → Int32) × Nat}
theorem qf_ofBooking {q : Nat} (hq : q = 1 ∨ q = 2) (hd : 10 ≤ d) (L : LQ h) (x wh : Int32) {v : Int32} (e : F_X8_ofBooking h x wh = .inl (some (.inl (.int v)))) : CL g M_X8_ofBooking d 2 12 [.inr (q, some 0), .inl (.int x), .inl (.int wh)] (h, h, R) (cl_det (.inl (some (.inl (.int v)))) (h, h, R)) := by
  rcases hq with rfl | rfl
  · exact detL_to (cl_ofBooking (q := 1) (w := (h, h, R)) (by omega) x wh (.inl rfl) L) e rfl
  · exact detL_to (cl_ofBooking (q := 2) (w := (h, h, R)) (by omega) x wh (.inr rfl) L) e rfl
theorem qf_right {q : Nat} (hq : q = 1 ∨ q = 2) (hd : 10 ≤ d) (L : LQ h) (x : Int32) {v : Int32} (e : F_X8_right h x = .inl (some (.inl (.int v)))) : CL g M_X8_right d 1 6 [.inr (q, some 0), .inl (.int x)] (h, h, R) (cl_det (.inl (some (.inl (.int v)))) (h, h, R)) := by
  rcases hq with rfl | rfl
  · exact detL_to (cl_right (q := 1) (w := (h, h, R)) (by omega) x (.inl rfl) L) e rfl
  · exact detL_to (cl_right (q := 2) (w := (h, h, R)) (by omega) x (.inr rfl) L) e rfl
end QF
theorem f_state {h : Hp} (W : CW h) {b : Nat} (hb : b < xLS h 12) : F_X8_ofBooking h (nI b) 0 = .inl (some (.inl (.int (xFI h 103 b)))) ∧ F_X8_ofBooking h (nI b) 1 = .inl (some (.inl (.int (xFI h 101 b)))) ∧ F_X8_right h (nI b) = .inl (some (.inl (.int (F_X0_amount h b)))) := by
  have hcl : (nI b).toNatClampNeg = b := nI_clamp (by have := W.b30; omega)
  refine ⟨?_, ?_, ?_⟩
  · unfold F_X8_ofBooking
    rw [if_pos (okB_mk W hb), if_pos (show okR (0 : Int32) 0 3 by decide), if_pos rfl, hcl]
  · unfold F_X8_ofBooking
    rw [if_pos (okB_mk W hb), if_pos (show okR (1 : Int32) 0 3 by decide), if_neg (by decide), if_pos rfl, hcl]
  · unfold F_X8_right
    rw [if_pos (okB_mk W hb), hcl]
theorem pos_nI {x : Int32} (h : 0 ≤ x.toInt) : ∃ m, m < 2147483648 ∧ x = nI m := by
  have h2 := x.toInt_lt
  refine ⟨x.toInt.toNat, by omega, ?_⟩
  apply Int32.toInt_inj.mp
  rw [nI_toInt (by omega)]
  omega
theorem right_vals {h : Hp} {b : Nat} (hf : 0 ≤ (xFI h 101 b).toInt) : ((F_X0_amount h b).toInt = 0 ∨ (F_X0_amount h b).toInt = (xFI h 101 b).toInt ∨ (F_X0_amount h b).toInt = (xFI h 101 b / 2).toInt ∨ (F_X0_amount h b).toInt = (xFI h 101 b / 4).toInt) ∧ ((xFI h 103 b).toInt = 1 ∨ (F_X0_amount h b).toInt = 0) ∧ 0 ≤ (F_X0_amount h b).toInt := by
  obtain ⟨m, hm, e⟩ := pos_nI hf
  have z0 : (0 : Int32).toInt = 0 := by decide
  have h2 : 0 ≤ (xFI h 101 b / 2).toInt := by
    rw [e, show (2 : Int32) = nI 2 from rfl, nI_qq (by decide) hm (by decide), nI_toInt (by omega)]
    omega
  have h4 : 0 ≤ (xFI h 101 b / 4).toInt := by
    rw [e, show (4 : Int32) = nI 4 from rfl, nI_qq (by decide) hm (by decide), nI_toInt (by omega)]
    omega
  unfold F_X0_amount
  by_cases c : xFI h 103 b = 1
  · rw [if_pos c]
    refine ⟨?_, .inl (by rw [c]; decide), ?_⟩
    · repeat' split
      · exact .inl z0
      · exact .inr (.inr (.inr rfl))
      · exact .inr (.inr (.inl rfl))
      · exact .inr (.inl rfl)
    · repeat' split
      · rw [z0]; exact Int.le_refl _
      · exact h4
      · exact h2
      · exact hf
  · rw [if_neg c]
    exact ⟨.inl z0, .inr z0, Int.le_of_eq z0.symm⟩
theorem IV.seat {h : Hp} {D : Nat → Int32} (I : IV h D) {t : Nat} (ht : t < xLS h 11) : ∃ v k, V_seats h (nI t) 0 = v ∧ 0 ≤ v.toInt ∧ v.toInt ≤ ((k : Nat) : Int) ∧ D (3 + t) = nI k ∧ k ≤ 100 := by
  obtain ⟨k, k1, k2, k3⟩ := I.R.seats ht
  have e : V_seats h (nI t) 0 = F_X8_freeSeats h t 0 := v_seats (d := 0) I.W ht (by decide)
  have s := I.2.2.1 t ht 0 (by decide)
  refine ⟨_, k, e, s, ?_, (I.2.2.2.2.2.2 t ht).1.trans k3, k2⟩
  rw [free_spec I.W.b30 k3 k2]
  omega
theorem bk3 {h : Hp} {D : Nat → Int32} {n0 a b ti n : Nat} (I : IV h D) (q : WA h n0 a b ti) (h1 : 1 ≤ n) (h4 : n ≤ 4) :
    (V_ride h (nI a) (nI b) (nI ti) (nI n) 0 0 = -1 ∧ V_ride h (nI a) (nI b) (nI ti) (nI n) 0 1 = -1 ∧ V_book h (nI a) (nI b) (nI ti) (nI n) = -2000000003 ∧ N_book h (nI a) (nI b) (nI ti) (nI n) = h) ∨
    (∃ t0 d0, t0 < xLS h 11 ∧ d0 < 100 ∧ V_ride h (nI a) (nI b) (nI ti) (nI n) 0 0 = nI t0 ∧ V_ride h (nI a) (nI b) (nI ti) (nI n) 0 1 = nI d0 ∧ V_book h (nI a) (nI b) (nI ti) (nI n) = -2000000003 ∧ N_book h (nI a) (nI b) (nI ti) (nI n) = h) ∨
    (∃ t0 d0, t0 < xLS h 11 ∧ d0 < 100 ∧ V_ride h (nI a) (nI b) (nI ti) (nI n) 0 0 = nI t0 ∧ V_ride h (nI a) (nI b) (nI ti) (nI n) 0 1 = nI d0 ∧
      V_book h (nI a) (nI b) (nI ti) (nI n) = nI (xLS h 12) ∧ xLS h 12 < 30 ∧ LQ (N_book h (nI a) (nI b) (nI ti) (nI n)) ∧
      (∀ D', D' 2 = nI (xLS h 12 + 1) → (∀ z, z ≠ 2 → D' z = D z) → IV (N_book h (nI a) (nI b) (nI ti) (nI n)) D') ∧
      V_ofBooking (N_book h (nI a) (nI b) (nI ti) (nI n)) (nI (xLS h 12)) 0 = 0 ∧ V_right (N_book h (nI a) (nI b) (nI ti) (nI n)) (nI (xLS h 12)) = 0 ∧
      V_seats (N_book h (nI a) (nI b) (nI ti) (nI n)) (nI t0) (nI d0) = V_seats h (nI t0) (nI d0) - 1 ∧ 0 ≤ V_seats (N_book h (nI a) (nI b) (nI ti) (nI n)) (nI t0) (nI d0) ∧
      V_calls (N_book h (nI a) (nI b) (nI ti) (nI n)) (nI t0) 0 1 0 = -2000000003 ∧ (F_X8_calls (N_book h (nI a) (nI b) (nI ti) (nI n)) (nI t0) 0 1 0).2 = N_book h (nI a) (nI b) (nI ti) (nI n)) := by
  by_cases he : EE h a b ti n < 1000000000
  · right
    rcases iv_book I q h1 h4 with ⟨z1, z2⟩ | z
    · left
      obtain ⟨-, T, at', t, d, i, j, J⟩ := v_some q h1 h4 he
      have rv := ride_vals I.R q h1 h4 J (x := 0) (by omega)
      have p := J.pl q (x := 0) (by omega)
      exact ⟨t 0, d 0, p.1, p.2.1, rv.1, rv.2.1, z1, z2⟩
    · exact .inr z
  · left
    obtain ⟨-, -, r, z1, z2⟩ := v_none q h1 h4 he
    exact ⟨r 0 0 (by decide) (by decide), r 0 1 (by decide) (by decide), z1, z2⟩
theorem p_pass {g : GT} {d : Nat} {h : Hp} {D : Nat → Int32} {R : (Nat → Int32) × (Nat → Int32) × Nat} {x : Nat} (hd : 16 ≤ d) (I : IV h D) (h1 : 1 ≤ x) (h2 : x ≤ 1440) : ∃ k P, k ≤ xLS h 12 ∧ IV P D ∧ CL g M_L_both d 2 12 [.inr (1, some 0), .inr (2, some 0), .inl (.int 17), .inl (.int (nI x)), .inl (.int 0), .inl (.int 0), .inl (.int 0)] (h, h, R) (cl_det (.inl (some (.inl (.int (nI k))))) (P, P, R)) := by
  obtain ⟨k, k1, k2, k3⟩ := iv_pass I h1 h2
  have b := b_pass (g := g) (R := R) hd I.1 (nI x) 0 0 0
  rw [k2] at b
  generalize (F_X8_pass h (nI x)).2 = P at b k3
  exact ⟨k, P, k1, k3, b⟩
