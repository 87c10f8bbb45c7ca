/-! ===== own: the law's helpers over its world ===== -/
/-- a call's answer as the helpers tell it -/
def rsI (r : Rs) : Int32 := match r with
  | .inl (some (.inl (.int v))) => v
  | .inl _ => 0
  | .inr E => if E = cy_e3 then -2000000001 else if E = cy_e1 then -2000000002 else -2000000003
def rsD (r : Rs) : UInt64 := match r with
  | .inl (some (.inl (.double v))) => v
  | .inl _ => 0
  | .inr E => if E = cy_e3 then 13969547452852731904 else 13969547452856926208
def shI (r : Rs) : Prop := (∃ x, r = .inl (some (.inl (.int x)))) ∨ r = .inr cy_e1 ∨ r = .inr cy_e2 ∨ r = .inr cy_e3
def shI2 (r : Rs) : Prop := (∃ x, r = .inl (some (.inl (.int x)))) ∨ r = .inr cy_e1 ∨ r = .inr cy_e3
def shD2 (r : Rs) : Prop := (∃ x, r = .inl (some (.inl (.double x)))) ∨ r = .inr cy_e1 ∨ r = .inr cy_e3
theorem shI2.i {r : Rs} (s : shI2 r) : shI r := by
  rcases s with q | q | q
  · exact .inl q
  · exact .inr (.inl q)
  · exact .inr (.inr (.inr q))
theorem ew_13 (h : Hp) (a b : Int32) : eW h a b = cy_e1 ∨ eW h a b = cy_e3 := by unfold eW; split; exact .inl rfl; exact .inr rfl
theorem okH_call : mH M_L_call ≠ [] ∧ mN M_L_call ≤ 40 ∧ Cond.codeWith (mY M_L_call) (mC M_L_call) (mN M_L_call) (mR M_L_call) (mH M_L_call) ∈ lw_tbl ∧ Cond.initialized (mY M_L_call).cls ∈ lw_tbl ∧ ((mY M_L_call).cls ≠ "java/lang/invoke/MethodHandle" ∧ (mY M_L_call).cls ≠ "java/lang/invoke/VarHandle") ∧ (parseMethodDescriptor (mY M_L_call).desc).map (fun d => d.parameters.length) = some 6 := ⟨by decide, by decide, by decide +kernel, by decide +kernel, by decide +kernel, by decide +kernel⟩
theorem okH_trip : mH M_L_trip ≠ [] ∧ mN M_L_trip ≤ 40 ∧ Cond.codeWith (mY M_L_trip) (mC M_L_trip) (mN M_L_trip) (mR M_L_trip) (mH M_L_trip) ∈ lw_tbl ∧ Cond.initialized (mY M_L_trip).cls ∈ lw_tbl ∧ ((mY M_L_trip).cls ≠ "java/lang/invoke/MethodHandle" ∧ (mY M_L_trip).cls ≠ "java/lang/invoke/VarHandle") ∧ (parseMethodDescriptor (mY M_L_trip).desc).map (fun d => d.parameters.length) = some 7 := ⟨by decide, by decide, by decide +kernel, by decide +kernel, by decide +kernel, by decide +kernel⟩
theorem okH_ride : mH M_L_ride ≠ [] ∧ mN M_L_ride ≤ 40 ∧ Cond.codeWith (mY M_L_ride) (mC M_L_ride) (mN M_L_ride) (mR M_L_ride) (mH M_L_ride) ∈ lw_tbl ∧ Cond.initialized (mY M_L_ride).cls ∈ lw_tbl ∧ ((mY M_L_ride).cls ≠ "java/lang/invoke/MethodHandle" ∧ (mY M_L_ride).cls ≠ "java/lang/invoke/VarHandle") ∧ (parseMethodDescriptor (mY M_L_ride).desc).map (fun d => d.parameters.length) = some 7 := ⟨by decide, by decide, by decide +kernel, by decide +kernel, by decide +kernel, by decide +kernel⟩
theorem okH_journey : mH M_L_journey ≠ [] ∧ mN M_L_journey ≤ 40 ∧ Cond.codeWith (mY M_L_journey) (mC M_L_journey) (mN M_L_journey) (mR M_L_journey) (mH M_L_journey) ∈ lw_tbl ∧ Cond.initialized (mY M_L_journey).cls ∈ lw_tbl ∧ ((mY M_L_journey).cls ≠ "java/lang/invoke/MethodHandle" ∧ (mY M_L_journey).cls ≠ "java/lang/invoke/VarHandle") ∧ (parseMethodDescriptor (mY M_L_journey).desc).map (fun d => d.parameters.length) = some 6 := ⟨by decide, by decide, by decide +kernel, by decide +kernel, by decide +kernel, by decide +kernel⟩
theorem sp_stop (h : Hp) (x : Int32) : shI (F_X8_stop h x).1 := by
  unfold F_X8_stop
  repeat' split
  all_goals first | exact .inl ⟨_, rfl⟩ | exact .inr (.inl rfl) | exact .inr (.inr rfl) | exact .inr (.inr (.inl rfl)) | exact .inr (.inr (.inr rfl)) | (rcases ew_13 h a b with e | e <;> rw [e] <;> first | exact .inr (.inl rfl) | exact .inr (.inr rfl) | exact .inr (.inr (.inr rfl)))
theorem sp_footway (h : Hp) (a b mi : Int32) : shI (F_X8_footway h a b mi).1 := by
  unfold F_X8_footway
  repeat' split
  all_goals first | exact .inl ⟨_, rfl⟩ | exact .inr (.inl rfl) | exact .inr (.inr rfl) | exact .inr (.inr (.inl rfl)) | exact .inr (.inr (.inr rfl)) | (rcases ew_13 h a b with e | e <;> rw [e] <;> first | exact .inr (.inl rfl) | exact .inr (.inr rfl) | exact .inr (.inr (.inr rfl)))
theorem sp_trip (h : Hp) (mo fi se da s mi : Int32) : shI (F_X8_trip h mo fi se da s mi).1 := by
  unfold F_X8_trip
  repeat' split
  all_goals first | exact .inl ⟨_, rfl⟩ | exact .inr (.inl rfl) | exact .inr (.inr rfl) | exact .inr (.inr (.inl rfl)) | exact .inr (.inr (.inr rfl)) | (rcases ew_13 h a b with e | e <;> rw [e] <;> first | exact .inr (.inl rfl) | exact .inr (.inr rfl) | exact .inr (.inr (.inr rfl)))
theorem sp_calls (h : Hp) (t s ri wa : Int32) : shI (F_X8_calls h t s ri wa).1 := by
  unfold F_X8_calls
  repeat' split
  all_goals first | exact .inl ⟨_, rfl⟩ | exact .inr (.inl rfl) | exact .inr (.inr rfl) | exact .inr (.inr (.inl rfl)) | exact .inr (.inr (.inr rfl)) | (rcases ew_13 h a b with e | e <;> rw [e] <;> first | exact .inr (.inl rfl) | exact .inr (.inr rfl) | exact .inr (.inr (.inr rfl)))
theorem sp_runs (h : Hp) (t dy v : Int32) : shI (F_X8_runs h t dy v).1 := by
  unfold F_X8_runs
  repeat' split
  all_goals first | exact .inl ⟨_, rfl⟩ | exact .inr (.inl rfl) | exact .inr (.inr rfl) | exact .inr (.inr (.inl rfl)) | exact .inr (.inr (.inr rfl)) | (rcases ew_13 h a b with e | e <;> rw [e] <;> first | exact .inr (.inl rfl) | exact .inr (.inr rfl) | exact .inr (.inr (.inr rfl)))
theorem sp_delay (h : Hp) (t dy mi : Int32) : shI (F_X8_delay h t dy mi).1 := by
  unfold F_X8_delay
  repeat' split
  all_goals first | exact .inl ⟨_, rfl⟩ | exact .inr (.inl rfl) | exact .inr (.inr rfl) | exact .inr (.inr (.inl rfl)) | exact .inr (.inr (.inr rfl)) | (rcases ew_13 h a b with e | e <;> rw [e] <;> first | exact .inr (.inl rfl) | exact .inr (.inr rfl) | exact .inr (.inr (.inr rfl)))
theorem sp_note (h : Hp) (t mi : Int32) : shI (F_X8_note h t mi).1 := by
  unfold F_X8_note
  repeat' split
  all_goals first | exact .inl ⟨_, rfl⟩ | exact .inr (.inl rfl) | exact .inr (.inr rfl) | exact .inr (.inr (.inl rfl)) | exact .inr (.inr (.inr rfl)) | (rcases ew_13 h a b with e | e <;> rw [e] <;> first | exact .inr (.inl rfl) | exact .inr (.inr rfl) | exact .inr (.inr (.inr rfl)))
theorem sp_arrival (h : Hp) (a b ti n : Int32) : shI (F_X8_arrival h a b ti n).1 := by
  unfold F_X8_arrival
  repeat' split
  all_goals first | exact .inl ⟨_, rfl⟩ | exact .inr (.inl rfl) | exact .inr (.inr rfl) | exact .inr (.inr (.inl rfl)) | exact .inr (.inr (.inr rfl)) | (rcases ew_13 h a b with e | e <;> rw [e] <;> first | exact .inr (.inl rfl) | exact .inr (.inr rfl) | exact .inr (.inr (.inr rfl)))
theorem sp_arrivalAnew (h : Hp) (a b ti n : Int32) : shI (F_X8_arrivalAnew h a b ti n).1 := by
  unfold F_X8_arrivalAnew
  repeat' split
  all_goals first | exact .inl ⟨_, rfl⟩ | exact .inr (.inl rfl) | exact .inr (.inr rfl) | exact .inr (.inr (.inl rfl)) | exact .inr (.inr (.inr rfl)) | (rcases ew_13 h a b with e | e <;> rw [e] <;> first | exact .inr (.inl rfl) | exact .inr (.inr rfl) | exact .inr (.inr (.inr rfl)))
theorem sp_front (h : Hp) (a b ti : Int32) : shI (F_X8_front h a b ti).1 := by
  have key : ∀ (fu : Nat) (le su : Int32) (k : Nat), k ≤ 5 → 5 < k + fu → shI (L_X8_front_28 h a b ti fu le su k).1 := by
    intro fu
    induction fu with
    | zero => intro le su k h1 h2; omega
    | succ fu ih =>
      intro le su k h1 h2
      rw [L_X8_front_28_s]
      unfold B_X8_front_28
      split
      · exact .inl ⟨_, rfl⟩
      · rename_i hk
        have := cy_le4 (by omega) hk
        split <;> exact ih _ _ _ (by omega) (by omega)
  unfold F_X8_front
  split
  · exact key _ _ _ _ (by omega) (by omega)
  · rcases ew_13 h a b with e | e <;> rw [e]
    · exact .inr (.inl rfl)
    · exact .inr (.inr (.inr rfl))
theorem sp_ride (h : Hp) (a b ti n ri wh : Int32) : shI2 (F_X8_ride h a b ti n ri wh).1 := by
  unfold F_X8_ride
  generalize F_X5_tell (F_X5_seek h a b ti n) n.toNatClampNeg = T
  repeat' split
  all_goals first | exact .inl ⟨_, rfl⟩ | exact .inr (.inl rfl) | exact .inr (.inr rfl) | exact .inr (.inr (.inl rfl)) | exact .inr (.inr (.inr rfl)) | (rcases ew_13 h a b with e | e <;> rw [e] <;> first | exact .inr (.inl rfl) | exact .inr (.inr rfl) | exact .inr (.inr (.inr rfl)))
theorem sp_journey (h : Hp) (a b ti n wh : Int32) : shD2 (F_X8_journey h a b ti n wh).1 := by
  unfold F_X8_journey
  generalize F_X5_tell (F_X5_seek h a b ti n) n.toNatClampNeg = T
  repeat' split
  all_goals first | exact .inl ⟨_, rfl⟩ | exact .inr (.inl rfl) | exact .inr (.inr rfl) | exact .inr (.inr (.inl rfl)) | exact .inr (.inr (.inr rfl)) | (rcases ew_13 h a b with e | e <;> rw [e] <;> first | exact .inr (.inl rfl) | exact .inr (.inr rfl) | exact .inr (.inr (.inr rfl)))
theorem sp_best (h : Hp) (a b ti : Int32) : shI (F_X8_best h a b ti).1 := by
  have key : ∀ (fu : Nat) (h27 : Hp) (ch : Int32) (le : UInt64) (k : Nat), k ≤ 5 → 5 < k + fu → shI (L_X8_best_27 h a b ti fu h27 ch le k).1 := by
    intro fu
    induction fu with
    | zero => intro h27 ch le k h1 h2; omega
    | succ fu ih =>
      intro h27 ch le k h1 h2
      rw [L_X8_best_27_s]
      unfold B_X8_best_27
      split
      · exact .inl ⟨_, rfl⟩
      · rename_i hk
        have := cy_le4 (by omega) hk
        repeat' split
        all_goals exact ih _ _ _ _ (by omega) (by omega)
  unfold F_X8_best
  split
  · exact key _ _ _ _ _ (by omega) (by omega)
  · rcases ew_13 h a b with e | e <;> rw [e]
    · exact .inr (.inl rfl)
    · exact .inr (.inr (.inr rfl))
theorem sp_book (h : Hp) (a b ti n : Int32) : shI (F_X8_book h a b ti n).1 := by
  unfold F_X8_book
  generalize F_X5_tell (F_X5_seek h a b ti n) n.toNatClampNeg = T
  repeat' split
  all_goals first | exact .inl ⟨_, rfl⟩ | exact .inr (.inl rfl) | exact .inr (.inr rfl) | exact .inr (.inr (.inl rfl)) | exact .inr (.inr (.inr rfl)) | (rcases ew_13 h a b with e | e <;> rw [e] <;> first | exact .inr (.inl rfl) | exact .inr (.inr rfl) | exact .inr (.inr (.inr rfl)))
theorem sp_buy (h : Hp) (x : Int32) : shI (F_X8_buy h x).1 := by
  unfold F_X8_buy
  repeat' split
  all_goals first | exact .inl ⟨_, rfl⟩ | exact .inr (.inl rfl) | exact .inr (.inr rfl) | exact .inr (.inr (.inl rfl)) | exact .inr (.inr (.inr rfl)) | (rcases ew_13 h a b with e | e <;> rw [e] <;> first | exact .inr (.inl rfl) | exact .inr (.inr rfl) | exact .inr (.inr (.inr rfl)))
theorem sp_right (h : Hp) (x : Int32) : shI (F_X8_right h x) := by
  unfold F_X8_right
  repeat' split
  all_goals first | exact .inl ⟨_, rfl⟩ | exact .inr (.inl rfl) | exact .inr (.inr rfl) | exact .inr (.inr (.inl rfl)) | exact .inr (.inr (.inr rfl)) | (rcases ew_13 h a b with e | e <;> rw [e] <;> first | exact .inr (.inl rfl) | exact .inr (.inr rfl) | exact .inr (.inr (.inr rfl)))
theorem sp_claim (h : Hp) (x : Int32) : shI (F_X8_claim h x).1 := by
  unfold F_X8_claim
  repeat' split
  all_goals first | exact .inl ⟨_, rfl⟩ | exact .inr (.inl rfl) | exact .inr (.inr rfl) | exact .inr (.inr (.inl rfl)) | exact .inr (.inr (.inr rfl)) | (rcases ew_13 h a b with e | e <;> rw [e] <;> first | exact .inr (.inl rfl) | exact .inr (.inr rfl) | exact .inr (.inr (.inr rfl)))
theorem sp_concerned (h : Hp) (t dy : Int32) (W : CW h) : shI (F_X8_concerned h t dy) := by
  have key : ∀ (fu : Nat) (su : Int32) (i : Nat), i ≤ 30 → 31 < i + fu → shI (L_X8_concerned_19 h t dy fu su i) := by
    intro fu
    induction fu with
    | zero => intro su i h1 h2; omega
    | succ fu ih =>
      intro su i h1 h2
      rw [L_X8_concerned_19_s]
      unfold B_X8_concerned_19
      split
      · exact .inl ⟨_, rfl⟩
      · rename_i hk
        have := cy_get (by omega) (Nat.le_trans W.b30 (by omega)) hk
        have := W.b30
        repeat' split
        all_goals exact ih _ _ (by omega) (by omega)
  unfold F_X8_concerned
  split
  · split
    · exact key _ _ _ (by omega) (by omega)
    · exact .inr (.inl rfl)
  · exact .inr (.inr (.inr rfl))
theorem sp_seats (h : Hp) (t dy : Int32) : shI (F_X8_seats h t dy) := by
  unfold F_X8_seats
  repeat' split
  all_goals first | exact .inl ⟨_, rfl⟩ | exact .inr (.inl rfl) | exact .inr (.inr rfl) | exact .inr (.inr (.inl rfl)) | exact .inr (.inr (.inr rfl)) | (rcases ew_13 h a b with e | e <;> rw [e] <;> first | exact .inr (.inl rfl) | exact .inr (.inr rfl) | exact .inr (.inr (.inr rfl)))
theorem sp_ofBooking (h : Hp) (x wh : Int32) : shI (F_X8_ofBooking h x wh) := by
  unfold F_X8_ofBooking
  repeat' split
  all_goals first | exact .inl ⟨_, rfl⟩ | exact .inr (.inl rfl) | exact .inr (.inr rfl) | exact .inr (.inr (.inl rfl)) | exact .inr (.inr (.inr rfl)) | (rcases ew_13 h a b with e | e <;> rw [e] <;> first | exact .inr (.inl rfl) | exact .inr (.inr rfl) | exact .inr (.inr (.inr rfl)))
theorem sp_pass (h : Hp) (x : Int32) (W : CW h) : shI (F_X8_pass h x).1 := by
  have key : ∀ (fu : Nat) (h22 : Hp) (dr : Int32) (i : Nat), xLS h22 12 ≤ 30 → i ≤ 30 → 31 < i + fu → shI (L_X8_pass_22 h x fu h22 dr i).1 := by
    intro fu
    induction fu with
    | zero => intro h22 dr i h0 h1 h2; omega
    | succ fu ih =>
      intro h22 dr i h0 h1 h2
      rw [L_X8_pass_22_s]
      unfold B_X8_pass_22
      split
      · exact .inl ⟨_, rfl⟩
      · rename_i hk
        have := cy_get (by omega) (Nat.le_trans h0 (by omega)) hk
        repeat' split
        all_goals exact ih _ _ _ h0 (by omega) (by omega)
  unfold F_X8_pass
  split
  · exact key _ _ _ _ W.b30 (by omega) (by omega)
  · exact .inr (.inl rfl)
set_option maxRecDepth 20000 in
theorem c_L_call {g : GT} {d bc bs q : Nat} {w w' : Wd} {wh a b c e : Int32} {r : Rs} (hd : 15 ≤ d) (hs : shI r) (hC : ∀ d', 14 ≤ d' → CL g M_L_does d' bc bs [.inr (q, some 0), .inl (.int wh), .inl (.int a), .inl (.int b), .inl (.int c), .inl (.int e)] w (cl_det r w')) : CL g M_L_call d bc bs [.inr (q, some 0), .inl (.int wh), .inl (.int a), .inl (.int b), .inl (.int c), .inl (.int e)] w (cl_det (.inl (some (.inl (.int (rsI r))))) w') := by
  refine cl_body rfl rfl (by decide) (Nat.le_of_ble_eq_true rfl) ?_
  refine wq_run [(.aload_n 0, 1), (.iload_n 1, 1), (.iload_n 2, 1), (.iload_n 3, 1), (.iload 4, 2), (.iload 5, 2)] (pc' := 8) (L' := [(0, .inr (q, some 0)), (1, .inl (.int wh)), (2, .inl (.int a)), (3, .inl (.int b)), (4, .inl (.int c)), (5, .inl (.int e))]) (st' := [.inl (.int e), .inl (.int c), .inl (.int b), .inl (.int a), .inl (.int wh), .inr (q, some 0)]) ⟨dL_call_0, dL_call_1, dL_call_2, dL_call_3, dL_call_4, dL_call_6, trivial⟩ rfl rfl ?_
  refine WL.room (uc' := 0 + bc) (us' := 0 + bs) (by omega) (by omega) ?_
  refine wl_static (M := M_L_call) (uc := 0) (us := 0) (As := [.inr (q, some 0), .inl (.int wh), .inl (.int a), .inl (.int b), .inl (.int c), .inl (.int e)]) (rest := []) (ok_L_does _ _) ml_L_9 st_L_does (by omega) (hC (d - 1) (by omega)) rfl rfl (Nat.le_of_ble_eq_true rfl) dL_call_8 (fun r9 h9 e9 => ?_) (fun E9 h9 e9 => ?_)
  · obtain ⟨e1, rfl⟩ := e9
    rcases hs with ⟨x9, rfl⟩ | rfl | rfl | rfl
    · cases e1
      exact wl_iret rfl rfl dL_call_11 ⟨rfl, rfl⟩
    · cases e1
    · cases e1
    · cases e1
  · obtain ⟨e1, rfl⟩ := e9
    rcases hs with ⟨x9, rfl⟩ | rfl | rfl | rfl
    · cases e1
    · cases e1
      refine wl_catch rfl [⟨0, 11, 12, 15⟩] ⟨0, 11, 17, 18⟩ [⟨0, 11, 22, 21⟩] rfl (fun z hz => by
            simp only [List.mem_cons, List.not_mem_nil, or_false] at hz
            obtain rfl := hz
            exact .inr ⟨by decide, cy_e3, exl_3, by decide +kernel⟩) (by decide) (by decide) exl_1 exc_1 (fun q9 => ?_)
      refine wl_astoreY (by decide) dL_call_17 ?_ (by intro p hp; simp only [List.mem_cons, List.not_mem_nil, or_false] at hp; rcases hp with rfl | rfl | rfl | rfl | rfl | rfl <;> exact ⟨by dsimp only; decide, fun q => absurd (show (1 : Nat) = 2 from q.2) (by decide)⟩)
      refine wl_ldc kc_L_20 dL_call_19 ?_
      exact wl_iret rfl rfl dL_call_21 ⟨by decide +kernel, rfl⟩
    · cases e1
      refine wl_catch rfl [⟨0, 11, 12, 15⟩, ⟨0, 11, 17, 18⟩] ⟨0, 11, 22, 21⟩ [] rfl (fun z hz => by
            simp only [List.mem_cons, List.not_mem_nil, or_false] at hz
            rcases hz with rfl | rfl
            · exact .inr ⟨by decide, cy_e3, exl_3, by decide +kernel⟩
            · exact .inr ⟨by decide, cy_e1, exl_1, by decide +kernel⟩) (by decide) (by decide) exl_2 exc_2 (fun q9 => ?_)
      refine wl_astoreY (by decide) dL_call_22 ?_ (by intro p hp; simp only [List.mem_cons, List.not_mem_nil, or_false] at hp; rcases hp with rfl | rfl | rfl | rfl | rfl | rfl <;> exact ⟨by dsimp only; decide, fun q => absurd (show (1 : Nat) = 2 from q.2) (by decide)⟩)
      refine wl_ldc kc_L_23 dL_call_24 ?_
      exact wl_iret rfl rfl dL_call_26 ⟨by decide +kernel, rfl⟩
    · cases e1
      refine wl_catch rfl [] ⟨0, 11, 12, 15⟩ [⟨0, 11, 17, 18⟩, ⟨0, 11, 22, 21⟩] rfl (fun z hz => by cases hz) (by decide) (by decide) exl_3 exc_3 (fun q9 => ?_)
      refine wl_astoreY (by decide) dL_call_12 ?_ (by intro p hp; simp only [List.mem_cons, List.not_mem_nil, or_false] at hp; rcases hp with rfl | rfl | rfl | rfl | rfl | rfl <;> exact ⟨by dsimp only; decide, fun q => absurd (show (1 : Nat) = 2 from q.2) (by decide)⟩)
      refine wl_ldc kc_L_17 dL_call_14 ?_
      exact wl_iret rfl rfl dL_call_16 ⟨by decide +kernel, rfl⟩
set_option maxRecDepth 20000 in
theorem c_L_trip {g : GT} {d bc bs q : Nat} {w w' : Wd} {a b c e f k : Int32} {r : Rs} (hd : 15 ≤ d) (hq : q = 1 ∨ q = 2) (hs : shI r) (hC : ∀ d', 14 ≤ d' → CL g M_X8_trip d' bc bs [.inr (q, some 0), .inl (.int a), .inl (.int b), .inl (.int c), .inl (.int e), .inl (.int f), .inl (.int k)] w (cl_det r w')) : CL g M_L_trip d bc bs [.inr (q, some 0), .inl (.int a), .inl (.int b), .inl (.int c), .inl (.int e), .inl (.int f), .inl (.int k)] w (cl_det (.inl (some (.inl (.int (rsI r))))) w') := by
  refine cl_body rfl rfl (by decide) (Nat.le_of_ble_eq_true rfl) ?_
  refine wq_run [(.aload_n 0, 1), (.iload_n 1, 1), (.iload_n 2, 1), (.iload_n 3, 1), (.iload 4, 2), (.iload 5, 2), (.iload 6, 2)] (pc' := 10) (L' := [(0, .inr (q, some 0)), (1, .inl (.int a)), (2, .inl (.int b)), (3, .inl (.int c)), (4, .inl (.int e)), (5, .inl (.int f)), (6, .inl (.int k))]) (st' := [.inl (.int k), .inl (.int f), .inl (.int e), .inl (.int c), .inl (.int b), .inl (.int a), .inr (q, some 0)]) ⟨dL_trip_0, dL_trip_1, dL_trip_2, dL_trip_3, dL_trip_4, dL_trip_6, dL_trip_8, trivial⟩ rfl rfl ?_
  refine WL.room (uc' := 0 + bc) (us' := 0 + bs) (by omega) (by omega) ?_
  refine wl_virtual (M := M_L_trip) (uc := 0) (us := 0) (q := q) (As := [.inl (.int a), .inl (.int b), .inl (.int c), .inl (.int e), .inl (.int f), .inl (.int k)]) (rest := []) hq rfl (ok_X8_trip _ _) ml_L_89 im_X8_trip se_X8_trip (by omega) (hC (d - 1) (by omega)) rfl rfl (Nat.le_of_ble_eq_true rfl) dL_trip_10 (fun r9 h9 e9 => ?_) (fun E9 h9 e9 => ?_)
  · obtain ⟨e1, rfl⟩ := e9
    rcases hs with ⟨x9, rfl⟩ | rfl | rfl | rfl
    · cases e1
      exact wl_iret rfl rfl dL_trip_13 ⟨rfl, rfl⟩
    · cases e1
    · cases e1
    · cases e1
  · obtain ⟨e1, rfl⟩ := e9
    rcases hs with ⟨x9, rfl⟩ | rfl | rfl | rfl
    · cases e1
    · cases e1
      refine wl_catch rfl [⟨0, 13, 14, 15⟩] ⟨0, 13, 19, 18⟩ [⟨0, 13, 24, 21⟩] rfl (fun z hz => by
            simp only [List.mem_cons, List.not_mem_nil, or_false] at hz
            obtain rfl := hz
            exact .inr ⟨by decide, cy_e3, exl_3, by decide +kernel⟩) (by decide) (by decide) exl_1 exc_1 (fun q9 => ?_)
      refine wl_astoreY (by decide) dL_trip_19 ?_ (by intro p hp; simp only [List.mem_cons, List.not_mem_nil, or_false] at hp; rcases hp with rfl | rfl | rfl | rfl | rfl | rfl | rfl <;> exact ⟨by dsimp only; decide, fun q => absurd (show (1 : Nat) = 2 from q.2) (by decide)⟩)
      refine wl_ldc kc_L_20 dL_trip_21 ?_
      exact wl_iret rfl rfl dL_trip_23 ⟨by decide +kernel, rfl⟩
    · cases e1
      refine wl_catch rfl [⟨0, 13, 14, 15⟩, ⟨0, 13, 19, 18⟩] ⟨0, 13, 24, 21⟩ [] rfl (fun z hz => by
            simp only [List.mem_cons, List.not_mem_nil, or_false] at hz
            rcases hz with rfl | rfl
            · exact .inr ⟨by decide, cy_e3, exl_3, by decide +kernel⟩
            · exact .inr ⟨by decide, cy_e1, exl_1, by decide +kernel⟩) (by decide) (by decide) exl_2 exc_2 (fun q9 => ?_)
      refine wl_astoreY (by decide) dL_trip_24 ?_ (by intro p hp; simp only [List.mem_cons, List.not_mem_nil, or_false] at hp; rcases hp with rfl | rfl | rfl | rfl | rfl | rfl | rfl <;> exact ⟨by dsimp only; decide, fun q => absurd (show (1 : Nat) = 2 from q.2) (by decide)⟩)
      refine wl_ldc kc_L_23 dL_trip_26 ?_
      exact wl_iret rfl rfl dL_trip_28 ⟨by decide +kernel, rfl⟩
    · cases e1
      refine wl_catch rfl [] ⟨0, 13, 14, 15⟩ [⟨0, 13, 19, 18⟩, ⟨0, 13, 24, 21⟩] rfl (fun z hz => by cases hz) (by decide) (by decide) exl_3 exc_3 (fun q9 => ?_)
      refine wl_astoreY (by decide) dL_trip_14 ?_ (by intro p hp; simp only [List.mem_cons, List.not_mem_nil, or_false] at hp; rcases hp with rfl | rfl | rfl | rfl | rfl | rfl | rfl <;> exact ⟨by dsimp only; decide, fun q => absurd (show (1 : Nat) = 2 from q.2) (by decide)⟩)
      refine wl_ldc kc_L_17 dL_trip_16 ?_
      exact wl_iret rfl rfl dL_trip_18 ⟨by decide +kernel, rfl⟩
set_option maxRecDepth 20000 in
theorem c_L_ride {g : GT} {d bc bs q : Nat} {w w' : Wd} {a b c e f k : Int32} {r : Rs} (hd : 15 ≤ d) (hq : q = 1 ∨ q = 2) (hs : shI2 r) (hC : ∀ d', 14 ≤ d' → CL g M_X8_ride d' bc bs [.inr (q, some 0), .inl (.int a), .inl (.int b), .inl (.int c), .inl (.int e), .inl (.int f), .inl (.int k)] w (cl_det r w')) : CL g M_L_ride d bc bs [.inr (q, some 0), .inl (.int a), .inl (.int b), .inl (.int c), .inl (.int e), .inl (.int f), .inl (.int k)] w (cl_det (.inl (some (.inl (.int (rsI r))))) w') := by
  refine cl_body rfl rfl (by decide) (Nat.le_of_ble_eq_true rfl) ?_
  refine wq_run [(.aload_n 0, 1), (.iload_n 1, 1), (.iload_n 2, 1), (.iload_n 3, 1), (.iload 4, 2), (.iload 5, 2), (.iload 6, 2)] (pc' := 10) (L' := [(0, .inr (q, some 0)), (1, .inl (.int a)), (2, .inl (.int b)), (3, .inl (.int c)), (4, .inl (.int e)), (5, .inl (.int f)), (6, .inl (.int k))]) (st' := [.inl (.int k), .inl (.int f), .inl (.int e), .inl (.int c), .inl (.int b), .inl (.int a), .inr (q, some 0)]) ⟨dL_ride_0, dL_ride_1, dL_ride_2, dL_ride_3, dL_ride_4, dL_ride_6, dL_ride_8, trivial⟩ rfl rfl ?_
  refine WL.room (uc' := 0 + bc) (us' := 0 + bs) (by omega) (by omega) ?_
  refine wl_virtual (M := M_L_ride) (uc := 0) (us := 0) (q := q) (As := [.inl (.int a), .inl (.int b), .inl (.int c), .inl (.int e), .inl (.int f), .inl (.int k)]) (rest := []) hq rfl (ok_X8_ride _ _) ml_L_93 im_X8_ride se_X8_ride (by omega) (hC (d - 1) (by omega)) rfl rfl (Nat.le_of_ble_eq_true rfl) dL_ride_10 (fun r9 h9 e9 => ?_) (fun E9 h9 e9 => ?_)
  · obtain ⟨e1, rfl⟩ := e9
    rcases hs with ⟨x9, rfl⟩ | rfl | rfl
    · cases e1
      exact wl_iret rfl rfl dL_ride_13 ⟨rfl, rfl⟩
    · cases e1
    · cases e1
  · obtain ⟨e1, rfl⟩ := e9
    rcases hs with ⟨x9, rfl⟩ | rfl | rfl
    · cases e1
    · cases e1
      refine wl_catch rfl [⟨0, 13, 14, 15⟩] ⟨0, 13, 19, 18⟩ [] rfl (fun z hz => by
            simp only [List.mem_cons, List.not_mem_nil, or_false] at hz
            obtain rfl := hz
            exact .inr ⟨by decide, cy_e3, exl_3, by decide +kernel⟩) (by decide) (by decide) exl_1 exc_1 (fun q9 => ?_)
      refine wl_astoreY (by decide) dL_ride_19 ?_ (by intro p hp; simp only [List.mem_cons, List.not_mem_nil, or_false] at hp; rcases hp with rfl | rfl | rfl | rfl | rfl | rfl | rfl <;> exact ⟨by dsimp only; decide, fun q => absurd (show (1 : Nat) = 2 from q.2) (by decide)⟩)
      refine wl_ldc kc_L_20 dL_ride_21 ?_
      exact wl_iret rfl rfl dL_ride_23 ⟨by decide +kernel, rfl⟩
    · cases e1
      refine wl_catch rfl [] ⟨0, 13, 14, 15⟩ [⟨0, 13, 19, 18⟩] rfl (fun z hz => by cases hz) (by decide) (by decide) exl_3 exc_3 (fun q9 => ?_)
      refine wl_astoreY (by decide) dL_ride_14 ?_ (by intro p hp; simp only [List.mem_cons, List.not_mem_nil, or_false] at hp; rcases hp with rfl | rfl | rfl | rfl | rfl | rfl | rfl <;> exact ⟨by dsimp only; decide, fun q => absurd (show (1 : Nat) = 2 from q.2) (by decide)⟩)
      refine wl_ldc kc_L_17 dL_ride_16 ?_
      exact wl_iret rfl rfl dL_ride_18 ⟨by decide +kernel, rfl⟩
set_option maxRecDepth 20000 in
theorem c_L_journey {g : GT} {d bc bs q : Nat} {w w' : Wd} {a b c e f : Int32} {r : Rs} (hd : 15 ≤ d) (hq : q = 1 ∨ q = 2) (hs : shD2 r) (hC : ∀ d', 14 ≤ d' → CL g M_X8_journey d' bc bs [.inr (q, some 0), .inl (.int a), .inl (.int b), .inl (.int c), .inl (.int e), .inl (.int f)] w (cl_det r w')) : CL g M_L_journey d bc bs [.inr (q, some 0), .inl (.int a), .inl (.int b), .inl (.int c), .inl (.int e), .inl (.int f)] w (cl_det (.inl (some (.inl (.double (rsD r))))) w') := by
  refine cl_body rfl rfl (by decide) (Nat.le_of_ble_eq_true rfl) ?_
  refine wq_run [(.aload_n 0, 1), (.iload_n 1, 1), (.iload_n 2, 1), (.iload_n 3, 1), (.iload 4, 2), (.iload 5, 2)] (pc' := 8) (L' := [(0, .inr (q, some 0)), (1, .inl (.int a)), (2, .inl (.int b)), (3, .inl (.int c)), (4, .inl (.int e)), (5, .inl (.int f))]) (st' := [.inl (.int f), .inl (.int e), .inl (.int c), .inl (.int b), .inl (.int a), .inr (q, some 0)]) ⟨dL_journey_0, dL_journey_1, dL_journey_2, dL_journey_3, dL_journey_4, dL_journey_6, trivial⟩ rfl rfl ?_
  refine WL.room (uc' := 0 + bc) (us' := 0 + bs) (by omega) (by omega) ?_
  refine wl_virtual (M := M_L_journey) (uc := 0) (us := 0) (q := q) (As := [.inl (.int a), .inl (.int b), .inl (.int c), .inl (.int e), .inl (.int f)]) (rest := []) hq rfl (ok_X8_journey _ _) ml_L_96 im_X8_journey se_X8_journey (by omega) (hC (d - 1) (by omega)) rfl rfl (Nat.le_of_ble_eq_true rfl) dL_journey_8 (fun r9 h9 e9 => ?_) (fun E9 h9 e9 => ?_)
  · obtain ⟨e1, rfl⟩ := e9
    rcases hs with ⟨x9, rfl⟩ | rfl | rfl
    · cases e1
      exact wl_dret rfl rfl dL_journey_11 ⟨rfl, rfl⟩
    · cases e1
    · cases e1
  · obtain ⟨e1, rfl⟩ := e9
    rcases hs with ⟨x9, rfl⟩ | rfl | rfl
    · cases e1
    · cases e1
      refine wl_catch rfl [⟨0, 11, 12, 15⟩] ⟨0, 11, 18, 18⟩ [] rfl (fun z hz => by
            simp only [List.mem_cons, List.not_mem_nil, or_false] at hz
            obtain rfl := hz
            exact .inr ⟨by decide, cy_e3, exl_3, by decide +kernel⟩) (by decide) (by decide) exl_1 exc_1 (fun q9 => ?_)
      refine wl_astoreY (by decide) dL_journey_18 ?_ (by intro p hp; simp only [List.mem_cons, List.not_mem_nil, or_false] at hp; rcases hp with rfl | rfl | rfl | rfl | rfl | rfl <;> exact ⟨by dsimp only; decide, fun q => absurd (show (1 : Nat) = 2 from q.2) (by decide)⟩)
      refine wl_ldc2d kc_L_102 dL_journey_20 ?_
      exact wl_dret rfl rfl dL_journey_23 ⟨by decide +kernel, rfl⟩
    · cases e1
      refine wl_catch rfl [] ⟨0, 11, 12, 15⟩ [⟨0, 11, 18, 18⟩] rfl (fun z hz => by cases hz) (by decide) (by decide) exl_3 exc_3 (fun q9 => ?_)
      refine wl_astoreY (by decide) dL_journey_12 ?_ (by intro p hp; simp only [List.mem_cons, List.not_mem_nil, or_false] at hp; rcases hp with rfl | rfl | rfl | rfl | rfl | rfl <;> exact ⟨by dsimp only; decide, fun q => absurd (show (1 : Nat) = 2 from q.2) (by decide)⟩)
      refine wl_ldc2d kc_L_100 dL_journey_14 ?_
      exact wl_dret rfl rfl dL_journey_17 ⟨by decide +kernel, rfl⟩
theorem c_L_both {g : GT} {d bc bs : Nat} {w w1 w2 : Wd} {wh a b c e v1 v2 : Int32} (hd : 16 ≤ d) (h1 : ∀ d', 15 ≤ d' → CL g M_L_call d' bc bs [.inr (1, some 0), .inl (.int wh), .inl (.int a), .inl (.int b), .inl (.int c), .inl (.int e)] w (cl_det (.inl (some (.inl (.int v1)))) w1)) (h2 : ∀ d', 15 ≤ d' → CL g M_L_call d' bc bs [.inr (2, some 0), .inl (.int wh), .inl (.int a), .inl (.int b), .inl (.int c), .inl (.int e)] w1 (cl_det (.inl (some (.inl (.int v2)))) w2)) : CL g M_L_both d (bc + bc) (bs + bs) [.inr (1, some 0), .inr (2, some 0), .inl (.int wh), .inl (.int a), .inl (.int b), .inl (.int c), .inl (.int e)] w (cl_det (.inl (some (.inl (.int (if v1 = v2 then v1 else -2000000099))))) w2) := by
  refine cl_body rfl rfl (by decide) (Nat.le_of_ble_eq_true rfl) ?_
  refine wq_run [(.aload_n 0, 1), (.iload_n 2, 1), (.iload_n 3, 1), (.iload 4, 2), (.iload 5, 2), (.iload 6, 2)] (pc' := 9) (L' := [(0, .inr (1, some 0)), (1, .inr (2, some 0)), (2, .inl (.int wh)), (3, .inl (.int a)), (4, .inl (.int b)), (5, .inl (.int c)), (6, .inl (.int e))]) (st' := [.inl (.int e), .inl (.int c), .inl (.int b), .inl (.int a), .inl (.int wh), .inr (1, some 0)]) ⟨dL_both_0, dL_both_1, dL_both_2, dL_both_3, dL_both_5, dL_both_7, trivial⟩ rfl rfl ?_
  refine WL.room (uc' := bc + bc) (us' := bs + bs) (by omega) (by omega) ?_
  refine wl_staticH (M := M_L_both) (uc := bc) (us := bs) (As := [.inr (1, some 0), .inl (.int wh), .inl (.int a), .inl (.int b), .inl (.int c), .inl (.int e)]) (rest := []) okH_call.1 okH_call.2.1 okH_call.2.2.1 okH_call.2.2.2.1 okH_call.2.2.2.2.1 okH_call.2.2.2.2.2 ml_L_113 st_L_call (by omega) (h1 (d - 1) (by omega)) rfl rfl (Nat.le_of_ble_eq_true rfl) dL_both_9 (fun r9 h9 e9 => ?_) (fun E9 h9 e9 => nomatch e9.1)
  obtain ⟨e9, rfl⟩ := e9
  cases e9
  refine wq_run [(.istore 7, 2), (.iload 7, 2), (.aload_n 1, 1), (.iload_n 2, 1), (.iload_n 3, 1), (.iload 4, 2), (.iload 5, 2), (.iload 6, 2)] (pc' := 25) (L' := [(7, .inl (.int v1)), (0, .inr (1, some 0)), (1, .inr (2, some 0)), (2, .inl (.int wh)), (3, .inl (.int a)), (4, .inl (.int b)), (5, .inl (.int c)), (6, .inl (.int e))]) (st' := [.inl (.int e), .inl (.int c), .inl (.int b), .inl (.int a), .inl (.int wh), .inr (2, some 0), .inl (.int v1)]) ⟨dL_both_12, dL_both_14, dL_both_16, dL_both_17, dL_both_18, dL_both_19, dL_both_21, dL_both_23, trivial⟩ rfl rfl ?_
  refine WL.room (uc' := 0 + bc) (us' := 0 + bs) (by omega) (by omega) ?_
  refine wl_staticH (M := M_L_both) (uc := 0) (us := 0) (As := [.inr (2, some 0), .inl (.int wh), .inl (.int a), .inl (.int b), .inl (.int c), .inl (.int e)]) (rest := [.inl (.int v1)]) okH_call.1 okH_call.2.1 okH_call.2.2.1 okH_call.2.2.2.1 okH_call.2.2.2.2.1 okH_call.2.2.2.2.2 ml_L_113 st_L_call (by omega) (h2 (d - 1) (by omega)) rfl rfl (Nat.le_of_ble_eq_true rfl) dL_both_25 (fun r9 h9 e9 => ?_) (fun E9 h9 e9 => nomatch e9.1)
  obtain ⟨e9, rfl⟩ := e9
  cases e9
  refine wl_icmp_ne (tgt := 36) dL_both_28 (by decide) (fun hv => ?_) (fun hv => ?_)
  · refine wl_ldc kc_L_116 dL_both_36 ?_
    exact wl_iret rfl rfl dL_both_38 ⟨by rw [if_neg hv], rfl⟩
  · refine wq_run [(.iload 7, 2)] (pc' := 33) (L' := [(7, .inl (.int v1)), (0, .inr (1, some 0)), (1, .inr (2, some 0)), (2, .inl (.int wh)), (3, .inl (.int a)), (4, .inl (.int b)), (5, .inl (.int c)), (6, .inl (.int e))]) (st' := [.inl (.int v1)]) ⟨dL_both_31, trivial⟩ rfl rfl ?_
    refine wl_goto (tgt := 38) dL_both_33 (by decide) ?_
    exact wl_iret rfl rfl dL_both_38 ⟨by rw [if_pos hv], rfl⟩
set_option maxRecDepth 20000 in
theorem c_does_stop {g : GT} {d bc bs q : Nat} {w w' : Wd} {a b c e : Int32} {r : Rs} (hd : 14 ≤ d) (hq : q = 1 ∨ q = 2) (hs : shI r) (hC : ∀ d', 13 ≤ d' → CL g M_X8_stop d' bc bs [.inr (q, some 0), .inl (.int a)] w (cl_det r w')) : CL g M_L_does d bc bs [.inr (q, some 0), .inl (.int 0), .inl (.int a), .inl (.int b), .inl (.int c), .inl (.int e)] w (cl_det r w') := by
  refine cl_body rfl rfl (by decide) (Nat.le_of_ble_eq_true rfl) ?_
  refine wq_run [(.iload_n 1, 1)] (pc' := 1) (L' := [(0, .inr (q, some 0)), (1, .inl (.int 0)), (2, .inl (.int a)), (3, .inl (.int b)), (4, .inl (.int c)), (5, .inl (.int e))]) (st' := [.inl (.int 0)]) ⟨dL_does_0, trivial⟩ rfl rfl ?_
  refine wl_tableIn (tgt := 88) (off := 87) dL_does_1 (by decide) (by decide) rfl (by decide) ?_
  refine wq_run [(.aload_n 0, 1), (.iload_n 2, 1)] (pc' := 90) (L' := [(0, .inr (q, some 0)), (1, .inl (.int 0)), (2, .inl (.int a)), (3, .inl (.int b)), (4, .inl (.int c)), (5, .inl (.int e))]) (st' := [.inl (.int a), .inr (q, some 0)]) ⟨dL_does_88, dL_does_89, trivial⟩ rfl rfl ?_
  refine WL.room (uc' := 0 + bc) (us' := 0 + bs) (by omega) (by omega) ?_
  refine wl_virtual (M := M_L_does) (uc := 0) (us := 0) (q := q) (As := [.inl (.int a)]) (rest := []) hq rfl (ok_X8_stop _ _) ml_L_24 im_X8_stop se_X8_stop (by omega) (hC (d - 1) (by omega)) rfl rfl (Nat.le_of_ble_eq_true rfl) dL_does_90 (fun r9 h9 e9 => ?_) (fun E9 h9 e9 => ?_)
  · obtain ⟨e1, rfl⟩ := e9
    rcases hs with ⟨x9, rfl⟩ | rfl | rfl | rfl
    · cases e1
      exact wl_iret rfl rfl dL_does_93 ⟨rfl, rfl⟩
    · cases e1
    · cases e1
    · cases e1
  · obtain ⟨e1, rfl⟩ := e9
    rcases hs with ⟨x9, rfl⟩ | rfl | rfl | rfl
    · cases e1
    · cases e1
      exact cl_out rfl rfl ⟨rfl, rfl⟩
    · cases e1
      exact cl_out rfl rfl ⟨rfl, rfl⟩
    · cases e1
      exact cl_out rfl rfl ⟨rfl, rfl⟩
set_option maxRecDepth 20000 in
theorem c_does_footway {g : GT} {d bc bs q : Nat} {w w' : Wd} {a b c e : Int32} {r : Rs} (hd : 14 ≤ d) (hq : q = 1 ∨ q = 2) (hs : shI r) (hC : ∀ d', 13 ≤ d' → CL g M_X8_footway d' bc bs [.inr (q, some 0), .inl (.int a), .inl (.int b), .inl (.int c)] w (cl_det r w')) : CL g M_L_does d bc bs [.inr (q, some 0), .inl (.int 1), .inl (.int a), .inl (.int b), .inl (.int c), .inl (.int e)] w (cl_det r w') := by
  refine cl_body rfl rfl (by decide) (Nat.le_of_ble_eq_true rfl) ?_
  refine wq_run [(.iload_n 1, 1)] (pc' := 1) (L' := [(0, .inr (q, some 0)), (1, .inl (.int 1)), (2, .inl (.int a)), (3, .inl (.int b)), (4, .inl (.int c)), (5, .inl (.int e))]) (st' := [.inl (.int 1)]) ⟨dL_does_0, trivial⟩ rfl rfl ?_
  refine wl_tableIn (tgt := 94) (off := 93) dL_does_1 (by decide) (by decide) rfl (by decide) ?_
  refine wq_run [(.aload_n 0, 1), (.iload_n 2, 1), (.iload_n 3, 1), (.iload 4, 2)] (pc' := 99) (L' := [(0, .inr (q, some 0)), (1, .inl (.int 1)), (2, .inl (.int a)), (3, .inl (.int b)), (4, .inl (.int c)), (5, .inl (.int e))]) (st' := [.inl (.int c), .inl (.int b), .inl (.int a), .inr (q, some 0)]) ⟨dL_does_94, dL_does_95, dL_does_96, dL_does_97, trivial⟩ rfl rfl ?_
  refine WL.room (uc' := 0 + bc) (us' := 0 + bs) (by omega) (by omega) ?_
  refine wl_virtual (M := M_L_does) (uc := 0) (us := 0) (q := q) (As := [.inl (.int a), .inl (.int b), .inl (.int c)]) (rest := []) hq rfl (ok_X8_footway _ _) ml_L_30 im_X8_footway se_X8_footway (by omega) (hC (d - 1) (by omega)) rfl rfl (Nat.le_of_ble_eq_true rfl) dL_does_99 (fun r9 h9 e9 => ?_) (fun E9 h9 e9 => ?_)
  · obtain ⟨e1, rfl⟩ := e9
    rcases hs with ⟨x9, rfl⟩ | rfl | rfl | rfl
    · cases e1
      exact wl_iret rfl rfl dL_does_102 ⟨rfl, rfl⟩
    · cases e1
    · cases e1
    · cases e1
  · obtain ⟨e1, rfl⟩ := e9
    rcases hs with ⟨x9, rfl⟩ | rfl | rfl | rfl
    · cases e1
    · cases e1
      exact cl_out rfl rfl ⟨rfl, rfl⟩
    · cases e1
      exact cl_out rfl rfl ⟨rfl, rfl⟩
    · cases e1
      exact cl_out rfl rfl ⟨rfl, rfl⟩
set_option maxRecDepth 20000 in
theorem c_does_calls {g : GT} {d bc bs q : Nat} {w w' : Wd} {a b c e : Int32} {r : Rs} (hd : 14 ≤ d) (hq : q = 1 ∨ q = 2) (hs : shI r) (hC : ∀ d', 13 ≤ d' → CL g M_X8_calls d' bc bs [.inr (q, some 0), .inl (.int a), .inl (.int b), .inl (.int c), .inl (.int e)] w (cl_det r w')) : CL g M_L_does d bc bs [.inr (q, some 0), .inl (.int 2), .inl (.int a), .inl (.int b), .inl (.int c), .inl (.int e)] w (cl_det r w') := by
  refine cl_body rfl rfl (by decide) (Nat.le_of_ble_eq_true rfl) ?_
  refine wq_run [(.iload_n 1, 1)] (pc' := 1) (L' := [(0, .inr (q, some 0)), (1, .inl (.int 2)), (2, .inl (.int a)), (3, .inl (.int b)), (4, .inl (.int c)), (5, .inl (.int e))]) (st' := [.inl (.int 2)]) ⟨dL_does_0, trivial⟩ rfl rfl ?_
  refine wl_tableIn (tgt := 103) (off := 102) dL_does_1 (by decide) (by decide) rfl (by decide) ?_
  refine wq_run [(.aload_n 0, 1), (.iload_n 2, 1), (.iload_n 3, 1), (.iload 4, 2), (.iload 5, 2)] (pc' := 110) (L' := [(0, .inr (q, some 0)), (1, .inl (.int 2)), (2, .inl (.int a)), (3, .inl (.int b)), (4, .inl (.int c)), (5, .inl (.int e))]) (st' := [.inl (.int e), .inl (.int c), .inl (.int b), .inl (.int a), .inr (q, some 0)]) ⟨dL_does_103, dL_does_104, dL_does_105, dL_does_106, dL_does_108, trivial⟩ rfl rfl ?_
  refine WL.room (uc' := 0 + bc) (us' := 0 + bs) (by omega) (by omega) ?_
  refine wl_virtual (M := M_L_does) (uc := 0) (us := 0) (q := q) (As := [.inl (.int a), .inl (.int b), .inl (.int c), .inl (.int e)]) (rest := []) hq rfl (ok_X8_calls _ _) ml_L_34 im_X8_calls se_X8_calls (by omega) (hC (d - 1) (by omega)) rfl rfl (Nat.le_of_ble_eq_true rfl) dL_does_110 (fun r9 h9 e9 => ?_) (fun E9 h9 e9 => ?_)
  · obtain ⟨e1, rfl⟩ := e9
    rcases hs with ⟨x9, rfl⟩ | rfl | rfl | rfl
    · cases e1
      exact wl_iret rfl rfl dL_does_113 ⟨rfl, rfl⟩
    · cases e1
    · cases e1
    · cases e1
  · obtain ⟨e1, rfl⟩ := e9
    rcases hs with ⟨x9, rfl⟩ | rfl | rfl | rfl
    · cases e1
    · cases e1
      exact cl_out rfl rfl ⟨rfl, rfl⟩
    · cases e1
      exact cl_out rfl rfl ⟨rfl, rfl⟩
    · cases e1
      exact cl_out rfl rfl ⟨rfl, rfl⟩
/-- what the law makes of a truth value -/
def rD3 (r : Rs) : Rs := match r with
  | .inl (some (.inl (.int v))) => .inl (some (.inl (.int (if v = 0 then 0 else 1))))
  | x => x
set_option maxRecDepth 20000 in
theorem c_does_runs {g : GT} {d bc bs q : Nat} {w w' : Wd} {a b c e : Int32} {r : Rs} (hd : 14 ≤ d) (hq : q = 1 ∨ q = 2) (hs : shI r) (hC : ∀ d', 13 ≤ d' → CL g M_X8_runs d' bc bs [.inr (q, some 0), .inl (.int a), .inl (.int b), .inl (.int (if c = 1 then 1 else 0))] w (cl_det r w')) : CL g M_L_does d bc bs [.inr (q, some 0), .inl (.int 3), .inl (.int a), .inl (.int b), .inl (.int c), .inl (.int e)] w (cl_det (rD3 r) w') := by
  refine cl_body rfl rfl (by decide) (Nat.le_of_ble_eq_true rfl) ?_
  refine wq_run [(.iload_n 1, 1)] (pc' := 1) (L' := [(0, .inr (q, some 0)), (1, .inl (.int 3)), (2, .inl (.int a)), (3, .inl (.int b)), (4, .inl (.int c)), (5, .inl (.int e))]) (st' := [.inl (.int 3)]) ⟨dL_does_0, trivial⟩ rfl rfl ?_
  refine wl_tableIn (tgt := 114) (off := 113) dL_does_1 (by decide) (by decide) rfl (by decide) ?_
  refine wq_run [(.aload_n 0, 1), (.iload_n 2, 1), (.iload_n 3, 1), (.iload 4, 2), (.iconst 1, 1)] (pc' := 120) (L' := [(0, .inr (q, some 0)), (1, .inl (.int 3)), (2, .inl (.int a)), (3, .inl (.int b)), (4, .inl (.int c)), (5, .inl (.int e))]) (st' := [.inl (.int 1), .inl (.int c), .inl (.int b), .inl (.int a), .inr (q, some 0)]) ⟨dL_does_114, dL_does_115, dL_does_116, dL_does_117, dL_does_119, trivial⟩ rfl rfl ?_
  refine wl_icmp_ne (tgt := 127) dL_does_120 (by decide) (fun hc => ?_) (fun hc => ?_)
  · rw [if_neg hc] at hC
    refine wq_run [(.iconst 0, 1)] (pc' := 128) (L' := [(0, .inr (q, some 0)), (1, .inl (.int 3)), (2, .inl (.int a)), (3, .inl (.int b)), (4, .inl (.int c)), (5, .inl (.int e))]) (st' := [.inl (.int 0), .inl (.int b), .inl (.int a), .inr (q, some 0)]) ⟨dL_does_127, trivial⟩ rfl rfl ?_
    refine WL.room (uc' := 0 + bc) (us' := 0 + bs) (by omega) (by omega) ?_
    refine wl_virtual (M := M_L_does) (uc := 0) (us := 0) (q := q) (As := [.inl (.int a), .inl (.int b), .inl (.int 0)]) (rest := []) hq rfl (ok_X8_runs _ _) ml_L_38 im_X8_runs se_X8_runs (by omega) (hC (d - 1) (by omega)) rfl rfl (Nat.le_of_ble_eq_true rfl) dL_does_128 (fun r9 h9 e9 => ?_) (fun E9 h9 e9 => ?_)
    · obtain ⟨e1, rfl⟩ := e9
      rcases hs with ⟨x9, rfl⟩ | rfl | rfl | rfl
      · cases e1
        refine wl_if_eq (tgt := 138) dL_does_131 (by decide) (fun hz => ?_) (fun hz => ?_)
        · refine wq_run [(.iconst 0, 1)] (pc' := 139) (L' := [(0, .inr (q, some 0)), (1, .inl (.int 3)), (2, .inl (.int a)), (3, .inl (.int b)), (4, .inl (.int c)), (5, .inl (.int e))]) (st' := [.inl (.int 0)]) ⟨dL_does_138, trivial⟩ rfl rfl ?_
          exact wl_iret rfl rfl dL_does_139 ⟨by show _ = Sum.inl (some (Sum.inl (Value.int (if x9 = 0 then 0 else 1)))); rw [if_pos hz], rfl⟩
        · refine wq_run [(.iconst 1, 1)] (pc' := 135) (L' := [(0, .inr (q, some 0)), (1, .inl (.int 3)), (2, .inl (.int a)), (3, .inl (.int b)), (4, .inl (.int c)), (5, .inl (.int e))]) (st' := [.inl (.int 1)]) ⟨dL_does_134, trivial⟩ rfl rfl ?_
          refine wl_goto (tgt := 139) dL_does_135 (by decide) ?_
          exact wl_iret rfl rfl dL_does_139 ⟨by show _ = Sum.inl (some (Sum.inl (Value.int (if x9 = 0 then 0 else 1)))); rw [if_neg hz], rfl⟩
      · cases e1
      · cases e1
      · cases e1
    · obtain ⟨e1, rfl⟩ := e9
      rcases hs with ⟨x9, rfl⟩ | rfl | rfl | rfl
      · cases e1
      · cases e1
        exact cl_out rfl rfl ⟨rfl, rfl⟩
      · cases e1
        exact cl_out rfl rfl ⟨rfl, rfl⟩
      · cases e1
        exact cl_out rfl rfl ⟨rfl, rfl⟩
  · rw [if_pos hc] at hC
    refine wq_run [(.iconst 1, 1)] (pc' := 124) (L' := [(0, .inr (q, some 0)), (1, .inl (.int 3)), (2, .inl (.int a)), (3, .inl (.int b)), (4, .inl (.int c)), (5, .inl (.int e))]) (st' := [.inl (.int 1), .inl (.int b), .inl (.int a), .inr (q, some 0)]) ⟨dL_does_123, trivial⟩ rfl rfl ?_
    refine wl_goto (tgt := 128) dL_does_124 (by decide) ?_
    refine WL.room (uc' := 0 + bc) (us' := 0 + bs) (by omega) (by omega) ?_
    refine wl_virtual (M := M_L_does) (uc := 0) (us := 0) (q := q) (As := [.inl (.int a), .inl (.int b), .inl (.int 1)]) (rest := []) hq rfl (ok_X8_runs _ _) ml_L_38 im_X8_runs se_X8_runs (by omega) (hC (d - 1) (by omega)) rfl rfl (Nat.le_of_ble_eq_true rfl) dL_does_128 (fun r9 h9 e9 => ?_) (fun E9 h9 e9 => ?_)
    · obtain ⟨e1, rfl⟩ := e9
      rcases hs with ⟨x9, rfl⟩ | rfl | rfl | rfl
      · cases e1
        refine wl_if_eq (tgt := 138) dL_does_131 (by decide) (fun hz => ?_) (fun hz => ?_)
        · refine wq_run [(.iconst 0, 1)] (pc' := 139) (L' := [(0, .inr (q, some 0)), (1, .inl (.int 3)), (2, .inl (.int a)), (3, .inl (.int b)), (4, .inl (.int c)), (5, .inl (.int e))]) (st' := [.inl (.int 0)]) ⟨dL_does_138, trivial⟩ rfl rfl ?_
          exact wl_iret rfl rfl dL_does_139 ⟨by show _ = Sum.inl (some (Sum.inl (Value.int (if x9 = 0 then 0 else 1)))); rw [if_pos hz], rfl⟩
        · refine wq_run [(.iconst 1, 1)] (pc' := 135) (L' := [(0, .inr (q, some 0)), (1, .inl (.int 3)), (2, .inl (.int a)), (3, .inl (.int b)), (4, .inl (.int c)), (5, .inl (.int e))]) (st' := [.inl (.int 1)]) ⟨dL_does_134, trivial⟩ rfl rfl ?_
          refine wl_goto (tgt := 139) dL_does_135 (by decide) ?_
          exact wl_iret rfl rfl dL_does_139 ⟨by show _ = Sum.inl (some (Sum.inl (Value.int (if x9 = 0 then 0 else 1)))); rw [if_neg hz], rfl⟩
      · cases e1
      · cases e1
      · cases e1
    · obtain ⟨e1, rfl⟩ := e9
      rcases hs with ⟨x9, rfl⟩ | rfl | rfl | rfl
      · cases e1
      · cases e1
        exact cl_out rfl rfl ⟨rfl, rfl⟩
      · cases e1
        exact cl_out rfl rfl ⟨rfl, rfl⟩
      · cases e1
        exact cl_out rfl rfl ⟨rfl, rfl⟩
set_option maxRecDepth 20000 in
theorem c_does_delay {g : GT} {d bc bs q : Nat} {w w' : Wd} {a b c e : Int32} {r : Rs} (hd : 14 ≤ d) (hq : q = 1 ∨ q = 2) (hs : shI r) (hC : ∀ d', 13 ≤ d' → CL g M_X8_delay d' bc bs [.inr (q, some 0), .inl (.int a), .inl (.int b), .inl (.int c)] w (cl_det r w')) : CL g M_L_does d bc bs [.inr (q, some 0), .inl (.int 4), .inl (.int a), .inl (.int b), .inl (.int c), .inl (.int e)] w (cl_det r w') := by
  refine cl_body rfl rfl (by decide) (Nat.le_of_ble_eq_true rfl) ?_
  refine wq_run [(.iload_n 1, 1)] (pc' := 1) (L' := [(0, .inr (q, some 0)), (1, .inl (.int 4)), (2, .inl (.int a)), (3, .inl (.int b)), (4, .inl (.int c)), (5, .inl (.int e))]) (st' := [.inl (.int 4)]) ⟨dL_does_0, trivial⟩ rfl rfl ?_
  refine wl_tableIn (tgt := 140) (off := 139) dL_does_1 (by decide) (by decide) rfl (by decide) ?_
  refine wq_run [(.aload_n 0, 1), (.iload_n 2, 1), (.iload_n 3, 1), (.iload 4, 2)] (pc' := 145) (L' := [(0, .inr (q, some 0)), (1, .inl (.int 4)), (2, .inl (.int a)), (3, .inl (.int b)), (4, .inl (.int c)), (5, .inl (.int e))]) (st' := [.inl (.int c), .inl (.int b), .inl (.int a), .inr (q, some 0)]) ⟨dL_does_140, dL_does_141, dL_does_142, dL_does_143, trivial⟩ rfl rfl ?_
  refine WL.room (uc' := 0 + bc) (us' := 0 + bs) (by omega) (by omega) ?_
  refine wl_virtual (M := M_L_does) (uc := 0) (us := 0) (q := q) (As := [.inl (.int a), .inl (.int b), .inl (.int c)]) (rest := []) hq rfl (ok_X8_delay _ _) ml_L_42 im_X8_delay se_X8_delay (by omega) (hC (d - 1) (by omega)) rfl rfl (Nat.le_of_ble_eq_true rfl) dL_does_145 (fun r9 h9 e9 => ?_) (fun E9 h9 e9 => ?_)
  · obtain ⟨e1, rfl⟩ := e9
    rcases hs with ⟨x9, rfl⟩ | rfl | rfl | rfl
    · cases e1
      exact wl_iret rfl rfl dL_does_148 ⟨rfl, rfl⟩
    · cases e1
    · cases e1
    · cases e1
  · obtain ⟨e1, rfl⟩ := e9
    rcases hs with ⟨x9, rfl⟩ | rfl | rfl | rfl
    · cases e1
    · cases e1
      exact cl_out rfl rfl ⟨rfl, rfl⟩
    · cases e1
      exact cl_out rfl rfl ⟨rfl, rfl⟩
    · cases e1
      exact cl_out rfl rfl ⟨rfl, rfl⟩
set_option maxRecDepth 20000 in
theorem c_does_note {g : GT} {d bc bs q : Nat} {w w' : Wd} {a b c e : Int32} {r : Rs} (hd : 14 ≤ d) (hq : q = 1 ∨ q = 2) (hs : shI r) (hC : ∀ d', 13 ≤ d' → CL g M_X8_note d' bc bs [.inr (q, some 0), .inl (.int a), .inl (.int b)] w (cl_det r w')) : CL g M_L_does d bc bs [.inr (q, some 0), .inl (.int 5), .inl (.int a), .inl (.int b), .inl (.int c), .inl (.int e)] w (cl_det r w') := by
  refine cl_body rfl rfl (by decide) (Nat.le_of_ble_eq_true rfl) ?_
  refine wq_run [(.iload_n 1, 1)] (pc' := 1) (L' := [(0, .inr (q, some 0)), (1, .inl (.int 5)), (2, .inl (.int a)), (3, .inl (.int b)), (4, .inl (.int c)), (5, .inl (.int e))]) (st' := [.inl (.int 5)]) ⟨dL_does_0, trivial⟩ rfl rfl ?_
  refine wl_tableIn (tgt := 149) (off := 148) dL_does_1 (by decide) (by decide) rfl (by decide) ?_
  refine wq_run [(.aload_n 0, 1), (.iload_n 2, 1), (.iload_n 3, 1)] (pc' := 152) (L' := [(0, .inr (q, some 0)), (1, .inl (.int 5)), (2, .inl (.int a)), (3, .inl (.int b)), (4, .inl (.int c)), (5, .inl (.int e))]) (st' := [.inl (.int b), .inl (.int a), .inr (q, some 0)]) ⟨dL_does_149, dL_does_150, dL_does_151, trivial⟩ rfl rfl ?_
  refine WL.room (uc' := 0 + bc) (us' := 0 + bs) (by omega) (by omega) ?_
  refine wl_virtual (M := M_L_does) (uc := 0) (us := 0) (q := q) (As := [.inl (.int a), .inl (.int b)]) (rest := []) hq rfl (ok_X8_note _ _) ml_L_45 im_X8_note se_X8_note (by omega) (hC (d - 1) (by omega)) rfl rfl (Nat.le_of_ble_eq_true rfl) dL_does_152 (fun r9 h9 e9 => ?_) (fun E9 h9 e9 => ?_)
  · obtain ⟨e1, rfl⟩ := e9
    rcases hs with ⟨x9, rfl⟩ | rfl | rfl | rfl
    · cases e1
      exact wl_iret rfl rfl dL_does_155 ⟨rfl, rfl⟩
    · cases e1
    · cases e1
    · cases e1
  · obtain ⟨e1, rfl⟩ := e9
    rcases hs with ⟨x9, rfl⟩ | rfl | rfl | rfl
    · cases e1
    · cases e1
      exact cl_out rfl rfl ⟨rfl, rfl⟩
    · cases e1
      exact cl_out rfl rfl ⟨rfl, rfl⟩
    · cases e1
      exact cl_out rfl rfl ⟨rfl, rfl⟩
def rP6 (r : Rs) : Prop := r = .inl none ∨ r = .inr cy_e1 ∨ r = .inr cy_e3
def rD6 (r : Rs) : Rs := match r with
  | .inl _ => .inl (some (.inl (.int 0)))
  | x => x
set_option maxRecDepth 20000 in
theorem c_does_prices {g : GT} {d bc bs q : Nat} {w w' : Wd} {a b c e : Int32} {r : Rs} (hd : 14 ≤ d) (hq : q = 1 ∨ q = 2) (hs : rP6 r) (hC : ∀ d', 13 ≤ d' → CL g M_X8_prices d' bc bs [.inr (q, some 0), .inl (.int a), .inl (.int b), .inl (.int c), .inl (.int e)] w (cl_det r w')) : CL g M_L_does d bc bs [.inr (q, some 0), .inl (.int 6), .inl (.int a), .inl (.int b), .inl (.int c), .inl (.int e)] w (cl_det (rD6 r) w') := by
  refine cl_body rfl rfl (by decide) (Nat.le_of_ble_eq_true rfl) ?_
  refine wq_run [(.iload_n 1, 1)] (pc' := 1) (L' := [(0, .inr (q, some 0)), (1, .inl (.int 6)), (2, .inl (.int a)), (3, .inl (.int b)), (4, .inl (.int c)), (5, .inl (.int e))]) (st' := [.inl (.int 6)]) ⟨dL_does_0, trivial⟩ rfl rfl ?_
  refine wl_tableIn (tgt := 156) (off := 155) dL_does_1 (by decide) (by decide) rfl (by decide) ?_
  refine wq_run [(.aload_n 0, 1), (.iload_n 2, 1), (.iload_n 3, 1), (.iload 4, 2), (.iload 5, 2)] (pc' := 163) (L' := [(0, .inr (q, some 0)), (1, .inl (.int 6)), (2, .inl (.int a)), (3, .inl (.int b)), (4, .inl (.int c)), (5, .inl (.int e))]) (st' := [.inl (.int e), .inl (.int c), .inl (.int b), .inl (.int a), .inr (q, some 0)]) ⟨dL_does_156, dL_does_157, dL_does_158, dL_does_159, dL_does_161, trivial⟩ rfl rfl ?_
  refine WL.room (uc' := 0 + bc) (us' := 0 + bs) (by omega) (by omega) ?_
  refine wl_virtual (M := M_L_does) (uc := 0) (us := 0) (q := q) (As := [.inl (.int a), .inl (.int b), .inl (.int c), .inl (.int e)]) (rest := []) hq rfl (ok_X8_prices _ _) ml_L_49 im_X8_prices se_X8_prices (by omega) (hC (d - 1) (by omega)) rfl rfl (Nat.le_of_ble_eq_true rfl) dL_does_163 (fun r9 h9 e9 => ?_) (fun E9 h9 e9 => ?_)
  · obtain ⟨e1, rfl⟩ := e9
    rcases hs with rfl | rfl | rfl
    · cases e1
      refine wq_run [(.iconst 0, 1)] (pc' := 167) (L' := [(0, .inr (q, some 0)), (1, .inl (.int 6)), (2, .inl (.int a)), (3, .inl (.int b)), (4, .inl (.int c)), (5, .inl (.int e))]) (st' := [.inl (.int 0)]) ⟨dL_does_166, trivial⟩ rfl rfl ?_
      exact wl_iret rfl rfl dL_does_167 ⟨rfl, rfl⟩
    · cases e1
    · cases e1
  · obtain ⟨e1, rfl⟩ := e9
    rcases hs with rfl | rfl | rfl
    · cases e1
    · cases e1
      exact cl_out rfl rfl ⟨rfl, rfl⟩
    · cases e1
      exact cl_out rfl rfl ⟨rfl, rfl⟩
set_option maxRecDepth 20000 in
theorem c_does_arrival {g : GT} {d bc bs q : Nat} {w w' : Wd} {a b c e : Int32} {r : Rs} (hd : 14 ≤ d) (hq : q = 1 ∨ q = 2) (hs : shI r) (hC : ∀ d', 13 ≤ d' → CL g M_X8_arrival d' bc bs [.inr (q, some 0), .inl (.int a), .inl (.int b), .inl (.int c), .inl (.int e)] w (cl_det r w')) : CL g M_L_does d bc bs [.inr (q, some 0), .inl (.int 7), .inl (.int a), .inl (.int b), .inl (.int c), .inl (.int e)] w (cl_det r w') := by
  refine cl_body rfl rfl (by decide) (Nat.le_of_ble_eq_true rfl) ?_
  refine wq_run [(.iload_n 1, 1)] (pc' := 1) (L' := [(0, .inr (q, some 0)), (1, .inl (.int 7)), (2, .inl (.int a)), (3, .inl (.int b)), (4, .inl (.int c)), (5, .inl (.int e))]) (st' := [.inl (.int 7)]) ⟨dL_does_0, trivial⟩ rfl rfl ?_
  refine wl_tableIn (tgt := 168) (off := 167) dL_does_1 (by decide) (by decide) rfl (by decide) ?_
  refine wq_run [(.aload_n 0, 1), (.iload_n 2, 1), (.iload_n 3, 1), (.iload 4, 2), (.iload 5, 2)] (pc' := 175) (L' := [(0, .inr (q, some 0)), (1, .inl (.int 7)), (2, .inl (.int a)), (3, .inl (.int b)), (4, .inl (.int c)), (5, .inl (.int e))]) (st' := [.inl (.int e), .inl (.int c), .inl (.int b), .inl (.int a), .inr (q, some 0)]) ⟨dL_does_168, dL_does_169, dL_does_170, dL_does_171, dL_does_173, trivial⟩ rfl rfl ?_
  refine WL.room (uc' := 0 + bc) (us' := 0 + bs) (by omega) (by omega) ?_
  refine wl_virtual (M := M_L_does) (uc := 0) (us := 0) (q := q) (As := [.inl (.int a), .inl (.int b), .inl (.int c), .inl (.int e)]) (rest := []) hq rfl (ok_X8_arrival _ _) ml_L_53 im_X8_arrival se_X8_arrival (by omega) (hC (d - 1) (by omega)) rfl rfl (Nat.le_of_ble_eq_true rfl) dL_does_175 (fun r9 h9 e9 => ?_) (fun E9 h9 e9 => ?_)
  · obtain ⟨e1, rfl⟩ := e9
    rcases hs with ⟨x9, rfl⟩ | rfl | rfl | rfl
    · cases e1
      exact wl_iret rfl rfl dL_does_178 ⟨rfl, rfl⟩
    · cases e1
    · cases e1
    · cases e1
  · obtain ⟨e1, rfl⟩ := e9
    rcases hs with ⟨x9, rfl⟩ | rfl | rfl | rfl
    · cases e1
    · cases e1
      exact cl_out rfl rfl ⟨rfl, rfl⟩
    · cases e1
      exact cl_out rfl rfl ⟨rfl, rfl⟩
    · cases e1
      exact cl_out rfl rfl ⟨rfl, rfl⟩
set_option maxRecDepth 20000 in
theorem c_does_arrivalAnew {g : GT} {d bc bs q : Nat} {w w' : Wd} {a b c e : Int32} {r : Rs} (hd : 14 ≤ d) (hq : q = 1 ∨ q = 2) (hs : shI r) (hC : ∀ d', 13 ≤ d' → CL g M_X8_arrivalAnew d' bc bs [.inr (q, some 0), .inl (.int a), .inl (.int b), .inl (.int c), .inl (.int e)] w (cl_det r w')) : CL g M_L_does d bc bs [.inr (q, some 0), .inl (.int 8), .inl (.int a), .inl (.int b), .inl (.int c), .inl (.int e)] w (cl_det r w') := by
  refine cl_body rfl rfl (by decide) (Nat.le_of_ble_eq_true rfl) ?_
  refine wq_run [(.iload_n 1, 1)] (pc' := 1) (L' := [(0, .inr (q, some 0)), (1, .inl (.int 8)), (2, .inl (.int a)), (3, .inl (.int b)), (4, .inl (.int c)), (5, .inl (.int e))]) (st' := [.inl (.int 8)]) ⟨dL_does_0, trivial⟩ rfl rfl ?_
  refine wl_tableIn (tgt := 179) (off := 178) dL_does_1 (by decide) (by decide) rfl (by decide) ?_
  refine wq_run [(.aload_n 0, 1), (.iload_n 2, 1), (.iload_n 3, 1), (.iload 4, 2), (.iload 5, 2)] (pc' := 186) (L' := [(0, .inr (q, some 0)), (1, .inl (.int 8)), (2, .inl (.int a)), (3, .inl (.int b)), (4, .inl (.int c)), (5, .inl (.int e))]) (st' := [.inl (.int e), .inl (.int c), .inl (.int b), .inl (.int a), .inr (q, some 0)]) ⟨dL_does_179, dL_does_180, dL_does_181, dL_does_182, dL_does_184, trivial⟩ rfl rfl ?_
  refine WL.room (uc' := 0 + bc) (us' := 0 + bs) (by omega) (by omega) ?_
  refine wl_virtual (M := M_L_does) (uc := 0) (us := 0) (q := q) (As := [.inl (.int a), .inl (.int b), .inl (.int c), .inl (.int e)]) (rest := []) hq rfl (ok_X8_arrivalAnew _ _) ml_L_56 im_X8_arrivalAnew se_X8_arrivalAnew (by omega) (hC (d - 1) (by omega)) rfl rfl (Nat.le_of_ble_eq_true rfl) dL_does_186 (fun r9 h9 e9 => ?_) (fun E9 h9 e9 => ?_)
  · obtain ⟨e1, rfl⟩ := e9
    rcases hs with ⟨x9, rfl⟩ | rfl | rfl | rfl
    · cases e1
      exact wl_iret rfl rfl dL_does_189 ⟨rfl, rfl⟩
    · cases e1
    · cases e1
    · cases e1
  · obtain ⟨e1, rfl⟩ := e9
    rcases hs with ⟨x9, rfl⟩ | rfl | rfl | rfl
    · cases e1
    · cases e1
      exact cl_out rfl rfl ⟨rfl, rfl⟩
    · cases e1
      exact cl_out rfl rfl ⟨rfl, rfl⟩
    · cases e1
      exact cl_out rfl rfl ⟨rfl, rfl⟩
set_option maxRecDepth 20000 in
theorem c_does_front {g : GT} {d bc bs q : Nat} {w w' : Wd} {a b c e : Int32} {r : Rs} (hd : 14 ≤ d) (hq : q = 1 ∨ q = 2) (hs : shI r) (hC : ∀ d', 13 ≤ d' → CL g M_X8_front d' bc bs [.inr (q, some 0), .inl (.int a), .inl (.int b), .inl (.int c)] w (cl_det r w')) : CL g M_L_does d bc bs [.inr (q, some 0), .inl (.int 9), .inl (.int a), .inl (.int b), .inl (.int c), .inl (.int e)] w (cl_det r w') := by
  refine cl_body rfl rfl (by decide) (Nat.le_of_ble_eq_true rfl) ?_
  refine wq_run [(.iload_n 1, 1)] (pc' := 1) (L' := [(0, .inr (q, some 0)), (1, .inl (.int 9)), (2, .inl (.int a)), (3, .inl (.int b)), (4, .inl (.int c)), (5, .inl (.int e))]) (st' := [.inl (.int 9)]) ⟨dL_does_0, trivial⟩ rfl rfl ?_
  refine wl_tableIn (tgt := 190) (off := 189) dL_does_1 (by decide) (by decide) rfl (by decide) ?_
  refine wq_run [(.aload_n 0, 1), (.iload_n 2, 1), (.iload_n 3, 1), (.iload 4, 2)] (pc' := 195) (L' := [(0, .inr (q, some 0)), (1, .inl (.int 9)), (2, .inl (.int a)), (3, .inl (.int b)), (4, .inl (.int c)), (5, .inl (.int e))]) (st' := [.inl (.int c), .inl (.int b), .inl (.int a), .inr (q, some 0)]) ⟨dL_does_190, dL_does_191, dL_does_192, dL_does_193, trivial⟩ rfl rfl ?_
  refine WL.room (uc' := 0 + bc) (us' := 0 + bs) (by omega) (by omega) ?_
  refine wl_virtual (M := M_L_does) (uc := 0) (us := 0) (q := q) (As := [.inl (.int a), .inl (.int b), .inl (.int c)]) (rest := []) hq rfl (ok_X8_front _ _) ml_L_59 im_X8_front se_X8_front (by omega) (hC (d - 1) (by omega)) rfl rfl (Nat.le_of_ble_eq_true rfl) dL_does_195 (fun r9 h9 e9 => ?_) (fun E9 h9 e9 => ?_)
  · obtain ⟨e1, rfl⟩ := e9
    rcases hs with ⟨x9, rfl⟩ | rfl | rfl | rfl
    · cases e1
      exact wl_iret rfl rfl dL_does_198 ⟨rfl, rfl⟩
    · cases e1
    · cases e1
    · cases e1
  · obtain ⟨e1, rfl⟩ := e9
    rcases hs with ⟨x9, rfl⟩ | rfl | rfl | rfl
    · cases e1
    · cases e1
      exact cl_out rfl rfl ⟨rfl, rfl⟩
    · cases e1
      exact cl_out rfl rfl ⟨rfl, rfl⟩
    · cases e1
      exact cl_out rfl rfl ⟨rfl, rfl⟩
set_option maxRecDepth 20000 in
theorem c_does_best {g : GT} {d bc bs q : Nat} {w w' : Wd} {a b c e : Int32} {r : Rs} (hd : 14 ≤ d) (hq : q = 1 ∨ q = 2) (hs : shI r) (hC : ∀ d', 13 ≤ d' → CL g M_X8_best d' bc bs [.inr (q, some 0), .inl (.int a), .inl (.int b), .inl (.int c)] w (cl_det r w')) : CL g M_L_does d bc bs [.inr (q, some 0), .inl (.int 10), .inl (.int a), .inl (.int b), .inl (.int c), .inl (.int e)] w (cl_det r w') := by
  refine cl_body rfl rfl (by decide) (Nat.le_of_ble_eq_true rfl) ?_
  refine wq_run [(.iload_n 1, 1)] (pc' := 1) (L' := [(0, .inr (q, some 0)), (1, .inl (.int 10)), (2, .inl (.int a)), (3, .inl (.int b)), (4, .inl (.int c)), (5, .inl (.int e))]) (st' := [.inl (.int 10)]) ⟨dL_does_0, trivial⟩ rfl rfl ?_
  refine wl_tableIn (tgt := 199) (off := 198) dL_does_1 (by decide) (by decide) rfl (by decide) ?_
  refine wq_run [(.aload_n 0, 1), (.iload_n 2, 1), (.iload_n 3, 1), (.iload 4, 2)] (pc' := 204) (L' := [(0, .inr (q, some 0)), (1, .inl (.int 10)), (2, .inl (.int a)), (3, .inl (.int b)), (4, .inl (.int c)), (5, .inl (.int e))]) (st' := [.inl (.int c), .inl (.int b), .inl (.int a), .inr (q, some 0)]) ⟨dL_does_199, dL_does_200, dL_does_201, dL_does_202, trivial⟩ rfl rfl ?_
  refine WL.room (uc' := 0 + bc) (us' := 0 + bs) (by omega) (by omega) ?_
  refine wl_virtual (M := M_L_does) (uc := 0) (us := 0) (q := q) (As := [.inl (.int a), .inl (.int b), .inl (.int c)]) (rest := []) hq rfl (ok_X8_best _ _) ml_L_62 im_X8_best se_X8_best (by omega) (hC (d - 1) (by omega)) rfl rfl (Nat.le_of_ble_eq_true rfl) dL_does_204 (fun r9 h9 e9 => ?_) (fun E9 h9 e9 => ?_)
  · obtain ⟨e1, rfl⟩ := e9
    rcases hs with ⟨x9, rfl⟩ | rfl | rfl | rfl
    · cases e1
      exact wl_iret rfl rfl dL_does_207 ⟨rfl, rfl⟩
    · cases e1
    · cases e1
    · cases e1
  · obtain ⟨e1, rfl⟩ := e9
    rcases hs with ⟨x9, rfl⟩ | rfl | rfl | rfl
    · cases e1
    · cases e1
      exact cl_out rfl rfl ⟨rfl, rfl⟩
    · cases e1
      exact cl_out rfl rfl ⟨rfl, rfl⟩
    · cases e1
      exact cl_out rfl rfl ⟨rfl, rfl⟩
set_option maxRecDepth 20000 in
theorem c_does_book {g : GT} {d bc bs q : Nat} {w w' : Wd} {a b c e : Int32} {r : Rs} (hd : 14 ≤ d) (hq : q = 1 ∨ q = 2) (hs : shI r) (hC : ∀ d', 13 ≤ d' → CL g M_X8_book d' bc bs [.inr (q, some 0), .inl (.int a), .inl (.int b), .inl (.int c), .inl (.int e)] w (cl_det r w')) : CL g M_L_does d bc bs [.inr (q, some 0), .inl (.int 11), .inl (.int a), .inl (.int b), .inl (.int c), .inl (.int e)] w (cl_det r w') := by
  refine cl_body rfl rfl (by decide) (Nat.le_of_ble_eq_true rfl) ?_
  refine wq_run [(.iload_n 1, 1)] (pc' := 1) (L' := [(0, .inr (q, some 0)), (1, .inl (.int 11)), (2, .inl (.int a)), (3, .inl (.int b)), (4, .inl (.int c)), (5, .inl (.int e))]) (st' := [.inl (.int 11)]) ⟨dL_does_0, trivial⟩ rfl rfl ?_
  refine wl_tableIn (tgt := 208) (off := 207) dL_does_1 (by decide) (by decide) rfl (by decide) ?_
  refine wq_run [(.aload_n 0, 1), (.iload_n 2, 1), (.iload_n 3, 1), (.iload 4, 2), (.iload 5, 2)] (pc' := 215) (L' := [(0, .inr (q, some 0)), (1, .inl (.int 11)), (2, .inl (.int a)), (3, .inl (.int b)), (4, .inl (.int c)), (5, .inl (.int e))]) (st' := [.inl (.int e), .inl (.int c), .inl (.int b), .inl (.int a), .inr (q, some 0)]) ⟨dL_does_208, dL_does_209, dL_does_210, dL_does_211, dL_does_213, trivial⟩ rfl rfl ?_
  refine WL.room (uc' := 0 + bc) (us' := 0 + bs) (by omega) (by omega) ?_
  refine wl_virtual (M := M_L_does) (uc := 0) (us := 0) (q := q) (As := [.inl (.int a), .inl (.int b), .inl (.int c), .inl (.int e)]) (rest := []) hq rfl (ok_X8_book _ _) ml_L_65 im_X8_book se_X8_book (by omega) (hC (d - 1) (by omega)) rfl rfl (Nat.le_of_ble_eq_true rfl) dL_does_215 (fun r9 h9 e9 => ?_) (fun E9 h9 e9 => ?_)
  · obtain ⟨e1, rfl⟩ := e9
    rcases hs with ⟨x9, rfl⟩ | rfl | rfl | rfl
    · cases e1
      exact wl_iret rfl rfl dL_does_218 ⟨rfl, rfl⟩
    · cases e1
    · cases e1
    · cases e1
  · obtain ⟨e1, rfl⟩ := e9
    rcases hs with ⟨x9, rfl⟩ | rfl | rfl | rfl
    · cases e1
    · cases e1
      exact cl_out rfl rfl ⟨rfl, rfl⟩
    · cases e1
      exact cl_out rfl rfl ⟨rfl, rfl⟩
    · cases e1
      exact cl_out rfl rfl ⟨rfl, rfl⟩
set_option maxRecDepth 20000 in
theorem c_does_buy {g : GT} {d bc bs q : Nat} {w w' : Wd} {a b c e : Int32} {r : Rs} (hd : 14 ≤ d) (hq : q = 1 ∨ q = 2) (hs : shI r) (hC : ∀ d', 13 ≤ d' → CL g M_X8_buy d' bc bs [.inr (q, some 0), .inl (.int a)] w (cl_det r w')) : CL g M_L_does d bc bs [.inr (q, some 0), .inl (.int 12), .inl (.int a), .inl (.int b), .inl (.int c), .inl (.int e)] w (cl_det r w') := by
  refine cl_body rfl rfl (by decide) (Nat.le_of_ble_eq_true rfl) ?_
  refine wq_run [(.iload_n 1, 1)] (pc' := 1) (L' := [(0, .inr (q, some 0)), (1, .inl (.int 12)), (2, .inl (.int a)), (3, .inl (.int b)), (4, .inl (.int c)), (5, .inl (.int e))]) (st' := [.inl (.int 12)]) ⟨dL_does_0, trivial⟩ rfl rfl ?_
  refine wl_tableIn (tgt := 219) (off := 218) dL_does_1 (by decide) (by decide) rfl (by decide) ?_
  refine wq_run [(.aload_n 0, 1), (.iload_n 2, 1)] (pc' := 221) (L' := [(0, .inr (q, some 0)), (1, .inl (.int 12)), (2, .inl (.int a)), (3, .inl (.int b)), (4, .inl (.int c)), (5, .inl (.int e))]) (st' := [.inl (.int a), .inr (q, some 0)]) ⟨dL_does_219, dL_does_220, trivial⟩ rfl rfl ?_
  refine WL.room (uc' := 0 + bc) (us' := 0 + bs) (by omega) (by omega) ?_
  refine wl_virtual (M := M_L_does) (uc := 0) (us := 0) (q := q) (As := [.inl (.int a)]) (rest := []) hq rfl (ok_X8_buy _ _) ml_L_68 im_X8_buy se_X8_buy (by omega) (hC (d - 1) (by omega)) rfl rfl (Nat.le_of_ble_eq_true rfl) dL_does_221 (fun r9 h9 e9 => ?_) (fun E9 h9 e9 => ?_)
  · obtain ⟨e1, rfl⟩ := e9
    rcases hs with ⟨x9, rfl⟩ | rfl | rfl | rfl
    · cases e1
      exact wl_iret rfl rfl dL_does_224 ⟨rfl, rfl⟩
    · cases e1
    · cases e1
    · cases e1
  · obtain ⟨e1, rfl⟩ := e9
    rcases hs with ⟨x9, rfl⟩ | rfl | rfl | rfl
    · cases e1
    · cases e1
      exact cl_out rfl rfl ⟨rfl, rfl⟩
    · cases e1
      exact cl_out rfl rfl ⟨rfl, rfl⟩
    · cases e1
      exact cl_out rfl rfl ⟨rfl, rfl⟩
set_option maxRecDepth 20000 in
theorem c_does_right {g : GT} {d bc bs q : Nat} {w w' : Wd} {a b c e : Int32} {r : Rs} (hd : 14 ≤ d) (hq : q = 1 ∨ q = 2) (hs : shI r) (hC : ∀ d', 13 ≤ d' → CL g M_X8_right d' bc bs [.inr (q, some 0), .inl (.int a)] w (cl_det r w')) : CL g M_L_does d bc bs [.inr (q, some 0), .inl (.int 13), .inl (.int a), .inl (.int b), .inl (.int c), .inl (.int e)] w (cl_det r w') := by
  refine cl_body rfl rfl (by decide) (Nat.le_of_ble_eq_true rfl) ?_
  refine wq_run [(.iload_n 1, 1)] (pc' := 1) (L' := [(0, .inr (q, some 0)), (1, .inl (.int 13)), (2, .inl (.int a)), (3, .inl (.int b)), (4, .inl (.int c)), (5, .inl (.int e))]) (st' := [.inl (.int 13)]) ⟨dL_does_0, trivial⟩ rfl rfl ?_
  refine wl_tableIn (tgt := 225) (off := 224) dL_does_1 (by decide) (by decide) rfl (by decide) ?_
  refine wq_run [(.aload_n 0, 1), (.iload_n 2, 1)] (pc' := 227) (L' := [(0, .inr (q, some 0)), (1, .inl (.int 13)), (2, .inl (.int a)), (3, .inl (.int b)), (4, .inl (.int c)), (5, .inl (.int e))]) (st' := [.inl (.int a), .inr (q, some 0)]) ⟨dL_does_225, dL_does_226, trivial⟩ rfl rfl ?_
  refine WL.room (uc' := 0 + bc) (us' := 0 + bs) (by omega) (by omega) ?_
  refine wl_virtual (M := M_L_does) (uc := 0) (us := 0) (q := q) (As := [.inl (.int a)]) (rest := []) hq rfl (ok_X8_right _ _) ml_L_71 im_X8_right se_X8_right (by omega) (hC (d - 1) (by omega)) rfl rfl (Nat.le_of_ble_eq_true rfl) dL_does_227 (fun r9 h9 e9 => ?_) (fun E9 h9 e9 => ?_)
  · obtain ⟨e1, rfl⟩ := e9
    rcases hs with ⟨x9, rfl⟩ | rfl | rfl | rfl
    · cases e1
      exact wl_iret rfl rfl dL_does_230 ⟨rfl, rfl⟩
    · cases e1
    · cases e1
    · cases e1
  · obtain ⟨e1, rfl⟩ := e9
    rcases hs with ⟨x9, rfl⟩ | rfl | rfl | rfl
    · cases e1
    · cases e1
      exact cl_out rfl rfl ⟨rfl, rfl⟩
    · cases e1
      exact cl_out rfl rfl ⟨rfl, rfl⟩
    · cases e1
      exact cl_out rfl rfl ⟨rfl, rfl⟩
set_option maxRecDepth 20000 in
theorem c_does_claim {g : GT} {d bc bs q : Nat} {w w' : Wd} {a b c e : Int32} {r : Rs} (hd : 14 ≤ d) (hq : q = 1 ∨ q = 2) (hs : shI r) (hC : ∀ d', 13 ≤ d' → CL g M_X8_claim d' bc bs [.inr (q, some 0), .inl (.int a)] w (cl_det r w')) : CL g M_L_does d bc bs [.inr (q, some 0), .inl (.int 14), .inl (.int a), .inl (.int b), .inl (.int c), .inl (.int e)] w (cl_det r w') := by
  refine cl_body rfl rfl (by decide) (Nat.le_of_ble_eq_true rfl) ?_
  refine wq_run [(.iload_n 1, 1)] (pc' := 1) (L' := [(0, .inr (q, some 0)), (1, .inl (.int 14)), (2, .inl (.int a)), (3, .inl (.int b)), (4, .inl (.int c)), (5, .inl (.int e))]) (st' := [.inl (.int 14)]) ⟨dL_does_0, trivial⟩ rfl rfl ?_
  refine wl_tableIn (tgt := 231) (off := 230) dL_does_1 (by decide) (by decide) rfl (by decide) ?_
  refine wq_run [(.aload_n 0, 1), (.iload_n 2, 1)] (pc' := 233) (L' := [(0, .inr (q, some 0)), (1, .inl (.int 14)), (2, .inl (.int a)), (3, .inl (.int b)), (4, .inl (.int c)), (5, .inl (.int e))]) (st' := [.inl (.int a), .inr (q, some 0)]) ⟨dL_does_231, dL_does_232, trivial⟩ rfl rfl ?_
  refine WL.room (uc' := 0 + bc) (us' := 0 + bs) (by omega) (by omega) ?_
  refine wl_virtual (M := M_L_does) (uc := 0) (us := 0) (q := q) (As := [.inl (.int a)]) (rest := []) hq rfl (ok_X8_claim _ _) ml_L_74 im_X8_claim se_X8_claim (by omega) (hC (d - 1) (by omega)) rfl rfl (Nat.le_of_ble_eq_true rfl) dL_does_233 (fun r9 h9 e9 => ?_) (fun E9 h9 e9 => ?_)
  · obtain ⟨e1, rfl⟩ := e9
    rcases hs with ⟨x9, rfl⟩ | rfl | rfl | rfl
    · cases e1
      exact wl_iret rfl rfl dL_does_236 ⟨rfl, rfl⟩
    · cases e1
    · cases e1
    · cases e1
  · obtain ⟨e1, rfl⟩ := e9
    rcases hs with ⟨x9, rfl⟩ | rfl | rfl | rfl
    · cases e1
    · cases e1
      exact cl_out rfl rfl ⟨rfl, rfl⟩
    · cases e1
      exact cl_out rfl rfl ⟨rfl, rfl⟩
    · cases e1
      exact cl_out rfl rfl ⟨rfl, rfl⟩
set_option maxRecDepth 20000 in
theorem c_does_concerned {g : GT} {d bc bs q : Nat} {w w' : Wd} {a b c e : Int32} {r : Rs} (hd : 14 ≤ d) (hq : q = 1 ∨ q = 2) (hs : shI r) (hC : ∀ d', 13 ≤ d' → CL g M_X8_concerned d' bc bs [.inr (q, some 0), .inl (.int a), .inl (.int b)] w (cl_det r w')) : CL g M_L_does d bc bs [.inr (q, some 0), .inl (.int 15), .inl (.int a), .inl (.int b), .inl (.int c), .inl (.int e)] w (cl_det r w') := by
  refine cl_body rfl rfl (by decide) (Nat.le_of_ble_eq_true rfl) ?_
  refine wq_run [(.iload_n 1, 1)] (pc' := 1) (L' := [(0, .inr (q, some 0)), (1, .inl (.int 15)), (2, .inl (.int a)), (3, .inl (.int b)), (4, .inl (.int c)), (5, .inl (.int e))]) (st' := [.inl (.int 15)]) ⟨dL_does_0, trivial⟩ rfl rfl ?_
  refine wl_tableIn (tgt := 237) (off := 236) dL_does_1 (by decide) (by decide) rfl (by decide) ?_
  refine wq_run [(.aload_n 0, 1), (.iload_n 2, 1), (.iload_n 3, 1)] (pc' := 240) (L' := [(0, .inr (q, some 0)), (1, .inl (.int 15)), (2, .inl (.int a)), (3, .inl (.int b)), (4, .inl (.int c)), (5, .inl (.int e))]) (st' := [.inl (.int b), .inl (.int a), .inr (q, some 0)]) ⟨dL_does_237, dL_does_238, dL_does_239, trivial⟩ rfl rfl ?_
  refine WL.room (uc' := 0 + bc) (us' := 0 + bs) (by omega) (by omega) ?_
  refine wl_virtual (M := M_L_does) (uc := 0) (us := 0) (q := q) (As := [.inl (.int a), .inl (.int b)]) (rest := []) hq rfl (ok_X8_concerned _ _) ml_L_77 im_X8_concerned se_X8_concerned (by omega) (hC (d - 1) (by omega)) rfl rfl (Nat.le_of_ble_eq_true rfl) dL_does_240 (fun r9 h9 e9 => ?_) (fun E9 h9 e9 => ?_)
  · obtain ⟨e1, rfl⟩ := e9
    rcases hs with ⟨x9, rfl⟩ | rfl | rfl | rfl
    · cases e1
      exact wl_iret rfl rfl dL_does_243 ⟨rfl, rfl⟩
    · cases e1
    · cases e1
    · cases e1
  · obtain ⟨e1, rfl⟩ := e9
    rcases hs with ⟨x9, rfl⟩ | rfl | rfl | rfl
    · cases e1
    · cases e1
      exact cl_out rfl rfl ⟨rfl, rfl⟩
    · cases e1
      exact cl_out rfl rfl ⟨rfl, rfl⟩
    · cases e1
      exact cl_out rfl rfl ⟨rfl, rfl⟩
set_option maxRecDepth 20000 in
theorem c_does_seats {g : GT} {d bc bs q : Nat} {w w' : Wd} {a b c e : Int32} {r : Rs} (hd : 14 ≤ d) (hq : q = 1 ∨ q = 2) (hs : shI r) (hC : ∀ d', 13 ≤ d' → CL g M_X8_seats d' bc bs [.inr (q, some 0), .inl (.int a), .inl (.int b)] w (cl_det r w')) : CL g M_L_does d bc bs [.inr (q, some 0), .inl (.int 16), .inl (.int a), .inl (.int b), .inl (.int c), .inl (.int e)] w (cl_det r w') := by
  refine cl_body rfl rfl (by decide) (Nat.le_of_ble_eq_true rfl) ?_
  refine wq_run [(.iload_n 1, 1)] (pc' := 1) (L' := [(0, .inr (q, some 0)), (1, .inl (.int 16)), (2, .inl (.int a)), (3, .inl (.int b)), (4, .inl (.int c)), (5, .inl (.int e))]) (st' := [.inl (.int 16)]) ⟨dL_does_0, trivial⟩ rfl rfl ?_
  refine wl_tableIn (tgt := 244) (off := 243) dL_does_1 (by decide) (by decide) rfl (by decide) ?_
  refine wq_run [(.aload_n 0, 1), (.iload_n 2, 1), (.iload_n 3, 1)] (pc' := 247) (L' := [(0, .inr (q, some 0)), (1, .inl (.int 16)), (2, .inl (.int a)), (3, .inl (.int b)), (4, .inl (.int c)), (5, .inl (.int e))]) (st' := [.inl (.int b), .inl (.int a), .inr (q, some 0)]) ⟨dL_does_244, dL_does_245, dL_does_246, trivial⟩ rfl rfl ?_
  refine WL.room (uc' := 0 + bc) (us' := 0 + bs) (by omega) (by omega) ?_
  refine wl_virtual (M := M_L_does) (uc := 0) (us := 0) (q := q) (As := [.inl (.int a), .inl (.int b)]) (rest := []) hq rfl (ok_X8_seats _ _) ml_L_80 im_X8_seats se_X8_seats (by omega) (hC (d - 1) (by omega)) rfl rfl (Nat.le_of_ble_eq_true rfl) dL_does_247 (fun r9 h9 e9 => ?_) (fun E9 h9 e9 => ?_)
  · obtain ⟨e1, rfl⟩ := e9
    rcases hs with ⟨x9, rfl⟩ | rfl | rfl | rfl
    · cases e1
      exact wl_iret rfl rfl dL_does_250 ⟨rfl, rfl⟩
    · cases e1
    · cases e1
    · cases e1
  · obtain ⟨e1, rfl⟩ := e9
    rcases hs with ⟨x9, rfl⟩ | rfl | rfl | rfl
    · cases e1
    · cases e1
      exact cl_out rfl rfl ⟨rfl, rfl⟩
    · cases e1
      exact cl_out rfl rfl ⟨rfl, rfl⟩
    · cases e1
      exact cl_out rfl rfl ⟨rfl, rfl⟩
set_option maxRecDepth 20000 in
theorem c_does_pass {g : GT} {d bc bs q : Nat} {w w' : Wd} {a b c e : Int32} {r : Rs} (hd : 14 ≤ d) (hq : q = 1 ∨ q = 2) (hs : shI r) (hC : ∀ d', 13 ≤ d' → CL g M_X8_pass d' bc bs [.inr (q, some 0), .inl (.int a)] w (cl_det r w')) : CL g M_L_does d bc bs [.inr (q, some 0), .inl (.int 17), .inl (.int a), .inl (.int b), .inl (.int c), .inl (.int e)] w (cl_det r w') := by
  refine cl_body rfl rfl (by decide) (Nat.le_of_ble_eq_true rfl) ?_
  refine wq_run [(.iload_n 1, 1)] (pc' := 1) (L' := [(0, .inr (q, some 0)), (1, .inl (.int 17)), (2, .inl (.int a)), (3, .inl (.int b)), (4, .inl (.int c)), (5, .inl (.int e))]) (st' := [.inl (.int 17)]) ⟨dL_does_0, trivial⟩ rfl rfl ?_
  refine wl_tableIn (tgt := 251) (off := 250) dL_does_1 (by decide) (by decide) rfl (by decide) ?_
  refine wq_run [(.aload_n 0, 1), (.iload_n 2, 1)] (pc' := 253) (L' := [(0, .inr (q, some 0)), (1, .inl (.int 17)), (2, .inl (.int a)), (3, .inl (.int b)), (4, .inl (.int c)), (5, .inl (.int e))]) (st' := [.inl (.int a), .inr (q, some 0)]) ⟨dL_does_251, dL_does_252, trivial⟩ rfl rfl ?_
  refine WL.room (uc' := 0 + bc) (us' := 0 + bs) (by omega) (by omega) ?_
  refine wl_virtual (M := M_L_does) (uc := 0) (us := 0) (q := q) (As := [.inl (.int a)]) (rest := []) hq rfl (ok_X8_pass _ _) ml_L_83 im_X8_pass se_X8_pass (by omega) (hC (d - 1) (by omega)) rfl rfl (Nat.le_of_ble_eq_true rfl) dL_does_253 (fun r9 h9 e9 => ?_) (fun E9 h9 e9 => ?_)
  · obtain ⟨e1, rfl⟩ := e9
    rcases hs with ⟨x9, rfl⟩ | rfl | rfl | rfl
    · cases e1
      exact wl_iret rfl rfl dL_does_256 ⟨rfl, rfl⟩
    · cases e1
    · cases e1
    · cases e1
  · obtain ⟨e1, rfl⟩ := e9
    rcases hs with ⟨x9, rfl⟩ | rfl | rfl | rfl
    · cases e1
    · cases e1
      exact cl_out rfl rfl ⟨rfl, rfl⟩
    · cases e1
      exact cl_out rfl rfl ⟨rfl, rfl⟩
    · cases e1
      exact cl_out rfl rfl ⟨rfl, rfl⟩
set_option maxRecDepth 20000 in
theorem c_does_ofBooking {g : GT} {d bc bs q : Nat} {w w' : Wd} {a b c e : Int32} {r : Rs} (hd : 14 ≤ d) (hq : q = 1 ∨ q = 2) (hs : shI r) (hC : ∀ d', 13 ≤ d' → CL g M_X8_ofBooking d' bc bs [.inr (q, some 0), .inl (.int a), .inl (.int b)] w (cl_det r w')) : CL g M_L_does d bc bs [.inr (q, some 0), .inl (.int 18), .inl (.int a), .inl (.int b), .inl (.int c), .inl (.int e)] w (cl_det r w') := by
  refine cl_body rfl rfl (by decide) (Nat.le_of_ble_eq_true rfl) ?_
  refine wq_run [(.iload_n 1, 1)] (pc' := 1) (L' := [(0, .inr (q, some 0)), (1, .inl (.int 18)), (2, .inl (.int a)), (3, .inl (.int b)), (4, .inl (.int c)), (5, .inl (.int e))]) (st' := [.inl (.int 18)]) ⟨dL_does_0, trivial⟩ rfl rfl ?_
  refine wl_tableOut (tgt := 257) dL_does_1 (by decide) (by decide) ?_
  refine wq_run [(.aload_n 0, 1), (.iload_n 2, 1), (.iload_n 3, 1)] (pc' := 260) (L' := [(0, .inr (q, some 0)), (1, .inl (.int 18)), (2, .inl (.int a)), (3, .inl (.int b)), (4, .inl (.int c)), (5, .inl (.int e))]) (st' := [.inl (.int b), .inl (.int a), .inr (q, some 0)]) ⟨dL_does_257, dL_does_258, dL_does_259, trivial⟩ rfl rfl ?_
  refine WL.room (uc' := 0 + bc) (us' := 0 + bs) (by omega) (by omega) ?_
  refine wl_virtual (M := M_L_does) (uc := 0) (us := 0) (q := q) (As := [.inl (.int a), .inl (.int b)]) (rest := []) hq rfl (ok_X8_ofBooking _ _) ml_L_86 im_X8_ofBooking se_X8_ofBooking (by omega) (hC (d - 1) (by omega)) rfl rfl (Nat.le_of_ble_eq_true rfl) dL_does_260 (fun r9 h9 e9 => ?_) (fun E9 h9 e9 => ?_)
  · obtain ⟨e1, rfl⟩ := e9
    rcases hs with ⟨x9, rfl⟩ | rfl | rfl | rfl
    · cases e1
      exact wl_iret rfl rfl dL_does_263 ⟨rfl, rfl⟩
    · cases e1
    · cases e1
    · cases e1
  · obtain ⟨e1, rfl⟩ := e9
    rcases hs with ⟨x9, rfl⟩ | rfl | rfl | rfl
    · cases e1
    · cases e1
      exact cl_out rfl rfl ⟨rfl, rfl⟩
    · cases e1
      exact cl_out rfl rfl ⟨rfl, rfl⟩
    · cases e1
      exact cl_out rfl rfl ⟨rfl, rfl⟩
