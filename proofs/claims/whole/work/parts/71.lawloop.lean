theorem cy_o22 {x : Int32} (q0 : ¬ x = 0) (q1 : ¬ x = 1) (q2 : ¬ x = 2) (q3 : ¬ x = 3) (q4 : ¬ x = 4) (q5 : ¬ x = 5) (q6 : ¬ x = 6) (q7 : ¬ x = 7) (q8 : ¬ x = 8) (q9 : ¬ x = 9) (q10 : ¬ x = 10) (q11 : ¬ x = 11) (q12 : ¬ x = 12) (q13 : ¬ x = 13) (q14 : ¬ x = 14) (q15 : ¬ x = 15) (q16 : ¬ x = 16) (q17 : ¬ x = 17) (q18 : ¬ x = 18) (q19 : ¬ x = 19) (q20 : ¬ x = 20) (q21 : ¬ x = 21) : x.toInt < 0 ∨ 21 < x.toInt := by
  by_cases h0 : x < 0
  · left
    rw [Int32.lt_iff_toInt_lt] at h0
    exact h0
  · right
    obtain ⟨j, hj, rfl⟩ := nI_of h0
    rw [nI_toInt hj]
    have hh : ¬ j ≤ 21 := fun hle => by
      have : j = 0 ∨ j = 1 ∨ j = 2 ∨ j = 3 ∨ j = 4 ∨ j = 5 ∨ j = 6 ∨ j = 7 ∨ j = 8 ∨ j = 9 ∨ j = 10 ∨ j = 11 ∨ j = 12 ∨ j = 13 ∨ j = 14 ∨ j = 15 ∨ j = 16 ∨ j = 17 ∨ j = 18 ∨ j = 19 ∨ j = 20 ∨ j = 21 := by omega
      rcases this with rfl | rfl | rfl | rfl | rfl | rfl | rfl | rfl | rfl | rfl | rfl | rfl | rfl | rfl | rfl | rfl | rfl | rfl | rfl | rfl | rfl | rfl
      · exact q0 rfl
      · exact q1 rfl
      · exact q2 rfl
      · exact q3 rfl
      · exact q4 rfl
      · exact q5 rfl
      · exact q6 rfl
      · exact q7 rfl
      · exact q8 rfl
      · exact q9 rfl
      · exact q10 rfl
      · exact q11 rfl
      · exact q12 rfl
      · exact q13 rfl
      · exact q14 rfl
      · exact q15 rfl
      · exact q16 rfl
      · exact q17 rfl
      · exact q18 rfl
      · exact q19 rfl
      · exact q20 rfl
      · exact q21 rfl
    omega
theorem lw_more {n i : Nat} (hn : n ≤ 3584) (hi : i ≤ 3600) (hb : ¬ nI n - 7 < nI i) : i + 7 ≤ n := by
  rw [Int32.lt_iff_toInt_lt, nI_toInt (by omega), Int32.toInt_sub, nI_toInt (by omega)] at hb
  have h7 : (7 : Int32).toInt = 7 := by decide
  rw [h7, show ((n : Int) - 7).bmod (2 ^ 32) = (n : Int) - 7 by refine Int.bmod_eq_of_le ?_ ?_ <;> omega] at hb
  omega
set_option maxRecDepth 20000 in
theorem law_loop {g : GT} {d : Nat} (hd : 15 ≤ d) {Φ : Rs → Hp → Prop} {S : Nat → Int32} {n : Nat} (hn : n ≤ 3584) : ∀ (m i : Nat) (h : Hp), i ≤ 3600 → n ≤ i + 6 + 7 * m → Inv S n h → WP g M_L_law d (24 * m) (400 * m) 28 [(0, .inr (16, some 0)), (5, .inl (.int (nI i))), (4, .inr (18, some 0)), (3, .inr (17, some 0)), (2, .inr (10, some 0)), (1, .inr (9, some 0))] [] h Φ := by
  intro m
  induction m with
  | zero =>
    intro i h hi him I
    refine wp_run [(.iload 5, 2), (.aload_n 0, 1)] (pc' := 31) (L' := [(0, .inr (16, some 0)), (5, .inl (.int (nI i))), (4, .inr (18, some 0)), (3, .inr (17, some 0)), (2, .inr (10, some 0)), (1, .inr (9, some 0))]) (st' := [.inr (16, some 0), .inl (.int (nI i))]) ⟨dL_law_28, dL_law_30, trivial⟩ rfl rfl ?_
    refine wx_alen (v := nI n) (Or.inr (Or.inr rfl)) (by show Int32.ofNat (if (16 : Nat) = 16 then xLS h 16 else _) = nI n; rw [if_pos rfl, I.S.2]; rfl) dL_law_31 ?_
    refine wp_run [(.bipush 7, 2), (.isub, 1)] (pc' := 35) (L' := [(0, .inr (16, some 0)), (5, .inl (.int (nI i))), (4, .inr (18, some 0)), (3, .inr (17, some 0)), (2, .inr (10, some 0)), (1, .inr (9, some 0))]) (st' := [.inl (.int (nI n - 7)), .inl (.int (nI i))]) ⟨dL_law_32, dL_law_34, trivial⟩ rfl rfl ?_
    refine wx_icmp_gt (tgt := 1930) dL_law_35 (by decide) (fun _ => ?_) (fun hb => ?_)
    · refine wp_run [(.iconst 1, 1)] (pc' := 1931) (L' := [(0, .inr (16, some 0)), (5, .inl (.int (nI i))), (4, .inr (18, some 0)), (3, .inr (17, some 0)), (2, .inr (10, some 0)), (1, .inr (9, some 0))]) (st' := [.inl (.int 1)]) ⟨dL_law_1930, trivial⟩ rfl rfl ?_
      exact wx_lawret rfl rfl rfl dL_law_1931
    · have := lw_more hn hi hb
      omega
  | succ m ih =>
    intro i h hi him I
    refine wp_run [(.iload 5, 2), (.aload_n 0, 1)] (pc' := 31) (L' := [(0, .inr (16, some 0)), (5, .inl (.int (nI i))), (4, .inr (18, some 0)), (3, .inr (17, some 0)), (2, .inr (10, some 0)), (1, .inr (9, some 0))]) (st' := [.inr (16, some 0), .inl (.int (nI i))]) ⟨dL_law_28, dL_law_30, trivial⟩ rfl rfl ?_
    refine wx_alen (v := nI n) (Or.inr (Or.inr rfl)) (by show Int32.ofNat (if (16 : Nat) = 16 then xLS h 16 else _) = nI n; rw [if_pos rfl, I.S.2]; rfl) dL_law_31 ?_
    refine wp_run [(.bipush 7, 2), (.isub, 1)] (pc' := 35) (L' := [(0, .inr (16, some 0)), (5, .inl (.int (nI i))), (4, .inr (18, some 0)), (3, .inr (17, some 0)), (2, .inr (10, some 0)), (1, .inr (9, some 0))]) (st' := [.inl (.int (nI n - 7)), .inl (.int (nI i))]) ⟨dL_law_32, dL_law_34, trivial⟩ rfl rfl ?_
    refine wx_icmp_gt (tgt := 1930) dL_law_35 (by decide) (fun _ => ?_) (fun hb => ?_)
    · refine wp_run [(.iconst 1, 1)] (pc' := 1931) (L' := [(0, .inr (16, some 0)), (5, .inl (.int (nI i))), (4, .inr (18, some 0)), (3, .inr (17, some 0)), (2, .inr (10, some 0)), (1, .inr (9, some 0))]) (st' := [.inl (.int 1)]) ⟨dL_law_1930, trivial⟩ rfl rfl ?_
      exact wx_lawret rfl rfl rfl dL_law_1931
    · have hm := lw_more hn hi hb
      have KK : ∀ h', Inv S n h' → WP g M_L_law d (24 * m) (400 * m) 1924 [(0, .inr (16, some 0)), (5, .inl (.int (nI i))), (4, .inr (18, some 0)), (3, .inr (17, some 0)), (2, .inr (10, some 0)), (1, .inr (9, some 0))] [] h' Φ := by
        intro h' I'
        refine wp_run [(.iinc 5 7, 3)] (pc' := 1927) (L' := [(5, .inl (.int (nI i + 7))), (0, .inr (16, some 0)), (4, .inr (18, some 0)), (3, .inr (17, some 0)), (2, .inr (10, some 0)), (1, .inr (9, some 0))]) (st' := []) ⟨dL_law_1924, trivial⟩ rfl rfl ?_
        refine wx_goto (tgt := 28) dL_law_1927 (by decide) ?_
        rw [show nI i + 7 = nI (i + 7) from nI_add i 7]
        refine wp_sub [1, 0, 2, 3, 4, 5] (L' := [(0, .inr (16, some 0)), (5, .inl (.int (nI (i + 7)))), (4, .inr (18, some 0)), (3, .inr (17, some 0)), (2, .inr (10, some 0)), (1, .inr (9, some 0))]) rfl ?_
        exact ih (i + 7) h' (by omega) (by omega) I'
      refine wp_run [(.aload_n 0, 1), (.iload 5, 2)] (pc' := 41) (L' := [(0, .inr (16, some 0)), (5, .inl (.int (nI i))), (4, .inr (18, some 0)), (3, .inr (17, some 0)), (2, .inr (10, some 0)), (1, .inr (9, some 0))]) (st' := [.inl (.int (nI i)), .inr (16, some 0)]) ⟨dL_law_38, dL_law_39, trivial⟩ rfl rfl ?_
      refine wx_scr0 I.S (by omega) hn dL_law_41 ?_
      refine wp_run [(.bipush 31, 2), (.iand, 1)] (pc' := 45) (L' := [(0, .inr (16, some 0)), (5, .inl (.int (nI i))), (4, .inr (18, some 0)), (3, .inr (17, some 0)), (2, .inr (10, some 0)), (1, .inr (9, some 0))]) (st' := [.inl (.int (S i &&& 31))]) ⟨dL_law_42, dL_law_44, trivial⟩ rfl rfl ?_
      by_cases q0 : S i &&& 31 = 0
      · refine wx_tableIn (tgt := 148) (off := 103) dL_law_45 (by rw [q0]; decide) (by rw [q0]; decide) (by rw [q0]; rfl) (by decide) ?_
        refine WP.room (uc' := 24 * m + 2) (us' := 400 * m + 12) (by omega) (by omega) ?_
        exact lc_stop (by omega) I (by omega) hn KK
      by_cases q1 : S i &&& 31 = 1
      · refine wx_tableIn (tgt := 204) (off := 159) dL_law_45 (by rw [q1]; decide) (by rw [q1]; decide) (by rw [q1]; rfl) (by decide) ?_
        refine WP.room (uc' := 24 * m + 4) (us' := 400 * m + 24) (by omega) (by omega) ?_
        exact lc_footway (by omega) I (by omega) hn KK
      by_cases q2 : S i &&& 31 = 2
      · refine wx_tableIn (tgt := 284) (off := 239) dL_law_45 (by rw [q2]; decide) (by rw [q2]; decide) (by rw [q2]; rfl) (by decide) ?_
        refine WP.room (uc' := 24 * m + 14) (us' := 400 * m + 400) (by omega) (by omega) ?_
        exact lc_trip (by omega) I (by omega) hn KK
      by_cases q3 : S i &&& 31 = 3
      · refine wx_tableIn (tgt := 402) (off := 357) dL_law_45 (by rw [q3]; decide) (by rw [q3]; decide) (by rw [q3]; rfl) (by decide) ?_
        refine WP.room (uc' := 24 * m + 5) (us' := 400 * m + 30) (by omega) (by omega) ?_
        exact lc_calls (by omega) I (by omega) hn KK
      by_cases q4 : S i &&& 31 = 4
      · refine wx_tableIn (tgt := 494) (off := 449) dL_law_45 (by rw [q4]; decide) (by rw [q4]; decide) (by rw [q4]; rfl) (by decide) ?_
        refine WP.room (uc' := 24 * m + 2) (us' := 400 * m + 12) (by omega) (by omega) ?_
        exact lc_runs (by omega) I (by omega) hn KK
      by_cases q5 : S i &&& 31 = 5
      · refine wx_tableIn (tgt := 597) (off := 552) dL_law_45 (by rw [q5]; decide) (by rw [q5]; decide) (by rw [q5]; rfl) (by decide) ?_
        refine WP.room (uc' := 24 * m + 3) (us' := 400 * m + 18) (by omega) (by omega) ?_
        exact lc_delay (by omega) I (by omega) hn KK
      by_cases q6 : S i &&& 31 = 6
      · refine wx_tableIn (tgt := 677) (off := 632) dL_law_45 (by rw [q6]; decide) (by rw [q6]; decide) (by rw [q6]; rfl) (by decide) ?_
        refine WP.room (uc' := 24 * m + 3) (us' := 400 * m + 18) (by omega) (by omega) ?_
        exact lc_note (by omega) I (by omega) hn KK
      by_cases q7 : S i &&& 31 = 7
      · refine wx_tableIn (tgt := 745) (off := 700) dL_law_45 (by rw [q7]; decide) (by rw [q7]; decide) (by rw [q7]; rfl) (by decide) ?_
        refine WP.room (uc' := 24 * m + 4) (us' := 400 * m + 24) (by omega) (by omega) ?_
        exact lc_prices (by omega) I (by omega) hn KK
      by_cases q8 : S i &&& 31 = 8
      · refine wx_tableIn (tgt := 817) (off := 772) dL_law_45 (by rw [q8]; decide) (by rw [q8]; decide) (by rw [q8]; rfl) (by decide) ?_
        refine WP.room (uc' := 24 * m + 5) (us' := 400 * m + 30) (by omega) (by omega) ?_
        exact lc_arrival (by omega) I (by omega) hn KK
      by_cases q9 : S i &&& 31 = 9
      · refine wx_tableIn (tgt := 909) (off := 864) dL_law_45 (by rw [q9]; decide) (by rw [q9]; decide) (by rw [q9]; rfl) (by decide) ?_
        refine WP.room (uc' := 24 * m + 5) (us' := 400 * m + 30) (by omega) (by omega) ?_
        exact lc_arrivalAnew (by omega) I (by omega) hn KK
      by_cases q10 : S i &&& 31 = 10
      · refine wx_tableIn (tgt := 1001) (off := 956) dL_law_45 (by rw [q10]; decide) (by rw [q10]; decide) (by rw [q10]; rfl) (by decide) ?_
        refine WP.room (uc' := 24 * m + 4) (us' := 400 * m + 24) (by omega) (by omega) ?_
        exact lc_front (by omega) I (by omega) hn KK
      by_cases q11 : S i &&& 31 = 11
      · refine wx_tableIn (tgt := 1081) (off := 1036) dL_law_45 (by rw [q11]; decide) (by rw [q11]; decide) (by rw [q11]; rfl) (by decide) ?_
        refine WP.room (uc' := 24 * m + 12) (us' := 400 * m + 71) (by omega) (by omega) ?_
        exact lc_ride (by omega) I (by omega) hn KK
      by_cases q12 : S i &&& 31 = 12
      · refine wx_tableIn (tgt := 1199) (off := 1154) dL_law_45 (by rw [q12]; decide) (by rw [q12]; decide) (by rw [q12]; rfl) (by decide) ?_
        refine WP.room (uc' := 24 * m + 11) (us' := 400 * m + 65) (by omega) (by omega) ?_
        exact lc_journey (by omega) I (by omega) hn KK
      by_cases q13 : S i &&& 31 = 13
      · refine wx_tableIn (tgt := 1324) (off := 1279) dL_law_45 (by rw [q13]; decide) (by rw [q13]; decide) (by rw [q13]; rfl) (by decide) ?_
        refine WP.room (uc' := 24 * m + 24) (us' := 400 * m + 140) (by omega) (by omega) ?_
        exact lc_best (by omega) I (by omega) hn KK
      by_cases q14 : S i &&& 31 = 14
      · refine wx_tableIn (tgt := 1404) (off := 1359) dL_law_45 (by rw [q14]; decide) (by rw [q14]; decide) (by rw [q14]; rfl) (by decide) ?_
        refine WP.room (uc' := 24 * m + 14) (us' := 400 * m + 115) (by omega) (by omega) ?_
        exact lc_book (by omega) I (by omega) hn KK
      by_cases q15 : S i &&& 31 = 15
      · refine wx_tableIn (tgt := 1496) (off := 1451) dL_law_45 (by rw [q15]; decide) (by rw [q15]; decide) (by rw [q15]; rfl) (by decide) ?_
        refine WP.room (uc' := 24 * m + 2) (us' := 400 * m + 12) (by omega) (by omega) ?_
        exact lc_buy (by omega) I (by omega) hn KK
      by_cases q16 : S i &&& 31 = 16
      · refine wx_tableIn (tgt := 1552) (off := 1507) dL_law_45 (by rw [q16]; decide) (by rw [q16]; decide) (by rw [q16]; rfl) (by decide) ?_
        refine WP.room (uc' := 24 * m + 1) (us' := 400 * m + 6) (by omega) (by omega) ?_
        exact lc_right (by omega) I (by omega) hn KK
      by_cases q17 : S i &&& 31 = 17
      · refine wx_tableIn (tgt := 1608) (off := 1563) dL_law_45 (by rw [q17]; decide) (by rw [q17]; decide) (by rw [q17]; rfl) (by decide) ?_
        refine WP.room (uc' := 24 * m + 2) (us' := 400 * m + 12) (by omega) (by omega) ?_
        exact lc_claim (by omega) I (by omega) hn KK
      by_cases q18 : S i &&& 31 = 18
      · refine wx_tableIn (tgt := 1664) (off := 1619) dL_law_45 (by rw [q18]; decide) (by rw [q18]; decide) (by rw [q18]; rfl) (by decide) ?_
        refine WP.room (uc' := 24 * m + 2) (us' := 400 * m + 12) (by omega) (by omega) ?_
        exact lc_concerned (by omega) I (by omega) hn KK
      by_cases q19 : S i &&& 31 = 19
      · refine wx_tableIn (tgt := 1732) (off := 1687) dL_law_45 (by rw [q19]; decide) (by rw [q19]; decide) (by rw [q19]; rfl) (by decide) ?_
        refine WP.room (uc' := 24 * m + 2) (us' := 400 * m + 12) (by omega) (by omega) ?_
        exact lc_seats (by omega) I (by omega) hn KK
      by_cases q20 : S i &&& 31 = 20
      · refine wx_tableIn (tgt := 1800) (off := 1755) dL_law_45 (by rw [q20]; decide) (by rw [q20]; decide) (by rw [q20]; rfl) (by decide) ?_
        refine WP.room (uc' := 24 * m + 1) (us' := 400 * m + 6) (by omega) (by omega) ?_
        exact lc_pass (by omega) I (by omega) hn KK
      by_cases q21 : S i &&& 31 = 21
      · refine wx_tableIn (tgt := 1856) (off := 1811) dL_law_45 (by rw [q21]; decide) (by rw [q21]; decide) (by rw [q21]; rfl) (by decide) ?_
        refine WP.room (uc' := 24 * m + 2) (us' := 400 * m + 12) (by omega) (by omega) ?_
        exact lc_ofBooking (by omega) I (by omega) hn KK
      refine wx_tableOut (tgt := 1924) dL_law_45 (cy_o22 q0 q1 q2 q3 q4 q5 q6 q7 q8 q9 q10 q11 q12 q13 q14 q15 q16 q17 q18 q19 q20 q21) (by decide) ?_
      exact WP.room (uc' := 24 * m) (us' := 400 * m) (by omega) (by omega) (KK h I)
