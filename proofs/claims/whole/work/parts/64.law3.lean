set_option maxRecDepth 20000 in
theorem c_L_ride {g : GT} {d : Nat} (hd : 10 ≤ d) {h : Hp} (W : CW h) (a : Int32) (b : Int32) (ti : Int32) (n : Int32) (ri : Int32) (wh : Int32)  : Ctr g M_L_ride d 12 71 [.inr (9, some 0), .inl (.int a), .inl (.int b), .inl (.int ti), .inl (.int n), .inl (.int ri), .inl (.int wh), .inr (17, some 0)] h (cy_det (.inl (some (.inl (.int (cdR [cy_e3, cy_e1] (F_X8_ride h a b ti n ri wh).1))))) (loI (F_X8_ride h a b ti n ri wh).1 ((F_X8_ride h a b ti n ri wh).2))) := by
  refine cy_body rfl rfl (by decide) (Nat.le_of_ble_eq_true rfl) ?_
  refine wp_run [(.aload 7, 2), (.iconst 0, 1), (.aload_n 0, 1), (.iload_n 1, 1), (.iload_n 2, 1), (.iload_n 3, 1), (.iload 4, 2), (.iload 5, 2), (.iload 6, 2)] (pc' := 13) (L' := [(0, .inr (9, some 0)), (1, .inl (.int a)), (2, .inl (.int b)), (3, .inl (.int ti)), (4, .inl (.int n)), (5, .inl (.int ri)), (6, .inl (.int wh)), (7, .inr (17, some 0))]) (st' := [.inl (.int wh), .inl (.int ri), .inl (.int n), .inl (.int ti), .inl (.int b), .inl (.int a), .inr (9, some 0), .inl (.int 0), .inr (17, some 0)]) ⟨dL_ride_0, dL_ride_2, dL_ride_3, dL_ride_4, dL_ride_5, dL_ride_6, dL_ride_7, dL_ride_9, dL_ride_11, trivial⟩ rfl rfl ?_
  refine wx_virtual (M := M_L_ride) (uc := 0) (us := 0) (s := 9) (i := 0) (As := [.inl (.int a), .inl (.int b), .inl (.int ti), .inl (.int n), .inl (.int ri), .inl (.int wh)]) (rest := [.inl (.int 0), .inr (17, some 0)]) cls_9 rfl (ok_X8_ride _ _) ml_L_55 im_X8_ride se_X8_ride (by omega) (c_X8_ride (d := d - 1) (h := h) (by omega) W a b ti n ri wh) rfl rfl (Nat.le_of_ble_eq_true rfl) dL_ride_13 (fun r9 h9 e9 => ?_) (fun E9 h9 e9 => ?_)
  · obtain ⟨_, e1, rfl⟩ := e9
    obtain ⟨v9, rfl⟩ := (sh_ride h a b ti n ri wh).v e1
    refine wp_run [(.i2l, 1)] (pc' := 17) (L' := [(0, .inr (9, some 0)), (1, .inl (.int a)), (2, .inl (.int b)), (3, .inl (.int ti)), (4, .inl (.int n)), (5, .inl (.int ri)), (6, .inl (.int wh)), (7, .inr (17, some 0))]) (st' := [.inl (.long ((v9).toInt64)), .inl (.int 0), .inr (17, some 0)]) ⟨dL_ride_16, trivial⟩ rfl rfl ?_
    refine wx_last dL_ride_17 ?_
    refine wx_goto (tgt := 29) dL_ride_18 (by decide) ?_
    refine wp_run [(.iconst 0, 1)] (pc' := 30) (L' := [(0, .inr (9, some 0)), (1, .inl (.int a)), (2, .inl (.int b)), (3, .inl (.int ti)), (4, .inl (.int n)), (5, .inl (.int ri)), (6, .inl (.int wh)), (7, .inr (17, some 0))]) (st' := [.inl (.int 0)]) ⟨dL_ride_29, trivial⟩ rfl rfl ?_
    exact wx_iret rfl rfl dL_ride_30 (by rw [← e1]; exact ⟨rfl, rfl⟩)
  · obtain ⟨_, e1, rfl⟩ := e9
    have hm := (sh_ride h a b ti n ri wh).x e1
    simp only [List.mem_cons, List.not_mem_nil, or_false] at hm
    rcases hm with rfl | rfl
    · refine wx_catch rfl [] ⟨0, 18, 21, 21⟩ [⟨0, 18, 25, 13⟩] rfl (fun z hz => by cases hz) (by decide) (by decide) exl_3 exc_3 (fun q9 => ?_)
      refine wx_astoreY (by decide) dL_ride_21 ?_ (by intro p hp; simp only [List.mem_cons, List.not_mem_nil, or_false] at hp; rcases hp with rfl | rfl | rfl | rfl | rfl | rfl | rfl | rfl <;> exact ⟨by dsimp only; decide, fun q => absurd (show (1 : Nat) = 2 from q.2) (by decide)⟩)
      refine wp_run [(.iconst 1, 1)] (pc' := 24) (L' := [(0, .inr (9, some 0)), (1, .inl (.int a)), (2, .inl (.int b)), (3, .inl (.int ti)), (4, .inl (.int n)), (5, .inl (.int ri)), (6, .inl (.int wh)), (7, .inr (17, some 0))]) (st' := [.inl (.int 1)]) ⟨dL_ride_23, trivial⟩ rfl rfl ?_
      exact wx_iret rfl rfl dL_ride_24 (by rw [← e1]; exact ⟨by rw [show cdR [cy_e3, cy_e1] (.inr cy_e3) = 1 by decide +kernel], rfl⟩)
    · refine wx_catch rfl [⟨0, 18, 21, 21⟩] ⟨0, 18, 25, 13⟩ [] rfl (fun z hz => by
        simp only [List.mem_cons, List.not_mem_nil, or_false] at hz
        obtain rfl := hz
        exact .inr ⟨by decide, cy_e3, exl_3, by decide +kernel⟩) (by decide) (by decide) exl_1 exc_1 (fun q9 => ?_)
      refine wx_astoreY (by decide) dL_ride_25 ?_ (by intro p hp; simp only [List.mem_cons, List.not_mem_nil, or_false] at hp; rcases hp with rfl | rfl | rfl | rfl | rfl | rfl | rfl | rfl <;> exact ⟨by dsimp only; decide, fun q => absurd (show (1 : Nat) = 2 from q.2) (by decide)⟩)
      refine wp_run [(.iconst 2, 1)] (pc' := 28) (L' := [(0, .inr (9, some 0)), (1, .inl (.int a)), (2, .inl (.int b)), (3, .inl (.int ti)), (4, .inl (.int n)), (5, .inl (.int ri)), (6, .inl (.int wh)), (7, .inr (17, some 0))]) (st' := [.inl (.int 2)]) ⟨dL_ride_27, trivial⟩ rfl rfl ?_
      exact wx_iret rfl rfl dL_ride_28 (by rw [← e1]; exact ⟨by rw [show cdR [cy_e3, cy_e1] (.inr cy_e1) = 2 by decide +kernel], rfl⟩)
set_option maxRecDepth 20000 in
theorem c_L_journey {g : GT} {d : Nat} (hd : 10 ≤ d) {h : Hp} (W : CW h) (a : Int32) (b : Int32) (ti : Int32) (n : Int32) (wh : Int32)  : Ctr g M_L_journey d 11 65 [.inr (9, some 0), .inl (.int a), .inl (.int b), .inl (.int ti), .inl (.int n), .inl (.int wh), .inr (18, some 0)] h (cy_det (.inl (some (.inl (.int (cdR [cy_e3, cy_e1] (F_X8_journey h a b ti n wh).1))))) (loD (F_X8_journey h a b ti n wh).1 ((F_X8_journey h a b ti n wh).2))) := by
  refine cy_body rfl rfl (by decide) (Nat.le_of_ble_eq_true rfl) ?_
  refine wp_run [(.aload 6, 2), (.iconst 0, 1), (.aload_n 0, 1), (.iload_n 1, 1), (.iload_n 2, 1), (.iload_n 3, 1), (.iload 4, 2), (.iload 5, 2)] (pc' := 11) (L' := [(0, .inr (9, some 0)), (1, .inl (.int a)), (2, .inl (.int b)), (3, .inl (.int ti)), (4, .inl (.int n)), (5, .inl (.int wh)), (6, .inr (18, some 0))]) (st' := [.inl (.int wh), .inl (.int n), .inl (.int ti), .inl (.int b), .inl (.int a), .inr (9, some 0), .inl (.int 0), .inr (18, some 0)]) ⟨dL_journey_0, dL_journey_2, dL_journey_3, dL_journey_4, dL_journey_5, dL_journey_6, dL_journey_7, dL_journey_9, trivial⟩ rfl rfl ?_
  refine wx_virtual (M := M_L_journey) (uc := 0) (us := 0) (s := 9) (i := 0) (As := [.inl (.int a), .inl (.int b), .inl (.int ti), .inl (.int n), .inl (.int wh)]) (rest := [.inl (.int 0), .inr (18, some 0)]) cls_9 rfl (ok_X8_journey _ _) ml_L_58 im_X8_journey se_X8_journey (by omega) (c_X8_journey (d := d - 1) (h := h) (by omega) W a b ti n wh) rfl rfl (Nat.le_of_ble_eq_true rfl) dL_journey_11 (fun r9 h9 e9 => ?_) (fun E9 h9 e9 => ?_)
  · obtain ⟨_, e1, rfl⟩ := e9
    obtain ⟨v9, rfl⟩ := (sh_journey h a b ti n wh).v e1
    refine wx_dast dL_journey_14 ?_
    refine wx_goto (tgt := 26) dL_journey_15 (by decide) ?_
    refine wp_run [(.iconst 0, 1)] (pc' := 27) (L' := [(0, .inr (9, some 0)), (1, .inl (.int a)), (2, .inl (.int b)), (3, .inl (.int ti)), (4, .inl (.int n)), (5, .inl (.int wh)), (6, .inr (18, some 0))]) (st' := [.inl (.int 0)]) ⟨dL_journey_26, trivial⟩ rfl rfl ?_
    exact wx_iret rfl rfl dL_journey_27 (by rw [← e1]; exact ⟨rfl, rfl⟩)
  · obtain ⟨_, e1, rfl⟩ := e9
    have hm := (sh_journey h a b ti n wh).x e1
    simp only [List.mem_cons, List.not_mem_nil, or_false] at hm
    rcases hm with rfl | rfl
    · refine wx_catch rfl [] ⟨0, 15, 18, 21⟩ [⟨0, 15, 22, 13⟩] rfl (fun z hz => by cases hz) (by decide) (by decide) exl_3 exc_3 (fun q9 => ?_)
      refine wx_astoreY (by decide) dL_journey_18 ?_ (by intro p hp; simp only [List.mem_cons, List.not_mem_nil, or_false] at hp; rcases hp with rfl | rfl | rfl | rfl | rfl | rfl | rfl <;> exact ⟨by dsimp only; decide, fun q => absurd (show (1 : Nat) = 2 from q.2) (by decide)⟩)
      refine wp_run [(.iconst 1, 1)] (pc' := 21) (L' := [(0, .inr (9, some 0)), (1, .inl (.int a)), (2, .inl (.int b)), (3, .inl (.int ti)), (4, .inl (.int n)), (5, .inl (.int wh)), (6, .inr (18, some 0))]) (st' := [.inl (.int 1)]) ⟨dL_journey_20, trivial⟩ rfl rfl ?_
      exact wx_iret rfl rfl dL_journey_21 (by rw [← e1]; exact ⟨by rw [show cdR [cy_e3, cy_e1] (.inr cy_e3) = 1 by decide +kernel], rfl⟩)
    · refine wx_catch rfl [⟨0, 15, 18, 21⟩] ⟨0, 15, 22, 13⟩ [] rfl (fun z hz => by
        simp only [List.mem_cons, List.not_mem_nil, or_false] at hz
        obtain rfl := hz
        exact .inr ⟨by decide, cy_e3, exl_3, by decide +kernel⟩) (by decide) (by decide) exl_1 exc_1 (fun q9 => ?_)
      refine wx_astoreY (by decide) dL_journey_22 ?_ (by intro p hp; simp only [List.mem_cons, List.not_mem_nil, or_false] at hp; rcases hp with rfl | rfl | rfl | rfl | rfl | rfl | rfl <;> exact ⟨by dsimp only; decide, fun q => absurd (show (1 : Nat) = 2 from q.2) (by decide)⟩)
      refine wp_run [(.iconst 2, 1)] (pc' := 25) (L' := [(0, .inr (9, some 0)), (1, .inl (.int a)), (2, .inl (.int b)), (3, .inl (.int ti)), (4, .inl (.int n)), (5, .inl (.int wh)), (6, .inr (18, some 0))]) (st' := [.inl (.int 2)]) ⟨dL_journey_24, trivial⟩ rfl rfl ?_
      exact wx_iret rfl rfl dL_journey_25 (by rw [← e1]; exact ⟨by rw [show cdR [cy_e3, cy_e1] (.inr cy_e1) = 2 by decide +kernel], rfl⟩)
set_option maxRecDepth 20000 in
theorem c_L_best {g : GT} {d : Nat} (hd : 10 ≤ d) {h : Hp} (W : CW h) (a : Int32) (b : Int32) (ti : Int32)  : Ctr g M_L_best d 24 140 [.inr (9, some 0), .inl (.int a), .inl (.int b), .inl (.int ti), .inr (17, some 0)] h (cy_det (.inl (some (.inl (.int (cdR [cy_e3, cy_e1] (F_X8_best h a b ti).1))))) (loI (F_X8_best h a b ti).1 ((F_X8_best h a b ti).2))) := by
  refine cy_body rfl rfl (by decide) (Nat.le_of_ble_eq_true rfl) ?_
  refine wp_run [(.aload 4, 2), (.iconst 0, 1), (.aload_n 0, 1), (.iload_n 1, 1), (.iload_n 2, 1), (.iload_n 3, 1)] (pc' := 7) (L' := [(0, .inr (9, some 0)), (1, .inl (.int a)), (2, .inl (.int b)), (3, .inl (.int ti)), (4, .inr (17, some 0))]) (st' := [.inl (.int ti), .inl (.int b), .inl (.int a), .inr (9, some 0), .inl (.int 0), .inr (17, some 0)]) ⟨dL_best_0, dL_best_2, dL_best_3, dL_best_4, dL_best_5, dL_best_6, trivial⟩ rfl rfl ?_
  refine wx_virtual (M := M_L_best) (uc := 0) (us := 0) (s := 9) (i := 0) (As := [.inl (.int a), .inl (.int b), .inl (.int ti)]) (rest := [.inl (.int 0), .inr (17, some 0)]) cls_9 rfl (ok_X8_best _ _) ml_L_62 im_X8_best se_X8_best (by omega) (c_X8_best (d := d - 1) (h := h) (by omega) W a b ti) rfl rfl (Nat.le_of_ble_eq_true rfl) dL_best_7 (fun r9 h9 e9 => ?_) (fun E9 h9 e9 => ?_)
  · obtain ⟨_, e1, rfl⟩ := e9
    obtain ⟨v9, rfl⟩ := (sh_best h a b ti).v e1
    refine wp_run [(.i2l, 1)] (pc' := 11) (L' := [(0, .inr (9, some 0)), (1, .inl (.int a)), (2, .inl (.int b)), (3, .inl (.int ti)), (4, .inr (17, some 0))]) (st' := [.inl (.long ((v9).toInt64)), .inl (.int 0), .inr (17, some 0)]) ⟨dL_best_10, trivial⟩ rfl rfl ?_
    refine wx_last dL_best_11 ?_
    refine wx_goto (tgt := 23) dL_best_12 (by decide) ?_
    refine wp_run [(.iconst 0, 1)] (pc' := 24) (L' := [(0, .inr (9, some 0)), (1, .inl (.int a)), (2, .inl (.int b)), (3, .inl (.int ti)), (4, .inr (17, some 0))]) (st' := [.inl (.int 0)]) ⟨dL_best_23, trivial⟩ rfl rfl ?_
    exact wx_iret rfl rfl dL_best_24 (by rw [← e1]; exact ⟨rfl, rfl⟩)
  · obtain ⟨_, e1, rfl⟩ := e9
    have hm := (sh_best h a b ti).x e1
    simp only [List.mem_cons, List.not_mem_nil, or_false] at hm
    rcases hm with rfl | rfl
    · refine wx_catch rfl [] ⟨0, 12, 15, 21⟩ [⟨0, 12, 19, 13⟩] rfl (fun z hz => by cases hz) (by decide) (by decide) exl_3 exc_3 (fun q9 => ?_)
      refine wx_astoreY (by decide) dL_best_15 ?_ (by intro p hp; simp only [List.mem_cons, List.not_mem_nil, or_false] at hp; rcases hp with rfl | rfl | rfl | rfl | rfl <;> exact ⟨by dsimp only; decide, fun q => absurd (show (1 : Nat) = 2 from q.2) (by decide)⟩)
      refine wp_run [(.iconst 1, 1)] (pc' := 18) (L' := [(0, .inr (9, some 0)), (1, .inl (.int a)), (2, .inl (.int b)), (3, .inl (.int ti)), (4, .inr (17, some 0))]) (st' := [.inl (.int 1)]) ⟨dL_best_17, trivial⟩ rfl rfl ?_
      exact wx_iret rfl rfl dL_best_18 (by rw [← e1]; exact ⟨by rw [show cdR [cy_e3, cy_e1] (.inr cy_e3) = 1 by decide +kernel], rfl⟩)
    · refine wx_catch rfl [⟨0, 12, 15, 21⟩] ⟨0, 12, 19, 13⟩ [] rfl (fun z hz => by
        simp only [List.mem_cons, List.not_mem_nil, or_false] at hz
        obtain rfl := hz
        exact .inr ⟨by decide, cy_e3, exl_3, by decide +kernel⟩) (by decide) (by decide) exl_1 exc_1 (fun q9 => ?_)
      refine wx_astoreY (by decide) dL_best_19 ?_ (by intro p hp; simp only [List.mem_cons, List.not_mem_nil, or_false] at hp; rcases hp with rfl | rfl | rfl | rfl | rfl <;> exact ⟨by dsimp only; decide, fun q => absurd (show (1 : Nat) = 2 from q.2) (by decide)⟩)
      refine wp_run [(.iconst 2, 1)] (pc' := 22) (L' := [(0, .inr (9, some 0)), (1, .inl (.int a)), (2, .inl (.int b)), (3, .inl (.int ti)), (4, .inr (17, some 0))]) (st' := [.inl (.int 2)]) ⟨dL_best_21, trivial⟩ rfl rfl ?_
      exact wx_iret rfl rfl dL_best_22 (by rw [← e1]; exact ⟨by rw [show cdR [cy_e3, cy_e1] (.inr cy_e1) = 2 by decide +kernel], rfl⟩)
set_option maxRecDepth 20000 in
theorem c_L_book {g : GT} {d : Nat} (hd : 14 ≤ d) {h : Hp} (W : CW h) (a : Int32) (b : Int32) (ti : Int32) (n : Int32) (C : CN h)  : Ctr g M_L_book d 14 115 [.inr (9, some 0), .inl (.int a), .inl (.int b), .inl (.int ti), .inl (.int n), .inr (17, some 0)] h (cy_det (.inl (some (.inl (.int (cdR [cy_e3, cy_e1, cy_e2] (F_X8_book h a b ti n).1))))) (loI (F_X8_book h a b ti n).1 ((F_X8_book h a b ti n).2))) := by
  refine cy_body rfl rfl (by decide) (Nat.le_of_ble_eq_true rfl) ?_
  refine wp_run [(.aload 5, 2), (.iconst 0, 1), (.aload_n 0, 1), (.iload_n 1, 1), (.iload_n 2, 1), (.iload_n 3, 1), (.iload 4, 2)] (pc' := 9) (L' := [(0, .inr (9, some 0)), (1, .inl (.int a)), (2, .inl (.int b)), (3, .inl (.int ti)), (4, .inl (.int n)), (5, .inr (17, some 0))]) (st' := [.inl (.int n), .inl (.int ti), .inl (.int b), .inl (.int a), .inr (9, some 0), .inl (.int 0), .inr (17, some 0)]) ⟨dL_book_0, dL_book_2, dL_book_3, dL_book_4, dL_book_5, dL_book_6, dL_book_7, trivial⟩ rfl rfl ?_
  refine wx_virtual (M := M_L_book) (uc := 0) (us := 0) (s := 9) (i := 0) (As := [.inl (.int a), .inl (.int b), .inl (.int ti), .inl (.int n)]) (rest := [.inl (.int 0), .inr (17, some 0)]) cls_9 rfl (ok_X8_book _ _) ml_L_65 im_X8_book se_X8_book (by omega) (c_X8_book (d := d - 1) (h := h) (by omega) W a b ti n C) rfl rfl (Nat.le_of_ble_eq_true rfl) dL_book_9 (fun r9 h9 e9 => ?_) (fun E9 h9 e9 => ?_)
  · obtain ⟨_, e1, rfl⟩ := e9
    obtain ⟨v9, rfl⟩ := (sh_book h a b ti n).v e1
    refine wp_run [(.i2l, 1)] (pc' := 13) (L' := [(0, .inr (9, some 0)), (1, .inl (.int a)), (2, .inl (.int b)), (3, .inl (.int ti)), (4, .inl (.int n)), (5, .inr (17, some 0))]) (st' := [.inl (.long ((v9).toInt64)), .inl (.int 0), .inr (17, some 0)]) ⟨dL_book_12, trivial⟩ rfl rfl ?_
    refine wx_last dL_book_13 ?_
    refine wx_goto (tgt := 29) dL_book_14 (by decide) ?_
    refine wp_run [(.iconst 0, 1)] (pc' := 30) (L' := [(0, .inr (9, some 0)), (1, .inl (.int a)), (2, .inl (.int b)), (3, .inl (.int ti)), (4, .inl (.int n)), (5, .inr (17, some 0))]) (st' := [.inl (.int 0)]) ⟨dL_book_29, trivial⟩ rfl rfl ?_
    exact wx_iret rfl rfl dL_book_30 (by rw [← e1]; exact ⟨rfl, rfl⟩)
  · obtain ⟨_, e1, rfl⟩ := e9
    have hm := (sh_book h a b ti n).x e1
    simp only [List.mem_cons, List.not_mem_nil, or_false] at hm
    rcases hm with rfl | rfl | rfl
    · refine wx_catch rfl [] ⟨0, 14, 17, 21⟩ [⟨0, 14, 21, 13⟩, ⟨0, 14, 25, 15⟩] rfl (fun z hz => by cases hz) (by decide) (by decide) exl_3 exc_3 (fun q9 => ?_)
      refine wx_astoreY (by decide) dL_book_17 ?_ (by intro p hp; simp only [List.mem_cons, List.not_mem_nil, or_false] at hp; rcases hp with rfl | rfl | rfl | rfl | rfl | rfl <;> exact ⟨by dsimp only; decide, fun q => absurd (show (1 : Nat) = 2 from q.2) (by decide)⟩)
      refine wp_run [(.iconst 1, 1)] (pc' := 20) (L' := [(0, .inr (9, some 0)), (1, .inl (.int a)), (2, .inl (.int b)), (3, .inl (.int ti)), (4, .inl (.int n)), (5, .inr (17, some 0))]) (st' := [.inl (.int 1)]) ⟨dL_book_19, trivial⟩ rfl rfl ?_
      exact wx_iret rfl rfl dL_book_20 (by rw [← e1]; exact ⟨by rw [show cdR [cy_e3, cy_e1, cy_e2] (.inr cy_e3) = 1 by decide +kernel], rfl⟩)
    · refine wx_catch rfl [⟨0, 14, 17, 21⟩] ⟨0, 14, 21, 13⟩ [⟨0, 14, 25, 15⟩] rfl (fun z hz => by
        simp only [List.mem_cons, List.not_mem_nil, or_false] at hz
        obtain rfl := hz
        exact .inr ⟨by decide, cy_e3, exl_3, by decide +kernel⟩) (by decide) (by decide) exl_1 exc_1 (fun q9 => ?_)
      refine wx_astoreY (by decide) dL_book_21 ?_ (by intro p hp; simp only [List.mem_cons, List.not_mem_nil, or_false] at hp; rcases hp with rfl | rfl | rfl | rfl | rfl | rfl <;> exact ⟨by dsimp only; decide, fun q => absurd (show (1 : Nat) = 2 from q.2) (by decide)⟩)
      refine wp_run [(.iconst 2, 1)] (pc' := 24) (L' := [(0, .inr (9, some 0)), (1, .inl (.int a)), (2, .inl (.int b)), (3, .inl (.int ti)), (4, .inl (.int n)), (5, .inr (17, some 0))]) (st' := [.inl (.int 2)]) ⟨dL_book_23, trivial⟩ rfl rfl ?_
      exact wx_iret rfl rfl dL_book_24 (by rw [← e1]; exact ⟨by rw [show cdR [cy_e3, cy_e1, cy_e2] (.inr cy_e1) = 2 by decide +kernel], rfl⟩)
    · refine wx_catch rfl [⟨0, 14, 17, 21⟩, ⟨0, 14, 21, 13⟩] ⟨0, 14, 25, 15⟩ [] rfl (fun z hz => by
        simp only [List.mem_cons, List.not_mem_nil, or_false] at hz
        rcases hz with rfl | rfl
        · exact .inr ⟨by decide, cy_e3, exl_3, by decide +kernel⟩
        · exact .inr ⟨by decide, cy_e1, exl_1, by decide +kernel⟩) (by decide) (by decide) exl_2 exc_2 (fun q9 => ?_)
      refine wx_astoreY (by decide) dL_book_25 ?_ (by intro p hp; simp only [List.mem_cons, List.not_mem_nil, or_false] at hp; rcases hp with rfl | rfl | rfl | rfl | rfl | rfl <;> exact ⟨by dsimp only; decide, fun q => absurd (show (1 : Nat) = 2 from q.2) (by decide)⟩)
      refine wp_run [(.iconst 3, 1)] (pc' := 28) (L' := [(0, .inr (9, some 0)), (1, .inl (.int a)), (2, .inl (.int b)), (3, .inl (.int ti)), (4, .inl (.int n)), (5, .inr (17, some 0))]) (st' := [.inl (.int 3)]) ⟨dL_book_27, trivial⟩ rfl rfl ?_
      exact wx_iret rfl rfl dL_book_28 (by rw [← e1]; exact ⟨by rw [show cdR [cy_e3, cy_e1, cy_e2] (.inr cy_e2) = 3 by decide +kernel], rfl⟩)
set_option maxRecDepth 20000 in
theorem c_L_buy {g : GT} {d : Nat} (hd : 9 ≤ d) {h : Hp} (W : CW h) (x : Int32)  : Ctr g M_L_buy d 2 12 [.inr (9, some 0), .inl (.int x), .inr (17, some 0)] h (cy_det (.inl (some (.inl (.int (cdR [cy_e3, cy_e2] (F_X8_buy h x).1))))) (loI (F_X8_buy h x).1 ((F_X8_buy h x).2))) := by
  refine cy_body rfl rfl (by decide) (Nat.le_of_ble_eq_true rfl) ?_
  refine wp_run [(.aload_n 2, 1), (.iconst 0, 1), (.aload_n 0, 1), (.iload_n 1, 1)] (pc' := 4) (L' := [(0, .inr (9, some 0)), (1, .inl (.int x)), (2, .inr (17, some 0))]) (st' := [.inl (.int x), .inr (9, some 0), .inl (.int 0), .inr (17, some 0)]) ⟨dL_buy_0, dL_buy_1, dL_buy_2, dL_buy_3, trivial⟩ rfl rfl ?_
  refine wx_virtual (M := M_L_buy) (uc := 0) (us := 0) (s := 9) (i := 0) (As := [.inl (.int x)]) (rest := [.inl (.int 0), .inr (17, some 0)]) cls_9 rfl (ok_X8_buy _ _) ml_L_68 im_X8_buy se_X8_buy (by omega) (c_X8_buy (d := d - 1) (h := h) (by omega) W x) rfl rfl (Nat.le_of_ble_eq_true rfl) dL_buy_4 (fun r9 h9 e9 => ?_) (fun E9 h9 e9 => ?_)
  · obtain ⟨_, e1, rfl⟩ := e9
    obtain ⟨v9, rfl⟩ := (sh_buy h x).v e1
    refine wp_run [(.i2l, 1)] (pc' := 8) (L' := [(0, .inr (9, some 0)), (1, .inl (.int x)), (2, .inr (17, some 0))]) (st' := [.inl (.long ((v9).toInt64)), .inl (.int 0), .inr (17, some 0)]) ⟨dL_buy_7, trivial⟩ rfl rfl ?_
    refine wx_last dL_buy_8 ?_
    refine wx_goto (tgt := 18) dL_buy_9 (by decide) ?_
    refine wp_run [(.iconst 0, 1)] (pc' := 19) (L' := [(0, .inr (9, some 0)), (1, .inl (.int x)), (2, .inr (17, some 0))]) (st' := [.inl (.int 0)]) ⟨dL_buy_18, trivial⟩ rfl rfl ?_
    exact wx_iret rfl rfl dL_buy_19 (by rw [← e1]; exact ⟨rfl, rfl⟩)
  · obtain ⟨_, e1, rfl⟩ := e9
    have hm := (sh_buy h x).x e1
    simp only [List.mem_cons, List.not_mem_nil, or_false] at hm
    rcases hm with rfl | rfl
    · refine wx_catch rfl [] ⟨0, 9, 12, 21⟩ [⟨0, 9, 15, 15⟩] rfl (fun z hz => by cases hz) (by decide) (by decide) exl_3 exc_3 (fun q9 => ?_)
      refine wx_astoreX (by decide) dL_buy_12 ?_ (by intro p hp; simp only [List.mem_cons, List.not_mem_nil, or_false] at hp; rcases hp with rfl | rfl | rfl <;> exact ⟨by dsimp only; decide, fun q => absurd (show (1 : Nat) = 2 from q.2) (by decide)⟩)
      refine wp_run [(.iconst 1, 1)] (pc' := 14) (L' := [(0, .inr (9, some 0)), (1, .inl (.int x)), (2, .inr (17, some 0))]) (st' := [.inl (.int 1)]) ⟨dL_buy_13, trivial⟩ rfl rfl ?_
      exact wx_iret rfl rfl dL_buy_14 (by rw [← e1]; exact ⟨by rw [show cdR [cy_e3, cy_e2] (.inr cy_e3) = 1 by decide +kernel], rfl⟩)
    · refine wx_catch rfl [⟨0, 9, 12, 21⟩] ⟨0, 9, 15, 15⟩ [] rfl (fun z hz => by
        simp only [List.mem_cons, List.not_mem_nil, or_false] at hz
        obtain rfl := hz
        exact .inr ⟨by decide, cy_e3, exl_3, by decide +kernel⟩) (by decide) (by decide) exl_2 exc_2 (fun q9 => ?_)
      refine wx_astoreX (by decide) dL_buy_15 ?_ (by intro p hp; simp only [List.mem_cons, List.not_mem_nil, or_false] at hp; rcases hp with rfl | rfl | rfl <;> exact ⟨by dsimp only; decide, fun q => absurd (show (1 : Nat) = 2 from q.2) (by decide)⟩)
      refine wp_run [(.iconst 2, 1)] (pc' := 17) (L' := [(0, .inr (9, some 0)), (1, .inl (.int x)), (2, .inr (17, some 0))]) (st' := [.inl (.int 2)]) ⟨dL_buy_16, trivial⟩ rfl rfl ?_
      exact wx_iret rfl rfl dL_buy_17 (by rw [← e1]; exact ⟨by rw [show cdR [cy_e3, cy_e2] (.inr cy_e2) = 2 by decide +kernel], rfl⟩)
set_option maxRecDepth 20000 in
theorem c_L_right {g : GT} {d : Nat} (hd : 9 ≤ d) {h : Hp} (W : CW h) (x : Int32)  : Ctr g M_L_right d 1 6 [.inr (9, some 0), .inl (.int x), .inr (17, some 0)] h (cy_det (.inl (some (.inl (.int (cdR [cy_e3] (F_X8_right h x)))))) (loI (F_X8_right h x) h)) := by
  refine cy_body rfl rfl (by decide) (Nat.le_of_ble_eq_true rfl) ?_
  refine wp_run [(.aload_n 2, 1), (.iconst 0, 1), (.aload_n 0, 1), (.iload_n 1, 1)] (pc' := 4) (L' := [(0, .inr (9, some 0)), (1, .inl (.int x)), (2, .inr (17, some 0))]) (st' := [.inl (.int x), .inr (9, some 0), .inl (.int 0), .inr (17, some 0)]) ⟨dL_right_0, dL_right_1, dL_right_2, dL_right_3, trivial⟩ rfl rfl ?_
  refine wx_virtual (M := M_L_right) (uc := 0) (us := 0) (s := 9) (i := 0) (As := [.inl (.int x)]) (rest := [.inl (.int 0), .inr (17, some 0)]) cls_9 rfl (ok_X8_right _ _) ml_L_71 im_X8_right se_X8_right (by omega) (c_X8_right (d := d - 1) (h := h) (by omega) W x) rfl rfl (Nat.le_of_ble_eq_true rfl) dL_right_4 (fun r9 h9 e9 => ?_) (fun E9 h9 e9 => ?_)
  · obtain ⟨e1, eh⟩ := e9; subst h9
    obtain ⟨v9, rfl⟩ := (sh_right h x).v e1
    refine wp_run [(.i2l, 1)] (pc' := 8) (L' := [(0, .inr (9, some 0)), (1, .inl (.int x)), (2, .inr (17, some 0))]) (st' := [.inl (.long ((v9).toInt64)), .inl (.int 0), .inr (17, some 0)]) ⟨dL_right_7, trivial⟩ rfl rfl ?_
    refine wx_last dL_right_8 ?_
    refine wx_goto (tgt := 15) dL_right_9 (by decide) ?_
    refine wp_run [(.iconst 0, 1)] (pc' := 16) (L' := [(0, .inr (9, some 0)), (1, .inl (.int x)), (2, .inr (17, some 0))]) (st' := [.inl (.int 0)]) ⟨dL_right_15, trivial⟩ rfl rfl ?_
    exact wx_iret rfl rfl dL_right_16 (by rw [← e1]; exact ⟨rfl, rfl⟩)
  · obtain ⟨e1, eh⟩ := e9; subst h9
    have hm := (sh_right h x).x e1
    simp only [List.mem_cons, List.not_mem_nil, or_false] at hm
    obtain rfl := hm
    refine wx_catch rfl [] ⟨0, 9, 12, 21⟩ [] rfl (fun z hz => by cases hz) (by decide) (by decide) exl_3 exc_3 (fun q9 => ?_)
    refine wx_astoreX (by decide) dL_right_12 ?_ (by intro p hp; simp only [List.mem_cons, List.not_mem_nil, or_false] at hp; rcases hp with rfl | rfl | rfl <;> exact ⟨by dsimp only; decide, fun q => absurd (show (1 : Nat) = 2 from q.2) (by decide)⟩)
    refine wp_run [(.iconst 1, 1)] (pc' := 14) (L' := [(0, .inr (9, some 0)), (1, .inl (.int x)), (2, .inr (17, some 0))]) (st' := [.inl (.int 1)]) ⟨dL_right_13, trivial⟩ rfl rfl ?_
    exact wx_iret rfl rfl dL_right_14 (by rw [← e1]; exact ⟨by rw [show cdR [cy_e3] (.inr cy_e3) = 1 by decide +kernel], rfl⟩)
set_option maxRecDepth 20000 in
theorem c_L_claim {g : GT} {d : Nat} (hd : 9 ≤ d) {h : Hp} (W : CW h) (x : Int32)  : Ctr g M_L_claim d 2 12 [.inr (9, some 0), .inl (.int x), .inr (17, some 0)] h (cy_det (.inl (some (.inl (.int (cdR [cy_e3, cy_e2] (F_X8_claim h x).1))))) (loI (F_X8_claim h x).1 ((F_X8_claim h x).2))) := by
  refine cy_body rfl rfl (by decide) (Nat.le_of_ble_eq_true rfl) ?_
  refine wp_run [(.aload_n 2, 1), (.iconst 0, 1), (.aload_n 0, 1), (.iload_n 1, 1)] (pc' := 4) (L' := [(0, .inr (9, some 0)), (1, .inl (.int x)), (2, .inr (17, some 0))]) (st' := [.inl (.int x), .inr (9, some 0), .inl (.int 0), .inr (17, some 0)]) ⟨dL_claim_0, dL_claim_1, dL_claim_2, dL_claim_3, trivial⟩ rfl rfl ?_
  refine wx_virtual (M := M_L_claim) (uc := 0) (us := 0) (s := 9) (i := 0) (As := [.inl (.int x)]) (rest := [.inl (.int 0), .inr (17, some 0)]) cls_9 rfl (ok_X8_claim _ _) ml_L_74 im_X8_claim se_X8_claim (by omega) (c_X8_claim (d := d - 1) (h := h) (by omega) W x) rfl rfl (Nat.le_of_ble_eq_true rfl) dL_claim_4 (fun r9 h9 e9 => ?_) (fun E9 h9 e9 => ?_)
  · obtain ⟨_, e1, rfl⟩ := e9
    obtain ⟨v9, rfl⟩ := (sh_claim h x).v e1
    refine wp_run [(.i2l, 1)] (pc' := 8) (L' := [(0, .inr (9, some 0)), (1, .inl (.int x)), (2, .inr (17, some 0))]) (st' := [.inl (.long ((v9).toInt64)), .inl (.int 0), .inr (17, some 0)]) ⟨dL_claim_7, trivial⟩ rfl rfl ?_
    refine wx_last dL_claim_8 ?_
    refine wx_goto (tgt := 18) dL_claim_9 (by decide) ?_
    refine wp_run [(.iconst 0, 1)] (pc' := 19) (L' := [(0, .inr (9, some 0)), (1, .inl (.int x)), (2, .inr (17, some 0))]) (st' := [.inl (.int 0)]) ⟨dL_claim_18, trivial⟩ rfl rfl ?_
    exact wx_iret rfl rfl dL_claim_19 (by rw [← e1]; exact ⟨rfl, rfl⟩)
  · obtain ⟨_, e1, rfl⟩ := e9
    have hm := (sh_claim h x).x e1
    simp only [List.mem_cons, List.not_mem_nil, or_false] at hm
    rcases hm with rfl | rfl
    · refine wx_catch rfl [] ⟨0, 9, 12, 21⟩ [⟨0, 9, 15, 15⟩] rfl (fun z hz => by cases hz) (by decide) (by decide) exl_3 exc_3 (fun q9 => ?_)
      refine wx_astoreX (by decide) dL_claim_12 ?_ (by intro p hp; simp only [List.mem_cons, List.not_mem_nil, or_false] at hp; rcases hp with rfl | rfl | rfl <;> exact ⟨by dsimp only; decide, fun q => absurd (show (1 : Nat) = 2 from q.2) (by decide)⟩)
      refine wp_run [(.iconst 1, 1)] (pc' := 14) (L' := [(0, .inr (9, some 0)), (1, .inl (.int x)), (2, .inr (17, some 0))]) (st' := [.inl (.int 1)]) ⟨dL_claim_13, trivial⟩ rfl rfl ?_
      exact wx_iret rfl rfl dL_claim_14 (by rw [← e1]; exact ⟨by rw [show cdR [cy_e3, cy_e2] (.inr cy_e3) = 1 by decide +kernel], rfl⟩)
    · refine wx_catch rfl [⟨0, 9, 12, 21⟩] ⟨0, 9, 15, 15⟩ [] rfl (fun z hz => by
        simp only [List.mem_cons, List.not_mem_nil, or_false] at hz
        obtain rfl := hz
        exact .inr ⟨by decide, cy_e3, exl_3, by decide +kernel⟩) (by decide) (by decide) exl_2 exc_2 (fun q9 => ?_)
      refine wx_astoreX (by decide) dL_claim_15 ?_ (by intro p hp; simp only [List.mem_cons, List.not_mem_nil, or_false] at hp; rcases hp with rfl | rfl | rfl <;> exact ⟨by dsimp only; decide, fun q => absurd (show (1 : Nat) = 2 from q.2) (by decide)⟩)
      refine wp_run [(.iconst 2, 1)] (pc' := 17) (L' := [(0, .inr (9, some 0)), (1, .inl (.int x)), (2, .inr (17, some 0))]) (st' := [.inl (.int 2)]) ⟨dL_claim_16, trivial⟩ rfl rfl ?_
      exact wx_iret rfl rfl dL_claim_17 (by rw [← e1]; exact ⟨by rw [show cdR [cy_e3, cy_e2] (.inr cy_e2) = 2 by decide +kernel], rfl⟩)
