set_option maxRecDepth 20000 in
theorem c_L_concerned {g : GT} {d : Nat} (hd : 9 ≤ d) {h : Hp} (W : CW h) (t : Int32) (dy : Int32)  : Ctr g M_L_concerned d 2 12 [.inr (9, some 0), .inl (.int t), .inl (.int dy), .inr (17, some 0)] h (cy_det (.inl (some (.inl (.int (cdR [cy_e3, cy_e1] (F_X8_concerned h t dy)))))) (loI (F_X8_concerned h t dy) h)) := by
  refine cy_body rfl rfl (by decide) (Nat.le_of_ble_eq_true rfl) ?_
  refine wp_run [(.aload_n 3, 1), (.iconst 0, 1), (.aload_n 0, 1), (.iload_n 1, 1), (.iload_n 2, 1)] (pc' := 5) (L' := [(0, .inr (9, some 0)), (1, .inl (.int t)), (2, .inl (.int dy)), (3, .inr (17, some 0))]) (st' := [.inl (.int dy), .inl (.int t), .inr (9, some 0), .inl (.int 0), .inr (17, some 0)]) ⟨dL_concerned_0, dL_concerned_1, dL_concerned_2, dL_concerned_3, dL_concerned_4, trivial⟩ rfl rfl ?_
  refine wx_virtual (M := M_L_concerned) (uc := 0) (us := 0) (s := 9) (i := 0) (As := [.inl (.int t), .inl (.int dy)]) (rest := [.inl (.int 0), .inr (17, some 0)]) cls_9 rfl (ok_X8_concerned _ _) ml_L_77 im_X8_concerned se_X8_concerned (by omega) (c_X8_concerned (d := d - 1) (h := h) (by omega) W t dy) rfl rfl (Nat.le_of_ble_eq_true rfl) dL_concerned_5 (fun r9 h9 e9 => ?_) (fun E9 h9 e9 => ?_)
  · obtain ⟨e1, eh⟩ := e9; subst h9
    obtain ⟨v9, rfl⟩ := (sh_concerned h t dy W).v e1
    refine wp_run [(.i2l, 1)] (pc' := 9) (L' := [(0, .inr (9, some 0)), (1, .inl (.int t)), (2, .inl (.int dy)), (3, .inr (17, some 0))]) (st' := [.inl (.long ((v9).toInt64)), .inl (.int 0), .inr (17, some 0)]) ⟨dL_concerned_8, trivial⟩ rfl rfl ?_
    refine wx_last dL_concerned_9 ?_
    refine wx_goto (tgt := 21) dL_concerned_10 (by decide) ?_
    refine wp_run [(.iconst 0, 1)] (pc' := 22) (L' := [(0, .inr (9, some 0)), (1, .inl (.int t)), (2, .inl (.int dy)), (3, .inr (17, some 0))]) (st' := [.inl (.int 0)]) ⟨dL_concerned_21, trivial⟩ rfl rfl ?_
    exact wx_iret rfl rfl dL_concerned_22 (by rw [← e1]; exact ⟨rfl, rfl⟩)
  · obtain ⟨e1, eh⟩ := e9; subst h9
    have hm := (sh_concerned h t dy W).x e1
    simp only [List.mem_cons, List.not_mem_nil, or_false] at hm
    rcases hm with rfl | rfl
    · refine wx_catch rfl [] ⟨0, 10, 13, 21⟩ [⟨0, 10, 17, 13⟩] rfl (fun z hz => by cases hz) (by decide) (by decide) exl_3 exc_3 (fun q9 => ?_)
      refine wx_astoreY (by decide) dL_concerned_13 ?_ (by intro p hp; simp only [List.mem_cons, List.not_mem_nil, or_false] at hp; rcases hp with rfl | rfl | rfl | rfl <;> exact ⟨by dsimp only; decide, fun q => absurd (show (1 : Nat) = 2 from q.2) (by decide)⟩)
      refine wp_run [(.iconst 1, 1)] (pc' := 16) (L' := [(0, .inr (9, some 0)), (1, .inl (.int t)), (2, .inl (.int dy)), (3, .inr (17, some 0))]) (st' := [.inl (.int 1)]) ⟨dL_concerned_15, trivial⟩ rfl rfl ?_
      exact wx_iret rfl rfl dL_concerned_16 (by rw [← e1]; exact ⟨by rw [show cdR [cy_e3, cy_e1] (.inr cy_e3) = 1 by decide +kernel], rfl⟩)
    · refine wx_catch rfl [⟨0, 10, 13, 21⟩] ⟨0, 10, 17, 13⟩ [] rfl (fun z hz => by
        simp only [List.mem_cons, List.not_mem_nil, or_false] at hz
        obtain rfl := hz
        exact .inr ⟨by decide, cy_e3, exl_3, by decide +kernel⟩) (by decide) (by decide) exl_1 exc_1 (fun q9 => ?_)
      refine wx_astoreY (by decide) dL_concerned_17 ?_ (by intro p hp; simp only [List.mem_cons, List.not_mem_nil, or_false] at hp; rcases hp with rfl | rfl | rfl | rfl <;> exact ⟨by dsimp only; decide, fun q => absurd (show (1 : Nat) = 2 from q.2) (by decide)⟩)
      refine wp_run [(.iconst 2, 1)] (pc' := 20) (L' := [(0, .inr (9, some 0)), (1, .inl (.int t)), (2, .inl (.int dy)), (3, .inr (17, some 0))]) (st' := [.inl (.int 2)]) ⟨dL_concerned_19, trivial⟩ rfl rfl ?_
      exact wx_iret rfl rfl dL_concerned_20 (by rw [← e1]; exact ⟨by rw [show cdR [cy_e3, cy_e1] (.inr cy_e1) = 2 by decide +kernel], rfl⟩)
set_option maxRecDepth 20000 in
theorem c_L_seats {g : GT} {d : Nat} (hd : 9 ≤ d) {h : Hp} (W : CW h) (t : Int32) (dy : Int32)  : Ctr g M_L_seats d 2 12 [.inr (9, some 0), .inl (.int t), .inl (.int dy), .inr (17, some 0)] h (cy_det (.inl (some (.inl (.int (cdR [cy_e3, cy_e1] (F_X8_seats h t dy)))))) (loI (F_X8_seats h t dy) h)) := by
  refine cy_body rfl rfl (by decide) (Nat.le_of_ble_eq_true rfl) ?_
  refine wp_run [(.aload_n 3, 1), (.iconst 0, 1), (.aload_n 0, 1), (.iload_n 1, 1), (.iload_n 2, 1)] (pc' := 5) (L' := [(0, .inr (9, some 0)), (1, .inl (.int t)), (2, .inl (.int dy)), (3, .inr (17, some 0))]) (st' := [.inl (.int dy), .inl (.int t), .inr (9, some 0), .inl (.int 0), .inr (17, some 0)]) ⟨dL_seats_0, dL_seats_1, dL_seats_2, dL_seats_3, dL_seats_4, trivial⟩ rfl rfl ?_
  refine wx_virtual (M := M_L_seats) (uc := 0) (us := 0) (s := 9) (i := 0) (As := [.inl (.int t), .inl (.int dy)]) (rest := [.inl (.int 0), .inr (17, some 0)]) cls_9 rfl (ok_X8_seats _ _) ml_L_80 im_X8_seats se_X8_seats (by omega) (c_X8_seats (d := d - 1) (h := h) (by omega) W t dy) rfl rfl (Nat.le_of_ble_eq_true rfl) dL_seats_5 (fun r9 h9 e9 => ?_) (fun E9 h9 e9 => ?_)
  · obtain ⟨e1, eh⟩ := e9; subst h9
    obtain ⟨v9, rfl⟩ := (sh_seats h t dy).v e1
    refine wp_run [(.i2l, 1)] (pc' := 9) (L' := [(0, .inr (9, some 0)), (1, .inl (.int t)), (2, .inl (.int dy)), (3, .inr (17, some 0))]) (st' := [.inl (.long ((v9).toInt64)), .inl (.int 0), .inr (17, some 0)]) ⟨dL_seats_8, trivial⟩ rfl rfl ?_
    refine wx_last dL_seats_9 ?_
    refine wx_goto (tgt := 21) dL_seats_10 (by decide) ?_
    refine wp_run [(.iconst 0, 1)] (pc' := 22) (L' := [(0, .inr (9, some 0)), (1, .inl (.int t)), (2, .inl (.int dy)), (3, .inr (17, some 0))]) (st' := [.inl (.int 0)]) ⟨dL_seats_21, trivial⟩ rfl rfl ?_
    exact wx_iret rfl rfl dL_seats_22 (by rw [← e1]; exact ⟨rfl, rfl⟩)
  · obtain ⟨e1, eh⟩ := e9; subst h9
    have hm := (sh_seats h t dy).x e1
    simp only [List.mem_cons, List.not_mem_nil, or_false] at hm
    rcases hm with rfl | rfl
    · refine wx_catch rfl [] ⟨0, 10, 13, 21⟩ [⟨0, 10, 17, 13⟩] rfl (fun z hz => by cases hz) (by decide) (by decide) exl_3 exc_3 (fun q9 => ?_)
      refine wx_astoreY (by decide) dL_seats_13 ?_ (by intro p hp; simp only [List.mem_cons, List.not_mem_nil, or_false] at hp; rcases hp with rfl | rfl | rfl | rfl <;> exact ⟨by dsimp only; decide, fun q => absurd (show (1 : Nat) = 2 from q.2) (by decide)⟩)
      refine wp_run [(.iconst 1, 1)] (pc' := 16) (L' := [(0, .inr (9, some 0)), (1, .inl (.int t)), (2, .inl (.int dy)), (3, .inr (17, some 0))]) (st' := [.inl (.int 1)]) ⟨dL_seats_15, trivial⟩ rfl rfl ?_
      exact wx_iret rfl rfl dL_seats_16 (by rw [← e1]; exact ⟨by rw [show cdR [cy_e3, cy_e1] (.inr cy_e3) = 1 by decide +kernel], rfl⟩)
    · refine wx_catch rfl [⟨0, 10, 13, 21⟩] ⟨0, 10, 17, 13⟩ [] rfl (fun z hz => by
        simp only [List.mem_cons, List.not_mem_nil, or_false] at hz
        obtain rfl := hz
        exact .inr ⟨by decide, cy_e3, exl_3, by decide +kernel⟩) (by decide) (by decide) exl_1 exc_1 (fun q9 => ?_)
      refine wx_astoreY (by decide) dL_seats_17 ?_ (by intro p hp; simp only [List.mem_cons, List.not_mem_nil, or_false] at hp; rcases hp with rfl | rfl | rfl | rfl <;> exact ⟨by dsimp only; decide, fun q => absurd (show (1 : Nat) = 2 from q.2) (by decide)⟩)
      refine wp_run [(.iconst 2, 1)] (pc' := 20) (L' := [(0, .inr (9, some 0)), (1, .inl (.int t)), (2, .inl (.int dy)), (3, .inr (17, some 0))]) (st' := [.inl (.int 2)]) ⟨dL_seats_19, trivial⟩ rfl rfl ?_
      exact wx_iret rfl rfl dL_seats_20 (by rw [← e1]; exact ⟨by rw [show cdR [cy_e3, cy_e1] (.inr cy_e1) = 2 by decide +kernel], rfl⟩)
set_option maxRecDepth 20000 in
theorem c_L_pass {g : GT} {d : Nat} (hd : 8 ≤ d) {h : Hp} (W : CW h) (x : Int32)  : Ctr g M_L_pass d 1 6 [.inr (9, some 0), .inl (.int x), .inr (17, some 0)] h (cy_det (.inl (some (.inl (.int (cdR [cy_e1] (F_X8_pass h x).1))))) (loI (F_X8_pass h x).1 ((F_X8_pass h x).2))) := by
  refine cy_body rfl rfl (by decide) (Nat.le_of_ble_eq_true rfl) ?_
  refine wp_run [(.aload_n 2, 1), (.iconst 0, 1), (.aload_n 0, 1), (.iload_n 1, 1)] (pc' := 4) (L' := [(0, .inr (9, some 0)), (1, .inl (.int x)), (2, .inr (17, some 0))]) (st' := [.inl (.int x), .inr (9, some 0), .inl (.int 0), .inr (17, some 0)]) ⟨dL_pass_0, dL_pass_1, dL_pass_2, dL_pass_3, trivial⟩ rfl rfl ?_
  refine wx_virtual (M := M_L_pass) (uc := 0) (us := 0) (s := 9) (i := 0) (As := [.inl (.int x)]) (rest := [.inl (.int 0), .inr (17, some 0)]) cls_9 rfl (ok_X8_pass _ _) ml_L_83 im_X8_pass se_X8_pass (by omega) (c_X8_pass (d := d - 1) (h := h) (by omega) W x) rfl rfl (Nat.le_of_ble_eq_true rfl) dL_pass_4 (fun r9 h9 e9 => ?_) (fun E9 h9 e9 => ?_)
  · obtain ⟨_, e1, rfl⟩ := e9
    obtain ⟨v9, rfl⟩ := (sh_pass h x W).v e1
    refine wp_run [(.i2l, 1)] (pc' := 8) (L' := [(0, .inr (9, some 0)), (1, .inl (.int x)), (2, .inr (17, some 0))]) (st' := [.inl (.long ((v9).toInt64)), .inl (.int 0), .inr (17, some 0)]) ⟨dL_pass_7, trivial⟩ rfl rfl ?_
    refine wx_last dL_pass_8 ?_
    refine wx_goto (tgt := 15) dL_pass_9 (by decide) ?_
    refine wp_run [(.iconst 0, 1)] (pc' := 16) (L' := [(0, .inr (9, some 0)), (1, .inl (.int x)), (2, .inr (17, some 0))]) (st' := [.inl (.int 0)]) ⟨dL_pass_15, trivial⟩ rfl rfl ?_
    exact wx_iret rfl rfl dL_pass_16 (by rw [← e1]; exact ⟨rfl, rfl⟩)
  · obtain ⟨_, e1, rfl⟩ := e9
    have hm := (sh_pass h x W).x e1
    simp only [List.mem_cons, List.not_mem_nil, or_false] at hm
    obtain rfl := hm
    refine wx_catch rfl [] ⟨0, 9, 12, 13⟩ [] rfl (fun z hz => by cases hz) (by decide) (by decide) exl_1 exc_1 (fun q9 => ?_)
    refine wx_astoreX (by decide) dL_pass_12 ?_ (by intro p hp; simp only [List.mem_cons, List.not_mem_nil, or_false] at hp; rcases hp with rfl | rfl | rfl <;> exact ⟨by dsimp only; decide, fun q => absurd (show (1 : Nat) = 2 from q.2) (by decide)⟩)
    refine wp_run [(.iconst 1, 1)] (pc' := 14) (L' := [(0, .inr (9, some 0)), (1, .inl (.int x)), (2, .inr (17, some 0))]) (st' := [.inl (.int 1)]) ⟨dL_pass_13, trivial⟩ rfl rfl ?_
    exact wx_iret rfl rfl dL_pass_14 (by rw [← e1]; exact ⟨by rw [show cdR [cy_e1] (.inr cy_e1) = 1 by decide +kernel], rfl⟩)
set_option maxRecDepth 20000 in
theorem c_L_ofBooking {g : GT} {d : Nat} (hd : 9 ≤ d) {h : Hp} (W : CW h) (x : Int32) (wh : Int32)  : Ctr g M_L_ofBooking d 2 12 [.inr (9, some 0), .inl (.int x), .inl (.int wh), .inr (17, some 0)] h (cy_det (.inl (some (.inl (.int (cdR [cy_e3, cy_e1] (F_X8_ofBooking h x wh)))))) (loI (F_X8_ofBooking h x wh) h)) := by
  refine cy_body rfl rfl (by decide) (Nat.le_of_ble_eq_true rfl) ?_
  refine wp_run [(.aload_n 3, 1), (.iconst 0, 1), (.aload_n 0, 1), (.iload_n 1, 1), (.iload_n 2, 1)] (pc' := 5) (L' := [(0, .inr (9, some 0)), (1, .inl (.int x)), (2, .inl (.int wh)), (3, .inr (17, some 0))]) (st' := [.inl (.int wh), .inl (.int x), .inr (9, some 0), .inl (.int 0), .inr (17, some 0)]) ⟨dL_ofBooking_0, dL_ofBooking_1, dL_ofBooking_2, dL_ofBooking_3, dL_ofBooking_4, trivial⟩ rfl rfl ?_
  refine wx_virtual (M := M_L_ofBooking) (uc := 0) (us := 0) (s := 9) (i := 0) (As := [.inl (.int x), .inl (.int wh)]) (rest := [.inl (.int 0), .inr (17, some 0)]) cls_9 rfl (ok_X8_ofBooking _ _) ml_L_86 im_X8_ofBooking se_X8_ofBooking (by omega) (c_X8_ofBooking (d := d - 1) (h := h) (by omega) W x wh) rfl rfl (Nat.le_of_ble_eq_true rfl) dL_ofBooking_5 (fun r9 h9 e9 => ?_) (fun E9 h9 e9 => ?_)
  · obtain ⟨e1, eh⟩ := e9; subst h9
    obtain ⟨v9, rfl⟩ := (sh_ofBooking h x wh).v e1
    refine wp_run [(.i2l, 1)] (pc' := 9) (L' := [(0, .inr (9, some 0)), (1, .inl (.int x)), (2, .inl (.int wh)), (3, .inr (17, some 0))]) (st' := [.inl (.long ((v9).toInt64)), .inl (.int 0), .inr (17, some 0)]) ⟨dL_ofBooking_8, trivial⟩ rfl rfl ?_
    refine wx_last dL_ofBooking_9 ?_
    refine wx_goto (tgt := 21) dL_ofBooking_10 (by decide) ?_
    refine wp_run [(.iconst 0, 1)] (pc' := 22) (L' := [(0, .inr (9, some 0)), (1, .inl (.int x)), (2, .inl (.int wh)), (3, .inr (17, some 0))]) (st' := [.inl (.int 0)]) ⟨dL_ofBooking_21, trivial⟩ rfl rfl ?_
    exact wx_iret rfl rfl dL_ofBooking_22 (by rw [← e1]; exact ⟨rfl, rfl⟩)
  · obtain ⟨e1, eh⟩ := e9; subst h9
    have hm := (sh_ofBooking h x wh).x e1
    simp only [List.mem_cons, List.not_mem_nil, or_false] at hm
    rcases hm with rfl | rfl
    · refine wx_catch rfl [] ⟨0, 10, 13, 21⟩ [⟨0, 10, 17, 13⟩] rfl (fun z hz => by cases hz) (by decide) (by decide) exl_3 exc_3 (fun q9 => ?_)
      refine wx_astoreY (by decide) dL_ofBooking_13 ?_ (by intro p hp; simp only [List.mem_cons, List.not_mem_nil, or_false] at hp; rcases hp with rfl | rfl | rfl | rfl <;> exact ⟨by dsimp only; decide, fun q => absurd (show (1 : Nat) = 2 from q.2) (by decide)⟩)
      refine wp_run [(.iconst 1, 1)] (pc' := 16) (L' := [(0, .inr (9, some 0)), (1, .inl (.int x)), (2, .inl (.int wh)), (3, .inr (17, some 0))]) (st' := [.inl (.int 1)]) ⟨dL_ofBooking_15, trivial⟩ rfl rfl ?_
      exact wx_iret rfl rfl dL_ofBooking_16 (by rw [← e1]; exact ⟨by rw [show cdR [cy_e3, cy_e1] (.inr cy_e3) = 1 by decide +kernel], rfl⟩)
    · refine wx_catch rfl [⟨0, 10, 13, 21⟩] ⟨0, 10, 17, 13⟩ [] rfl (fun z hz => by
        simp only [List.mem_cons, List.not_mem_nil, or_false] at hz
        obtain rfl := hz
        exact .inr ⟨by decide, cy_e3, exl_3, by decide +kernel⟩) (by decide) (by decide) exl_1 exc_1 (fun q9 => ?_)
      refine wx_astoreY (by decide) dL_ofBooking_17 ?_ (by intro p hp; simp only [List.mem_cons, List.not_mem_nil, or_false] at hp; rcases hp with rfl | rfl | rfl | rfl <;> exact ⟨by dsimp only; decide, fun q => absurd (show (1 : Nat) = 2 from q.2) (by decide)⟩)
      refine wp_run [(.iconst 2, 1)] (pc' := 20) (L' := [(0, .inr (9, some 0)), (1, .inl (.int x)), (2, .inl (.int wh)), (3, .inr (17, some 0))]) (st' := [.inl (.int 2)]) ⟨dL_ofBooking_19, trivial⟩ rfl rfl ?_
      exact wx_iret rfl rfl dL_ofBooking_20 (by rw [← e1]; exact ⟨by rw [show cdR [cy_e3, cy_e1] (.inr cy_e1) = 2 by decide +kernel], rfl⟩)
