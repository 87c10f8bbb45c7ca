set_option maxRecDepth 20000 in
theorem c_L_note {g : GT} {d : Nat} (hd : 9 ≤ d) {h : Hp} (W : CW h) (t : Int32) (mi : Int32)  : Ctr g M_L_note d 3 18 [.inr (9, some 0), .inl (.int t), .inl (.int mi), .inr (17, some 0)] h (cy_det (.inl (some (.inl (.int (cdR [cy_e3, cy_e1, cy_e2] (F_X8_note h t mi).1))))) (loI (F_X8_note h t mi).1 ((F_X8_note h t mi).2))) := by
  refine cy_body rfl rfl (by decide) (Nat.le_of_ble_eq_true rfl) ?_
  refine wp_run [(.aload_n 3, 1), (.iconst 0, 1), (.aload_n 0, 1), (.iload_n 1, 1), (.iload_n 2, 1)] (pc' := 5) (L' := [(0, .inr (9, some 0)), (1, .inl (.int t)), (2, .inl (.int mi)), (3, .inr (17, some 0))]) (st' := [.inl (.int mi), .inl (.int t), .inr (9, some 0), .inl (.int 0), .inr (17, some 0)]) ⟨dL_note_0, dL_note_1, dL_note_2, dL_note_3, dL_note_4, trivial⟩ rfl rfl ?_
  refine wx_virtual (M := M_L_note) (uc := 0) (us := 0) (s := 9) (i := 0) (As := [.inl (.int t), .inl (.int mi)]) (rest := [.inl (.int 0), .inr (17, some 0)]) cls_9 rfl (ok_X8_note _ _) ml_L_38 im_X8_note se_X8_note (by omega) (c_X8_note (d := d - 1) (h := h) (by omega) W t mi) rfl rfl (Nat.le_of_ble_eq_true rfl) dL_note_5 (fun r9 h9 e9 => ?_) (fun E9 h9 e9 => ?_)
  · obtain ⟨_, e1, rfl⟩ := e9
    obtain ⟨v9, rfl⟩ := (sh_note h t mi).v e1
    refine wp_run [(.i2l, 1)] (pc' := 9) (L' := [(0, .inr (9, some 0)), (1, .inl (.int t)), (2, .inl (.int mi)), (3, .inr (17, some 0))]) (st' := [.inl (.long ((v9).toInt64)), .inl (.int 0), .inr (17, some 0)]) ⟨dL_note_8, trivial⟩ rfl rfl ?_
    refine wx_last dL_note_9 ?_
    refine wx_goto (tgt := 25) dL_note_10 (by decide) ?_
    refine wp_run [(.iconst 0, 1)] (pc' := 26) (L' := [(0, .inr (9, some 0)), (1, .inl (.int t)), (2, .inl (.int mi)), (3, .inr (17, some 0))]) (st' := [.inl (.int 0)]) ⟨dL_note_25, trivial⟩ rfl rfl ?_
    exact wx_iret rfl rfl dL_note_26 (by rw [← e1]; exact ⟨rfl, rfl⟩)
  · obtain ⟨_, e1, rfl⟩ := e9
    have hm := (sh_note h t mi).x e1
    simp only [List.mem_cons, List.not_mem_nil, or_false] at hm
    rcases hm with rfl | rfl | rfl
    · refine wx_catch rfl [] ⟨0, 10, 13, 21⟩ [⟨0, 10, 17, 13⟩, ⟨0, 10, 21, 15⟩] rfl (fun z hz => by cases hz) (by decide) (by decide) exl_3 exc_3 (fun q9 => ?_)
      refine wx_astoreY (by decide) dL_note_13 ?_ (by intro p hp; simp only [List.mem_cons, List.not_mem_nil, or_false] at hp; rcases hp with rfl | rfl | rfl | rfl <;> exact ⟨by dsimp only; decide, fun q => absurd (show (1 : Nat) = 2 from q.2) (by decide)⟩)
      refine wp_run [(.iconst 1, 1)] (pc' := 16) (L' := [(0, .inr (9, some 0)), (1, .inl (.int t)), (2, .inl (.int mi)), (3, .inr (17, some 0))]) (st' := [.inl (.int 1)]) ⟨dL_note_15, trivial⟩ rfl rfl ?_
      exact wx_iret rfl rfl dL_note_16 (by rw [← e1]; exact ⟨by rw [show cdR [cy_e3, cy_e1, cy_e2] (.inr cy_e3) = 1 by decide +kernel], rfl⟩)
    · refine wx_catch rfl [⟨0, 10, 13, 21⟩] ⟨0, 10, 17, 13⟩ [⟨0, 10, 21, 15⟩] rfl (fun z hz => by
        simp only [List.mem_cons, List.not_mem_nil, or_false] at hz
        obtain rfl := hz
        exact .inr ⟨by decide, cy_e3, exl_3, by decide +kernel⟩) (by decide) (by decide) exl_1 exc_1 (fun q9 => ?_)
      refine wx_astoreY (by decide) dL_note_17 ?_ (by intro p hp; simp only [List.mem_cons, List.not_mem_nil, or_false] at hp; rcases hp with rfl | rfl | rfl | rfl <;> exact ⟨by dsimp only; decide, fun q => absurd (show (1 : Nat) = 2 from q.2) (by decide)⟩)
      refine wp_run [(.iconst 2, 1)] (pc' := 20) (L' := [(0, .inr (9, some 0)), (1, .inl (.int t)), (2, .inl (.int mi)), (3, .inr (17, some 0))]) (st' := [.inl (.int 2)]) ⟨dL_note_19, trivial⟩ rfl rfl ?_
      exact wx_iret rfl rfl dL_note_20 (by rw [← e1]; exact ⟨by rw [show cdR [cy_e3, cy_e1, cy_e2] (.inr cy_e1) = 2 by decide +kernel], rfl⟩)
    · refine wx_catch rfl [⟨0, 10, 13, 21⟩, ⟨0, 10, 17, 13⟩] ⟨0, 10, 21, 15⟩ [] rfl (fun z hz => by
        simp only [List.mem_cons, List.not_mem_nil, or_false] at hz
        rcases hz with rfl | rfl
        · exact .inr ⟨by decide, cy_e3, exl_3, by decide +kernel⟩
        · exact .inr ⟨by decide, cy_e1, exl_1, by decide +kernel⟩) (by decide) (by decide) exl_2 exc_2 (fun q9 => ?_)
      refine wx_astoreY (by decide) dL_note_21 ?_ (by intro p hp; simp only [List.mem_cons, List.not_mem_nil, or_false] at hp; rcases hp with rfl | rfl | rfl | rfl <;> exact ⟨by dsimp only; decide, fun q => absurd (show (1 : Nat) = 2 from q.2) (by decide)⟩)
      refine wp_run [(.iconst 3, 1)] (pc' := 24) (L' := [(0, .inr (9, some 0)), (1, .inl (.int t)), (2, .inl (.int mi)), (3, .inr (17, some 0))]) (st' := [.inl (.int 3)]) ⟨dL_note_23, trivial⟩ rfl rfl ?_
      exact wx_iret rfl rfl dL_note_24 (by rw [← e1]; exact ⟨by rw [show cdR [cy_e3, cy_e1, cy_e2] (.inr cy_e2) = 3 by decide +kernel], rfl⟩)
set_option maxRecDepth 20000 in
theorem c_L_prices {g : GT} {d : Nat} (hd : 8 ≤ d) {h : Hp} (W : CW h) (f : Int32) (ba : Int32) (ce : Int32) (su : Int32)  : Ctr g M_L_prices d 4 24 [.inr (9, some 0), .inl (.int f), .inl (.int ba), .inl (.int ce), .inl (.int su)] h (cy_det (.inl (some (.inl (.int (cdR [cy_e3, cy_e1] (F_X8_prices h f ba ce su).1))))) (loV (F_X8_prices h f ba ce su).1 ((F_X8_prices h f ba ce su).2))) := by
  refine cy_body rfl rfl (by decide) (Nat.le_of_ble_eq_true rfl) ?_
  refine wp_run [(.aload_n 0, 1), (.iload_n 1, 1), (.iload_n 2, 1), (.iload_n 3, 1), (.iload 4, 2)] (pc' := 6) (L' := [(0, .inr (9, some 0)), (1, .inl (.int f)), (2, .inl (.int ba)), (3, .inl (.int ce)), (4, .inl (.int su))]) (st' := [.inl (.int su), .inl (.int ce), .inl (.int ba), .inl (.int f), .inr (9, some 0)]) ⟨dL_prices_0, dL_prices_1, dL_prices_2, dL_prices_3, dL_prices_4, trivial⟩ rfl rfl ?_
  refine wx_virtual (M := M_L_prices) (uc := 0) (us := 0) (s := 9) (i := 0) (As := [.inl (.int f), .inl (.int ba), .inl (.int ce), .inl (.int su)]) (rest := []) cls_9 rfl (ok_X8_prices _ _) ml_L_42 im_X8_prices se_X8_prices (by omega) (c_X8_prices (d := d - 1) (h := h) (by omega) W f ba ce su) rfl rfl (Nat.le_of_ble_eq_true rfl) dL_prices_6 (fun r9 h9 e9 => ?_) (fun E9 h9 e9 => ?_)
  · obtain ⟨_, e1, rfl⟩ := e9
    obtain rfl := (sh_prices h f ba ce su).v e1
    refine wx_goto (tgt := 20) dL_prices_9 (by decide) ?_
    refine wp_run [(.iconst 0, 1)] (pc' := 21) (L' := [(0, .inr (9, some 0)), (1, .inl (.int f)), (2, .inl (.int ba)), (3, .inl (.int ce)), (4, .inl (.int su))]) (st' := [.inl (.int 0)]) ⟨dL_prices_20, trivial⟩ rfl rfl ?_
    exact wx_iret rfl rfl dL_prices_21 (by rw [← e1]; exact ⟨rfl, rfl⟩)
  · obtain ⟨_, e1, rfl⟩ := e9
    have hm := (sh_prices h f ba ce su).x e1
    simp only [List.mem_cons, List.not_mem_nil, or_false] at hm
    rcases hm with rfl | rfl
    · refine wx_catch rfl [] ⟨0, 9, 12, 21⟩ [⟨0, 9, 16, 13⟩] rfl (fun z hz => by cases hz) (by decide) (by decide) exl_3 exc_3 (fun q9 => ?_)
      refine wx_astoreY (by decide) dL_prices_12 ?_ (by intro p hp; simp only [List.mem_cons, List.not_mem_nil, or_false] at hp; rcases hp with rfl | rfl | rfl | rfl | rfl <;> exact ⟨by dsimp only; decide, fun q => absurd (show (1 : Nat) = 2 from q.2) (by decide)⟩)
      refine wp_run [(.iconst 1, 1)] (pc' := 15) (L' := [(0, .inr (9, some 0)), (1, .inl (.int f)), (2, .inl (.int ba)), (3, .inl (.int ce)), (4, .inl (.int su))]) (st' := [.inl (.int 1)]) ⟨dL_prices_14, trivial⟩ rfl rfl ?_
      exact wx_iret rfl rfl dL_prices_15 (by rw [← e1]; exact ⟨by rw [show cdR [cy_e3, cy_e1] (.inr cy_e3) = 1 by decide +kernel], rfl⟩)
    · refine wx_catch rfl [⟨0, 9, 12, 21⟩] ⟨0, 9, 16, 13⟩ [] rfl (fun z hz => by
        simp only [List.mem_cons, List.not_mem_nil, or_false] at hz
        obtain rfl := hz
        exact .inr ⟨by decide, cy_e3, exl_3, by decide +kernel⟩) (by decide) (by decide) exl_1 exc_1 (fun q9 => ?_)
      refine wx_astoreY (by decide) dL_prices_16 ?_ (by intro p hp; simp only [List.mem_cons, List.not_mem_nil, or_false] at hp; rcases hp with rfl | rfl | rfl | rfl | rfl <;> exact ⟨by dsimp only; decide, fun q => absurd (show (1 : Nat) = 2 from q.2) (by decide)⟩)
      refine wp_run [(.iconst 2, 1)] (pc' := 19) (L' := [(0, .inr (9, some 0)), (1, .inl (.int f)), (2, .inl (.int ba)), (3, .inl (.int ce)), (4, .inl (.int su))]) (st' := [.inl (.int 2)]) ⟨dL_prices_18, trivial⟩ rfl rfl ?_
      exact wx_iret rfl rfl dL_prices_19 (by rw [← e1]; exact ⟨by rw [show cdR [cy_e3, cy_e1] (.inr cy_e1) = 2 by decide +kernel], rfl⟩)
set_option maxRecDepth 20000 in
theorem c_L_arrival {g : GT} {d : Nat} (hd : 10 ≤ d) {h : Hp} (W : CW h) (a : Int32) (b : Int32) (ti : Int32) (n : Int32)  : Ctr g M_L_arrival d 5 30 [.inr (9, some 0), .inl (.int a), .inl (.int b), .inl (.int ti), .inl (.int n), .inr (17, some 0)] h (cy_det (.inl (some (.inl (.int (cdR [cy_e3, cy_e1] (F_X8_arrival h a b ti n).1))))) (loI (F_X8_arrival h a b ti n).1 ((F_X8_arrival h a b ti n).2))) := by
  refine cy_body rfl rfl (by decide) (Nat.le_of_ble_eq_true rfl) ?_
  refine wp_run [(.aload 5, 2), (.iconst 0, 1), (.aload_n 0, 1), (.iload_n 1, 1), (.iload_n 2, 1), (.iload_n 3, 1), (.iload 4, 2)] (pc' := 9) (L' := [(0, .inr (9, some 0)), (1, .inl (.int a)), (2, .inl (.int b)), (3, .inl (.int ti)), (4, .inl (.int n)), (5, .inr (17, some 0))]) (st' := [.inl (.int n), .inl (.int ti), .inl (.int b), .inl (.int a), .inr (9, some 0), .inl (.int 0), .inr (17, some 0)]) ⟨dL_arrival_0, dL_arrival_2, dL_arrival_3, dL_arrival_4, dL_arrival_5, dL_arrival_6, dL_arrival_7, trivial⟩ rfl rfl ?_
  refine wx_virtual (M := M_L_arrival) (uc := 0) (us := 0) (s := 9) (i := 0) (As := [.inl (.int a), .inl (.int b), .inl (.int ti), .inl (.int n)]) (rest := [.inl (.int 0), .inr (17, some 0)]) cls_9 rfl (ok_X8_arrival _ _) ml_L_46 im_X8_arrival se_X8_arrival (by omega) (c_X8_arrival (d := d - 1) (h := h) (by omega) W a b ti n) rfl rfl (Nat.le_of_ble_eq_true rfl) dL_arrival_9 (fun r9 h9 e9 => ?_) (fun E9 h9 e9 => ?_)
  · obtain ⟨_, e1, rfl⟩ := e9
    obtain ⟨v9, rfl⟩ := (sh_arrival h a b ti n).v e1
    refine wp_run [(.i2l, 1)] (pc' := 13) (L' := [(0, .inr (9, some 0)), (1, .inl (.int a)), (2, .inl (.int b)), (3, .inl (.int ti)), (4, .inl (.int n)), (5, .inr (17, some 0))]) (st' := [.inl (.long ((v9).toInt64)), .inl (.int 0), .inr (17, some 0)]) ⟨dL_arrival_12, trivial⟩ rfl rfl ?_
    refine wx_last dL_arrival_13 ?_
    refine wx_goto (tgt := 25) dL_arrival_14 (by decide) ?_
    refine wp_run [(.iconst 0, 1)] (pc' := 26) (L' := [(0, .inr (9, some 0)), (1, .inl (.int a)), (2, .inl (.int b)), (3, .inl (.int ti)), (4, .inl (.int n)), (5, .inr (17, some 0))]) (st' := [.inl (.int 0)]) ⟨dL_arrival_25, trivial⟩ rfl rfl ?_
    exact wx_iret rfl rfl dL_arrival_26 (by rw [← e1]; exact ⟨rfl, rfl⟩)
  · obtain ⟨_, e1, rfl⟩ := e9
    have hm := (sh_arrival h a b ti n).x e1
    simp only [List.mem_cons, List.not_mem_nil, or_false] at hm
    rcases hm with rfl | rfl
    · refine wx_catch rfl [] ⟨0, 14, 17, 21⟩ [⟨0, 14, 21, 13⟩] rfl (fun z hz => by cases hz) (by decide) (by decide) exl_3 exc_3 (fun q9 => ?_)
      refine wx_astoreY (by decide) dL_arrival_17 ?_ (by intro p hp; simp only [List.mem_cons, List.not_mem_nil, or_false] at hp; rcases hp with rfl | rfl | rfl | rfl | rfl | rfl <;> exact ⟨by dsimp only; decide, fun q => absurd (show (1 : Nat) = 2 from q.2) (by decide)⟩)
      refine wp_run [(.iconst 1, 1)] (pc' := 20) (L' := [(0, .inr (9, some 0)), (1, .inl (.int a)), (2, .inl (.int b)), (3, .inl (.int ti)), (4, .inl (.int n)), (5, .inr (17, some 0))]) (st' := [.inl (.int 1)]) ⟨dL_arrival_19, trivial⟩ rfl rfl ?_
      exact wx_iret rfl rfl dL_arrival_20 (by rw [← e1]; exact ⟨by rw [show cdR [cy_e3, cy_e1] (.inr cy_e3) = 1 by decide +kernel], rfl⟩)
    · refine wx_catch rfl [⟨0, 14, 17, 21⟩] ⟨0, 14, 21, 13⟩ [] rfl (fun z hz => by
        simp only [List.mem_cons, List.not_mem_nil, or_false] at hz
        obtain rfl := hz
        exact .inr ⟨by decide, cy_e3, exl_3, by decide +kernel⟩) (by decide) (by decide) exl_1 exc_1 (fun q9 => ?_)
      refine wx_astoreY (by decide) dL_arrival_21 ?_ (by intro p hp; simp only [List.mem_cons, List.not_mem_nil, or_false] at hp; rcases hp with rfl | rfl | rfl | rfl | rfl | rfl <;> exact ⟨by dsimp only; decide, fun q => absurd (show (1 : Nat) = 2 from q.2) (by decide)⟩)
      refine wp_run [(.iconst 2, 1)] (pc' := 24) (L' := [(0, .inr (9, some 0)), (1, .inl (.int a)), (2, .inl (.int b)), (3, .inl (.int ti)), (4, .inl (.int n)), (5, .inr (17, some 0))]) (st' := [.inl (.int 2)]) ⟨dL_arrival_23, trivial⟩ rfl rfl ?_
      exact wx_iret rfl rfl dL_arrival_24 (by rw [← e1]; exact ⟨by rw [show cdR [cy_e3, cy_e1] (.inr cy_e1) = 2 by decide +kernel], rfl⟩)
set_option maxRecDepth 20000 in
theorem c_L_arrivalAnew {g : GT} {d : Nat} (hd : 13 ≤ d) {h : Hp} (W : CW h) (a : Int32) (b : Int32) (ti : Int32) (n : Int32)  : Ctr g M_L_arrivalAnew d 5 30 [.inr (9, some 0), .inl (.int a), .inl (.int b), .inl (.int ti), .inl (.int n), .inr (17, some 0)] h (cy_det (.inl (some (.inl (.int (cdR [cy_e3, cy_e1] (F_X8_arrivalAnew h a b ti n).1))))) (loI (F_X8_arrivalAnew h a b ti n).1 ((F_X8_arrivalAnew h a b ti n).2))) := by
  refine cy_body rfl rfl (by decide) (Nat.le_of_ble_eq_true rfl) ?_
  refine wp_run [(.aload 5, 2), (.iconst 0, 1), (.aload_n 0, 1), (.iload_n 1, 1), (.iload_n 2, 1), (.iload_n 3, 1), (.iload 4, 2)] (pc' := 9) (L' := [(0, .inr (9, some 0)), (1, .inl (.int a)), (2, .inl (.int b)), (3, .inl (.int ti)), (4, .inl (.int n)), (5, .inr (17, some 0))]) (st' := [.inl (.int n), .inl (.int ti), .inl (.int b), .inl (.int a), .inr (9, some 0), .inl (.int 0), .inr (17, some 0)]) ⟨dL_arrivalAnew_0, dL_arrivalAnew_2, dL_arrivalAnew_3, dL_arrivalAnew_4, dL_arrivalAnew_5, dL_arrivalAnew_6, dL_arrivalAnew_7, trivial⟩ rfl rfl ?_
  refine wx_virtual (M := M_L_arrivalAnew) (uc := 0) (us := 0) (s := 9) (i := 0) (As := [.inl (.int a), .inl (.int b), .inl (.int ti), .inl (.int n)]) (rest := [.inl (.int 0), .inr (17, some 0)]) cls_9 rfl (ok_X8_arrivalAnew _ _) ml_L_49 im_X8_arrivalAnew se_X8_arrivalAnew (by omega) (c_X8_arrivalAnew (d := d - 1) (h := h) (by omega) W a b ti n) rfl rfl (Nat.le_of_ble_eq_true rfl) dL_arrivalAnew_9 (fun r9 h9 e9 => ?_) (fun E9 h9 e9 => ?_)
  · obtain ⟨_, e1, rfl⟩ := e9
    obtain ⟨v9, rfl⟩ := (sh_arrivalAnew h a b ti n).v e1
    refine wp_run [(.i2l, 1)] (pc' := 13) (L' := [(0, .inr (9, some 0)), (1, .inl (.int a)), (2, .inl (.int b)), (3, .inl (.int ti)), (4, .inl (.int n)), (5, .inr (17, some 0))]) (st' := [.inl (.long ((v9).toInt64)), .inl (.int 0), .inr (17, some 0)]) ⟨dL_arrivalAnew_12, trivial⟩ rfl rfl ?_
    refine wx_last dL_arrivalAnew_13 ?_
    refine wx_goto (tgt := 25) dL_arrivalAnew_14 (by decide) ?_
    refine wp_run [(.iconst 0, 1)] (pc' := 26) (L' := [(0, .inr (9, some 0)), (1, .inl (.int a)), (2, .inl (.int b)), (3, .inl (.int ti)), (4, .inl (.int n)), (5, .inr (17, some 0))]) (st' := [.inl (.int 0)]) ⟨dL_arrivalAnew_25, trivial⟩ rfl rfl ?_
    exact wx_iret rfl rfl dL_arrivalAnew_26 (by rw [← e1]; exact ⟨rfl, rfl⟩)
  · obtain ⟨_, e1, rfl⟩ := e9
    have hm := (sh_arrivalAnew h a b ti n).x e1
    simp only [List.mem_cons, List.not_mem_nil, or_false] at hm
    rcases hm with rfl | rfl
    · refine wx_catch rfl [] ⟨0, 14, 17, 21⟩ [⟨0, 14, 21, 13⟩] rfl (fun z hz => by cases hz) (by decide) (by decide) exl_3 exc_3 (fun q9 => ?_)
      refine wx_astoreY (by decide) dL_arrivalAnew_17 ?_ (by intro p hp; simp only [List.mem_cons, List.not_mem_nil, or_false] at hp; rcases hp with rfl | rfl | rfl | rfl | rfl | rfl <;> exact ⟨by dsimp only; decide, fun q => absurd (show (1 : Nat) = 2 from q.2) (by decide)⟩)
      refine wp_run [(.iconst 1, 1)] (pc' := 20) (L' := [(0, .inr (9, some 0)), (1, .inl (.int a)), (2, .inl (.int b)), (3, .inl (.int ti)), (4, .inl (.int n)), (5, .inr (17, some 0))]) (st' := [.inl (.int 1)]) ⟨dL_arrivalAnew_19, trivial⟩ rfl rfl ?_
      exact wx_iret rfl rfl dL_arrivalAnew_20 (by rw [← e1]; exact ⟨by rw [show cdR [cy_e3, cy_e1] (.inr cy_e3) = 1 by decide +kernel], rfl⟩)
    · refine wx_catch rfl [⟨0, 14, 17, 21⟩] ⟨0, 14, 21, 13⟩ [] rfl (fun z hz => by
        simp only [List.mem_cons, List.not_mem_nil, or_false] at hz
        obtain rfl := hz
        exact .inr ⟨by decide, cy_e3, exl_3, by decide +kernel⟩) (by decide) (by decide) exl_1 exc_1 (fun q9 => ?_)
      refine wx_astoreY (by decide) dL_arrivalAnew_21 ?_ (by intro p hp; simp only [List.mem_cons, List.not_mem_nil, or_false] at hp; rcases hp with rfl | rfl | rfl | rfl | rfl | rfl <;> exact ⟨by dsimp only; decide, fun q => absurd (show (1 : Nat) = 2 from q.2) (by decide)⟩)
      refine wp_run [(.iconst 2, 1)] (pc' := 24) (L' := [(0, .inr (9, some 0)), (1, .inl (.int a)), (2, .inl (.int b)), (3, .inl (.int ti)), (4, .inl (.int n)), (5, .inr (17, some 0))]) (st' := [.inl (.int 2)]) ⟨dL_arrivalAnew_23, trivial⟩ rfl rfl ?_
      exact wx_iret rfl rfl dL_arrivalAnew_24 (by rw [← e1]; exact ⟨by rw [show cdR [cy_e3, cy_e1] (.inr cy_e1) = 2 by decide +kernel], rfl⟩)
set_option maxRecDepth 20000 in
theorem c_L_front {g : GT} {d : Nat} (hd : 10 ≤ d) {h : Hp} (W : CW h) (a : Int32) (b : Int32) (ti : Int32)  : Ctr g M_L_front d 4 24 [.inr (9, some 0), .inl (.int a), .inl (.int b), .inl (.int ti), .inr (17, some 0)] h (cy_det (.inl (some (.inl (.int (cdR [cy_e3, cy_e1] (F_X8_front h a b ti).1))))) (loI (F_X8_front h a b ti).1 ((F_X8_front h a b ti).2))) := by
  refine cy_body rfl rfl (by decide) (Nat.le_of_ble_eq_true rfl) ?_
  refine wp_run [(.aload 4, 2), (.iconst 0, 1), (.aload_n 0, 1), (.iload_n 1, 1), (.iload_n 2, 1), (.iload_n 3, 1)] (pc' := 7) (L' := [(0, .inr (9, some 0)), (1, .inl (.int a)), (2, .inl (.int b)), (3, .inl (.int ti)), (4, .inr (17, some 0))]) (st' := [.inl (.int ti), .inl (.int b), .inl (.int a), .inr (9, some 0), .inl (.int 0), .inr (17, some 0)]) ⟨dL_front_0, dL_front_2, dL_front_3, dL_front_4, dL_front_5, dL_front_6, trivial⟩ rfl rfl ?_
  refine wx_virtual (M := M_L_front) (uc := 0) (us := 0) (s := 9) (i := 0) (As := [.inl (.int a), .inl (.int b), .inl (.int ti)]) (rest := [.inl (.int 0), .inr (17, some 0)]) cls_9 rfl (ok_X8_front _ _) ml_L_52 im_X8_front se_X8_front (by omega) (c_X8_front (d := d - 1) (h := h) (by omega) W a b ti) rfl rfl (Nat.le_of_ble_eq_true rfl) dL_front_7 (fun r9 h9 e9 => ?_) (fun E9 h9 e9 => ?_)
  · obtain ⟨_, e1, rfl⟩ := e9
    obtain ⟨v9, rfl⟩ := (sh_front h a b ti).v e1
    refine wp_run [(.i2l, 1)] (pc' := 11) (L' := [(0, .inr (9, some 0)), (1, .inl (.int a)), (2, .inl (.int b)), (3, .inl (.int ti)), (4, .inr (17, some 0))]) (st' := [.inl (.long ((v9).toInt64)), .inl (.int 0), .inr (17, some 0)]) ⟨dL_front_10, trivial⟩ rfl rfl ?_
    refine wx_last dL_front_11 ?_
    refine wx_goto (tgt := 23) dL_front_12 (by decide) ?_
    refine wp_run [(.iconst 0, 1)] (pc' := 24) (L' := [(0, .inr (9, some 0)), (1, .inl (.int a)), (2, .inl (.int b)), (3, .inl (.int ti)), (4, .inr (17, some 0))]) (st' := [.inl (.int 0)]) ⟨dL_front_23, trivial⟩ rfl rfl ?_
    exact wx_iret rfl rfl dL_front_24 (by rw [← e1]; exact ⟨rfl, rfl⟩)
  · obtain ⟨_, e1, rfl⟩ := e9
    have hm := (sh_front h a b ti).x e1
    simp only [List.mem_cons, List.not_mem_nil, or_false] at hm
    rcases hm with rfl | rfl
    · refine wx_catch rfl [] ⟨0, 12, 15, 21⟩ [⟨0, 12, 19, 13⟩] rfl (fun z hz => by cases hz) (by decide) (by decide) exl_3 exc_3 (fun q9 => ?_)
      refine wx_astoreY (by decide) dL_front_15 ?_ (by intro p hp; simp only [List.mem_cons, List.not_mem_nil, or_false] at hp; rcases hp with rfl | rfl | rfl | rfl | rfl <;> exact ⟨by dsimp only; decide, fun q => absurd (show (1 : Nat) = 2 from q.2) (by decide)⟩)
      refine wp_run [(.iconst 1, 1)] (pc' := 18) (L' := [(0, .inr (9, some 0)), (1, .inl (.int a)), (2, .inl (.int b)), (3, .inl (.int ti)), (4, .inr (17, some 0))]) (st' := [.inl (.int 1)]) ⟨dL_front_17, trivial⟩ rfl rfl ?_
      exact wx_iret rfl rfl dL_front_18 (by rw [← e1]; exact ⟨by rw [show cdR [cy_e3, cy_e1] (.inr cy_e3) = 1 by decide +kernel], rfl⟩)
    · refine wx_catch rfl [⟨0, 12, 15, 21⟩] ⟨0, 12, 19, 13⟩ [] rfl (fun z hz => by
        simp only [List.mem_cons, List.not_mem_nil, or_false] at hz
        obtain rfl := hz
        exact .inr ⟨by decide, cy_e3, exl_3, by decide +kernel⟩) (by decide) (by decide) exl_1 exc_1 (fun q9 => ?_)
      refine wx_astoreY (by decide) dL_front_19 ?_ (by intro p hp; simp only [List.mem_cons, List.not_mem_nil, or_false] at hp; rcases hp with rfl | rfl | rfl | rfl | rfl <;> exact ⟨by dsimp only; decide, fun q => absurd (show (1 : Nat) = 2 from q.2) (by decide)⟩)
      refine wp_run [(.iconst 2, 1)] (pc' := 22) (L' := [(0, .inr (9, some 0)), (1, .inl (.int a)), (2, .inl (.int b)), (3, .inl (.int ti)), (4, .inr (17, some 0))]) (st' := [.inl (.int 2)]) ⟨dL_front_21, trivial⟩ rfl rfl ?_
      exact wx_iret rfl rfl dL_front_22 (by rw [← e1]; exact ⟨by rw [show cdR [cy_e3, cy_e1] (.inr cy_e1) = 2 by decide +kernel], rfl⟩)
