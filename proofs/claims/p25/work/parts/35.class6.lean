def F_X0_isOpen (h : Hp) (b : Nat) : Int32 := (if (xFI h 103 b) = 0 then 1 else (if (xFI h 103 b) = 1 then 1 else 0))
set_option maxRecDepth 20000 in
theorem c_X0_isOpen {g : GT} {d : Nat} (hd : 1 ≤ d) {h : Hp} {b : Nat}  : Ctr g M_X0_isOpen d 0 0 [.inr (1, some b)] h (cy_det (.inl (some (.inl (.int (F_X0_isOpen h b))))) h) := by
  refine cy_body rfl rfl (by decide) (Nat.le_of_ble_eq_true rfl) ?_
  refine wp_run [(.aload_n 0, 1)] (pc' := 1) (L' := [(0, .inr (1, some b))]) (st' := [.inr (1, some b)]) ⟨dX0_isOpen_0, trivial⟩ rfl rfl ?_
  refine wx_getI cls_1 (k := 3) (f := 103) (by decide) rfl rfl fl_X0_22 dX0_isOpen_1 ?_
  refine wx_if_eq (tgt := 15) dX0_isOpen_4 (by decide) (fun h_1 => ?_) (fun h_1 => ?_)
  · refine wp_run [(.iconst 1, 1)] (pc' := 16) (L' := [(0, .inr (1, some b))]) (st' := [.inl (.int 1)]) ⟨dX0_isOpen_15, trivial⟩ rfl rfl ?_
    refine wx_goto (tgt := 20) dX0_isOpen_16 (by decide) ?_
    exact wx_zret rfl rfl rfl dX0_isOpen_20 (by rw [F_X0_isOpen, if_pos h_1]; exact ⟨rfl, rfl⟩)
  · refine wp_run [(.aload_n 0, 1)] (pc' := 8) (L' := [(0, .inr (1, some b))]) (st' := [.inr (1, some b)]) ⟨dX0_isOpen_7, trivial⟩ rfl rfl ?_
    refine wx_getI cls_1 (k := 3) (f := 103) (by decide) rfl rfl fl_X0_22 dX0_isOpen_8 ?_
    refine wp_run [(.iconst 1, 1)] (pc' := 12) (L' := [(0, .inr (1, some b))]) (st' := [.inl (.int 1), .inl (.int (xFI h 103 b))]) ⟨dX0_isOpen_11, trivial⟩ rfl rfl ?_
    refine wx_icmp_ne (tgt := 19) dX0_isOpen_12 (by decide) (fun h_2 => ?_) (fun h_2 => ?_)
    · refine wp_run [(.iconst 0, 1)] (pc' := 20) (L' := [(0, .inr (1, some b))]) (st' := [.inl (.int 0)]) ⟨dX0_isOpen_19, trivial⟩ rfl rfl ?_
      exact wx_zret rfl rfl rfl dX0_isOpen_20 (by rw [F_X0_isOpen, if_neg h_1, if_neg h_2]; exact ⟨rfl, rfl⟩)
    · refine wp_run [(.iconst 1, 1)] (pc' := 16) (L' := [(0, .inr (1, some b))]) (st' := [.inl (.int 1)]) ⟨dX0_isOpen_15, trivial⟩ rfl rfl ?_
      refine wx_goto (tgt := 20) dX0_isOpen_16 (by decide) ?_
      exact wx_zret rfl rfl rfl dX0_isOpen_20 (by rw [F_X0_isOpen, if_neg h_1, if_pos h_2]; exact ⟨rfl, rfl⟩)
def F_X0_amount (h : Hp) (b : Nat) : Int32 := (if (xFI h 103 b) = 1 then (if (F_X2_isBroken h (bj h b) (rls h (bj h b))) = 0 then (if ((F_X2_endNow h (bj h b) (rls h (bj h b))) - (xFI h 304 (bj h b))) < 120 then (if ((F_X2_endNow h (bj h b) (rls h (bj h b))) - (xFI h 304 (bj h b))) < 60 then 0 else ((xFI h 101 b) / 4)) else ((xFI h 101 b) / 2)) else (xFI h 101 b)) else 0)
set_option maxRecDepth 20000 in
theorem c_X0_amount {g : GT} {d : Nat} (hd : 5 ≤ d) {h : Hp} (W : CW h) {b : Nat} (hb : b < xLS h 12)  : Ctr g M_X0_amount d 0 0 [.inr (1, some b)] h (cy_det (.inl (some (.inl (.int (F_X0_amount h b))))) h) := by
  refine cy_body rfl rfl (by decide) (Nat.le_of_ble_eq_true rfl) ?_
  refine wp_run [(.aload_n 0, 1)] (pc' := 1) (L' := [(0, .inr (1, some b))]) (st' := [.inr (1, some b)]) ⟨dX0_amount_0, trivial⟩ rfl rfl ?_
  refine wx_getI cls_1 (k := 3) (f := 103) (by decide) rfl rfl fl_X0_22 dX0_amount_1 ?_
  refine wp_run [(.iconst 1, 1)] (pc' := 5) (L' := [(0, .inr (1, some b))]) (st' := [.inl (.int 1), .inl (.int (xFI h 103 b))]) ⟨dX0_amount_4, trivial⟩ rfl rfl ?_
  refine wx_icmp_eq (tgt := 10) dX0_amount_5 (by decide) (fun h_1 => ?_) (fun h_1 => ?_)
  · refine wp_run [(.aload_n 0, 1)] (pc' := 11) (L' := [(0, .inr (1, some b))]) (st' := [.inr (1, some b)]) ⟨dX0_amount_10, trivial⟩ rfl rfl ?_
    refine wx_getR cls_1 (k := 0) (f := 100) (t := 3) (o := some (bj h b)) (by decide) rfl rfl fl_X0_9 (W.jb hb) dX0_amount_11 ?_
    refine wx_virtualD (M := M_X0_amount) (uc := 0) (us := 0) (s := 3) (i := (bj h b)) (As := []) (rest := []) cls_3 rfl (ok_X2_isBroken _ _) ml_X0_25 im_X2_isBroken se_X2_isBroken (by omega) (c_X2_isBroken (d := d - 1) (h := h) (by omega) W (W.jc hb)) rfl rfl (Nat.le_of_ble_eq_true rfl) dX0_amount_14 ?_
    refine wx_if_eq (tgt := 25) dX0_amount_17 (by decide) (fun h_2 => ?_) (fun h_2 => ?_)
    · refine wp_run [(.aload_n 0, 1)] (pc' := 26) (L' := [(0, .inr (1, some b))]) (st' := [.inr (1, some b)]) ⟨dX0_amount_25, trivial⟩ rfl rfl ?_
      refine wx_getR cls_1 (k := 0) (f := 100) (t := 3) (o := some (bj h b)) (by decide) rfl rfl fl_X0_9 (W.jb hb) dX0_amount_26 ?_
      refine wx_virtualD (M := M_X0_amount) (uc := 0) (us := 0) (s := 3) (i := (bj h b)) (As := []) (rest := []) cls_3 rfl (ok_X2_endNow _ _) ml_X0_31 im_X2_endNow se_X2_endNow (by omega) (c_X2_endNow (d := d - 1) (h := h) (by omega) W (W.jc hb)) rfl rfl (Nat.le_of_ble_eq_true rfl) dX0_amount_29 ?_
      refine wp_run [(.aload_n 0, 1)] (pc' := 33) (L' := [(0, .inr (1, some b))]) (st' := [.inr (1, some b), .inl (.int (F_X2_endNow h (bj h b) (rls h (bj h b))))]) ⟨dX0_amount_32, trivial⟩ rfl rfl ?_
      refine wx_getR cls_1 (k := 0) (f := 100) (t := 3) (o := some (bj h b)) (by decide) rfl rfl fl_X0_9 (W.jb hb) dX0_amount_33 ?_
      refine wx_getI cls_3 (k := 4) (f := 304) (by decide) rfl rfl fl_X0_35 dX0_amount_36 ?_
      refine wp_run [(.isub, 1), (.istore_n 1, 1), (.iload_n 1, 1), (.bipush 120, 2)] (pc' := 44) (L' := [(1, .inl (.int ((F_X2_endNow h (bj h b) (rls h (bj h b))) - (xFI h 304 (bj h b))))), (0, .inr (1, some b))]) (st' := [.inl (.int 120), .inl (.int ((F_X2_endNow h (bj h b) (rls h (bj h b))) - (xFI h 304 (bj h b))))]) ⟨dX0_amount_39, dX0_amount_40, dX0_amount_41, dX0_amount_42, trivial⟩ rfl rfl ?_
      refine wx_icmp_lt (tgt := 54) dX0_amount_44 (by decide) (fun h_3 => ?_) (fun h_3 => ?_)
      · refine wp_run [(.iload_n 1, 1), (.bipush 60, 2)] (pc' := 57) (L' := [(1, .inl (.int ((F_X2_endNow h (bj h b) (rls h (bj h b))) - (xFI h 304 (bj h b))))), (0, .inr (1, some b))]) (st' := [.inl (.int 60), .inl (.int ((F_X2_endNow h (bj h b) (rls h (bj h b))) - (xFI h 304 (bj h b))))]) ⟨dX0_amount_54, dX0_amount_55, trivial⟩ rfl rfl ?_
        refine wx_icmp_lt (tgt := 69) dX0_amount_57 (by decide) (fun h_4 => ?_) (fun h_4 => ?_)
        · refine wp_run [(.iconst 0, 1)] (pc' := 70) (L' := [(1, .inl (.int ((F_X2_endNow h (bj h b) (rls h (bj h b))) - (xFI h 304 (bj h b))))), (0, .inr (1, some b))]) (st' := [.inl (.int 0)]) ⟨dX0_amount_69, trivial⟩ rfl rfl ?_
          exact wx_iret rfl rfl dX0_amount_70 (by rw [F_X0_amount, if_pos h_1, if_pos h_2, if_pos h_3, if_pos h_4]; exact ⟨rfl, rfl⟩)
        · refine wp_run [(.aload_n 0, 1)] (pc' := 61) (L' := [(1, .inl (.int ((F_X2_endNow h (bj h b) (rls h (bj h b))) - (xFI h 304 (bj h b))))), (0, .inr (1, some b))]) (st' := [.inr (1, some b)]) ⟨dX0_amount_60, trivial⟩ rfl rfl ?_
          refine wx_getI cls_1 (k := 1) (f := 101) (by decide) rfl rfl fl_X0_15 dX0_amount_61 ?_
          refine wp_run [(.iconst 4, 1)] (pc' := 65) (L' := [(1, .inl (.int ((F_X2_endNow h (bj h b) (rls h (bj h b))) - (xFI h 304 (bj h b))))), (0, .inr (1, some b))]) (st' := [.inl (.int 4), .inl (.int (xFI h 101 b))]) ⟨dX0_amount_64, trivial⟩ rfl rfl ?_
          refine wx_idiv (by decide) dX0_amount_65 ?_
          refine wx_goto (tgt := 70) dX0_amount_66 (by decide) ?_
          exact wx_iret rfl rfl dX0_amount_70 (by rw [F_X0_amount, if_pos h_1, if_pos h_2, if_pos h_3, if_neg h_4]; exact ⟨rfl, rfl⟩)
      · refine wp_run [(.aload_n 0, 1)] (pc' := 48) (L' := [(1, .inl (.int ((F_X2_endNow h (bj h b) (rls h (bj h b))) - (xFI h 304 (bj h b))))), (0, .inr (1, some b))]) (st' := [.inr (1, some b)]) ⟨dX0_amount_47, trivial⟩ rfl rfl ?_
        refine wx_getI cls_1 (k := 1) (f := 101) (by decide) rfl rfl fl_X0_15 dX0_amount_48 ?_
        refine wp_run [(.iconst 2, 1)] (pc' := 52) (L' := [(1, .inl (.int ((F_X2_endNow h (bj h b) (rls h (bj h b))) - (xFI h 304 (bj h b))))), (0, .inr (1, some b))]) (st' := [.inl (.int 2), .inl (.int (xFI h 101 b))]) ⟨dX0_amount_51, trivial⟩ rfl rfl ?_
        refine wx_idiv (by decide) dX0_amount_52 ?_
        exact wx_iret rfl rfl dX0_amount_53 (by rw [F_X0_amount, if_pos h_1, if_pos h_2, if_neg h_3]; exact ⟨rfl, rfl⟩)
    · refine wp_run [(.aload_n 0, 1)] (pc' := 21) (L' := [(0, .inr (1, some b))]) (st' := [.inr (1, some b)]) ⟨dX0_amount_20, trivial⟩ rfl rfl ?_
      refine wx_getI cls_1 (k := 1) (f := 101) (by decide) rfl rfl fl_X0_15 dX0_amount_21 ?_
      exact wx_iret rfl rfl dX0_amount_24 (by rw [F_X0_amount, if_pos h_1, if_neg h_2]; exact ⟨rfl, rfl⟩)
  · refine wp_run [(.iconst 0, 1)] (pc' := 9) (L' := [(0, .inr (1, some b))]) (st' := [.inl (.int 0)]) ⟨dX0_amount_8, trivial⟩ rfl rfl ?_
    exact wx_iret rfl rfl dX0_amount_9 (by rw [F_X0_amount, if_neg h_1]; exact ⟨rfl, rfl⟩)
def B_X8_isBooked_2 (h : Hp) (t : Nat) (rec2 : Nat → Int32) (i : Nat) : Int32 := (if (nI (xLS h 12)) ≤ (nI i) then 0 else (if (F_X2_goesBy h (bj h i) (rls h (bj h i)) t (-1)) = 0 then (rec2 (i + 1)) else 1))
def L_X8_isBooked_2 (h : Hp) (t : Nat) : Nat → Nat → Int32
  | 0 => fun i => 0
  | fu + 1 => B_X8_isBooked_2 h t (L_X8_isBooked_2 h t fu)
theorem L_X8_isBooked_2_s (h : Hp) (t : Nat) (fu : Nat) (i : Nat) : L_X8_isBooked_2 h t (fu + 1) i = B_X8_isBooked_2 h t (L_X8_isBooked_2 h t fu) i := rfl
def F_X8_isBooked (h : Hp) (t : Nat) : Int32 := L_X8_isBooked_2 h t (2147483648 - 0 + 1) 0
set_option maxRecDepth 20000 in
theorem c_X8_isBooked {g : GT} {d : Nat} (hd : 7 ≤ d) {h : Hp} (W : CW h) {t : Nat} (ht : t < xLS h 11)  : Ctr g M_X8_isBooked d 0 0 [.inr (9, some 0), .inr (8, some t)] h (cy_det (.inl (some (.inl (.int (F_X8_isBooked h t))))) h) := by
  refine cy_body rfl rfl (by decide) (Nat.le_of_ble_eq_true rfl) ?_
  refine wp_run [(.iconst 0, 1), (.istore_n 2, 1)] (pc' := 2) (L' := [(2, .inl (.int 0)), (0, .inr (9, some 0)), (1, .inr (8, some t))]) (st' := []) ⟨dX8_isBooked_0, dX8_isBooked_1, trivial⟩ rfl rfl ?_
  rw [F_X8_isBooked]
  refine wp_sub [0, 1, 2] (L' := [(2, .inl (.int 0)), (0, .inr (9, some 0)), (1, .inr (8, some t))]) rfl ?_
  suffices Y2 : ∀ (n2 : Nat) (i : Nat) (hii : i < 2147483648) (hm2 : 2147483648 - i < n2), WP g M_X8_isBooked d 0 0 2 [(2, .inl (.int (nI i))), (0, .inr (9, some 0)), (1, .inr (8, some t))] [] h (cy_det (.inl (some (.inl (.int (L_X8_isBooked_2 h t n2 i))))) h) from
    Y2 (2147483648 - 0 + 1) 0 (by decide) (Nat.lt_succ_self _)
  intro n2
  induction n2 with
  | zero => intro i hii hm2; exact absurd hm2 (Nat.not_lt_zero _)
  | succ n2 ih2 =>
    intro i hii hm2
    rw [L_X8_isBooked_2_s]
    generalize L_X8_isBooked_2 h t n2 = rec2 at ih2 ⊢
    refine wp_run [(.iload_n 2, 1), (.aload_n 0, 1)] (pc' := 4) (L' := [(2, .inl (.int (nI i))), (0, .inr (9, some 0)), (1, .inr (8, some t))]) (st' := [.inr (9, some 0), .inl (.int (nI i))]) ⟨dX8_isBooked_2, dX8_isBooked_3, trivial⟩ rfl rfl ?_
    refine wx_getR cls_9 (k := 4) (f := 904) (t := 12) (o := some 0) (by decide) rfl rfl fl_X8_42 (W.fr (f := 904) (by decide)) dX8_isBooked_4 ?_
    refine wx_virtualL (M := M_X8_isBooked) (uc := 0) (us := 0) (s := 12) (i := 0) (As := []) (rest := [.inl (.int (nI i))]) rfl rfl (ok_Jx4a65c_size_8abf5 _ _) ml_X8_90 im_Jx4a65c_size_8abf5 se_Jx4a65c_size_8abf5 (by omega) (c_size (d := d - 1) (by omega) (s := 12) rfl) rfl rfl (Nat.le_of_ble_eq_true rfl) dX8_isBooked_7 ?_
    refine wx_icmp_ge (tgt := 43) dX8_isBooked_10 (by decide) (fun h_1 => ?_) (fun h_1 => ?_)
    · refine wp_run [(.iconst 0, 1)] (pc' := 44) (L' := [(2, .inl (.int (nI i))), (0, .inr (9, some 0)), (1, .inr (8, some t))]) (st' := [.inl (.int 0)]) ⟨dX8_isBooked_43, trivial⟩ rfl rfl ?_
      exact wx_zret rfl rfl rfl dX8_isBooked_44 (by rw [B_X8_isBooked_2, if_pos h_1]; exact ⟨rfl, rfl⟩)
    · refine wp_run [(.aload_n 0, 1)] (pc' := 14) (L' := [(2, .inl (.int (nI i))), (0, .inr (9, some 0)), (1, .inr (8, some t))]) (st' := [.inr (9, some 0)]) ⟨dX8_isBooked_13, trivial⟩ rfl rfl ?_
      refine wx_getR cls_9 (k := 4) (f := 904) (t := 12) (o := some 0) (by decide) rfl rfl fl_X8_42 (W.fr (f := 904) (by decide)) dX8_isBooked_14 ?_
      refine wp_run [(.iload_n 2, 1)] (pc' := 18) (L' := [(2, .inl (.int (nI i))), (0, .inr (9, some 0)), (1, .inr (8, some t))]) (st' := [.inl (.int (nI i)), .inr (12, some 0)]) ⟨dX8_isBooked_17, trivial⟩ rfl rfl ?_
      have hl_2 := cy_get hii (Nat.le_trans W.b30 (Nat.le_of_ble_eq_true rfl)) h_1
      refine wx_virtualL (M := M_X8_isBooked) (uc := 0) (us := 0) (s := 12) (i := 0) (As := [.inl (.int (nI i))]) (rest := []) rfl rfl (ok_Jx4a65c_get_915e3 _ _) ml_X8_235 im_Jx4a65c_get_915e3 se_Jx4a65c_get_915e3 (by omega) (det_to (c_get (d := d - 1) (by omega) (s := 12) (i := i) rfl hl_2 rfl) (by rw [W.ble hl_2]) rfl) rfl rfl (Nat.le_of_ble_eq_true rfl) dX8_isBooked_18 ?_
      refine wx_cast cls_1 cl_X8_213 dX8_isBooked_21 ?_
      refine wx_getR cls_1 (k := 0) (f := 100) (t := 3) (o := some (bj h i)) (by decide) rfl rfl fl_X8_243 (W.jb hl_2) dX8_isBooked_24 ?_
      refine wp_run [(.aload_n 1, 1), (.iconst (-1), 1)] (pc' := 29) (L' := [(2, .inl (.int (nI i))), (0, .inr (9, some 0)), (1, .inr (8, some t))]) (st' := [.inl (.int (-1)), .inr (8, some t), .inr (3, some (bj h i))]) ⟨dX8_isBooked_27, dX8_isBooked_28, trivial⟩ rfl rfl ?_
      refine wx_virtualD (M := M_X8_isBooked) (uc := 0) (us := 0) (s := 3) (i := (bj h i)) (As := [.inr (8, some t), .inl (.int (-1))]) (rest := []) cls_3 rfl (ok_X2_goesBy _ _) ml_X8_247 im_X2_goesBy se_X2_goesBy (by omega) (c_X2_goesBy (d := d - 1) (h := h) (by omega) W (W.jc hl_2) ht (-1)) rfl rfl (Nat.le_of_ble_eq_true rfl) dX8_isBooked_29 ?_
      refine wx_if_eq (tgt := 37) dX8_isBooked_32 (by decide) (fun h_3 => ?_) (fun h_3 => ?_)
      · refine wp_run [(.iinc 2 1, 3)] (pc' := 40) (L' := [(2, .inl (.int ((nI i) + 1))), (0, .inr (9, some 0)), (1, .inr (8, some t))]) (st' := []) ⟨dX8_isBooked_37, trivial⟩ rfl rfl ?_
        refine wx_goto (tgt := 2) dX8_isBooked_40 (by decide) ?_
        rw [B_X8_isBooked_2, if_neg h_1, if_pos h_3]
        rw [nI_1 i]
        refine wp_sub [0, 1, 2] (L' := [(2, .inl (.int (nI (i + 1)))), (0, .inr (9, some 0)), (1, .inr (8, some t))]) rfl ?_
        exact ih2 _ (cy_nlt hii h_1).2 (by have := (cy_nlt hii h_1).2; omega)
      · refine wp_run [(.iconst 1, 1)] (pc' := 36) (L' := [(2, .inl (.int (nI i))), (0, .inr (9, some 0)), (1, .inr (8, some t))]) (st' := [.inl (.int 1)]) ⟨dX8_isBooked_35, trivial⟩ rfl rfl ?_
        exact wx_zret rfl rfl rfl dX8_isBooked_36 (by rw [B_X8_isBooked_2, if_neg h_1, if_neg h_3]; exact ⟨rfl, rfl⟩)
def B_X8_freeSeats_8 (h : Hp) (t : Nat) (dy : Int32) (rec8 : Int32 → Nat → Int32) (fr : Int32) (i : Nat) : Int32 := (if (nI (xLS h 12)) ≤ (nI i) then fr else (if (xFI h 103 i) = 2 then (rec8 fr (i + 1)) else (if (F_X2_goesBy h (bj h i) (rls h (bj h i)) t dy) = 0 then (rec8 fr (i + 1)) else (rec8 (fr + (-1)) (i + 1)))))
def L_X8_freeSeats_8 (h : Hp) (t : Nat) (dy : Int32) : Nat → Int32 → Nat → Int32
  | 0 => fun fr i => 0
  | fu + 1 => B_X8_freeSeats_8 h t dy (L_X8_freeSeats_8 h t dy fu)
theorem L_X8_freeSeats_8_s (h : Hp) (t : Nat) (dy : Int32) (fu : Nat) (fr : Int32) (i : Nat) : L_X8_freeSeats_8 h t dy (fu + 1) fr i = B_X8_freeSeats_8 h t dy (L_X8_freeSeats_8 h t dy fu) fr i := rfl
def F_X8_freeSeats (h : Hp) (t : Nat) (dy : Int32) : Int32 := L_X8_freeSeats_8 h t dy (2147483648 - 0 + 1) (xFI h 803 t) 0
set_option maxRecDepth 20000 in
theorem c_X8_freeSeats {g : GT} {d : Nat} (hd : 7 ≤ d) {h : Hp} (W : CW h) {t : Nat} (ht : t < xLS h 11) (dy : Int32)  : Ctr g M_X8_freeSeats d 0 0 [.inr (9, some 0), .inr (8, some t), .inl (.int dy)] h (cy_det (.inl (some (.inl (.int (F_X8_freeSeats h t dy))))) h) := by
  refine cy_body rfl rfl (by decide) (Nat.le_of_ble_eq_true rfl) ?_
  refine wp_run [(.aload_n 1, 1)] (pc' := 1) (L' := [(0, .inr (9, some 0)), (1, .inr (8, some t)), (2, .inl (.int dy))]) (st' := [.inr (8, some t)]) ⟨dX8_freeSeats_0, trivial⟩ rfl rfl ?_
  refine wx_getI cls_8 (k := 3) (f := 803) (by decide) rfl rfl fl_X8_289 dX8_freeSeats_1 ?_
  refine wp_run [(.istore_n 3, 1), (.iconst 0, 1), (.istore 4, 2)] (pc' := 8) (L' := [(4, .inl (.int 0)), (3, .inl (.int (xFI h 803 t))), (0, .inr (9, some 0)), (1, .inr (8, some t)), (2, .inl (.int dy))]) (st' := []) ⟨dX8_freeSeats_4, dX8_freeSeats_5, dX8_freeSeats_6, trivial⟩ rfl rfl ?_
  rw [F_X8_freeSeats]
  refine wp_sub [0, 1, 2, 3, 4] (L' := [(4, .inl (.int 0)), (3, .inl (.int (xFI h 803 t))), (0, .inr (9, some 0)), (1, .inr (8, some t)), (2, .inl (.int dy))]) rfl ?_
  suffices Y8 : ∀ (n8 : Nat) (fr : Int32) (i : Nat) (hii : i < 2147483648) (hm8 : 2147483648 - i < n8), WP g M_X8_freeSeats d 0 0 8 [(4, .inl (.int (nI i))), (3, .inl (.int fr)), (0, .inr (9, some 0)), (1, .inr (8, some t)), (2, .inl (.int dy))] [] h (cy_det (.inl (some (.inl (.int (L_X8_freeSeats_8 h t dy n8 fr i))))) h) from
    Y8 (2147483648 - 0 + 1) (xFI h 803 t) 0 (by decide) (Nat.lt_succ_self _)
  intro n8
  induction n8 with
  | zero => intro fr i hii hm8; exact absurd hm8 (Nat.not_lt_zero _)
  | succ n8 ih8 =>
    intro fr i hii hm8
    rw [L_X8_freeSeats_8_s]
    generalize L_X8_freeSeats_8 h t dy n8 = rec8 at ih8 ⊢
    refine wp_run [(.iload 4, 2), (.aload_n 0, 1)] (pc' := 11) (L' := [(4, .inl (.int (nI i))), (3, .inl (.int fr)), (0, .inr (9, some 0)), (1, .inr (8, some t)), (2, .inl (.int dy))]) (st' := [.inr (9, some 0), .inl (.int (nI i))]) ⟨dX8_freeSeats_8, dX8_freeSeats_10, trivial⟩ rfl rfl ?_
    refine wx_getR cls_9 (k := 4) (f := 904) (t := 12) (o := some 0) (by decide) rfl rfl fl_X8_42 (W.fr (f := 904) (by decide)) dX8_freeSeats_11 ?_
    refine wx_virtualL (M := M_X8_freeSeats) (uc := 0) (us := 0) (s := 12) (i := 0) (As := []) (rest := [.inl (.int (nI i))]) rfl rfl (ok_Jx4a65c_size_8abf5 _ _) ml_X8_90 im_Jx4a65c_size_8abf5 se_Jx4a65c_size_8abf5 (by omega) (c_size (d := d - 1) (by omega) (s := 12) rfl) rfl rfl (Nat.le_of_ble_eq_true rfl) dX8_freeSeats_14 ?_
    refine wx_icmp_ge (tgt := 65) dX8_freeSeats_17 (by decide) (fun h_1 => ?_) (fun h_1 => ?_)
    · refine wp_run [(.iload_n 3, 1)] (pc' := 66) (L' := [(4, .inl (.int (nI i))), (3, .inl (.int fr)), (0, .inr (9, some 0)), (1, .inr (8, some t)), (2, .inl (.int dy))]) (st' := [.inl (.int fr)]) ⟨dX8_freeSeats_65, trivial⟩ rfl rfl ?_
      exact wx_iret rfl rfl dX8_freeSeats_66 (by rw [B_X8_freeSeats_8, if_pos h_1]; exact ⟨rfl, rfl⟩)
    · refine wp_run [(.aload_n 0, 1)] (pc' := 21) (L' := [(4, .inl (.int (nI i))), (3, .inl (.int fr)), (0, .inr (9, some 0)), (1, .inr (8, some t)), (2, .inl (.int dy))]) (st' := [.inr (9, some 0)]) ⟨dX8_freeSeats_20, trivial⟩ rfl rfl ?_
      refine wx_getR cls_9 (k := 4) (f := 904) (t := 12) (o := some 0) (by decide) rfl rfl fl_X8_42 (W.fr (f := 904) (by decide)) dX8_freeSeats_21 ?_
      refine wp_run [(.iload 4, 2)] (pc' := 26) (L' := [(4, .inl (.int (nI i))), (3, .inl (.int fr)), (0, .inr (9, some 0)), (1, .inr (8, some t)), (2, .inl (.int dy))]) (st' := [.inl (.int (nI i)), .inr (12, some 0)]) ⟨dX8_freeSeats_24, trivial⟩ rfl rfl ?_
      have hl_2 := cy_get hii (Nat.le_trans W.b30 (Nat.le_of_ble_eq_true rfl)) h_1
      refine wx_virtualL (M := M_X8_freeSeats) (uc := 0) (us := 0) (s := 12) (i := 0) (As := [.inl (.int (nI i))]) (rest := []) rfl rfl (ok_Jx4a65c_get_915e3 _ _) ml_X8_235 im_Jx4a65c_get_915e3 se_Jx4a65c_get_915e3 (by omega) (det_to (c_get (d := d - 1) (by omega) (s := 12) (i := i) rfl hl_2 rfl) (by rw [W.ble hl_2]) rfl) rfl rfl (Nat.le_of_ble_eq_true rfl) dX8_freeSeats_26 ?_
      refine wx_cast cls_1 cl_X8_213 dX8_freeSeats_29 ?_
      refine wp_run [(.astore 5, 2), (.aload 5, 2)] (pc' := 36) (L' := [(5, .inr (1, some i)), (4, .inl (.int (nI i))), (3, .inl (.int fr)), (0, .inr (9, some 0)), (1, .inr (8, some t)), (2, .inl (.int dy))]) (st' := [.inr (1, some i)]) ⟨dX8_freeSeats_32, dX8_freeSeats_34, trivial⟩ rfl rfl ?_
      refine wx_getI cls_1 (k := 3) (f := 103) (by decide) rfl rfl fl_X8_222 dX8_freeSeats_36 ?_
      refine wp_run [(.iconst 2, 1)] (pc' := 40) (L' := [(5, .inr (1, some i)), (4, .inl (.int (nI i))), (3, .inl (.int fr)), (0, .inr (9, some 0)), (1, .inr (8, some t)), (2, .inl (.int dy))]) (st' := [.inl (.int 2), .inl (.int (xFI h 103 i))]) ⟨dX8_freeSeats_39, trivial⟩ rfl rfl ?_
      refine wx_icmp_eq (tgt := 59) dX8_freeSeats_40 (by decide) (fun h_3 => ?_) (fun h_3 => ?_)
      · refine wp_run [(.iinc 4 1, 3)] (pc' := 62) (L' := [(4, .inl (.int ((nI i) + 1))), (5, .inr (1, some i)), (3, .inl (.int fr)), (0, .inr (9, some 0)), (1, .inr (8, some t)), (2, .inl (.int dy))]) (st' := []) ⟨dX8_freeSeats_59, trivial⟩ rfl rfl ?_
        refine wx_goto (tgt := 8) dX8_freeSeats_62 (by decide) ?_
        rw [B_X8_freeSeats_8, if_neg h_1, if_pos h_3]
        rw [nI_1 i]
        refine wp_sub [0, 2, 3, 4, 5] (L' := [(4, .inl (.int (nI (i + 1)))), (3, .inl (.int fr)), (0, .inr (9, some 0)), (1, .inr (8, some t)), (2, .inl (.int dy))]) rfl ?_
        exact ih8 _ _ (cy_nlt hii h_1).2 (by have := (cy_nlt hii h_1).2; omega)
      · refine wp_run [(.aload 5, 2)] (pc' := 45) (L' := [(5, .inr (1, some i)), (4, .inl (.int (nI i))), (3, .inl (.int fr)), (0, .inr (9, some 0)), (1, .inr (8, some t)), (2, .inl (.int dy))]) (st' := [.inr (1, some i)]) ⟨dX8_freeSeats_43, trivial⟩ rfl rfl ?_
        refine wx_getR cls_1 (k := 0) (f := 100) (t := 3) (o := some (bj h i)) (by decide) rfl rfl fl_X8_243 (W.jb hl_2) dX8_freeSeats_45 ?_
        refine wp_run [(.aload_n 1, 1), (.iload_n 2, 1)] (pc' := 50) (L' := [(5, .inr (1, some i)), (4, .inl (.int (nI i))), (3, .inl (.int fr)), (0, .inr (9, some 0)), (1, .inr (8, some t)), (2, .inl (.int dy))]) (st' := [.inl (.int dy), .inr (8, some t), .inr (3, some (bj h i))]) ⟨dX8_freeSeats_48, dX8_freeSeats_49, trivial⟩ rfl rfl ?_
        refine wx_virtualD (M := M_X8_freeSeats) (uc := 0) (us := 0) (s := 3) (i := (bj h i)) (As := [.inr (8, some t), .inl (.int dy)]) (rest := []) cls_3 rfl (ok_X2_goesBy _ _) ml_X8_247 im_X2_goesBy se_X2_goesBy (by omega) (c_X2_goesBy (d := d - 1) (h := h) (by omega) W (W.jc hl_2) ht dy) rfl rfl (Nat.le_of_ble_eq_true rfl) dX8_freeSeats_50 ?_
        refine wx_if_eq (tgt := 59) dX8_freeSeats_53 (by decide) (fun h_4 => ?_) (fun h_4 => ?_)
        · refine wp_run [(.iinc 4 1, 3)] (pc' := 62) (L' := [(4, .inl (.int ((nI i) + 1))), (5, .inr (1, some i)), (3, .inl (.int fr)), (0, .inr (9, some 0)), (1, .inr (8, some t)), (2, .inl (.int dy))]) (st' := []) ⟨dX8_freeSeats_59, trivial⟩ rfl rfl ?_
          refine wx_goto (tgt := 8) dX8_freeSeats_62 (by decide) ?_
          rw [B_X8_freeSeats_8, if_neg h_1, if_neg h_3, if_pos h_4]
          rw [nI_1 i]
          refine wp_sub [0, 2, 3, 4, 5] (L' := [(4, .inl (.int (nI (i + 1)))), (3, .inl (.int fr)), (0, .inr (9, some 0)), (1, .inr (8, some t)), (2, .inl (.int dy))]) rfl ?_
          exact ih8 _ _ (cy_nlt hii h_1).2 (by have := (cy_nlt hii h_1).2; omega)
        · refine wp_run [(.iinc 3 (-1), 3), (.iinc 4 1, 3)] (pc' := 62) (L' := [(4, .inl (.int ((nI i) + 1))), (3, .inl (.int (fr + (-1)))), (5, .inr (1, some i)), (0, .inr (9, some 0)), (1, .inr (8, some t)), (2, .inl (.int dy))]) (st' := []) ⟨dX8_freeSeats_56, dX8_freeSeats_59, trivial⟩ rfl rfl ?_
          refine wx_goto (tgt := 8) dX8_freeSeats_62 (by decide) ?_
          rw [B_X8_freeSeats_8, if_neg h_1, if_neg h_3, if_neg h_4]
          rw [nI_1 i]
          refine wp_sub [0, 1, 3, 4, 5] (L' := [(4, .inl (.int (nI (i + 1)))), (3, .inl (.int (fr + (-1)))), (0, .inr (9, some 0)), (1, .inr (8, some t)), (2, .inl (.int dy))]) rfl ?_
          exact ih8 _ _ (cy_nlt hii h_1).2 (by have := (cy_nlt hii h_1).2; omega)
def B_X8_hasSeats_5 (h : Hp) (j : Nat) (R : List Nat) (rec5 : Int32) (r5 : Nat)  : Int32 := (if 1 ≤ (F_X8_freeSeats h (tr h r5) (xFI h 501 r5)) then rec5 else 0)
def L_X8_hasSeats_5 (h : Hp) (j : Nat) (R : List Nat) : List Nat → Int32
  | [] => 1
  | r0 :: R0 => B_X8_hasSeats_5 h j R (L_X8_hasSeats_5 h j R R0) r0
theorem L_X8_hasSeats_5_z (h : Hp) (j : Nat) (R : List Nat)  : L_X8_hasSeats_5 h j R []  = 1 := rfl
theorem L_X8_hasSeats_5_s (h : Hp) (j : Nat) (R : List Nat) (r0 : Nat) (R0 : List Nat)  : L_X8_hasSeats_5 h j R (r0 :: R0)  = B_X8_hasSeats_5 h j R (L_X8_hasSeats_5 h j R R0) r0  := rfl
def F_X8_hasSeats (h : Hp) (j : Nat) (R : List Nat) : Int32 := L_X8_hasSeats_5 h j R R 
set_option maxRecDepth 20000 in
theorem c_X8_hasSeats {g : GT} {d : Nat} (hd : 8 ≤ d) {h : Hp} (W : CW h) {j : Nat} {R : List Nat} (hc : Chn (xFR h) (xLS h 11) (xFR h 301 j) R)  : Ctr g M_X8_hasSeats d 0 0 [.inr (9, some 0), .inr (3, some j)] h (cy_det (.inl (some (.inl (.int (F_X8_hasSeats h j R))))) h) := by
  refine cy_body rfl rfl (by decide) (Nat.le_of_ble_eq_true rfl) ?_
  refine wp_run [(.aload_n 1, 1)] (pc' := 1) (L' := [(0, .inr (9, some 0)), (1, .inr (3, some j))]) (st' := [.inr (3, some j)]) ⟨dX8_hasSeats_0, trivial⟩ rfl rfl ?_
  refine wx_getR cls_3 (k := 1) (f := 301) (t := 5) (o := (xFR h 301 j)) (by decide) rfl rfl fl_X8_275 rfl dX8_hasSeats_1 ?_
  refine wp_run [(.astore_n 2, 1)] (pc' := 5) (L' := [(2, .inr (5, (xFR h 301 j))), (0, .inr (9, some 0)), (1, .inr (3, some j))]) (st' := []) ⟨dX8_hasSeats_4, trivial⟩ rfl rfl ?_
  rw [F_X8_hasSeats]
  refine wp_sub [0, 1] (L' := [(2, .inr (5, (xFR h 301 j))), (0, .inr (9, some 0))]) rfl ?_
  suffices Y5 : ∀ (R5 : List Nat) (o5 : Option Nat)   (hc5 : Chn (xFR h) (xLS h 11) o5 R5), WP g M_X8_hasSeats d 0 0 5 [(2, .inr (5, o5)), (0, .inr (9, some 0))] [] h (cy_det (.inl (some (.inl (.int (L_X8_hasSeats_5 h j R R5))))) h) from
    Y5 R _   hc
  intro R5
  induction R5 with
  | nil =>
    intro o5   hc5
    obtain rfl : o5 = none := hc5
    refine wp_run [(.aload_n 2, 1)] (pc' := 6) (L' := [(2, .inr (5, none)), (0, .inr (9, some 0))]) (st' := [.inr (5, none)]) ⟨dX8_hasSeats_5, trivial⟩ rfl rfl ?_
    refine wx_ifnullP (tgt := 35) dX8_hasSeats_6 (by decide) (fun _ => ?_) (fun h => absurd rfl h)
    refine wp_run [(.iconst 1, 1)] (pc' := 36) (L' := [(2, .inr (5, none)), (0, .inr (9, some 0))]) (st' := [.inl (.int 1)]) ⟨dX8_hasSeats_35, trivial⟩ rfl rfl ?_
    exact wx_zret rfl rfl rfl dX8_hasSeats_36 (by rw [L_X8_hasSeats_5_z]; exact ⟨rfl, rfl⟩)
  | cons r5 R5 ih5 =>
    intro o5   hc5
    obtain ⟨rfl, hr5, ht5, hn5⟩ := hc5.un
    rw [L_X8_hasSeats_5_s]
    generalize L_X8_hasSeats_5 h j R R5 = rec5 at ih5 ⊢
    refine wp_run [(.aload_n 2, 1)] (pc' := 6) (L' := [(2, .inr (5, some r5)), (0, .inr (9, some 0))]) (st' := [.inr (5, some r5)]) ⟨dX8_hasSeats_5, trivial⟩ rfl rfl ?_
    refine wx_ifnullP (tgt := 35) dX8_hasSeats_6 (by decide) (fun h => nomatch h) (fun _ => ?_)
    refine wp_run [(.aload_n 0, 1), (.aload_n 2, 1)] (pc' := 11) (L' := [(2, .inr (5, some r5)), (0, .inr (9, some 0))]) (st' := [.inr (5, some r5), .inr (9, some 0)]) ⟨dX8_hasSeats_9, dX8_hasSeats_10, trivial⟩ rfl rfl ?_
    refine wx_getR cls_5 (k := 0) (f := 500) (t := 8) (o := some (tr h r5)) (by decide) rfl rfl fl_X8_279 hr5 dX8_hasSeats_11 ?_
    refine wp_run [(.aload_n 2, 1)] (pc' := 15) (L' := [(2, .inr (5, some r5)), (0, .inr (9, some 0))]) (st' := [.inr (5, some r5), .inr (8, some (tr h r5)), .inr (9, some 0)]) ⟨dX8_hasSeats_14, trivial⟩ rfl rfl ?_
    refine wx_getI cls_5 (k := 1) (f := 501) (by decide) rfl rfl fl_X8_283 dX8_hasSeats_15 ?_
    refine wx_virtualD (M := M_X8_hasSeats) (uc := 0) (us := 0) (s := 9) (i := 0) (As := [.inr (8, some (tr h r5)), .inl (.int (xFI h 501 r5))]) (rest := []) cls_9 rfl (ok_X8_freeSeats _ _) ml_X8_251 im_X8_freeSeats se_X8_freeSeats (by omega) (c_X8_freeSeats (d := d - 1) (h := h) (by omega) W ht5 (xFI h 501 r5)) rfl rfl (Nat.le_of_ble_eq_true rfl) dX8_hasSeats_18 ?_
    refine wp_run [(.iconst 1, 1)] (pc' := 22) (L' := [(2, .inr (5, some r5)), (0, .inr (9, some 0))]) (st' := [.inl (.int 1), .inl (.int (F_X8_freeSeats h (tr h r5) (xFI h 501 r5)))]) ⟨dX8_hasSeats_21, trivial⟩ rfl rfl ?_
    refine wx_icmp_ge (tgt := 27) dX8_hasSeats_22 (by decide) (fun h_1 => ?_) (fun h_1 => ?_)
    · refine wp_run [(.aload_n 2, 1)] (pc' := 28) (L' := [(2, .inr (5, some r5)), (0, .inr (9, some 0))]) (st' := [.inr (5, some r5)]) ⟨dX8_hasSeats_27, trivial⟩ rfl rfl ?_
      refine wx_getR cls_5 (k := 4) (f := 504) (t := 5) (o := (xFR h 504 r5)) (by decide) rfl rfl fl_X8_286 rfl dX8_hasSeats_28 ?_
      refine wp_run [(.astore_n 2, 1)] (pc' := 32) (L' := [(2, .inr (5, (xFR h 504 r5))), (0, .inr (9, some 0))]) (st' := []) ⟨dX8_hasSeats_31, trivial⟩ rfl rfl ?_
      refine wx_goto (tgt := 5) dX8_hasSeats_32 (by decide) ?_
      rw [B_X8_hasSeats_5, if_pos h_1]
      refine wp_sub [0, 1] (L' := [(2, .inr (5, (xFR h 504 r5))), (0, .inr (9, some 0))]) rfl ?_
      exact ih5 _  hn5
    · refine wp_run [(.iconst 0, 1)] (pc' := 26) (L' := [(2, .inr (5, some r5)), (0, .inr (9, some 0))]) (st' := [.inl (.int 0)]) ⟨dX8_hasSeats_25, trivial⟩ rfl rfl ?_
      exact wx_zret rfl rfl rfl dX8_hasSeats_26 (by rw [B_X8_hasSeats_5, if_neg h_1]; exact ⟨rfl, rfl⟩)
