def F_X9_asksWay0 (h : Hp) (a : Int32) (b : Int32) (ti : Int32) : Int32 × Hp := (if okR a 0 (xFI h 1000 0 - 1) then (if okR b 0 (xFI h 1000 0 - 1) then (if a = b then (0, sFI (sFI h 1043 0 0) 1043 0 2) else (if okR ti 0 140000 then (0, sFI (sFI h 1043 0 0) 1043 0 2) else (0, sFI (sFI h 1043 0 0) 1043 0 2))) else (0, sFI h 1043 0 1)) else (0, sFI h 1043 0 1))
set_option maxRecDepth 20000 in
theorem c_X9_asksWay0 {g : GT} {d : Nat} (hd : 3 ≤ d) {h : Hp} (W : MW h) (a : Int32) (b : Int32) (ti : Int32) (D : DM h)  : Ctr g M_X9_asksWay d 0 0 [.inr (10, some 0), .inl (.int a), .inl (.int b), .inl (.int ti), .inl (.int 0)] h (cy_detP (.inl (some (.inl (.int (F_X9_asksWay0 h a b ti).1)))) (F_X9_asksWay0 h a b ti).2 (MP h (F_X9_asksWay0 h a b ti).2)) := by
  refine cy_body rfl rfl (by decide) (Nat.le_of_ble_eq_true rfl) ?_
  refine wp_run [(.aload_n 0, 1), (.aload_n 0, 1), (.iload_n 1, 1)] (pc' := 3) (L' := [(0, .inr (10, some 0)), (1, .inl (.int a)), (2, .inl (.int b)), (3, .inl (.int ti)), (4, .inl (.int 0))]) (st' := [.inl (.int a), .inr (10, some 0), .inr (10, some 0)]) ⟨dX9_asksWay_0, dX9_asksWay_1, dX9_asksWay_2, trivial⟩ rfl rfl ?_
  by_cases h_1 : okR a 0 (xFI h 1000 0 - 1)
  · refine wx_virtualD (M := M_X9_asksWay) (uc := 0) (us := 0) (s := 10) (i := 0) (As := [.inl (.int a)]) (rest := [.inr (10, some 0)]) cls_10 rfl (ok_X9_isStop _ _) ml_X9_146 im_X9_isStop se_X9_isStop (by omega) (det_to (c_X9_isStop (d := d - 1) (h := h) (by omega) W a D) (by rw [isStop_ok h_1]) rfl) rfl rfl (Nat.le_of_ble_eq_true rfl) dX9_asksWay_3 ?_
    refine wx_if_eq (tgt := 21) dX9_asksWay_6 (by decide) (fun h => absurd h (by decide)) (fun _ => ?_)
    refine wp_run [(.aload_n 0, 1), (.iload_n 2, 1)] (pc' := 11) (L' := [(0, .inr (10, some 0)), (1, .inl (.int a)), (2, .inl (.int b)), (3, .inl (.int ti)), (4, .inl (.int 0))]) (st' := [.inl (.int b), .inr (10, some 0), .inr (10, some 0)]) ⟨dX9_asksWay_9, dX9_asksWay_10, trivial⟩ rfl rfl ?_
    by_cases h_2 : okR b 0 (xFI h 1000 0 - 1)
    · refine wx_virtualD (M := M_X9_asksWay) (uc := 0) (us := 0) (s := 10) (i := 0) (As := [.inl (.int b)]) (rest := [.inr (10, some 0)]) cls_10 rfl (ok_X9_isStop _ _) ml_X9_146 im_X9_isStop se_X9_isStop (by omega) (det_to (c_X9_isStop (d := d - 1) (h := h) (by omega) W b D) (by rw [isStop_ok h_2]) rfl) rfl rfl (Nat.le_of_ble_eq_true rfl) dX9_asksWay_11 ?_
      refine wx_if_eq (tgt := 21) dX9_asksWay_14 (by decide) (fun h => absurd h (by decide)) (fun _ => ?_)
      refine wp_run [(.iconst 1, 1)] (pc' := 18) (L' := [(0, .inr (10, some 0)), (1, .inl (.int a)), (2, .inl (.int b)), (3, .inl (.int ti)), (4, .inl (.int 0))]) (st' := [.inl (.int 1), .inr (10, some 0)]) ⟨dX9_asksWay_17, trivial⟩ rfl rfl ?_
      refine wx_goto (tgt := 22) dX9_asksWay_18 (by decide) ?_
      refine wx_virtualDP (M := M_X9_asksWay) (uc := 0) (us := 0) (s := 10) (i := 0) (As := [.inl (.int 1)]) (rest := []) cls_10 rfl (ok_X9_asks _ _) ml_X9_138 im_X9_asks se_X9_asks (by omega) (c_asks1 (d := d - 1) (h := h) (by omega) W D) rfl rfl (Nat.le_of_ble_eq_true rfl) dX9_asksWay_22 (fun hS_3 => ?_)
      refine wx_if_ne (tgt := 30) dX9_asksWay_25 (by decide) (fun _ => ?_) (fun h => absurd h (by decide))
      refine wp_run [(.aload_n 0, 1), (.iload_n 1, 1), (.iload_n 2, 1)] (pc' := 33) (L' := [(0, .inr (10, some 0)), (1, .inl (.int a)), (2, .inl (.int b)), (3, .inl (.int ti)), (4, .inl (.int 0))]) (st' := [.inl (.int b), .inl (.int a), .inr (10, some 0)]) ⟨dX9_asksWay_30, dX9_asksWay_31, dX9_asksWay_32, trivial⟩ rfl rfl ?_
      refine wx_icmp_eq (tgt := 51) dX9_asksWay_33 (by decide) (fun h_4 => ?_) (fun h_4 => ?_)
      · refine wp_run [(.iconst 2, 1)] (pc' := 52) (L' := [(0, .inr (10, some 0)), (1, .inl (.int a)), (2, .inl (.int b)), (3, .inl (.int ti)), (4, .inl (.int 0))]) (st' := [.inl (.int 2), .inr (10, some 0)]) ⟨dX9_asksWay_51, trivial⟩ rfl rfl ?_
        refine wx_goto (tgt := 56) dX9_asksWay_52 (by decide) ?_
        refine wx_putI cls_10 (k := 43) (f := 1043) (by decide) rfl rfl rfl fl_X9_122 (Or.inl rfl) dX9_asksWay_56 ?_
        have D_5 : DM (sFI (sFI h 1043 0 0) 1043 0 2) := hS_3.2.fput (by decide)
        refine wp_run [(.aload_n 0, 1)] (pc' := 60) (L' := [(0, .inr (10, some 0)), (1, .inl (.int a)), (2, .inl (.int b)), (3, .inl (.int ti)), (4, .inl (.int 0))]) (st' := [.inr (10, some 0)]) ⟨dX9_asksWay_59, trivial⟩ rfl rfl ?_
        refine wx_getI cls_10 (k := 43) (f := 1043) (by decide) rfl rfl fl_X9_122 dX9_asksWay_60 ?_
        rw [show xFI (sFI (sFI h 1043 0 0) 1043 0 2) 1043 0 = (2 : Int32) from rfl]
        refine wx_if_ne (tgt := 70) dX9_asksWay_63 (by decide) (fun _ => ?_) (fun h => absurd h (by decide))
        refine wp_run [(.iconst 0, 1)] (pc' := 71) (L' := [(0, .inr (10, some 0)), (1, .inl (.int a)), (2, .inl (.int b)), (3, .inl (.int ti)), (4, .inl (.int 0))]) (st' := [.inl (.int 0)]) ⟨dX9_asksWay_70, trivial⟩ rfl rfl ?_
        exact wx_zret rfl rfl rfl dX9_asksWay_71 (by rw [F_X9_asksWay0, if_pos h_1, if_pos h_2, if_pos h_4]; dsimp only; exact ⟨⟨hS_3.1, D_5⟩, rfl, rfl⟩)
      · refine wp_run [(.iload_n 3, 1), (.iconst 0, 1)] (pc' := 38) (L' := [(0, .inr (10, some 0)), (1, .inl (.int a)), (2, .inl (.int b)), (3, .inl (.int ti)), (4, .inl (.int 0))]) (st' := [.inl (.int 0), .inl (.int ti), .inr (10, some 0)]) ⟨dX9_asksWay_36, dX9_asksWay_37, trivial⟩ rfl rfl ?_
        refine wx_ldc kc_X9_187 dX9_asksWay_38 ?_
        by_cases h_6 : okR ti 0 140000
        · refine wx_staticD (M := M_X9_asksWay) (uc := 0) (us := 0) (As := [.inl (.int ti), .inl (.int 0), .inl (.int 140000)]) (rest := [.inr (10, some 0)]) (ok_X9_in _ _) ml_X9_128 st_X9_in (by omega) (det_to (c_X9_in (d := d - 1) (h := (sFI h 1043 0 0)) (by omega) ti 0 140000) (by rw [in_ok h_6]) rfl) rfl rfl (Nat.le_of_ble_eq_true rfl) dX9_asksWay_40 ?_
          refine wx_if_eq (tgt := 51) dX9_asksWay_43 (by decide) (fun h => absurd h (by decide)) (fun _ => ?_)
          refine wp_run [(.iload 4, 2)] (pc' := 48) (L' := [(0, .inr (10, some 0)), (1, .inl (.int a)), (2, .inl (.int b)), (3, .inl (.int ti)), (4, .inl (.int 0))]) (st' := [.inl (.int 0), .inr (10, some 0)]) ⟨dX9_asksWay_46, trivial⟩ rfl rfl ?_
          refine wx_if_ne (tgt := 55) dX9_asksWay_48 (by decide) (fun h => absurd h (by decide)) (fun _ => ?_)
          refine wp_run [(.iconst 2, 1)] (pc' := 52) (L' := [(0, .inr (10, some 0)), (1, .inl (.int a)), (2, .inl (.int b)), (3, .inl (.int ti)), (4, .inl (.int 0))]) (st' := [.inl (.int 2), .inr (10, some 0)]) ⟨dX9_asksWay_51, trivial⟩ rfl rfl ?_
          refine wx_goto (tgt := 56) dX9_asksWay_52 (by decide) ?_
          refine wx_putI cls_10 (k := 43) (f := 1043) (by decide) rfl rfl rfl fl_X9_122 (Or.inl rfl) dX9_asksWay_56 ?_
          have D_7 : DM (sFI (sFI h 1043 0 0) 1043 0 2) := hS_3.2.fput (by decide)
          refine wp_run [(.aload_n 0, 1)] (pc' := 60) (L' := [(0, .inr (10, some 0)), (1, .inl (.int a)), (2, .inl (.int b)), (3, .inl (.int ti)), (4, .inl (.int 0))]) (st' := [.inr (10, some 0)]) ⟨dX9_asksWay_59, trivial⟩ rfl rfl ?_
          refine wx_getI cls_10 (k := 43) (f := 1043) (by decide) rfl rfl fl_X9_122 dX9_asksWay_60 ?_
          rw [show xFI (sFI (sFI h 1043 0 0) 1043 0 2) 1043 0 = (2 : Int32) from rfl]
          refine wx_if_ne (tgt := 70) dX9_asksWay_63 (by decide) (fun _ => ?_) (fun h => absurd h (by decide))
          refine wp_run [(.iconst 0, 1)] (pc' := 71) (L' := [(0, .inr (10, some 0)), (1, .inl (.int a)), (2, .inl (.int b)), (3, .inl (.int ti)), (4, .inl (.int 0))]) (st' := [.inl (.int 0)]) ⟨dX9_asksWay_70, trivial⟩ rfl rfl ?_
          exact wx_zret rfl rfl rfl dX9_asksWay_71 (by rw [F_X9_asksWay0, if_pos h_1, if_pos h_2, if_neg h_4, if_pos h_6]; dsimp only; exact ⟨⟨hS_3.1, D_7⟩, rfl, rfl⟩)
        · refine wx_staticD (M := M_X9_asksWay) (uc := 0) (us := 0) (As := [.inl (.int ti), .inl (.int 0), .inl (.int 140000)]) (rest := [.inr (10, some 0)]) (ok_X9_in _ _) ml_X9_128 st_X9_in (by omega) (det_to (c_X9_in (d := d - 1) (h := (sFI h 1043 0 0)) (by omega) ti 0 140000) (by rw [in_no h_6]) rfl) rfl rfl (Nat.le_of_ble_eq_true rfl) dX9_asksWay_40 ?_
          refine wx_if_eq (tgt := 51) dX9_asksWay_43 (by decide) (fun _ => ?_) (fun h => absurd h (by decide))
          refine wp_run [(.iconst 2, 1)] (pc' := 52) (L' := [(0, .inr (10, some 0)), (1, .inl (.int a)), (2, .inl (.int b)), (3, .inl (.int ti)), (4, .inl (.int 0))]) (st' := [.inl (.int 2), .inr (10, some 0)]) ⟨dX9_asksWay_51, trivial⟩ rfl rfl ?_
          refine wx_goto (tgt := 56) dX9_asksWay_52 (by decide) ?_
          refine wx_putI cls_10 (k := 43) (f := 1043) (by decide) rfl rfl rfl fl_X9_122 (Or.inl rfl) dX9_asksWay_56 ?_
          have D_8 : DM (sFI (sFI h 1043 0 0) 1043 0 2) := hS_3.2.fput (by decide)
          refine wp_run [(.aload_n 0, 1)] (pc' := 60) (L' := [(0, .inr (10, some 0)), (1, .inl (.int a)), (2, .inl (.int b)), (3, .inl (.int ti)), (4, .inl (.int 0))]) (st' := [.inr (10, some 0)]) ⟨dX9_asksWay_59, trivial⟩ rfl rfl ?_
          refine wx_getI cls_10 (k := 43) (f := 1043) (by decide) rfl rfl fl_X9_122 dX9_asksWay_60 ?_
          rw [show xFI (sFI (sFI h 1043 0 0) 1043 0 2) 1043 0 = (2 : Int32) from rfl]
          refine wx_if_ne (tgt := 70) dX9_asksWay_63 (by decide) (fun _ => ?_) (fun h => absurd h (by decide))
          refine wp_run [(.iconst 0, 1)] (pc' := 71) (L' := [(0, .inr (10, some 0)), (1, .inl (.int a)), (2, .inl (.int b)), (3, .inl (.int ti)), (4, .inl (.int 0))]) (st' := [.inl (.int 0)]) ⟨dX9_asksWay_70, trivial⟩ rfl rfl ?_
          exact wx_zret rfl rfl rfl dX9_asksWay_71 (by rw [F_X9_asksWay0, if_pos h_1, if_pos h_2, if_neg h_4, if_neg h_6]; dsimp only; exact ⟨⟨hS_3.1, D_8⟩, rfl, rfl⟩)
    · refine wx_virtualD (M := M_X9_asksWay) (uc := 0) (us := 0) (s := 10) (i := 0) (As := [.inl (.int b)]) (rest := [.inr (10, some 0)]) cls_10 rfl (ok_X9_isStop _ _) ml_X9_146 im_X9_isStop se_X9_isStop (by omega) (det_to (c_X9_isStop (d := d - 1) (h := h) (by omega) W b D) (by rw [isStop_no h_2]) rfl) rfl rfl (Nat.le_of_ble_eq_true rfl) dX9_asksWay_11 ?_
      refine wx_if_eq (tgt := 21) dX9_asksWay_14 (by decide) (fun _ => ?_) (fun h => absurd h (by decide))
      refine wp_run [(.iconst 0, 1)] (pc' := 22) (L' := [(0, .inr (10, some 0)), (1, .inl (.int a)), (2, .inl (.int b)), (3, .inl (.int ti)), (4, .inl (.int 0))]) (st' := [.inl (.int 0), .inr (10, some 0)]) ⟨dX9_asksWay_21, trivial⟩ rfl rfl ?_
      refine wx_virtualDP (M := M_X9_asksWay) (uc := 0) (us := 0) (s := 10) (i := 0) (As := [.inl (.int 0)]) (rest := []) cls_10 rfl (ok_X9_asks _ _) ml_X9_138 im_X9_asks se_X9_asks (by omega) (c_asks0 (d := d - 1) (h := h) (by omega) W D) rfl rfl (Nat.le_of_ble_eq_true rfl) dX9_asksWay_22 (fun hS_9 => ?_)
      refine wx_if_ne (tgt := 30) dX9_asksWay_25 (by decide) (fun h => absurd h (by decide)) (fun _ => ?_)
      refine wp_run [(.iconst 0, 1)] (pc' := 29) (L' := [(0, .inr (10, some 0)), (1, .inl (.int a)), (2, .inl (.int b)), (3, .inl (.int ti)), (4, .inl (.int 0))]) (st' := [.inl (.int 0)]) ⟨dX9_asksWay_28, trivial⟩ rfl rfl ?_
      exact wx_zret rfl rfl rfl dX9_asksWay_29 (by rw [F_X9_asksWay0, if_pos h_1, if_neg h_2]; dsimp only; exact ⟨⟨hS_9.1, hS_9.2⟩, rfl, rfl⟩)
  · refine wx_virtualD (M := M_X9_asksWay) (uc := 0) (us := 0) (s := 10) (i := 0) (As := [.inl (.int a)]) (rest := [.inr (10, some 0)]) cls_10 rfl (ok_X9_isStop _ _) ml_X9_146 im_X9_isStop se_X9_isStop (by omega) (det_to (c_X9_isStop (d := d - 1) (h := h) (by omega) W a D) (by rw [isStop_no h_1]) rfl) rfl rfl (Nat.le_of_ble_eq_true rfl) dX9_asksWay_3 ?_
    refine wx_if_eq (tgt := 21) dX9_asksWay_6 (by decide) (fun _ => ?_) (fun h => absurd h (by decide))
    refine wp_run [(.iconst 0, 1)] (pc' := 22) (L' := [(0, .inr (10, some 0)), (1, .inl (.int a)), (2, .inl (.int b)), (3, .inl (.int ti)), (4, .inl (.int 0))]) (st' := [.inl (.int 0), .inr (10, some 0)]) ⟨dX9_asksWay_21, trivial⟩ rfl rfl ?_
    refine wx_virtualDP (M := M_X9_asksWay) (uc := 0) (us := 0) (s := 10) (i := 0) (As := [.inl (.int 0)]) (rest := []) cls_10 rfl (ok_X9_asks _ _) ml_X9_138 im_X9_asks se_X9_asks (by omega) (c_asks0 (d := d - 1) (h := h) (by omega) W D) rfl rfl (Nat.le_of_ble_eq_true rfl) dX9_asksWay_22 (fun hS_10 => ?_)
    refine wx_if_ne (tgt := 30) dX9_asksWay_25 (by decide) (fun h => absurd h (by decide)) (fun _ => ?_)
    refine wp_run [(.iconst 0, 1)] (pc' := 29) (L' := [(0, .inr (10, some 0)), (1, .inl (.int a)), (2, .inl (.int b)), (3, .inl (.int ti)), (4, .inl (.int 0))]) (st' := [.inl (.int 0)]) ⟨dX9_asksWay_28, trivial⟩ rfl rfl ?_
    exact wx_zret rfl rfl rfl dX9_asksWay_29 (by rw [F_X9_asksWay0, if_neg h_1]; dsimp only; exact ⟨⟨hS_10.1, hS_10.2⟩, rfl, rfl⟩)
def F_X9_asksWay1 (h : Hp) (a : Int32) (b : Int32) (ti : Int32) : Int32 × Hp := (if okR a 0 (xFI h 1000 0 - 1) then (if okR b 0 (xFI h 1000 0 - 1) then (if a = b then (0, sFI (sFI h 1043 0 0) 1043 0 2) else (if okR ti 0 140000 then (1, sFI (sFI h 1043 0 0) 1043 0 0) else (0, sFI (sFI h 1043 0 0) 1043 0 2))) else (0, sFI h 1043 0 1)) else (0, sFI h 1043 0 1))
set_option maxRecDepth 20000 in
theorem c_X9_asksWay1 {g : GT} {d : Nat} (hd : 3 ≤ d) {h : Hp} (W : MW h) (a : Int32) (b : Int32) (ti : Int32) (D : DM h)  : Ctr g M_X9_asksWay d 0 0 [.inr (10, some 0), .inl (.int a), .inl (.int b), .inl (.int ti), .inl (.int 1)] h (cy_detP (.inl (some (.inl (.int (F_X9_asksWay1 h a b ti).1)))) (F_X9_asksWay1 h a b ti).2 (MP h (F_X9_asksWay1 h a b ti).2)) := by
  refine cy_body rfl rfl (by decide) (Nat.le_of_ble_eq_true rfl) ?_
  refine wp_run [(.aload_n 0, 1), (.aload_n 0, 1), (.iload_n 1, 1)] (pc' := 3) (L' := [(0, .inr (10, some 0)), (1, .inl (.int a)), (2, .inl (.int b)), (3, .inl (.int ti)), (4, .inl (.int 1))]) (st' := [.inl (.int a), .inr (10, some 0), .inr (10, some 0)]) ⟨dX9_asksWay_0, dX9_asksWay_1, dX9_asksWay_2, trivial⟩ rfl rfl ?_
  by_cases h_1 : okR a 0 (xFI h 1000 0 - 1)
  · refine wx_virtualD (M := M_X9_asksWay) (uc := 0) (us := 0) (s := 10) (i := 0) (As := [.inl (.int a)]) (rest := [.inr (10, some 0)]) cls_10 rfl (ok_X9_isStop _ _) ml_X9_146 im_X9_isStop se_X9_isStop (by omega) (det_to (c_X9_isStop (d := d - 1) (h := h) (by omega) W a D) (by rw [isStop_ok h_1]) rfl) rfl rfl (Nat.le_of_ble_eq_true rfl) dX9_asksWay_3 ?_
    refine wx_if_eq (tgt := 21) dX9_asksWay_6 (by decide) (fun h => absurd h (by decide)) (fun _ => ?_)
    refine wp_run [(.aload_n 0, 1), (.iload_n 2, 1)] (pc' := 11) (L' := [(0, .inr (10, some 0)), (1, .inl (.int a)), (2, .inl (.int b)), (3, .inl (.int ti)), (4, .inl (.int 1))]) (st' := [.inl (.int b), .inr (10, some 0), .inr (10, some 0)]) ⟨dX9_asksWay_9, dX9_asksWay_10, trivial⟩ rfl rfl ?_
    by_cases h_2 : okR b 0 (xFI h 1000 0 - 1)
    · refine wx_virtualD (M := M_X9_asksWay) (uc := 0) (us := 0) (s := 10) (i := 0) (As := [.inl (.int b)]) (rest := [.inr (10, some 0)]) cls_10 rfl (ok_X9_isStop _ _) ml_X9_146 im_X9_isStop se_X9_isStop (by omega) (det_to (c_X9_isStop (d := d - 1) (h := h) (by omega) W b D) (by rw [isStop_ok h_2]) rfl) rfl rfl (Nat.le_of_ble_eq_true rfl) dX9_asksWay_11 ?_
      refine wx_if_eq (tgt := 21) dX9_asksWay_14 (by decide) (fun h => absurd h (by decide)) (fun _ => ?_)
      refine wp_run [(.iconst 1, 1)] (pc' := 18) (L' := [(0, .inr (10, some 0)), (1, .inl (.int a)), (2, .inl (.int b)), (3, .inl (.int ti)), (4, .inl (.int 1))]) (st' := [.inl (.int 1), .inr (10, some 0)]) ⟨dX9_asksWay_17, trivial⟩ rfl rfl ?_
      refine wx_goto (tgt := 22) dX9_asksWay_18 (by decide) ?_
      refine wx_virtualDP (M := M_X9_asksWay) (uc := 0) (us := 0) (s := 10) (i := 0) (As := [.inl (.int 1)]) (rest := []) cls_10 rfl (ok_X9_asks _ _) ml_X9_138 im_X9_asks se_X9_asks (by omega) (c_asks1 (d := d - 1) (h := h) (by omega) W D) rfl rfl (Nat.le_of_ble_eq_true rfl) dX9_asksWay_22 (fun hS_3 => ?_)
      refine wx_if_ne (tgt := 30) dX9_asksWay_25 (by decide) (fun _ => ?_) (fun h => absurd h (by decide))
      refine wp_run [(.aload_n 0, 1), (.iload_n 1, 1), (.iload_n 2, 1)] (pc' := 33) (L' := [(0, .inr (10, some 0)), (1, .inl (.int a)), (2, .inl (.int b)), (3, .inl (.int ti)), (4, .inl (.int 1))]) (st' := [.inl (.int b), .inl (.int a), .inr (10, some 0)]) ⟨dX9_asksWay_30, dX9_asksWay_31, dX9_asksWay_32, trivial⟩ rfl rfl ?_
      refine wx_icmp_eq (tgt := 51) dX9_asksWay_33 (by decide) (fun h_4 => ?_) (fun h_4 => ?_)
      · refine wp_run [(.iconst 2, 1)] (pc' := 52) (L' := [(0, .inr (10, some 0)), (1, .inl (.int a)), (2, .inl (.int b)), (3, .inl (.int ti)), (4, .inl (.int 1))]) (st' := [.inl (.int 2), .inr (10, some 0)]) ⟨dX9_asksWay_51, trivial⟩ rfl rfl ?_
        refine wx_goto (tgt := 56) dX9_asksWay_52 (by decide) ?_
        refine wx_putI cls_10 (k := 43) (f := 1043) (by decide) rfl rfl rfl fl_X9_122 (Or.inl rfl) dX9_asksWay_56 ?_
        have D_5 : DM (sFI (sFI h 1043 0 0) 1043 0 2) := hS_3.2.fput (by decide)
        refine wp_run [(.aload_n 0, 1)] (pc' := 60) (L' := [(0, .inr (10, some 0)), (1, .inl (.int a)), (2, .inl (.int b)), (3, .inl (.int ti)), (4, .inl (.int 1))]) (st' := [.inr (10, some 0)]) ⟨dX9_asksWay_59, trivial⟩ rfl rfl ?_
        refine wx_getI cls_10 (k := 43) (f := 1043) (by decide) rfl rfl fl_X9_122 dX9_asksWay_60 ?_
        rw [show xFI (sFI (sFI h 1043 0 0) 1043 0 2) 1043 0 = (2 : Int32) from rfl]
        refine wx_if_ne (tgt := 70) dX9_asksWay_63 (by decide) (fun _ => ?_) (fun h => absurd h (by decide))
        refine wp_run [(.iconst 0, 1)] (pc' := 71) (L' := [(0, .inr (10, some 0)), (1, .inl (.int a)), (2, .inl (.int b)), (3, .inl (.int ti)), (4, .inl (.int 1))]) (st' := [.inl (.int 0)]) ⟨dX9_asksWay_70, trivial⟩ rfl rfl ?_
        exact wx_zret rfl rfl rfl dX9_asksWay_71 (by rw [F_X9_asksWay1, if_pos h_1, if_pos h_2, if_pos h_4]; dsimp only; exact ⟨⟨hS_3.1, D_5⟩, rfl, rfl⟩)
      · refine wp_run [(.iload_n 3, 1), (.iconst 0, 1)] (pc' := 38) (L' := [(0, .inr (10, some 0)), (1, .inl (.int a)), (2, .inl (.int b)), (3, .inl (.int ti)), (4, .inl (.int 1))]) (st' := [.inl (.int 0), .inl (.int ti), .inr (10, some 0)]) ⟨dX9_asksWay_36, dX9_asksWay_37, trivial⟩ rfl rfl ?_
        refine wx_ldc kc_X9_187 dX9_asksWay_38 ?_
        by_cases h_6 : okR ti 0 140000
        · refine wx_staticD (M := M_X9_asksWay) (uc := 0) (us := 0) (As := [.inl (.int ti), .inl (.int 0), .inl (.int 140000)]) (rest := [.inr (10, some 0)]) (ok_X9_in _ _) ml_X9_128 st_X9_in (by omega) (det_to (c_X9_in (d := d - 1) (h := (sFI h 1043 0 0)) (by omega) ti 0 140000) (by rw [in_ok h_6]) rfl) rfl rfl (Nat.le_of_ble_eq_true rfl) dX9_asksWay_40 ?_
          refine wx_if_eq (tgt := 51) dX9_asksWay_43 (by decide) (fun h => absurd h (by decide)) (fun _ => ?_)
          refine wp_run [(.iload 4, 2)] (pc' := 48) (L' := [(0, .inr (10, some 0)), (1, .inl (.int a)), (2, .inl (.int b)), (3, .inl (.int ti)), (4, .inl (.int 1))]) (st' := [.inl (.int 1), .inr (10, some 0)]) ⟨dX9_asksWay_46, trivial⟩ rfl rfl ?_
          refine wx_if_ne (tgt := 55) dX9_asksWay_48 (by decide) (fun _ => ?_) (fun h => absurd h (by decide))
          refine wp_run [(.iconst 0, 1)] (pc' := 56) (L' := [(0, .inr (10, some 0)), (1, .inl (.int a)), (2, .inl (.int b)), (3, .inl (.int ti)), (4, .inl (.int 1))]) (st' := [.inl (.int 0), .inr (10, some 0)]) ⟨dX9_asksWay_55, trivial⟩ rfl rfl ?_
          refine wx_putI cls_10 (k := 43) (f := 1043) (by decide) rfl rfl rfl fl_X9_122 (Or.inl rfl) dX9_asksWay_56 ?_
          have D_7 : DM (sFI (sFI h 1043 0 0) 1043 0 0) := hS_3.2.fput (by decide)
          refine wp_run [(.aload_n 0, 1)] (pc' := 60) (L' := [(0, .inr (10, some 0)), (1, .inl (.int a)), (2, .inl (.int b)), (3, .inl (.int ti)), (4, .inl (.int 1))]) (st' := [.inr (10, some 0)]) ⟨dX9_asksWay_59, trivial⟩ rfl rfl ?_
          refine wx_getI cls_10 (k := 43) (f := 1043) (by decide) rfl rfl fl_X9_122 dX9_asksWay_60 ?_
          rw [show xFI (sFI (sFI h 1043 0 0) 1043 0 0) 1043 0 = (0 : Int32) from rfl]
          refine wx_if_ne (tgt := 70) dX9_asksWay_63 (by decide) (fun h => absurd h (by decide)) (fun _ => ?_)
          refine wp_run [(.iconst 1, 1)] (pc' := 67) (L' := [(0, .inr (10, some 0)), (1, .inl (.int a)), (2, .inl (.int b)), (3, .inl (.int ti)), (4, .inl (.int 1))]) (st' := [.inl (.int 1)]) ⟨dX9_asksWay_66, trivial⟩ rfl rfl ?_
          refine wx_goto (tgt := 71) dX9_asksWay_67 (by decide) ?_
          exact wx_zret rfl rfl rfl dX9_asksWay_71 (by rw [F_X9_asksWay1, if_pos h_1, if_pos h_2, if_neg h_4, if_pos h_6]; dsimp only; exact ⟨⟨hS_3.1, D_7⟩, rfl, rfl⟩)
        · refine wx_staticD (M := M_X9_asksWay) (uc := 0) (us := 0) (As := [.inl (.int ti), .inl (.int 0), .inl (.int 140000)]) (rest := [.inr (10, some 0)]) (ok_X9_in _ _) ml_X9_128 st_X9_in (by omega) (det_to (c_X9_in (d := d - 1) (h := (sFI h 1043 0 0)) (by omega) ti 0 140000) (by rw [in_no h_6]) rfl) rfl rfl (Nat.le_of_ble_eq_true rfl) dX9_asksWay_40 ?_
          refine wx_if_eq (tgt := 51) dX9_asksWay_43 (by decide) (fun _ => ?_) (fun h => absurd h (by decide))
          refine wp_run [(.iconst 2, 1)] (pc' := 52) (L' := [(0, .inr (10, some 0)), (1, .inl (.int a)), (2, .inl (.int b)), (3, .inl (.int ti)), (4, .inl (.int 1))]) (st' := [.inl (.int 2), .inr (10, some 0)]) ⟨dX9_asksWay_51, trivial⟩ rfl rfl ?_
          refine wx_goto (tgt := 56) dX9_asksWay_52 (by decide) ?_
          refine wx_putI cls_10 (k := 43) (f := 1043) (by decide) rfl rfl rfl fl_X9_122 (Or.inl rfl) dX9_asksWay_56 ?_
          have D_8 : DM (sFI (sFI h 1043 0 0) 1043 0 2) := hS_3.2.fput (by decide)
          refine wp_run [(.aload_n 0, 1)] (pc' := 60) (L' := [(0, .inr (10, some 0)), (1, .inl (.int a)), (2, .inl (.int b)), (3, .inl (.int ti)), (4, .inl (.int 1))]) (st' := [.inr (10, some 0)]) ⟨dX9_asksWay_59, trivial⟩ rfl rfl ?_
          refine wx_getI cls_10 (k := 43) (f := 1043) (by decide) rfl rfl fl_X9_122 dX9_asksWay_60 ?_
          rw [show xFI (sFI (sFI h 1043 0 0) 1043 0 2) 1043 0 = (2 : Int32) from rfl]
          refine wx_if_ne (tgt := 70) dX9_asksWay_63 (by decide) (fun _ => ?_) (fun h => absurd h (by decide))
          refine wp_run [(.iconst 0, 1)] (pc' := 71) (L' := [(0, .inr (10, some 0)), (1, .inl (.int a)), (2, .inl (.int b)), (3, .inl (.int ti)), (4, .inl (.int 1))]) (st' := [.inl (.int 0)]) ⟨dX9_asksWay_70, trivial⟩ rfl rfl ?_
          exact wx_zret rfl rfl rfl dX9_asksWay_71 (by rw [F_X9_asksWay1, if_pos h_1, if_pos h_2, if_neg h_4, if_neg h_6]; dsimp only; exact ⟨⟨hS_3.1, D_8⟩, rfl, rfl⟩)
    · refine wx_virtualD (M := M_X9_asksWay) (uc := 0) (us := 0) (s := 10) (i := 0) (As := [.inl (.int b)]) (rest := [.inr (10, some 0)]) cls_10 rfl (ok_X9_isStop _ _) ml_X9_146 im_X9_isStop se_X9_isStop (by omega) (det_to (c_X9_isStop (d := d - 1) (h := h) (by omega) W b D) (by rw [isStop_no h_2]) rfl) rfl rfl (Nat.le_of_ble_eq_true rfl) dX9_asksWay_11 ?_
      refine wx_if_eq (tgt := 21) dX9_asksWay_14 (by decide) (fun _ => ?_) (fun h => absurd h (by decide))
      refine wp_run [(.iconst 0, 1)] (pc' := 22) (L' := [(0, .inr (10, some 0)), (1, .inl (.int a)), (2, .inl (.int b)), (3, .inl (.int ti)), (4, .inl (.int 1))]) (st' := [.inl (.int 0), .inr (10, some 0)]) ⟨dX9_asksWay_21, trivial⟩ rfl rfl ?_
      refine wx_virtualDP (M := M_X9_asksWay) (uc := 0) (us := 0) (s := 10) (i := 0) (As := [.inl (.int 0)]) (rest := []) cls_10 rfl (ok_X9_asks _ _) ml_X9_138 im_X9_asks se_X9_asks (by omega) (c_asks0 (d := d - 1) (h := h) (by omega) W D) rfl rfl (Nat.le_of_ble_eq_true rfl) dX9_asksWay_22 (fun hS_9 => ?_)
      refine wx_if_ne (tgt := 30) dX9_asksWay_25 (by decide) (fun h => absurd h (by decide)) (fun _ => ?_)
      refine wp_run [(.iconst 0, 1)] (pc' := 29) (L' := [(0, .inr (10, some 0)), (1, .inl (.int a)), (2, .inl (.int b)), (3, .inl (.int ti)), (4, .inl (.int 1))]) (st' := [.inl (.int 0)]) ⟨dX9_asksWay_28, trivial⟩ rfl rfl ?_
      exact wx_zret rfl rfl rfl dX9_asksWay_29 (by rw [F_X9_asksWay1, if_pos h_1, if_neg h_2]; dsimp only; exact ⟨⟨hS_9.1, hS_9.2⟩, rfl, rfl⟩)
  · refine wx_virtualD (M := M_X9_asksWay) (uc := 0) (us := 0) (s := 10) (i := 0) (As := [.inl (.int a)]) (rest := [.inr (10, some 0)]) cls_10 rfl (ok_X9_isStop _ _) ml_X9_146 im_X9_isStop se_X9_isStop (by omega) (det_to (c_X9_isStop (d := d - 1) (h := h) (by omega) W a D) (by rw [isStop_no h_1]) rfl) rfl rfl (Nat.le_of_ble_eq_true rfl) dX9_asksWay_3 ?_
    refine wx_if_eq (tgt := 21) dX9_asksWay_6 (by decide) (fun _ => ?_) (fun h => absurd h (by decide))
    refine wp_run [(.iconst 0, 1)] (pc' := 22) (L' := [(0, .inr (10, some 0)), (1, .inl (.int a)), (2, .inl (.int b)), (3, .inl (.int ti)), (4, .inl (.int 1))]) (st' := [.inl (.int 0), .inr (10, some 0)]) ⟨dX9_asksWay_21, trivial⟩ rfl rfl ?_
    refine wx_virtualDP (M := M_X9_asksWay) (uc := 0) (us := 0) (s := 10) (i := 0) (As := [.inl (.int 0)]) (rest := []) cls_10 rfl (ok_X9_asks _ _) ml_X9_138 im_X9_asks se_X9_asks (by omega) (c_asks0 (d := d - 1) (h := h) (by omega) W D) rfl rfl (Nat.le_of_ble_eq_true rfl) dX9_asksWay_22 (fun hS_10 => ?_)
    refine wx_if_ne (tgt := 30) dX9_asksWay_25 (by decide) (fun h => absurd h (by decide)) (fun _ => ?_)
    refine wp_run [(.iconst 0, 1)] (pc' := 29) (L' := [(0, .inr (10, some 0)), (1, .inl (.int a)), (2, .inl (.int b)), (3, .inl (.int ti)), (4, .inl (.int 1))]) (st' := [.inl (.int 0)]) ⟨dX9_asksWay_28, trivial⟩ rfl rfl ?_
    exact wx_zret rfl rfl rfl dX9_asksWay_29 (by rw [F_X9_asksWay1, if_neg h_1]; dsimp only; exact ⟨⟨hS_10.1, hS_10.2⟩, rfl, rfl⟩)
abbrev okWM (h : Hp) (a b ti : Int32) : Prop := (okR a 0 (xFI h 1000 0 - 1) ∧ okR b 0 (xFI h 1000 0 - 1)) ∧ ¬ a = b ∧ okR ti 0 140000
theorem aw_ok {h : Hp} {a b ti : Int32} (p : okWM h a b ti) : F_X9_asksWay1 h a b ti = (1, sFI (sFI h 1043 0 0) 1043 0 0) := by unfold F_X9_asksWay1; rw [if_pos p.1.1, if_pos p.1.2, if_neg p.2.1, if_pos p.2.2]
theorem aw_no {h : Hp} {a b ti : Int32} (p : ¬ okWM h a b ti) : (F_X9_asksWay1 h a b ti).1 = 0 := by
  unfold F_X9_asksWay1
  by_cases h1 : okR a 0 (xFI h 1000 0 - 1)
  · by_cases h2 : okR b 0 (xFI h 1000 0 - 1)
    · rw [if_pos h1, if_pos h2]
      by_cases h3 : a = b
      · rw [if_pos h3]
      · rw [if_neg h3, if_neg (fun q => p ⟨⟨h1, h2⟩, h3, q⟩)]
    · rw [if_pos h1, if_neg h2]
  · rw [if_neg h1]
theorem aw_0 {h : Hp} {a b ti : Int32} : (F_X9_asksWay0 h a b ti).1 = 0 := by
  unfold F_X9_asksWay0
  repeat' split
  all_goals rfl
