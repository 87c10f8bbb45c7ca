def F_X9_buy (h : Hp) (b : Int32) : Int32 × Hp := (if okR b 0 (xFI h 1031 0 - 1) then (if (xAI (sFI h 1043 0 0) 65 0 b.toNatClampNeg) = 0 then ((xAI (sAI (sFI h 1043 0 0) 65 0 b.toNatClampNeg 1) 66 0 b.toNatClampNeg), sAI (sFI h 1043 0 0) 65 0 b.toNatClampNeg 1) else (0, sFI (sFI h 1043 0 0) 1043 0 2)) else (0, sFI h 1043 0 1))
set_option maxRecDepth 20000 in
theorem c_X9_buy {g : GT} {d : Nat} (hd : 3 ≤ d) {h : Hp} (W : MW h) (b : Int32) (D : DM h)  : Ctr g M_X9_buy d 0 0 [.inr (10, some 0), .inl (.int b)] h (cy_detP (.inl (some (.inl (.int (F_X9_buy h b).1)))) (F_X9_buy h b).2 (MP h (F_X9_buy h b).2)) := by
  refine cy_body rfl rfl (by decide) (Nat.le_of_ble_eq_true rfl) ?_
  refine wp_run [(.aload_n 0, 1), (.aload_n 0, 1), (.iload_n 1, 1)] (pc' := 3) (L' := [(0, .inr (10, some 0)), (1, .inl (.int b))]) (st' := [.inl (.int b), .inr (10, some 0), .inr (10, some 0)]) ⟨dX9_buy_0, dX9_buy_1, dX9_buy_2, trivial⟩ rfl rfl ?_
  by_cases h_1 : okR b 0 (xFI h 1031 0 - 1)
  · refine wx_virtualD (M := M_X9_buy) (uc := 0) (us := 0) (s := 10) (i := 0) (As := [.inl (.int b)]) (rest := [.inr (10, some 0)]) cls_10 rfl (ok_X9_isBooking _ _) ml_X9_256 im_X9_isBooking se_X9_isBooking (by omega) (det_to (c_X9_isBooking (d := d - 1) (h := h) (by omega) W b D) (by rw [isBooking_ok h_1]) rfl) rfl rfl (Nat.le_of_ble_eq_true rfl) dX9_buy_3 ?_
    refine wx_virtualDP (M := M_X9_buy) (uc := 0) (us := 0) (s := 10) (i := 0) (As := [.inl (.int 1)]) (rest := []) cls_10 rfl (ok_X9_asks _ _) ml_X9_138 im_X9_asks se_X9_asks (by omega) (c_asks1 (d := d - 1) (h := h) (by omega) W D) rfl rfl (Nat.le_of_ble_eq_true rfl) dX9_buy_6 (fun hS_2 => ?_)
    refine wx_if_ne (tgt := 14) dX9_buy_9 (by decide) (fun _ => ?_) (fun h => absurd h (by decide))
    refine wp_run [(.aload_n 0, 1)] (pc' := 15) (L' := [(0, .inr (10, some 0)), (1, .inl (.int b))]) (st' := [.inr (10, some 0)]) ⟨dX9_buy_14, trivial⟩ rfl rfl ?_
    refine wx_getR cls_10 (k := 32) (f := 1032) (t := 65) (o := some 0) (by decide) rfl rfl fl_X9_85 ((W.sr hS_2.1).fr (f := 1032) (by decide)) dX9_buy_15 ?_
    refine wp_run [(.iload_n 1, 1)] (pc' := 19) (L' := [(0, .inr (10, some 0)), (1, .inl (.int b))]) (st' := [.inl (.int b), .inr (65, some 0)]) ⟨dX9_buy_18, trivial⟩ rfl rfl ?_
    refine wx_iald (Or.inl rfl) (vin_mono (n := 30) (vin_cnt (n := 30) (D.fi (f := 1031) (by decide)) (by decide) h_1) (by decide)) dX9_buy_19 ?_
    refine wx_if_eq (tgt := 29) dX9_buy_20 (by decide) (fun h_3 => ?_) (fun h_3 => ?_)
    · refine wp_run [(.aload_n 0, 1)] (pc' := 30) (L' := [(0, .inr (10, some 0)), (1, .inl (.int b))]) (st' := [.inr (10, some 0)]) ⟨dX9_buy_29, trivial⟩ rfl rfl ?_
      refine wx_getR cls_10 (k := 32) (f := 1032) (t := 65) (o := some 0) (by decide) rfl rfl fl_X9_85 ((W.sr hS_2.1).fr (f := 1032) (by decide)) dX9_buy_30 ?_
      refine wp_run [(.iload_n 1, 1), (.iconst 1, 1)] (pc' := 35) (L' := [(0, .inr (10, some 0)), (1, .inl (.int b))]) (st' := [.inl (.int 1), .inl (.int b), .inr (65, some 0)]) ⟨dX9_buy_33, dX9_buy_34, trivial⟩ rfl rfl ?_
      refine wx_iast rfl (vin_mono (n := 30) (vin_cnt (n := 30) (D.fi (f := 1031) (by decide)) (by decide) h_1) (by decide)) dX9_buy_35 ?_
      have D_4 : DM (sAI (sFI h 1043 0 0) 65 0 b.toNatClampNeg 1) := hS_2.2.put (by decide)
      refine wp_run [(.aload_n 0, 1)] (pc' := 37) (L' := [(0, .inr (10, some 0)), (1, .inl (.int b))]) (st' := [.inr (10, some 0)]) ⟨dX9_buy_36, trivial⟩ rfl rfl ?_
      refine wx_getR cls_10 (k := 33) (f := 1033) (t := 66) (o := some 0) (by decide) rfl rfl fl_X9_88 ((W.sr hS_2.1).fr (f := 1033) (by decide)) dX9_buy_37 ?_
      refine wp_run [(.iload_n 1, 1)] (pc' := 41) (L' := [(0, .inr (10, some 0)), (1, .inl (.int b))]) (st' := [.inl (.int b), .inr (66, some 0)]) ⟨dX9_buy_40, trivial⟩ rfl rfl ?_
      refine wx_iald (Or.inl rfl) (vin_mono (n := 30) (vin_cnt (n := 30) (D.fi (f := 1031) (by decide)) (by decide) h_1) (by decide)) dX9_buy_41 ?_
      exact wx_iret rfl rfl dX9_buy_42 (by rw [F_X9_buy, if_pos h_1, if_pos h_3]; dsimp only; exact ⟨⟨hS_2.1, D_4⟩, rfl, rfl⟩)
    · refine wp_run [(.aload_n 0, 1), (.iconst 2, 1)] (pc' := 25) (L' := [(0, .inr (10, some 0)), (1, .inl (.int b))]) (st' := [.inl (.int 2), .inr (10, some 0)]) ⟨dX9_buy_23, dX9_buy_24, trivial⟩ rfl rfl ?_
      refine wx_virtualDP (M := M_X9_buy) (uc := 0) (us := 0) (s := 10) (i := 0) (As := [.inl (.int 2)]) (rest := []) cls_10 rfl (ok_X9_fails _ _) ml_X9_142 im_X9_fails se_X9_fails (by omega) (c_fails (d := d - 1) (h := (sFI h 1043 0 0)) (by omega) (W.sr hS_2.1) 2 hS_2.2) rfl rfl (Nat.le_of_ble_eq_true rfl) dX9_buy_25 (fun hS_5 => ?_)
      exact wx_iret rfl rfl dX9_buy_28 (by rw [F_X9_buy, if_pos h_1, if_neg h_3]; dsimp only; exact ⟨⟨(hS_2.1.trans hS_5.1), hS_5.2⟩, rfl, rfl⟩)
  · refine wx_virtualD (M := M_X9_buy) (uc := 0) (us := 0) (s := 10) (i := 0) (As := [.inl (.int b)]) (rest := [.inr (10, some 0)]) cls_10 rfl (ok_X9_isBooking _ _) ml_X9_256 im_X9_isBooking se_X9_isBooking (by omega) (det_to (c_X9_isBooking (d := d - 1) (h := h) (by omega) W b D) (by rw [isBooking_no h_1]) rfl) rfl rfl (Nat.le_of_ble_eq_true rfl) dX9_buy_3 ?_
    refine wx_virtualDP (M := M_X9_buy) (uc := 0) (us := 0) (s := 10) (i := 0) (As := [.inl (.int 0)]) (rest := []) cls_10 rfl (ok_X9_asks _ _) ml_X9_138 im_X9_asks se_X9_asks (by omega) (c_asks0 (d := d - 1) (h := h) (by omega) W D) rfl rfl (Nat.le_of_ble_eq_true rfl) dX9_buy_6 (fun hS_6 => ?_)
    refine wx_if_ne (tgt := 14) dX9_buy_9 (by decide) (fun h => absurd h (by decide)) (fun _ => ?_)
    refine wp_run [(.iconst 0, 1)] (pc' := 13) (L' := [(0, .inr (10, some 0)), (1, .inl (.int b))]) (st' := [.inl (.int 0)]) ⟨dX9_buy_12, trivial⟩ rfl rfl ?_
    exact wx_iret rfl rfl dX9_buy_13 (by rw [F_X9_buy, if_neg h_1]; dsimp only; exact ⟨⟨hS_6.1, hS_6.2⟩, rfl, rfl⟩)
def B_X9_rightOf_21 (h : Hp) (b : Int32) (rec21 : Int32 → Nat → Int32) (az : Int32) (k : Nat) : Int32 := (if (xAI h 67 0 b.toNatClampNeg) ≤ (nI k) then (if ((az + (xAI h 75 0 ((5 * b) + (xAI h 67 0 b.toNatClampNeg)).toNatClampNeg)) - (xAI h 70 0 b.toNatClampNeg)) < 120 then (if ((az + (xAI h 75 0 ((5 * b) + (xAI h 67 0 b.toNatClampNeg)).toNatClampNeg)) - (xAI h 70 0 b.toNatClampNeg)) < 60 then 0 else ((xAI h 66 0 b.toNatClampNeg) / 4)) else ((xAI h 66 0 b.toNatClampNeg) / 2)) else (if (F_X9_goes h (xAI h 71 0 ((4 * b) + (nI k)).toNatClampNeg) (xAI h 72 0 ((4 * b) + (nI k)).toNatClampNeg)) = 0 then (xAI h 66 0 b.toNatClampNeg) else (if (az + (xAI h 75 0 ((5 * b) + (nI k)).toNatClampNeg)) ≤ (F_X9_departure h (xAI h 71 0 ((4 * b) + (nI k)).toNatClampNeg) (xAI h 72 0 ((4 * b) + (nI k)).toNatClampNeg) (xAI h 73 0 ((4 * b) + (nI k)).toNatClampNeg)) then (rec21 (F_X9_arrivalOf h (xAI h 71 0 ((4 * b) + (nI k)).toNatClampNeg) (xAI h 72 0 ((4 * b) + (nI k)).toNatClampNeg) (xAI h 74 0 ((4 * b) + (nI k)).toNatClampNeg)) (k + 1)) else (xAI h 66 0 b.toNatClampNeg))))
def L_X9_rightOf_21 (h : Hp) (b : Int32) : Nat → Int32 → Nat → Int32
  | 0 => fun az k => 0
  | fu + 1 => B_X9_rightOf_21 h b (L_X9_rightOf_21 h b fu)
theorem L_X9_rightOf_21_s (h : Hp) (b : Int32) (fu : Nat) (az : Int32) (k : Nat) : L_X9_rightOf_21 h b (fu + 1) az k = B_X9_rightOf_21 h b (L_X9_rightOf_21 h b fu) az k := rfl
def F_X9_rightOf (h : Hp) (b : Int32) : Int32 := (if (xAI h 65 0 b.toNatClampNeg) = 1 then L_X9_rightOf_21 h b (2147483648 - 0 + 1) (xAI h 69 0 b.toNatClampNeg) 0 else 0)
set_option maxRecDepth 20000 in
theorem c_X9_rightOf {g : GT} {d : Nat} (hd : 3 ≤ d) {h : Hp} (W : MW h) (b : Int32) (D : DM h) (v_b : vp_in b 30)  : Ctr g M_X9_rightOf d 0 0 [.inr (10, some 0), .inl (.int b)] h (cy_det (.inl (some (.inl (.int (F_X9_rightOf h b))))) h) := by
  refine cy_body rfl rfl (by decide) (Nat.le_of_ble_eq_true rfl) ?_
  refine wp_run [(.aload_n 0, 1)] (pc' := 1) (L' := [(0, .inr (10, some 0)), (1, .inl (.int b))]) (st' := [.inr (10, some 0)]) ⟨dX9_rightOf_0, trivial⟩ rfl rfl ?_
  refine wx_getR cls_10 (k := 32) (f := 1032) (t := 65) (o := some 0) (by decide) rfl rfl fl_X9_85 (W.fr (f := 1032) (by decide)) dX9_rightOf_1 ?_
  refine wp_run [(.iload_n 1, 1)] (pc' := 5) (L' := [(0, .inr (10, some 0)), (1, .inl (.int b))]) (st' := [.inl (.int b), .inr (65, some 0)]) ⟨dX9_rightOf_4, trivial⟩ rfl rfl ?_
  refine wx_iald (Or.inl rfl) (vin_mono (n := 30) v_b (by decide)) dX9_rightOf_5 ?_
  refine wp_run [(.iconst 1, 1)] (pc' := 7) (L' := [(0, .inr (10, some 0)), (1, .inl (.int b))]) (st' := [.inl (.int 1), .inl (.int (xAI h 65 0 b.toNatClampNeg))]) ⟨dX9_rightOf_6, trivial⟩ rfl rfl ?_
  refine wx_icmp_eq (tgt := 12) dX9_rightOf_7 (by decide) (fun h_1 => ?_) (fun h_1 => ?_)
  · refine wp_run [(.aload_n 0, 1)] (pc' := 13) (L' := [(0, .inr (10, some 0)), (1, .inl (.int b))]) (st' := [.inr (10, some 0)]) ⟨dX9_rightOf_12, trivial⟩ rfl rfl ?_
    refine wx_getR cls_10 (k := 36) (f := 1036) (t := 69) (o := some 0) (by decide) rfl rfl fl_X9_97 (W.fr (f := 1036) (by decide)) dX9_rightOf_13 ?_
    refine wp_run [(.iload_n 1, 1)] (pc' := 17) (L' := [(0, .inr (10, some 0)), (1, .inl (.int b))]) (st' := [.inl (.int b), .inr (69, some 0)]) ⟨dX9_rightOf_16, trivial⟩ rfl rfl ?_
    refine wx_iald (Or.inl rfl) (vin_mono (n := 30) v_b (by decide)) dX9_rightOf_17 ?_
    refine wp_run [(.istore_n 2, 1), (.iconst 0, 1), (.istore_n 3, 1)] (pc' := 21) (L' := [(3, .inl (.int 0)), (2, .inl (.int (xAI h 69 0 b.toNatClampNeg))), (0, .inr (10, some 0)), (1, .inl (.int b))]) (st' := []) ⟨dX9_rightOf_18, dX9_rightOf_19, dX9_rightOf_20, trivial⟩ rfl rfl ?_
    rw [F_X9_rightOf, if_pos h_1]
    refine wp_sub [0, 1, 2, 3] (L' := [(3, .inl (.int 0)), (2, .inl (.int (xAI h 69 0 b.toNatClampNeg))), (0, .inr (10, some 0)), (1, .inl (.int b))]) rfl ?_
    suffices Y21 : ∀ (n21 : Nat) (az : Int32) (k : Nat) (hik : k < 2147483648) (hm21 : 2147483648 - k < n21), WP g M_X9_rightOf d 0 0 21 [(3, .inl (.int (nI k))), (2, .inl (.int az)), (0, .inr (10, some 0)), (1, .inl (.int b))] [] h (cy_det (.inl (some (.inl (.int (L_X9_rightOf_21 h b n21 az k))))) h) from
      Y21 (2147483648 - 0 + 1) (xAI h 69 0 b.toNatClampNeg) 0 (by decide) (Nat.lt_succ_self _)
    intro n21
    induction n21 with
    | zero => intro az k hik hm21; exact absurd hm21 (Nat.not_lt_zero _)
    | succ n21 ih21 =>
      intro az k hik hm21
      rw [L_X9_rightOf_21_s]
      generalize L_X9_rightOf_21 h b n21 = rec21 at ih21 ⊢
      refine wp_run [(.iload_n 3, 1), (.aload_n 0, 1)] (pc' := 23) (L' := [(3, .inl (.int (nI k))), (2, .inl (.int az)), (0, .inr (10, some 0)), (1, .inl (.int b))]) (st' := [.inr (10, some 0), .inl (.int (nI k))]) ⟨dX9_rightOf_21, dX9_rightOf_22, trivial⟩ rfl rfl ?_
      refine wx_getR cls_10 (k := 34) (f := 1034) (t := 67) (o := some 0) (by decide) rfl rfl fl_X9_91 (W.fr (f := 1034) (by decide)) dX9_rightOf_23 ?_
      refine wp_run [(.iload_n 1, 1)] (pc' := 27) (L' := [(3, .inl (.int (nI k))), (2, .inl (.int az)), (0, .inr (10, some 0)), (1, .inl (.int b))]) (st' := [.inl (.int b), .inr (67, some 0), .inl (.int (nI k))]) ⟨dX9_rightOf_26, trivial⟩ rfl rfl ?_
      refine wx_iald (Or.inl rfl) (vin_mono (n := 30) v_b (by decide)) dX9_rightOf_27 ?_
      refine wx_icmp_ge (tgt := 133) dX9_rightOf_28 (by decide) (fun h_2 => ?_) (fun h_2 => ?_)
      · refine wp_run [(.iload_n 2, 1), (.aload_n 0, 1)] (pc' := 135) (L' := [(3, .inl (.int (nI k))), (2, .inl (.int az)), (0, .inr (10, some 0)), (1, .inl (.int b))]) (st' := [.inr (10, some 0), .inl (.int az)]) ⟨dX9_rightOf_133, dX9_rightOf_134, trivial⟩ rfl rfl ?_
        refine wx_getR cls_10 (k := 42) (f := 1042) (t := 75) (o := some 0) (by decide) rfl rfl fl_X9_115 (W.fr (f := 1042) (by decide)) dX9_rightOf_135 ?_
        refine wp_run [(.iconst 5, 1), (.iload_n 1, 1), (.imul, 1), (.aload_n 0, 1)] (pc' := 142) (L' := [(3, .inl (.int (nI k))), (2, .inl (.int az)), (0, .inr (10, some 0)), (1, .inl (.int b))]) (st' := [.inr (10, some 0), .inl (.int (5 * b)), .inr (75, some 0), .inl (.int az)]) ⟨dX9_rightOf_138, dX9_rightOf_139, dX9_rightOf_140, dX9_rightOf_141, trivial⟩ rfl rfl ?_
        refine wx_getR cls_10 (k := 34) (f := 1034) (t := 67) (o := some 0) (by decide) rfl rfl fl_X9_91 (W.fr (f := 1034) (by decide)) dX9_rightOf_142 ?_
        refine wp_run [(.iload_n 1, 1)] (pc' := 146) (L' := [(3, .inl (.int (nI k))), (2, .inl (.int az)), (0, .inr (10, some 0)), (1, .inl (.int b))]) (st' := [.inl (.int b), .inr (67, some 0), .inl (.int (5 * b)), .inr (75, some 0), .inl (.int az)]) ⟨dX9_rightOf_145, trivial⟩ rfl rfl ?_
        refine wx_iald (Or.inl rfl) (vin_mono (n := 30) v_b (by decide)) dX9_rightOf_146 ?_
        refine wp_run [(.iadd, 1)] (pc' := 148) (L' := [(3, .inl (.int (nI k))), (2, .inl (.int az)), (0, .inr (10, some 0)), (1, .inl (.int b))]) (st' := [.inl (.int ((5 * b) + (xAI h 67 0 b.toNatClampNeg))), .inr (75, some 0), .inl (.int az)]) ⟨dX9_rightOf_147, trivial⟩ rfl rfl ?_
        refine wx_iald (Or.inl rfl) (vin_mono (n := 150) (vin_lin (c := 5) v_b (vin_mono (D.ai (s := 67) (b := 5) (by decide) _) (by decide)) (by decide)) (by decide)) dX9_rightOf_148 ?_
        refine wp_run [(.iadd, 1), (.aload_n 0, 1)] (pc' := 151) (L' := [(3, .inl (.int (nI k))), (2, .inl (.int az)), (0, .inr (10, some 0)), (1, .inl (.int b))]) (st' := [.inr (10, some 0), .inl (.int (az + (xAI h 75 0 ((5 * b) + (xAI h 67 0 b.toNatClampNeg)).toNatClampNeg)))]) ⟨dX9_rightOf_149, dX9_rightOf_150, trivial⟩ rfl rfl ?_
        refine wx_getR cls_10 (k := 37) (f := 1037) (t := 70) (o := some 0) (by decide) rfl rfl fl_X9_100 (W.fr (f := 1037) (by decide)) dX9_rightOf_151 ?_
        refine wp_run [(.iload_n 1, 1)] (pc' := 155) (L' := [(3, .inl (.int (nI k))), (2, .inl (.int az)), (0, .inr (10, some 0)), (1, .inl (.int b))]) (st' := [.inl (.int b), .inr (70, some 0), .inl (.int (az + (xAI h 75 0 ((5 * b) + (xAI h 67 0 b.toNatClampNeg)).toNatClampNeg)))]) ⟨dX9_rightOf_154, trivial⟩ rfl rfl ?_
        refine wx_iald (Or.inl rfl) (vin_mono (n := 30) v_b (by decide)) dX9_rightOf_155 ?_
        refine wp_run [(.isub, 1), (.istore_n 3, 1), (.iload_n 3, 1), (.bipush 120, 2)] (pc' := 161) (L' := [(3, .inl (.int ((az + (xAI h 75 0 ((5 * b) + (xAI h 67 0 b.toNatClampNeg)).toNatClampNeg)) - (xAI h 70 0 b.toNatClampNeg)))), (2, .inl (.int az)), (0, .inr (10, some 0)), (1, .inl (.int b))]) (st' := [.inl (.int 120), .inl (.int ((az + (xAI h 75 0 ((5 * b) + (xAI h 67 0 b.toNatClampNeg)).toNatClampNeg)) - (xAI h 70 0 b.toNatClampNeg)))]) ⟨dX9_rightOf_156, dX9_rightOf_157, dX9_rightOf_158, dX9_rightOf_159, trivial⟩ rfl rfl ?_
        refine wx_icmp_lt (tgt := 175) dX9_rightOf_161 (by decide) (fun h_3 => ?_) (fun h_3 => ?_)
        · refine wp_run [(.iload_n 3, 1), (.bipush 60, 2)] (pc' := 178) (L' := [(3, .inl (.int ((az + (xAI h 75 0 ((5 * b) + (xAI h 67 0 b.toNatClampNeg)).toNatClampNeg)) - (xAI h 70 0 b.toNatClampNeg)))), (2, .inl (.int az)), (0, .inr (10, some 0)), (1, .inl (.int b))]) (st' := [.inl (.int 60), .inl (.int ((az + (xAI h 75 0 ((5 * b) + (xAI h 67 0 b.toNatClampNeg)).toNatClampNeg)) - (xAI h 70 0 b.toNatClampNeg)))]) ⟨dX9_rightOf_175, dX9_rightOf_176, trivial⟩ rfl rfl ?_
          refine wx_icmp_lt (tgt := 192) dX9_rightOf_178 (by decide) (fun h_4 => ?_) (fun h_4 => ?_)
          · refine wp_run [(.iconst 0, 1)] (pc' := 193) (L' := [(3, .inl (.int ((az + (xAI h 75 0 ((5 * b) + (xAI h 67 0 b.toNatClampNeg)).toNatClampNeg)) - (xAI h 70 0 b.toNatClampNeg)))), (2, .inl (.int az)), (0, .inr (10, some 0)), (1, .inl (.int b))]) (st' := [.inl (.int 0)]) ⟨dX9_rightOf_192, trivial⟩ rfl rfl ?_
            exact wx_iret rfl rfl dX9_rightOf_193 (by rw [B_X9_rightOf_21, if_pos h_2, if_pos h_3, if_pos h_4]; exact ⟨rfl, rfl⟩)
          · refine wp_run [(.aload_n 0, 1)] (pc' := 182) (L' := [(3, .inl (.int ((az + (xAI h 75 0 ((5 * b) + (xAI h 67 0 b.toNatClampNeg)).toNatClampNeg)) - (xAI h 70 0 b.toNatClampNeg)))), (2, .inl (.int az)), (0, .inr (10, some 0)), (1, .inl (.int b))]) (st' := [.inr (10, some 0)]) ⟨dX9_rightOf_181, trivial⟩ rfl rfl ?_
            refine wx_getR cls_10 (k := 33) (f := 1033) (t := 66) (o := some 0) (by decide) rfl rfl fl_X9_88 (W.fr (f := 1033) (by decide)) dX9_rightOf_182 ?_
            refine wp_run [(.iload_n 1, 1)] (pc' := 186) (L' := [(3, .inl (.int ((az + (xAI h 75 0 ((5 * b) + (xAI h 67 0 b.toNatClampNeg)).toNatClampNeg)) - (xAI h 70 0 b.toNatClampNeg)))), (2, .inl (.int az)), (0, .inr (10, some 0)), (1, .inl (.int b))]) (st' := [.inl (.int b), .inr (66, some 0)]) ⟨dX9_rightOf_185, trivial⟩ rfl rfl ?_
            refine wx_iald (Or.inl rfl) (vin_mono (n := 30) v_b (by decide)) dX9_rightOf_186 ?_
            refine wp_run [(.iconst 4, 1)] (pc' := 188) (L' := [(3, .inl (.int ((az + (xAI h 75 0 ((5 * b) + (xAI h 67 0 b.toNatClampNeg)).toNatClampNeg)) - (xAI h 70 0 b.toNatClampNeg)))), (2, .inl (.int az)), (0, .inr (10, some 0)), (1, .inl (.int b))]) (st' := [.inl (.int 4), .inl (.int (xAI h 66 0 b.toNatClampNeg))]) ⟨dX9_rightOf_187, trivial⟩ rfl rfl ?_
            refine wx_idiv (by decide) dX9_rightOf_188 ?_
            refine wx_goto (tgt := 193) dX9_rightOf_189 (by decide) ?_
            exact wx_iret rfl rfl dX9_rightOf_193 (by rw [B_X9_rightOf_21, if_pos h_2, if_pos h_3, if_neg h_4]; exact ⟨rfl, rfl⟩)
        · refine wp_run [(.aload_n 0, 1)] (pc' := 165) (L' := [(3, .inl (.int ((az + (xAI h 75 0 ((5 * b) + (xAI h 67 0 b.toNatClampNeg)).toNatClampNeg)) - (xAI h 70 0 b.toNatClampNeg)))), (2, .inl (.int az)), (0, .inr (10, some 0)), (1, .inl (.int b))]) (st' := [.inr (10, some 0)]) ⟨dX9_rightOf_164, trivial⟩ rfl rfl ?_
          refine wx_getR cls_10 (k := 33) (f := 1033) (t := 66) (o := some 0) (by decide) rfl rfl fl_X9_88 (W.fr (f := 1033) (by decide)) dX9_rightOf_165 ?_
          refine wp_run [(.iload_n 1, 1)] (pc' := 169) (L' := [(3, .inl (.int ((az + (xAI h 75 0 ((5 * b) + (xAI h 67 0 b.toNatClampNeg)).toNatClampNeg)) - (xAI h 70 0 b.toNatClampNeg)))), (2, .inl (.int az)), (0, .inr (10, some 0)), (1, .inl (.int b))]) (st' := [.inl (.int b), .inr (66, some 0)]) ⟨dX9_rightOf_168, trivial⟩ rfl rfl ?_
          refine wx_iald (Or.inl rfl) (vin_mono (n := 30) v_b (by decide)) dX9_rightOf_169 ?_
          refine wp_run [(.iconst 2, 1)] (pc' := 171) (L' := [(3, .inl (.int ((az + (xAI h 75 0 ((5 * b) + (xAI h 67 0 b.toNatClampNeg)).toNatClampNeg)) - (xAI h 70 0 b.toNatClampNeg)))), (2, .inl (.int az)), (0, .inr (10, some 0)), (1, .inl (.int b))]) (st' := [.inl (.int 2), .inl (.int (xAI h 66 0 b.toNatClampNeg))]) ⟨dX9_rightOf_170, trivial⟩ rfl rfl ?_
          refine wx_idiv (by decide) dX9_rightOf_171 ?_
          refine wx_goto (tgt := 193) dX9_rightOf_172 (by decide) ?_
          exact wx_iret rfl rfl dX9_rightOf_193 (by rw [B_X9_rightOf_21, if_pos h_2, if_neg h_3]; exact ⟨rfl, rfl⟩)
      · refine wp_run [(.aload_n 0, 1)] (pc' := 32) (L' := [(3, .inl (.int (nI k))), (2, .inl (.int az)), (0, .inr (10, some 0)), (1, .inl (.int b))]) (st' := [.inr (10, some 0)]) ⟨dX9_rightOf_31, trivial⟩ rfl rfl ?_
        refine wx_getR cls_10 (k := 38) (f := 1038) (t := 71) (o := some 0) (by decide) rfl rfl fl_X9_103 (W.fr (f := 1038) (by decide)) dX9_rightOf_32 ?_
        refine wp_run [(.iconst 4, 1), (.iload_n 1, 1), (.imul, 1), (.iload_n 3, 1), (.iadd, 1)] (pc' := 40) (L' := [(3, .inl (.int (nI k))), (2, .inl (.int az)), (0, .inr (10, some 0)), (1, .inl (.int b))]) (st' := [.inl (.int ((4 * b) + (nI k))), .inr (71, some 0)]) ⟨dX9_rightOf_35, dX9_rightOf_36, dX9_rightOf_37, dX9_rightOf_38, dX9_rightOf_39, trivial⟩ rfl rfl ?_
        refine wx_iald (Or.inl rfl) (vin_mono (n := 120) (vin_lin (c := 4) v_b (vin_mono (vin_lt hik h_2 (D.ai (s := 67) (b := 5) (by decide) _)) (by decide)) (by decide)) (by decide)) dX9_rightOf_40 ?_
        refine wp_run [(.istore 4, 2), (.aload_n 0, 1)] (pc' := 44) (L' := [(4, .inl (.int (xAI h 71 0 ((4 * b) + (nI k)).toNatClampNeg))), (3, .inl (.int (nI k))), (2, .inl (.int az)), (0, .inr (10, some 0)), (1, .inl (.int b))]) (st' := [.inr (10, some 0)]) ⟨dX9_rightOf_41, dX9_rightOf_43, trivial⟩ rfl rfl ?_
        refine wx_getR cls_10 (k := 39) (f := 1039) (t := 72) (o := some 0) (by decide) rfl rfl fl_X9_106 (W.fr (f := 1039) (by decide)) dX9_rightOf_44 ?_
        refine wp_run [(.iconst 4, 1), (.iload_n 1, 1), (.imul, 1), (.iload_n 3, 1), (.iadd, 1)] (pc' := 52) (L' := [(4, .inl (.int (xAI h 71 0 ((4 * b) + (nI k)).toNatClampNeg))), (3, .inl (.int (nI k))), (2, .inl (.int az)), (0, .inr (10, some 0)), (1, .inl (.int b))]) (st' := [.inl (.int ((4 * b) + (nI k))), .inr (72, some 0)]) ⟨dX9_rightOf_47, dX9_rightOf_48, dX9_rightOf_49, dX9_rightOf_50, dX9_rightOf_51, trivial⟩ rfl rfl ?_
        refine wx_iald (Or.inl rfl) (vin_mono (n := 120) (vin_lin (c := 4) v_b (vin_mono (vin_lt hik h_2 (D.ai (s := 67) (b := 5) (by decide) _)) (by decide)) (by decide)) (by decide)) dX9_rightOf_52 ?_
        refine wp_run [(.istore 5, 2), (.iload_n 2, 1), (.aload_n 0, 1)] (pc' := 57) (L' := [(5, .inl (.int (xAI h 72 0 ((4 * b) + (nI k)).toNatClampNeg))), (4, .inl (.int (xAI h 71 0 ((4 * b) + (nI k)).toNatClampNeg))), (3, .inl (.int (nI k))), (2, .inl (.int az)), (0, .inr (10, some 0)), (1, .inl (.int b))]) (st' := [.inr (10, some 0), .inl (.int az)]) ⟨dX9_rightOf_53, dX9_rightOf_55, dX9_rightOf_56, trivial⟩ rfl rfl ?_
        refine wx_getR cls_10 (k := 42) (f := 1042) (t := 75) (o := some 0) (by decide) rfl rfl fl_X9_115 (W.fr (f := 1042) (by decide)) dX9_rightOf_57 ?_
        refine wp_run [(.iconst 5, 1), (.iload_n 1, 1), (.imul, 1), (.iload_n 3, 1), (.iadd, 1)] (pc' := 65) (L' := [(5, .inl (.int (xAI h 72 0 ((4 * b) + (nI k)).toNatClampNeg))), (4, .inl (.int (xAI h 71 0 ((4 * b) + (nI k)).toNatClampNeg))), (3, .inl (.int (nI k))), (2, .inl (.int az)), (0, .inr (10, some 0)), (1, .inl (.int b))]) (st' := [.inl (.int ((5 * b) + (nI k))), .inr (75, some 0), .inl (.int az)]) ⟨dX9_rightOf_60, dX9_rightOf_61, dX9_rightOf_62, dX9_rightOf_63, dX9_rightOf_64, trivial⟩ rfl rfl ?_
        refine wx_iald (Or.inl rfl) (vin_mono (n := 150) (vin_lin (c := 5) v_b (vin_mono (vin_lt hik h_2 (D.ai (s := 67) (b := 5) (by decide) _)) (by decide)) (by decide)) (by decide)) dX9_rightOf_65 ?_
        refine wp_run [(.iadd, 1), (.istore_n 2, 1), (.aload_n 0, 1), (.iload 4, 2), (.iload 5, 2)] (pc' := 73) (L' := [(2, .inl (.int (az + (xAI h 75 0 ((5 * b) + (nI k)).toNatClampNeg)))), (5, .inl (.int (xAI h 72 0 ((4 * b) + (nI k)).toNatClampNeg))), (4, .inl (.int (xAI h 71 0 ((4 * b) + (nI k)).toNatClampNeg))), (3, .inl (.int (nI k))), (0, .inr (10, some 0)), (1, .inl (.int b))]) (st' := [.inl (.int (xAI h 72 0 ((4 * b) + (nI k)).toNatClampNeg)), .inl (.int (xAI h 71 0 ((4 * b) + (nI k)).toNatClampNeg)), .inr (10, some 0)]) ⟨dX9_rightOf_66, dX9_rightOf_67, dX9_rightOf_68, dX9_rightOf_69, dX9_rightOf_71, trivial⟩ rfl rfl ?_
        refine wx_virtualD (M := M_X9_rightOf) (uc := 0) (us := 0) (s := 10) (i := 0) (As := [.inl (.int (xAI h 71 0 ((4 * b) + (nI k)).toNatClampNeg)), .inl (.int (xAI h 72 0 ((4 * b) + (nI k)).toNatClampNeg))]) (rest := []) cls_10 rfl (ok_X9_goes _ _) ml_X9_166 im_X9_goes se_X9_goes (by omega) (c_X9_goes (d := d - 1) (h := h) (by omega) W (xAI h 71 0 ((4 * b) + (nI k)).toNatClampNeg) (xAI h 72 0 ((4 * b) + (nI k)).toNatClampNeg) D (vin_mono (n := 20) (D.ai (s := 71) (b := 20) (by decide) _) (by decide)) (vin_mono (n := 100) (D.ai (s := 72) (b := 100) (by decide) _) (by decide))) rfl rfl (Nat.le_of_ble_eq_true rfl) dX9_rightOf_73 ?_
        refine wx_if_eq (tgt := 101) dX9_rightOf_76 (by decide) (fun h_5 => ?_) (fun h_5 => ?_)
        · refine wp_run [(.aload_n 0, 1)] (pc' := 102) (L' := [(2, .inl (.int (az + (xAI h 75 0 ((5 * b) + (nI k)).toNatClampNeg)))), (5, .inl (.int (xAI h 72 0 ((4 * b) + (nI k)).toNatClampNeg))), (4, .inl (.int (xAI h 71 0 ((4 * b) + (nI k)).toNatClampNeg))), (3, .inl (.int (nI k))), (0, .inr (10, some 0)), (1, .inl (.int b))]) (st' := [.inr (10, some 0)]) ⟨dX9_rightOf_101, trivial⟩ rfl rfl ?_
          refine wx_getR cls_10 (k := 33) (f := 1033) (t := 66) (o := some 0) (by decide) rfl rfl fl_X9_88 (W.fr (f := 1033) (by decide)) dX9_rightOf_102 ?_
          refine wp_run [(.iload_n 1, 1)] (pc' := 106) (L' := [(2, .inl (.int (az + (xAI h 75 0 ((5 * b) + (nI k)).toNatClampNeg)))), (5, .inl (.int (xAI h 72 0 ((4 * b) + (nI k)).toNatClampNeg))), (4, .inl (.int (xAI h 71 0 ((4 * b) + (nI k)).toNatClampNeg))), (3, .inl (.int (nI k))), (0, .inr (10, some 0)), (1, .inl (.int b))]) (st' := [.inl (.int b), .inr (66, some 0)]) ⟨dX9_rightOf_105, trivial⟩ rfl rfl ?_
          refine wx_iald (Or.inl rfl) (vin_mono (n := 30) v_b (by decide)) dX9_rightOf_106 ?_
          exact wx_iret rfl rfl dX9_rightOf_107 (by rw [B_X9_rightOf_21, if_neg h_2, if_pos h_5]; exact ⟨rfl, rfl⟩)
        · refine wp_run [(.aload_n 0, 1), (.iload 4, 2), (.iload 5, 2), (.aload_n 0, 1)] (pc' := 85) (L' := [(2, .inl (.int (az + (xAI h 75 0 ((5 * b) + (nI k)).toNatClampNeg)))), (5, .inl (.int (xAI h 72 0 ((4 * b) + (nI k)).toNatClampNeg))), (4, .inl (.int (xAI h 71 0 ((4 * b) + (nI k)).toNatClampNeg))), (3, .inl (.int (nI k))), (0, .inr (10, some 0)), (1, .inl (.int b))]) (st' := [.inr (10, some 0), .inl (.int (xAI h 72 0 ((4 * b) + (nI k)).toNatClampNeg)), .inl (.int (xAI h 71 0 ((4 * b) + (nI k)).toNatClampNeg)), .inr (10, some 0)]) ⟨dX9_rightOf_79, dX9_rightOf_80, dX9_rightOf_82, dX9_rightOf_84, trivial⟩ rfl rfl ?_
          refine wx_getR cls_10 (k := 40) (f := 1040) (t := 73) (o := some 0) (by decide) rfl rfl fl_X9_109 (W.fr (f := 1040) (by decide)) dX9_rightOf_85 ?_
          refine wp_run [(.iconst 4, 1), (.iload_n 1, 1), (.imul, 1), (.iload_n 3, 1), (.iadd, 1)] (pc' := 93) (L' := [(2, .inl (.int (az + (xAI h 75 0 ((5 * b) + (nI k)).toNatClampNeg)))), (5, .inl (.int (xAI h 72 0 ((4 * b) + (nI k)).toNatClampNeg))), (4, .inl (.int (xAI h 71 0 ((4 * b) + (nI k)).toNatClampNeg))), (3, .inl (.int (nI k))), (0, .inr (10, some 0)), (1, .inl (.int b))]) (st' := [.inl (.int ((4 * b) + (nI k))), .inr (73, some 0), .inl (.int (xAI h 72 0 ((4 * b) + (nI k)).toNatClampNeg)), .inl (.int (xAI h 71 0 ((4 * b) + (nI k)).toNatClampNeg)), .inr (10, some 0)]) ⟨dX9_rightOf_88, dX9_rightOf_89, dX9_rightOf_90, dX9_rightOf_91, dX9_rightOf_92, trivial⟩ rfl rfl ?_
          refine wx_iald (Or.inl rfl) (vin_mono (n := 120) (vin_lin (c := 4) v_b (vin_mono (vin_lt hik h_2 (D.ai (s := 67) (b := 5) (by decide) _)) (by decide)) (by decide)) (by decide)) dX9_rightOf_93 ?_
          refine wx_virtualD (M := M_X9_rightOf) (uc := 0) (us := 0) (s := 10) (i := 0) (As := [.inl (.int (xAI h 71 0 ((4 * b) + (nI k)).toNatClampNeg)), .inl (.int (xAI h 72 0 ((4 * b) + (nI k)).toNatClampNeg)), .inl (.int (xAI h 73 0 ((4 * b) + (nI k)).toNatClampNeg))]) (rest := []) cls_10 rfl (ok_X9_departure _ _) ml_X9_169 im_X9_departure se_X9_departure (by omega) (c_X9_departure (d := d - 1) (h := h) (by omega) W (xAI h 71 0 ((4 * b) + (nI k)).toNatClampNeg) (xAI h 72 0 ((4 * b) + (nI k)).toNatClampNeg) (xAI h 73 0 ((4 * b) + (nI k)).toNatClampNeg) D (vin_mono (n := 20) (D.ai (s := 71) (b := 20) (by decide) _) (by decide)) (vin_mono (n := 100) (D.ai (s := 72) (b := 100) (by decide) _) (by decide)) (vin_mono (n := 6) (D.ai (s := 73) (b := 6) (by decide) _) (by decide))) rfl rfl (Nat.le_of_ble_eq_true rfl) dX9_rightOf_94 ?_
          refine wp_run [(.iload_n 2, 1)] (pc' := 98) (L' := [(2, .inl (.int (az + (xAI h 75 0 ((5 * b) + (nI k)).toNatClampNeg)))), (5, .inl (.int (xAI h 72 0 ((4 * b) + (nI k)).toNatClampNeg))), (4, .inl (.int (xAI h 71 0 ((4 * b) + (nI k)).toNatClampNeg))), (3, .inl (.int (nI k))), (0, .inr (10, some 0)), (1, .inl (.int b))]) (st' := [.inl (.int (az + (xAI h 75 0 ((5 * b) + (nI k)).toNatClampNeg))), .inl (.int (F_X9_departure h (xAI h 71 0 ((4 * b) + (nI k)).toNatClampNeg) (xAI h 72 0 ((4 * b) + (nI k)).toNatClampNeg) (xAI h 73 0 ((4 * b) + (nI k)).toNatClampNeg)))]) ⟨dX9_rightOf_97, trivial⟩ rfl rfl ?_
          refine wx_icmp_ge (tgt := 108) dX9_rightOf_98 (by decide) (fun h_6 => ?_) (fun h_6 => ?_)
          · refine wp_run [(.aload_n 0, 1), (.iload 4, 2), (.iload 5, 2), (.aload_n 0, 1)] (pc' := 114) (L' := [(2, .inl (.int (az + (xAI h 75 0 ((5 * b) + (nI k)).toNatClampNeg)))), (5, .inl (.int (xAI h 72 0 ((4 * b) + (nI k)).toNatClampNeg))), (4, .inl (.int (xAI h 71 0 ((4 * b) + (nI k)).toNatClampNeg))), (3, .inl (.int (nI k))), (0, .inr (10, some 0)), (1, .inl (.int b))]) (st' := [.inr (10, some 0), .inl (.int (xAI h 72 0 ((4 * b) + (nI k)).toNatClampNeg)), .inl (.int (xAI h 71 0 ((4 * b) + (nI k)).toNatClampNeg)), .inr (10, some 0)]) ⟨dX9_rightOf_108, dX9_rightOf_109, dX9_rightOf_111, dX9_rightOf_113, trivial⟩ rfl rfl ?_
            refine wx_getR cls_10 (k := 41) (f := 1041) (t := 74) (o := some 0) (by decide) rfl rfl fl_X9_112 (W.fr (f := 1041) (by decide)) dX9_rightOf_114 ?_
            refine wp_run [(.iconst 4, 1), (.iload_n 1, 1), (.imul, 1), (.iload_n 3, 1), (.iadd, 1)] (pc' := 122) (L' := [(2, .inl (.int (az + (xAI h 75 0 ((5 * b) + (nI k)).toNatClampNeg)))), (5, .inl (.int (xAI h 72 0 ((4 * b) + (nI k)).toNatClampNeg))), (4, .inl (.int (xAI h 71 0 ((4 * b) + (nI k)).toNatClampNeg))), (3, .inl (.int (nI k))), (0, .inr (10, some 0)), (1, .inl (.int b))]) (st' := [.inl (.int ((4 * b) + (nI k))), .inr (74, some 0), .inl (.int (xAI h 72 0 ((4 * b) + (nI k)).toNatClampNeg)), .inl (.int (xAI h 71 0 ((4 * b) + (nI k)).toNatClampNeg)), .inr (10, some 0)]) ⟨dX9_rightOf_117, dX9_rightOf_118, dX9_rightOf_119, dX9_rightOf_120, dX9_rightOf_121, trivial⟩ rfl rfl ?_
            refine wx_iald (Or.inl rfl) (vin_mono (n := 120) (vin_lin (c := 4) v_b (vin_mono (vin_lt hik h_2 (D.ai (s := 67) (b := 5) (by decide) _)) (by decide)) (by decide)) (by decide)) dX9_rightOf_122 ?_
            refine wx_virtualD (M := M_X9_rightOf) (uc := 0) (us := 0) (s := 10) (i := 0) (As := [.inl (.int (xAI h 71 0 ((4 * b) + (nI k)).toNatClampNeg)), .inl (.int (xAI h 72 0 ((4 * b) + (nI k)).toNatClampNeg)), .inl (.int (xAI h 74 0 ((4 * b) + (nI k)).toNatClampNeg))]) (rest := []) cls_10 rfl (ok_X9_arrivalOf _ _) ml_X9_173 im_X9_arrivalOf se_X9_arrivalOf (by omega) (c_X9_arrivalOf (d := d - 1) (h := h) (by omega) W (xAI h 71 0 ((4 * b) + (nI k)).toNatClampNeg) (xAI h 72 0 ((4 * b) + (nI k)).toNatClampNeg) (xAI h 74 0 ((4 * b) + (nI k)).toNatClampNeg) D (vin_mono (n := 20) (D.ai (s := 71) (b := 20) (by decide) _) (by decide)) (vin_mono (n := 100) (D.ai (s := 72) (b := 100) (by decide) _) (by decide)) (vin_mono (n := 6) (D.ai (s := 74) (b := 6) (by decide) _) (by decide))) rfl rfl (Nat.le_of_ble_eq_true rfl) dX9_rightOf_123 ?_
            refine wp_run [(.istore_n 2, 1), (.iinc 3 1, 3)] (pc' := 130) (L' := [(3, .inl (.int ((nI k) + 1))), (2, .inl (.int (F_X9_arrivalOf h (xAI h 71 0 ((4 * b) + (nI k)).toNatClampNeg) (xAI h 72 0 ((4 * b) + (nI k)).toNatClampNeg) (xAI h 74 0 ((4 * b) + (nI k)).toNatClampNeg)))), (5, .inl (.int (xAI h 72 0 ((4 * b) + (nI k)).toNatClampNeg))), (4, .inl (.int (xAI h 71 0 ((4 * b) + (nI k)).toNatClampNeg))), (0, .inr (10, some 0)), (1, .inl (.int b))]) (st' := []) ⟨dX9_rightOf_126, dX9_rightOf_127, trivial⟩ rfl rfl ?_
            refine wx_goto (tgt := 21) dX9_rightOf_130 (by decide) ?_
            rw [B_X9_rightOf_21, if_neg h_2, if_neg h_5, if_pos h_6]
            rw [nI_1 k]
            refine wp_sub [0, 1, 4, 5] (L' := [(3, .inl (.int (nI (k + 1)))), (2, .inl (.int (F_X9_arrivalOf h (xAI h 71 0 ((4 * b) + (nI k)).toNatClampNeg) (xAI h 72 0 ((4 * b) + (nI k)).toNatClampNeg) (xAI h 74 0 ((4 * b) + (nI k)).toNatClampNeg)))), (0, .inr (10, some 0)), (1, .inl (.int b))]) rfl ?_
            exact ih21 _ _ (cy_nlt hik h_2).2 (by have := (cy_nlt hik h_2).2; omega)
          · refine wp_run [(.aload_n 0, 1)] (pc' := 102) (L' := [(2, .inl (.int (az + (xAI h 75 0 ((5 * b) + (nI k)).toNatClampNeg)))), (5, .inl (.int (xAI h 72 0 ((4 * b) + (nI k)).toNatClampNeg))), (4, .inl (.int (xAI h 71 0 ((4 * b) + (nI k)).toNatClampNeg))), (3, .inl (.int (nI k))), (0, .inr (10, some 0)), (1, .inl (.int b))]) (st' := [.inr (10, some 0)]) ⟨dX9_rightOf_101, trivial⟩ rfl rfl ?_
            refine wx_getR cls_10 (k := 33) (f := 1033) (t := 66) (o := some 0) (by decide) rfl rfl fl_X9_88 (W.fr (f := 1033) (by decide)) dX9_rightOf_102 ?_
            refine wp_run [(.iload_n 1, 1)] (pc' := 106) (L' := [(2, .inl (.int (az + (xAI h 75 0 ((5 * b) + (nI k)).toNatClampNeg)))), (5, .inl (.int (xAI h 72 0 ((4 * b) + (nI k)).toNatClampNeg))), (4, .inl (.int (xAI h 71 0 ((4 * b) + (nI k)).toNatClampNeg))), (3, .inl (.int (nI k))), (0, .inr (10, some 0)), (1, .inl (.int b))]) (st' := [.inl (.int b), .inr (66, some 0)]) ⟨dX9_rightOf_105, trivial⟩ rfl rfl ?_
            refine wx_iald (Or.inl rfl) (vin_mono (n := 30) v_b (by decide)) dX9_rightOf_106 ?_
            exact wx_iret rfl rfl dX9_rightOf_107 (by rw [B_X9_rightOf_21, if_neg h_2, if_neg h_5, if_neg h_6]; exact ⟨rfl, rfl⟩)
  · refine wp_run [(.iconst 0, 1)] (pc' := 11) (L' := [(0, .inr (10, some 0)), (1, .inl (.int b))]) (st' := [.inl (.int 0)]) ⟨dX9_rightOf_10, trivial⟩ rfl rfl ?_
    exact wx_iret rfl rfl dX9_rightOf_11 (by rw [F_X9_rightOf, if_neg h_1]; exact ⟨rfl, rfl⟩)
def F_X9_right (h : Hp) (b : Int32) : Int32 × Hp := (if okR b 0 (xFI h 1031 0 - 1) then ((F_X9_rightOf (sFI h 1043 0 0) b), sFI h 1043 0 0) else (0, sFI h 1043 0 1))
set_option maxRecDepth 20000 in
theorem c_X9_right {g : GT} {d : Nat} (hd : 4 ≤ d) {h : Hp} (W : MW h) (b : Int32) (D : DM h)  : Ctr g M_X9_right d 0 0 [.inr (10, some 0), .inl (.int b)] h (cy_detP (.inl (some (.inl (.int (F_X9_right h b).1)))) (F_X9_right h b).2 (MP h (F_X9_right h b).2)) := by
  refine cy_body rfl rfl (by decide) (Nat.le_of_ble_eq_true rfl) ?_
  refine wp_run [(.aload_n 0, 1), (.aload_n 0, 1), (.iload_n 1, 1)] (pc' := 3) (L' := [(0, .inr (10, some 0)), (1, .inl (.int b))]) (st' := [.inl (.int b), .inr (10, some 0), .inr (10, some 0)]) ⟨dX9_right_0, dX9_right_1, dX9_right_2, trivial⟩ rfl rfl ?_
  by_cases h_1 : okR b 0 (xFI h 1031 0 - 1)
  · refine wx_virtualD (M := M_X9_right) (uc := 0) (us := 0) (s := 10) (i := 0) (As := [.inl (.int b)]) (rest := [.inr (10, some 0)]) cls_10 rfl (ok_X9_isBooking _ _) ml_X9_256 im_X9_isBooking se_X9_isBooking (by omega) (det_to (c_X9_isBooking (d := d - 1) (h := h) (by omega) W b D) (by rw [isBooking_ok h_1]) rfl) rfl rfl (Nat.le_of_ble_eq_true rfl) dX9_right_3 ?_
    refine wx_virtualDP (M := M_X9_right) (uc := 0) (us := 0) (s := 10) (i := 0) (As := [.inl (.int 1)]) (rest := []) cls_10 rfl (ok_X9_asks _ _) ml_X9_138 im_X9_asks se_X9_asks (by omega) (c_asks1 (d := d - 1) (h := h) (by omega) W D) rfl rfl (Nat.le_of_ble_eq_true rfl) dX9_right_6 (fun hS_2 => ?_)
    refine wx_if_eq (tgt := 20) dX9_right_9 (by decide) (fun h => absurd h (by decide)) (fun _ => ?_)
    refine wp_run [(.aload_n 0, 1), (.iload_n 1, 1)] (pc' := 14) (L' := [(0, .inr (10, some 0)), (1, .inl (.int b))]) (st' := [.inl (.int b), .inr (10, some 0)]) ⟨dX9_right_12, dX9_right_13, trivial⟩ rfl rfl ?_
    refine wx_virtualD (M := M_X9_right) (uc := 0) (us := 0) (s := 10) (i := 0) (As := [.inl (.int b)]) (rest := []) cls_10 rfl (ok_X9_rightOf _ _) ml_X9_259 im_X9_rightOf se_X9_rightOf (by omega) (c_X9_rightOf (d := d - 1) (h := (sFI h 1043 0 0)) (by omega) (W.sr hS_2.1) b hS_2.2 (vin_mono (n := 30) (vin_cnt (n := 30) (D.fi (f := 1031) (by decide)) (by decide) h_1) (by decide))) rfl rfl (Nat.le_of_ble_eq_true rfl) dX9_right_14 ?_
    refine wx_goto (tgt := 21) dX9_right_17 (by decide) ?_
    exact wx_iret rfl rfl dX9_right_21 (by rw [F_X9_right, if_pos h_1]; dsimp only; exact ⟨⟨hS_2.1, hS_2.2⟩, rfl, rfl⟩)
  · refine wx_virtualD (M := M_X9_right) (uc := 0) (us := 0) (s := 10) (i := 0) (As := [.inl (.int b)]) (rest := [.inr (10, some 0)]) cls_10 rfl (ok_X9_isBooking _ _) ml_X9_256 im_X9_isBooking se_X9_isBooking (by omega) (det_to (c_X9_isBooking (d := d - 1) (h := h) (by omega) W b D) (by rw [isBooking_no h_1]) rfl) rfl rfl (Nat.le_of_ble_eq_true rfl) dX9_right_3 ?_
    refine wx_virtualDP (M := M_X9_right) (uc := 0) (us := 0) (s := 10) (i := 0) (As := [.inl (.int 0)]) (rest := []) cls_10 rfl (ok_X9_asks _ _) ml_X9_138 im_X9_asks se_X9_asks (by omega) (c_asks0 (d := d - 1) (h := h) (by omega) W D) rfl rfl (Nat.le_of_ble_eq_true rfl) dX9_right_6 (fun hS_3 => ?_)
    refine wx_if_eq (tgt := 20) dX9_right_9 (by decide) (fun _ => ?_) (fun h => absurd h (by decide))
    refine wp_run [(.iconst 0, 1)] (pc' := 21) (L' := [(0, .inr (10, some 0)), (1, .inl (.int b))]) (st' := [.inl (.int 0)]) ⟨dX9_right_20, trivial⟩ rfl rfl ?_
    exact wx_iret rfl rfl dX9_right_21 (by rw [F_X9_right, if_neg h_1]; dsimp only; exact ⟨⟨hS_3.1, hS_3.2⟩, rfl, rfl⟩)
def F_X9_claim (h : Hp) (b : Int32) : Int32 × Hp := (if okR b 0 (xFI h 1031 0 - 1) then (if (F_X9_rightOf (sFI h 1043 0 0) b) = 0 then (0, sFI (sFI h 1043 0 0) 1043 0 2) else ((F_X9_rightOf (sFI h 1043 0 0) b), sAI (sFI h 1043 0 0) 65 0 b.toNatClampNeg 3)) else (0, sFI h 1043 0 1))
set_option maxRecDepth 20000 in
theorem c_X9_claim {g : GT} {d : Nat} (hd : 4 ≤ d) {h : Hp} (W : MW h) (b : Int32) (D : DM h)  : Ctr g M_X9_claim d 0 0 [.inr (10, some 0), .inl (.int b)] h (cy_detP (.inl (some (.inl (.int (F_X9_claim h b).1)))) (F_X9_claim h b).2 (MP h (F_X9_claim h b).2)) := by
  refine cy_body rfl rfl (by decide) (Nat.le_of_ble_eq_true rfl) ?_
  refine wp_run [(.aload_n 0, 1), (.aload_n 0, 1), (.iload_n 1, 1)] (pc' := 3) (L' := [(0, .inr (10, some 0)), (1, .inl (.int b))]) (st' := [.inl (.int b), .inr (10, some 0), .inr (10, some 0)]) ⟨dX9_claim_0, dX9_claim_1, dX9_claim_2, trivial⟩ rfl rfl ?_
  by_cases h_1 : okR b 0 (xFI h 1031 0 - 1)
  · refine wx_virtualD (M := M_X9_claim) (uc := 0) (us := 0) (s := 10) (i := 0) (As := [.inl (.int b)]) (rest := [.inr (10, some 0)]) cls_10 rfl (ok_X9_isBooking _ _) ml_X9_256 im_X9_isBooking se_X9_isBooking (by omega) (det_to (c_X9_isBooking (d := d - 1) (h := h) (by omega) W b D) (by rw [isBooking_ok h_1]) rfl) rfl rfl (Nat.le_of_ble_eq_true rfl) dX9_claim_3 ?_
    refine wx_virtualDP (M := M_X9_claim) (uc := 0) (us := 0) (s := 10) (i := 0) (As := [.inl (.int 1)]) (rest := []) cls_10 rfl (ok_X9_asks _ _) ml_X9_138 im_X9_asks se_X9_asks (by omega) (c_asks1 (d := d - 1) (h := h) (by omega) W D) rfl rfl (Nat.le_of_ble_eq_true rfl) dX9_claim_6 (fun hS_2 => ?_)
    refine wx_if_ne (tgt := 14) dX9_claim_9 (by decide) (fun _ => ?_) (fun h => absurd h (by decide))
    refine wp_run [(.aload_n 0, 1), (.iload_n 1, 1)] (pc' := 16) (L' := [(0, .inr (10, some 0)), (1, .inl (.int b))]) (st' := [.inl (.int b), .inr (10, some 0)]) ⟨dX9_claim_14, dX9_claim_15, trivial⟩ rfl rfl ?_
    refine wx_virtualD (M := M_X9_claim) (uc := 0) (us := 0) (s := 10) (i := 0) (As := [.inl (.int b)]) (rest := []) cls_10 rfl (ok_X9_rightOf _ _) ml_X9_259 im_X9_rightOf se_X9_rightOf (by omega) (c_X9_rightOf (d := d - 1) (h := (sFI h 1043 0 0)) (by omega) (W.sr hS_2.1) b hS_2.2 (vin_mono (n := 30) (vin_cnt (n := 30) (D.fi (f := 1031) (by decide)) (by decide) h_1) (by decide))) rfl rfl (Nat.le_of_ble_eq_true rfl) dX9_claim_16 ?_
    refine wp_run [(.istore_n 2, 1), (.iload_n 2, 1)] (pc' := 21) (L' := [(2, .inl (.int (F_X9_rightOf (sFI h 1043 0 0) b))), (0, .inr (10, some 0)), (1, .inl (.int b))]) (st' := [.inl (.int (F_X9_rightOf (sFI h 1043 0 0) b))]) ⟨dX9_claim_19, dX9_claim_20, trivial⟩ rfl rfl ?_
    refine wx_if_ne (tgt := 30) dX9_claim_21 (by decide) (fun h_3 => ?_) (fun h_3 => ?_)
    · refine wp_run [(.aload_n 0, 1)] (pc' := 31) (L' := [(2, .inl (.int (F_X9_rightOf (sFI h 1043 0 0) b))), (0, .inr (10, some 0)), (1, .inl (.int b))]) (st' := [.inr (10, some 0)]) ⟨dX9_claim_30, trivial⟩ rfl rfl ?_
      refine wx_getR cls_10 (k := 32) (f := 1032) (t := 65) (o := some 0) (by decide) rfl rfl fl_X9_85 ((W.sr hS_2.1).fr (f := 1032) (by decide)) dX9_claim_31 ?_
      refine wp_run [(.iload_n 1, 1), (.iconst 3, 1)] (pc' := 36) (L' := [(2, .inl (.int (F_X9_rightOf (sFI h 1043 0 0) b))), (0, .inr (10, some 0)), (1, .inl (.int b))]) (st' := [.inl (.int 3), .inl (.int b), .inr (65, some 0)]) ⟨dX9_claim_34, dX9_claim_35, trivial⟩ rfl rfl ?_
      refine wx_iast rfl (vin_mono (n := 30) (vin_cnt (n := 30) (D.fi (f := 1031) (by decide)) (by decide) h_1) (by decide)) dX9_claim_36 ?_
      have D_4 : DM (sAI (sFI h 1043 0 0) 65 0 b.toNatClampNeg 3) := hS_2.2.put (by decide)
      refine wp_run [(.iload_n 2, 1)] (pc' := 38) (L' := [(2, .inl (.int (F_X9_rightOf (sFI h 1043 0 0) b))), (0, .inr (10, some 0)), (1, .inl (.int b))]) (st' := [.inl (.int (F_X9_rightOf (sFI h 1043 0 0) b))]) ⟨dX9_claim_37, trivial⟩ rfl rfl ?_
      exact wx_iret rfl rfl dX9_claim_38 (by rw [F_X9_claim, if_pos h_1, if_neg h_3]; dsimp only; exact ⟨⟨hS_2.1, D_4⟩, rfl, rfl⟩)
    · refine wp_run [(.aload_n 0, 1), (.iconst 2, 1)] (pc' := 26) (L' := [(2, .inl (.int (F_X9_rightOf (sFI h 1043 0 0) b))), (0, .inr (10, some 0)), (1, .inl (.int b))]) (st' := [.inl (.int 2), .inr (10, some 0)]) ⟨dX9_claim_24, dX9_claim_25, trivial⟩ rfl rfl ?_
      refine wx_virtualDP (M := M_X9_claim) (uc := 0) (us := 0) (s := 10) (i := 0) (As := [.inl (.int 2)]) (rest := []) cls_10 rfl (ok_X9_fails _ _) ml_X9_142 im_X9_fails se_X9_fails (by omega) (c_fails (d := d - 1) (h := (sFI h 1043 0 0)) (by omega) (W.sr hS_2.1) 2 hS_2.2) rfl rfl (Nat.le_of_ble_eq_true rfl) dX9_claim_26 (fun hS_5 => ?_)
      exact wx_iret rfl rfl dX9_claim_29 (by rw [F_X9_claim, if_pos h_1, if_pos h_3]; dsimp only; exact ⟨⟨(hS_2.1.trans hS_5.1), hS_5.2⟩, rfl, rfl⟩)
  · refine wx_virtualD (M := M_X9_claim) (uc := 0) (us := 0) (s := 10) (i := 0) (As := [.inl (.int b)]) (rest := [.inr (10, some 0)]) cls_10 rfl (ok_X9_isBooking _ _) ml_X9_256 im_X9_isBooking se_X9_isBooking (by omega) (det_to (c_X9_isBooking (d := d - 1) (h := h) (by omega) W b D) (by rw [isBooking_no h_1]) rfl) rfl rfl (Nat.le_of_ble_eq_true rfl) dX9_claim_3 ?_
    refine wx_virtualDP (M := M_X9_claim) (uc := 0) (us := 0) (s := 10) (i := 0) (As := [.inl (.int 0)]) (rest := []) cls_10 rfl (ok_X9_asks _ _) ml_X9_138 im_X9_asks se_X9_asks (by omega) (c_asks0 (d := d - 1) (h := h) (by omega) W D) rfl rfl (Nat.le_of_ble_eq_true rfl) dX9_claim_6 (fun hS_6 => ?_)
    refine wx_if_ne (tgt := 14) dX9_claim_9 (by decide) (fun h => absurd h (by decide)) (fun _ => ?_)
    refine wp_run [(.iconst 0, 1)] (pc' := 13) (L' := [(0, .inr (10, some 0)), (1, .inl (.int b))]) (st' := [.inl (.int 0)]) ⟨dX9_claim_12, trivial⟩ rfl rfl ?_
    exact wx_iret rfl rfl dX9_claim_13 (by rw [F_X9_claim, if_neg h_1]; dsimp only; exact ⟨⟨hS_6.1, hS_6.2⟩, rfl, rfl⟩)
def B_X9_concerned_32 (h : Hp) (t : Int32) (dy : Int32) (rec32 : Int32 → Nat → (Int32 × Hp)) (su : Int32) (b : Nat) : Int32 × Hp := (if (xFI (sFI h 1043 0 0) 1031 0) ≤ (nI b) then (su, sFI h 1043 0 0) else (rec32 (su ||| ((if (xAI (sFI h 1043 0 0) 65 0 (nI b).toNatClampNeg) = 0 then (if (F_X9_hasRide (sFI h 1043 0 0) (nI b) t dy) = 0 then 0 else (1 <<< ((nI b) &&& 31))) else (if (xAI (sFI h 1043 0 0) 65 0 (nI b).toNatClampNeg) = 1 then (if (F_X9_hasRide (sFI h 1043 0 0) (nI b) t dy) = 0 then 0 else (1 <<< ((nI b) &&& 31))) else 0)) : Int32)) (b + 1)))
def L_X9_concerned_32 (h : Hp) (t : Int32) (dy : Int32) : Nat → Int32 → Nat → (Int32 × Hp)
  | 0 => fun su b => (0, h)
  | fu + 1 => B_X9_concerned_32 h t dy (L_X9_concerned_32 h t dy fu)
theorem L_X9_concerned_32_s (h : Hp) (t : Int32) (dy : Int32) (fu : Nat) (su : Int32) (b : Nat) : L_X9_concerned_32 h t dy (fu + 1) su b = B_X9_concerned_32 h t dy (L_X9_concerned_32 h t dy fu) su b := rfl
def F_X9_concerned (h : Hp) (t : Int32) (dy : Int32) : Int32 × Hp := (if okR t 0 (xFI h 1003 0 - 1) then (if okR dy 0 99 then L_X9_concerned_32 h t dy (2147483648 - 0 + 1) 0 0 else (0, sFI (sFI h 1043 0 0) 1043 0 2)) else (0, sFI h 1043 0 1))
set_option maxRecDepth 20000 in
theorem c_X9_concerned {g : GT} {d : Nat} (hd : 3 ≤ d) {h : Hp} (W : MW h) (t : Int32) (dy : Int32) (D : DM h)  : Ctr g M_X9_concerned d 0 0 [.inr (10, some 0), .inl (.int t), .inl (.int dy)] h (cy_detP (.inl (some (.inl (.int (F_X9_concerned h t dy).1)))) (F_X9_concerned h t dy).2 (MP h (F_X9_concerned h t dy).2)) := by
  refine cy_body rfl rfl (by decide) (Nat.le_of_ble_eq_true rfl) ?_
  refine wp_run [(.aload_n 0, 1), (.aload_n 0, 1), (.iload_n 1, 1)] (pc' := 3) (L' := [(0, .inr (10, some 0)), (1, .inl (.int t)), (2, .inl (.int dy))]) (st' := [.inl (.int t), .inr (10, some 0), .inr (10, some 0)]) ⟨dX9_concerned_0, dX9_concerned_1, dX9_concerned_2, trivial⟩ rfl rfl ?_
  by_cases h_1 : okR t 0 (xFI h 1003 0 - 1)
  · refine wx_virtualD (M := M_X9_concerned) (uc := 0) (us := 0) (s := 10) (i := 0) (As := [.inl (.int t)]) (rest := [.inr (10, some 0)]) cls_10 rfl (ok_X9_isTrip _ _) ml_X9_153 im_X9_isTrip se_X9_isTrip (by omega) (det_to (c_X9_isTrip (d := d - 1) (h := h) (by omega) W t D) (by rw [isTrip_ok h_1]) rfl) rfl rfl (Nat.le_of_ble_eq_true rfl) dX9_concerned_3 ?_
    refine wx_virtualDP (M := M_X9_concerned) (uc := 0) (us := 0) (s := 10) (i := 0) (As := [.inl (.int 1)]) (rest := []) cls_10 rfl (ok_X9_asks _ _) ml_X9_138 im_X9_asks se_X9_asks (by omega) (c_asks1 (d := d - 1) (h := h) (by omega) W D) rfl rfl (Nat.le_of_ble_eq_true rfl) dX9_concerned_6 (fun hS_2 => ?_)
    refine wx_if_ne (tgt := 14) dX9_concerned_9 (by decide) (fun _ => ?_) (fun h => absurd h (by decide))
    refine wp_run [(.iload_n 2, 1)] (pc' := 15) (L' := [(0, .inr (10, some 0)), (1, .inl (.int t)), (2, .inl (.int dy))]) (st' := [.inl (.int dy)]) ⟨dX9_concerned_14, trivial⟩ rfl rfl ?_
    by_cases h_3 : okR dy 0 99
    · refine wx_staticD (M := M_X9_concerned) (uc := 0) (us := 0) (As := [.inl (.int dy)]) (rest := []) (ok_X9_isDay _ _) ml_X9_156 st_X9_isDay (by omega) (det_to (c_X9_isDay (d := d - 1) (h := (sFI h 1043 0 0)) (by omega) dy) (by rw [isDay_ok h_3]) rfl) rfl rfl (Nat.le_of_ble_eq_true rfl) dX9_concerned_15 ?_
      refine wx_if_ne (tgt := 27) dX9_concerned_18 (by decide) (fun _ => ?_) (fun h => absurd h (by decide))
      refine wp_run [(.iconst 0, 1), (.istore_n 3, 1), (.iconst 0, 1), (.istore 4, 2)] (pc' := 32) (L' := [(4, .inl (.int 0)), (3, .inl (.int 0)), (0, .inr (10, some 0)), (1, .inl (.int t)), (2, .inl (.int dy))]) (st' := []) ⟨dX9_concerned_27, dX9_concerned_28, dX9_concerned_29, dX9_concerned_30, trivial⟩ rfl rfl ?_
      rw [F_X9_concerned, if_pos h_1, if_pos h_3]
      refine wp_sub [0, 1, 2, 3, 4] (L' := [(4, .inl (.int 0)), (3, .inl (.int 0)), (0, .inr (10, some 0)), (1, .inl (.int t)), (2, .inl (.int dy))]) rfl ?_
      suffices Y32 : ∀ (n32 : Nat) (su : Int32) (b : Nat) (hib : b < 2147483648) (hm32 : 2147483648 - b < n32), WP g M_X9_concerned d 0 0 32 [(4, .inl (.int (nI b))), (3, .inl (.int su)), (0, .inr (10, some 0)), (1, .inl (.int t)), (2, .inl (.int dy))] [] (sFI h 1043 0 0) (cy_detP (.inl (some (.inl (.int (L_X9_concerned_32 h t dy n32 su b).1)))) (L_X9_concerned_32 h t dy n32 su b).2 (MP h (L_X9_concerned_32 h t dy n32 su b).2)) from
        Y32 (2147483648 - 0 + 1) 0 0 (by decide) (Nat.lt_succ_self _)
      intro n32
      induction n32 with
      | zero => intro su b hib hm32; exact absurd hm32 (Nat.not_lt_zero _)
      | succ n32 ih32 =>
        intro su b hib hm32
        rw [L_X9_concerned_32_s]
        generalize L_X9_concerned_32 h t dy n32 = rec32 at ih32 ⊢
        refine wp_run [(.iload 4, 2), (.aload_n 0, 1)] (pc' := 35) (L' := [(4, .inl (.int (nI b))), (3, .inl (.int su)), (0, .inr (10, some 0)), (1, .inl (.int t)), (2, .inl (.int dy))]) (st' := [.inr (10, some 0), .inl (.int (nI b))]) ⟨dX9_concerned_32, dX9_concerned_34, trivial⟩ rfl rfl ?_
        refine wx_getI cls_10 (k := 31) (f := 1031) (by decide) rfl rfl fl_X9_135 dX9_concerned_35 ?_
        refine wx_icmp_ge (tgt := 90) dX9_concerned_38 (by decide) (fun h_4 => ?_) (fun h_4 => ?_)
        · refine wp_run [(.iload_n 3, 1)] (pc' := 91) (L' := [(4, .inl (.int (nI b))), (3, .inl (.int su)), (0, .inr (10, some 0)), (1, .inl (.int t)), (2, .inl (.int dy))]) (st' := [.inl (.int su)]) ⟨dX9_concerned_90, trivial⟩ rfl rfl ?_
          exact wx_iret rfl rfl dX9_concerned_91 (by rw [B_X9_concerned_32, if_pos h_4]; dsimp only; exact ⟨⟨hS_2.1, hS_2.2⟩, rfl, rfl⟩)
        · refine wp_run [(.iload_n 3, 1), (.aload_n 0, 1)] (pc' := 43) (L' := [(4, .inl (.int (nI b))), (3, .inl (.int su)), (0, .inr (10, some 0)), (1, .inl (.int t)), (2, .inl (.int dy))]) (st' := [.inr (10, some 0), .inl (.int su)]) ⟨dX9_concerned_41, dX9_concerned_42, trivial⟩ rfl rfl ?_
          refine wx_getR cls_10 (k := 32) (f := 1032) (t := 65) (o := some 0) (by decide) rfl rfl fl_X9_85 ((W.sr hS_2.1).fr (f := 1032) (by decide)) dX9_concerned_43 ?_
          refine wp_run [(.iload 4, 2)] (pc' := 48) (L' := [(4, .inl (.int (nI b))), (3, .inl (.int su)), (0, .inr (10, some 0)), (1, .inl (.int t)), (2, .inl (.int dy))]) (st' := [.inl (.int (nI b)), .inr (65, some 0), .inl (.int su)]) ⟨dX9_concerned_46, trivial⟩ rfl rfl ?_
          refine wx_iald (Or.inl rfl) (vin_mono (n := 30) (vin_lt hib h_4 (hS_2.2.fi (f := 1031) (b := 31) (by decide))) (by decide)) dX9_concerned_48 ?_
          refine wp_by (uc' := 0) (us' := 0) (pc' := 82) (L' := [(4, .inl (.int (nI b))), (3, .inl (.int su)), (0, .inr (10, some 0)), (1, .inl (.int t)), (2, .inl (.int dy))]) (st' := [.inl (.int ((if (xAI (sFI h 1043 0 0) 65 0 (nI b).toNatClampNeg) = 0 then (if (F_X9_hasRide (sFI h 1043 0 0) (nI b) t dy) = 0 then 0 else (1 <<< ((nI b) &&& 31))) else (if (xAI (sFI h 1043 0 0) 65 0 (nI b).toNatClampNeg) = 1 then (if (F_X9_hasRide (sFI h 1043 0 0) (nI b) t dy) = 0 then 0 else (1 <<< ((nI b) &&& 31))) else 0)) : Int32)), .inl (.int su)]) (h' := (sFI h 1043 0 0)) (fun J_5 => ?_) ?_
          · refine wx_if_eq (tgt := 63) dX9_concerned_49 (by decide) (fun h_6 => ?_) (fun h_6 => ?_)
            · refine wp_run [(.aload_n 0, 1), (.iload 4, 2), (.iload_n 1, 1), (.iload_n 2, 1)] (pc' := 68) (L' := [(4, .inl (.int (nI b))), (3, .inl (.int su)), (0, .inr (10, some 0)), (1, .inl (.int t)), (2, .inl (.int dy))]) (st' := [.inl (.int dy), .inl (.int t), .inl (.int (nI b)), .inr (10, some 0), .inl (.int su)]) ⟨dX9_concerned_63, dX9_concerned_64, dX9_concerned_66, dX9_concerned_67, trivial⟩ rfl rfl ?_
              refine wx_virtualD (M := M_X9_concerned) (uc := 0) (us := 0) (s := 10) (i := 0) (As := [.inl (.int (nI b)), .inl (.int t), .inl (.int dy)]) (rest := [.inl (.int su)]) cls_10 rfl (ok_X9_hasRide _ _) ml_X9_250 im_X9_hasRide se_X9_hasRide (by omega) (c_X9_hasRide (d := d - 1) (h := (sFI h 1043 0 0)) (by omega) (W.sr hS_2.1) (nI b) t dy hS_2.2 (vin_mono (n := 30) (vin_lt hib h_4 (hS_2.2.fi (f := 1031) (b := 31) (by decide))) (by decide))) rfl rfl (Nat.le_of_ble_eq_true rfl) dX9_concerned_68 ?_
              refine wx_if_eq (tgt := 81) dX9_concerned_71 (by decide) (fun h_7 => ?_) (fun h_7 => ?_)
              · refine wp_run [(.iconst 0, 1)] (pc' := 82) (L' := [(4, .inl (.int (nI b))), (3, .inl (.int su)), (0, .inr (10, some 0)), (1, .inl (.int t)), (2, .inl (.int dy))]) (st' := [.inl (.int 0), .inl (.int su)]) ⟨dX9_concerned_81, trivial⟩ rfl rfl ?_
                refine wp_sub [0, 1, 2, 3, 4] (L' := [(4, .inl (.int (nI b))), (3, .inl (.int su)), (0, .inr (10, some 0)), (1, .inl (.int t)), (2, .inl (.int dy))]) rfl ?_
                exact wp_eq J_5 rfl (by simp only [if_pos h_6, if_pos h_7]) rfl
              · refine wp_run [(.iconst 1, 1), (.iload 4, 2), (.ishl, 1)] (pc' := 78) (L' := [(4, .inl (.int (nI b))), (3, .inl (.int su)), (0, .inr (10, some 0)), (1, .inl (.int t)), (2, .inl (.int dy))]) (st' := [.inl (.int (1 <<< ((nI b) &&& 31))), .inl (.int su)]) ⟨dX9_concerned_74, dX9_concerned_75, dX9_concerned_77, trivial⟩ rfl rfl ?_
                refine wx_goto (tgt := 82) dX9_concerned_78 (by decide) ?_
                refine wp_sub [0, 1, 2, 3, 4] (L' := [(4, .inl (.int (nI b))), (3, .inl (.int su)), (0, .inr (10, some 0)), (1, .inl (.int t)), (2, .inl (.int dy))]) rfl ?_
                exact wp_eq J_5 rfl (by simp only [if_pos h_6, if_neg h_7]) rfl
            · refine wp_run [(.aload_n 0, 1)] (pc' := 53) (L' := [(4, .inl (.int (nI b))), (3, .inl (.int su)), (0, .inr (10, some 0)), (1, .inl (.int t)), (2, .inl (.int dy))]) (st' := [.inr (10, some 0), .inl (.int su)]) ⟨dX9_concerned_52, trivial⟩ rfl rfl ?_
              refine wx_getR cls_10 (k := 32) (f := 1032) (t := 65) (o := some 0) (by decide) rfl rfl fl_X9_85 ((W.sr hS_2.1).fr (f := 1032) (by decide)) dX9_concerned_53 ?_
              refine wp_run [(.iload 4, 2)] (pc' := 58) (L' := [(4, .inl (.int (nI b))), (3, .inl (.int su)), (0, .inr (10, some 0)), (1, .inl (.int t)), (2, .inl (.int dy))]) (st' := [.inl (.int (nI b)), .inr (65, some 0), .inl (.int su)]) ⟨dX9_concerned_56, trivial⟩ rfl rfl ?_
              refine wx_iald (Or.inl rfl) (vin_mono (n := 30) (vin_lt hib h_4 (hS_2.2.fi (f := 1031) (b := 31) (by decide))) (by decide)) dX9_concerned_58 ?_
              refine wp_run [(.iconst 1, 1)] (pc' := 60) (L' := [(4, .inl (.int (nI b))), (3, .inl (.int su)), (0, .inr (10, some 0)), (1, .inl (.int t)), (2, .inl (.int dy))]) (st' := [.inl (.int 1), .inl (.int (xAI (sFI h 1043 0 0) 65 0 (nI b).toNatClampNeg)), .inl (.int su)]) ⟨dX9_concerned_59, trivial⟩ rfl rfl ?_
              refine wx_icmp_ne (tgt := 81) dX9_concerned_60 (by decide) (fun h_8 => ?_) (fun h_8 => ?_)
              · refine wp_run [(.iconst 0, 1)] (pc' := 82) (L' := [(4, .inl (.int (nI b))), (3, .inl (.int su)), (0, .inr (10, some 0)), (1, .inl (.int t)), (2, .inl (.int dy))]) (st' := [.inl (.int 0), .inl (.int su)]) ⟨dX9_concerned_81, trivial⟩ rfl rfl ?_
                refine wp_sub [0, 1, 2, 3, 4] (L' := [(4, .inl (.int (nI b))), (3, .inl (.int su)), (0, .inr (10, some 0)), (1, .inl (.int t)), (2, .inl (.int dy))]) rfl ?_
                exact wp_eq J_5 rfl (by simp only [if_neg h_6, if_neg h_8]) rfl
              · refine wp_run [(.aload_n 0, 1), (.iload 4, 2), (.iload_n 1, 1), (.iload_n 2, 1)] (pc' := 68) (L' := [(4, .inl (.int (nI b))), (3, .inl (.int su)), (0, .inr (10, some 0)), (1, .inl (.int t)), (2, .inl (.int dy))]) (st' := [.inl (.int dy), .inl (.int t), .inl (.int (nI b)), .inr (10, some 0), .inl (.int su)]) ⟨dX9_concerned_63, dX9_concerned_64, dX9_concerned_66, dX9_concerned_67, trivial⟩ rfl rfl ?_
                refine wx_virtualD (M := M_X9_concerned) (uc := 0) (us := 0) (s := 10) (i := 0) (As := [.inl (.int (nI b)), .inl (.int t), .inl (.int dy)]) (rest := [.inl (.int su)]) cls_10 rfl (ok_X9_hasRide _ _) ml_X9_250 im_X9_hasRide se_X9_hasRide (by omega) (c_X9_hasRide (d := d - 1) (h := (sFI h 1043 0 0)) (by omega) (W.sr hS_2.1) (nI b) t dy hS_2.2 (vin_mono (n := 30) (vin_lt hib h_4 (hS_2.2.fi (f := 1031) (b := 31) (by decide))) (by decide))) rfl rfl (Nat.le_of_ble_eq_true rfl) dX9_concerned_68 ?_
                refine wx_if_eq (tgt := 81) dX9_concerned_71 (by decide) (fun h_9 => ?_) (fun h_9 => ?_)
                · refine wp_run [(.iconst 0, 1)] (pc' := 82) (L' := [(4, .inl (.int (nI b))), (3, .inl (.int su)), (0, .inr (10, some 0)), (1, .inl (.int t)), (2, .inl (.int dy))]) (st' := [.inl (.int 0), .inl (.int su)]) ⟨dX9_concerned_81, trivial⟩ rfl rfl ?_
                  refine wp_sub [0, 1, 2, 3, 4] (L' := [(4, .inl (.int (nI b))), (3, .inl (.int su)), (0, .inr (10, some 0)), (1, .inl (.int t)), (2, .inl (.int dy))]) rfl ?_
                  exact wp_eq J_5 rfl (by simp only [if_neg h_6, if_pos h_8, if_pos h_9]) rfl
                · refine wp_run [(.iconst 1, 1), (.iload 4, 2), (.ishl, 1)] (pc' := 78) (L' := [(4, .inl (.int (nI b))), (3, .inl (.int su)), (0, .inr (10, some 0)), (1, .inl (.int t)), (2, .inl (.int dy))]) (st' := [.inl (.int (1 <<< ((nI b) &&& 31))), .inl (.int su)]) ⟨dX9_concerned_74, dX9_concerned_75, dX9_concerned_77, trivial⟩ rfl rfl ?_
                  refine wx_goto (tgt := 82) dX9_concerned_78 (by decide) ?_
                  refine wp_sub [0, 1, 2, 3, 4] (L' := [(4, .inl (.int (nI b))), (3, .inl (.int su)), (0, .inr (10, some 0)), (1, .inl (.int t)), (2, .inl (.int dy))]) rfl ?_
                  exact wp_eq J_5 rfl (by simp only [if_neg h_6, if_pos h_8, if_neg h_9]) rfl
          refine wp_run [(.ior, 1), (.istore_n 3, 1), (.iinc 4 1, 3)] (pc' := 87) (L' := [(4, .inl (.int ((nI b) + 1))), (3, .inl (.int (su ||| ((if (xAI (sFI h 1043 0 0) 65 0 (nI b).toNatClampNeg) = 0 then (if (F_X9_hasRide (sFI h 1043 0 0) (nI b) t dy) = 0 then 0 else (1 <<< ((nI b) &&& 31))) else (if (xAI (sFI h 1043 0 0) 65 0 (nI b).toNatClampNeg) = 1 then (if (F_X9_hasRide (sFI h 1043 0 0) (nI b) t dy) = 0 then 0 else (1 <<< ((nI b) &&& 31))) else 0)) : Int32)))), (0, .inr (10, some 0)), (1, .inl (.int t)), (2, .inl (.int dy))]) (st' := []) ⟨dX9_concerned_82, dX9_concerned_83, dX9_concerned_84, trivial⟩ rfl rfl ?_
          refine wx_goto (tgt := 32) dX9_concerned_87 (by decide) ?_
          rw [B_X9_concerned_32, if_neg h_4]
          rw [nI_1 b]
          refine wp_sub [0, 1, 2, 3, 4] (L' := [(4, .inl (.int (nI (b + 1)))), (3, .inl (.int (su ||| ((if (xAI (sFI h 1043 0 0) 65 0 (nI b).toNatClampNeg) = 0 then (if (F_X9_hasRide (sFI h 1043 0 0) (nI b) t dy) = 0 then 0 else (1 <<< ((nI b) &&& 31))) else (if (xAI (sFI h 1043 0 0) 65 0 (nI b).toNatClampNeg) = 1 then (if (F_X9_hasRide (sFI h 1043 0 0) (nI b) t dy) = 0 then 0 else (1 <<< ((nI b) &&& 31))) else 0)) : Int32)))), (0, .inr (10, some 0)), (1, .inl (.int t)), (2, .inl (.int dy))]) rfl ?_
          exact ih32 _ _ (cy_nlt hib h_4).2 (by have := (cy_nlt hib h_4).2; omega)
    · refine wx_staticD (M := M_X9_concerned) (uc := 0) (us := 0) (As := [.inl (.int dy)]) (rest := []) (ok_X9_isDay _ _) ml_X9_156 st_X9_isDay (by omega) (det_to (c_X9_isDay (d := d - 1) (h := (sFI h 1043 0 0)) (by omega) dy) (by rw [isDay_no h_3]) rfl) rfl rfl (Nat.le_of_ble_eq_true rfl) dX9_concerned_15 ?_
      refine wx_if_ne (tgt := 27) dX9_concerned_18 (by decide) (fun h => absurd h (by decide)) (fun _ => ?_)
      refine wp_run [(.aload_n 0, 1), (.iconst 2, 1)] (pc' := 23) (L' := [(0, .inr (10, some 0)), (1, .inl (.int t)), (2, .inl (.int dy))]) (st' := [.inl (.int 2), .inr (10, some 0)]) ⟨dX9_concerned_21, dX9_concerned_22, trivial⟩ rfl rfl ?_
      refine wx_virtualDP (M := M_X9_concerned) (uc := 0) (us := 0) (s := 10) (i := 0) (As := [.inl (.int 2)]) (rest := []) cls_10 rfl (ok_X9_fails _ _) ml_X9_142 im_X9_fails se_X9_fails (by omega) (c_fails (d := d - 1) (h := (sFI h 1043 0 0)) (by omega) (W.sr hS_2.1) 2 hS_2.2) rfl rfl (Nat.le_of_ble_eq_true rfl) dX9_concerned_23 (fun hS_10 => ?_)
      exact wx_iret rfl rfl dX9_concerned_26 (by rw [F_X9_concerned, if_pos h_1, if_neg h_3]; dsimp only; exact ⟨⟨(hS_2.1.trans hS_10.1), hS_10.2⟩, rfl, rfl⟩)
  · refine wx_virtualD (M := M_X9_concerned) (uc := 0) (us := 0) (s := 10) (i := 0) (As := [.inl (.int t)]) (rest := [.inr (10, some 0)]) cls_10 rfl (ok_X9_isTrip _ _) ml_X9_153 im_X9_isTrip se_X9_isTrip (by omega) (det_to (c_X9_isTrip (d := d - 1) (h := h) (by omega) W t D) (by rw [isTrip_no h_1]) rfl) rfl rfl (Nat.le_of_ble_eq_true rfl) dX9_concerned_3 ?_
    refine wx_virtualDP (M := M_X9_concerned) (uc := 0) (us := 0) (s := 10) (i := 0) (As := [.inl (.int 0)]) (rest := []) cls_10 rfl (ok_X9_asks _ _) ml_X9_138 im_X9_asks se_X9_asks (by omega) (c_asks0 (d := d - 1) (h := h) (by omega) W D) rfl rfl (Nat.le_of_ble_eq_true rfl) dX9_concerned_6 (fun hS_11 => ?_)
    refine wx_if_ne (tgt := 14) dX9_concerned_9 (by decide) (fun h => absurd h (by decide)) (fun _ => ?_)
    refine wp_run [(.iconst 0, 1)] (pc' := 13) (L' := [(0, .inr (10, some 0)), (1, .inl (.int t)), (2, .inl (.int dy))]) (st' := [.inl (.int 0)]) ⟨dX9_concerned_12, trivial⟩ rfl rfl ?_
    exact wx_iret rfl rfl dX9_concerned_13 (by rw [F_X9_concerned, if_neg h_1]; dsimp only; exact ⟨⟨hS_11.1, hS_11.2⟩, rfl, rfl⟩)
def F_X9_seats (h : Hp) (t : Int32) (dy : Int32) : Int32 × Hp := (if okR t 0 (xFI h 1003 0 - 1) then (if okR dy 0 99 then ((F_X9_free (sFI h 1043 0 0) t dy), sFI h 1043 0 0) else (0, sFI (sFI h 1043 0 0) 1043 0 2)) else (0, sFI h 1043 0 1))
set_option maxRecDepth 20000 in
theorem c_X9_seats {g : GT} {d : Nat} (hd : 3 ≤ d) {h : Hp} (W : MW h) (t : Int32) (dy : Int32) (D : DM h)  : Ctr g M_X9_seats d 0 0 [.inr (10, some 0), .inl (.int t), .inl (.int dy)] h (cy_detP (.inl (some (.inl (.int (F_X9_seats h t dy).1)))) (F_X9_seats h t dy).2 (MP h (F_X9_seats h t dy).2)) := by
  refine cy_body rfl rfl (by decide) (Nat.le_of_ble_eq_true rfl) ?_
  refine wp_run [(.aload_n 0, 1), (.aload_n 0, 1), (.iload_n 1, 1)] (pc' := 3) (L' := [(0, .inr (10, some 0)), (1, .inl (.int t)), (2, .inl (.int dy))]) (st' := [.inl (.int t), .inr (10, some 0), .inr (10, some 0)]) ⟨dX9_seats_0, dX9_seats_1, dX9_seats_2, trivial⟩ rfl rfl ?_
  by_cases h_1 : okR t 0 (xFI h 1003 0 - 1)
  · refine wx_virtualD (M := M_X9_seats) (uc := 0) (us := 0) (s := 10) (i := 0) (As := [.inl (.int t)]) (rest := [.inr (10, some 0)]) cls_10 rfl (ok_X9_isTrip _ _) ml_X9_153 im_X9_isTrip se_X9_isTrip (by omega) (det_to (c_X9_isTrip (d := d - 1) (h := h) (by omega) W t D) (by rw [isTrip_ok h_1]) rfl) rfl rfl (Nat.le_of_ble_eq_true rfl) dX9_seats_3 ?_
    refine wx_virtualDP (M := M_X9_seats) (uc := 0) (us := 0) (s := 10) (i := 0) (As := [.inl (.int 1)]) (rest := []) cls_10 rfl (ok_X9_asks _ _) ml_X9_138 im_X9_asks se_X9_asks (by omega) (c_asks1 (d := d - 1) (h := h) (by omega) W D) rfl rfl (Nat.le_of_ble_eq_true rfl) dX9_seats_6 (fun hS_2 => ?_)
    refine wx_if_ne (tgt := 14) dX9_seats_9 (by decide) (fun _ => ?_) (fun h => absurd h (by decide))
    refine wp_run [(.iload_n 2, 1)] (pc' := 15) (L' := [(0, .inr (10, some 0)), (1, .inl (.int t)), (2, .inl (.int dy))]) (st' := [.inl (.int dy)]) ⟨dX9_seats_14, trivial⟩ rfl rfl ?_
    by_cases h_3 : okR dy 0 99
    · refine wx_staticD (M := M_X9_seats) (uc := 0) (us := 0) (As := [.inl (.int dy)]) (rest := []) (ok_X9_isDay _ _) ml_X9_156 st_X9_isDay (by omega) (det_to (c_X9_isDay (d := d - 1) (h := (sFI h 1043 0 0)) (by omega) dy) (by rw [isDay_ok h_3]) rfl) rfl rfl (Nat.le_of_ble_eq_true rfl) dX9_seats_15 ?_
      refine wx_if_eq (tgt := 30) dX9_seats_18 (by decide) (fun h => absurd h (by decide)) (fun _ => ?_)
      refine wp_run [(.aload_n 0, 1), (.iload_n 1, 1), (.iload_n 2, 1)] (pc' := 24) (L' := [(0, .inr (10, some 0)), (1, .inl (.int t)), (2, .inl (.int dy))]) (st' := [.inl (.int dy), .inl (.int t), .inr (10, some 0)]) ⟨dX9_seats_21, dX9_seats_22, dX9_seats_23, trivial⟩ rfl rfl ?_
      refine wx_virtualD (M := M_X9_seats) (uc := 0) (us := 0) (s := 10) (i := 0) (As := [.inl (.int t), .inl (.int dy)]) (rest := []) cls_10 rfl (ok_X9_free _ _) ml_X9_253 im_X9_free se_X9_free (by omega) (c_X9_free (d := d - 1) (h := (sFI h 1043 0 0)) (by omega) (W.sr hS_2.1) t dy hS_2.2 (vin_mono (n := 20) (vin_cnt (n := 20) (D.fi (f := 1003) (by decide)) (by decide) h_1) (by decide))) rfl rfl (Nat.le_of_ble_eq_true rfl) dX9_seats_24 ?_
      refine wx_goto (tgt := 35) dX9_seats_27 (by decide) ?_
      exact wx_iret rfl rfl dX9_seats_35 (by rw [F_X9_seats, if_pos h_1, if_pos h_3]; dsimp only; exact ⟨⟨hS_2.1, hS_2.2⟩, rfl, rfl⟩)
    · refine wx_staticD (M := M_X9_seats) (uc := 0) (us := 0) (As := [.inl (.int dy)]) (rest := []) (ok_X9_isDay _ _) ml_X9_156 st_X9_isDay (by omega) (det_to (c_X9_isDay (d := d - 1) (h := (sFI h 1043 0 0)) (by omega) dy) (by rw [isDay_no h_3]) rfl) rfl rfl (Nat.le_of_ble_eq_true rfl) dX9_seats_15 ?_
      refine wx_if_eq (tgt := 30) dX9_seats_18 (by decide) (fun _ => ?_) (fun h => absurd h (by decide))
      refine wp_run [(.aload_n 0, 1), (.iconst 2, 1)] (pc' := 32) (L' := [(0, .inr (10, some 0)), (1, .inl (.int t)), (2, .inl (.int dy))]) (st' := [.inl (.int 2), .inr (10, some 0)]) ⟨dX9_seats_30, dX9_seats_31, trivial⟩ rfl rfl ?_
      refine wx_virtualDP (M := M_X9_seats) (uc := 0) (us := 0) (s := 10) (i := 0) (As := [.inl (.int 2)]) (rest := []) cls_10 rfl (ok_X9_fails _ _) ml_X9_142 im_X9_fails se_X9_fails (by omega) (c_fails (d := d - 1) (h := (sFI h 1043 0 0)) (by omega) (W.sr hS_2.1) 2 hS_2.2) rfl rfl (Nat.le_of_ble_eq_true rfl) dX9_seats_32 (fun hS_4 => ?_)
      exact wx_iret rfl rfl dX9_seats_35 (by rw [F_X9_seats, if_pos h_1, if_neg h_3]; dsimp only; exact ⟨⟨(hS_2.1.trans hS_4.1), hS_4.2⟩, rfl, rfl⟩)
  · refine wx_virtualD (M := M_X9_seats) (uc := 0) (us := 0) (s := 10) (i := 0) (As := [.inl (.int t)]) (rest := [.inr (10, some 0)]) cls_10 rfl (ok_X9_isTrip _ _) ml_X9_153 im_X9_isTrip se_X9_isTrip (by omega) (det_to (c_X9_isTrip (d := d - 1) (h := h) (by omega) W t D) (by rw [isTrip_no h_1]) rfl) rfl rfl (Nat.le_of_ble_eq_true rfl) dX9_seats_3 ?_
    refine wx_virtualDP (M := M_X9_seats) (uc := 0) (us := 0) (s := 10) (i := 0) (As := [.inl (.int 0)]) (rest := []) cls_10 rfl (ok_X9_asks _ _) ml_X9_138 im_X9_asks se_X9_asks (by omega) (c_asks0 (d := d - 1) (h := h) (by omega) W D) rfl rfl (Nat.le_of_ble_eq_true rfl) dX9_seats_6 (fun hS_5 => ?_)
    refine wx_if_ne (tgt := 14) dX9_seats_9 (by decide) (fun h => absurd h (by decide)) (fun _ => ?_)
    refine wp_run [(.iconst 0, 1)] (pc' := 13) (L' := [(0, .inr (10, some 0)), (1, .inl (.int t)), (2, .inl (.int dy))]) (st' := [.inl (.int 0)]) ⟨dX9_seats_12, trivial⟩ rfl rfl ?_
    exact wx_iret rfl rfl dX9_seats_13 (by rw [F_X9_seats, if_neg h_1]; dsimp only; exact ⟨⟨hS_5.1, hS_5.2⟩, rfl, rfl⟩)
def B_X9_pass_31 (h : Hp) (x : Int32) (rec31 : Hp → Int32 → Nat → (Int32 × Hp)) (h31 : Hp) (nn : Int32) (b : Nat) : Int32 × Hp := (if (xFI h31 1031 0) ≤ (nI b) then (nn, h31) else (if (xAI h31 65 0 (nI b).toNatClampNeg) = 0 then (if ((xFI h31 1030 0) - (xAI h31 68 0 (nI b).toNatClampNeg)) ≤ 30 then (rec31 h31 nn (b + 1)) else (rec31 (sAI h31 65 0 ((nI b).toNatClampNeg) 2) (nn + 1) (b + 1))) else (rec31 h31 nn (b + 1))))
def L_X9_pass_31 (h : Hp) (x : Int32) : Nat → Hp → Int32 → Nat → (Int32 × Hp)
  | 0 => fun h31 nn b => (0, h31)
  | fu + 1 => B_X9_pass_31 h x (L_X9_pass_31 h x fu)
theorem L_X9_pass_31_s (h : Hp) (x : Int32) (fu : Nat) (h31 : Hp) (nn : Int32) (b : Nat) : L_X9_pass_31 h x (fu + 1) h31 nn b = B_X9_pass_31 h x (L_X9_pass_31 h x fu) h31 nn b := rfl
def F_X9_pass (h : Hp) (x : Int32) : Int32 × Hp := (if okR x 1 1440 then L_X9_pass_31 h x (2147483648 - 0 + 1) (sFI (sFI h 1043 0 0) 1030 0 ((xFI (sFI h 1043 0 0) 1030 0) + x)) 0 0 else (0, sFI h 1043 0 1))
set_option maxRecDepth 20000 in
theorem c_X9_pass {g : GT} {d : Nat} (hd : 2 ≤ d) {h : Hp} (W : MW h) (x : Int32) (D : DM h)  : Ctr g M_X9_pass d 0 0 [.inr (10, some 0), .inl (.int x)] h (cy_detP (.inl (some (.inl (.int (F_X9_pass h x).1)))) (F_X9_pass h x).2 (MP h (F_X9_pass h x).2)) := by
  refine cy_body rfl rfl (by decide) (Nat.le_of_ble_eq_true rfl) ?_
  refine wp_run [(.aload_n 0, 1), (.iload_n 1, 1), (.iconst 1, 1), (.sipush 1440, 3)] (pc' := 6) (L' := [(0, .inr (10, some 0)), (1, .inl (.int x))]) (st' := [.inl (.int 1440), .inl (.int 1), .inl (.int x), .inr (10, some 0)]) ⟨dX9_pass_0, dX9_pass_1, dX9_pass_2, dX9_pass_3, trivial⟩ rfl rfl ?_
  by_cases h_1 : okR x 1 1440
  · refine wx_staticD (M := M_X9_pass) (uc := 0) (us := 0) (As := [.inl (.int x), .inl (.int 1), .inl (.int 1440)]) (rest := [.inr (10, some 0)]) (ok_X9_in _ _) ml_X9_128 st_X9_in (by omega) (det_to (c_X9_in (d := d - 1) (h := h) (by omega) x 1 1440) (by rw [in_ok h_1]) rfl) rfl rfl (Nat.le_of_ble_eq_true rfl) dX9_pass_6 ?_
    refine wx_virtualDP (M := M_X9_pass) (uc := 0) (us := 0) (s := 10) (i := 0) (As := [.inl (.int 1)]) (rest := []) cls_10 rfl (ok_X9_asks _ _) ml_X9_138 im_X9_asks se_X9_asks (by omega) (c_asks1 (d := d - 1) (h := h) (by omega) W D) rfl rfl (Nat.le_of_ble_eq_true rfl) dX9_pass_9 (fun hS_2 => ?_)
    refine wx_if_ne (tgt := 17) dX9_pass_12 (by decide) (fun _ => ?_) (fun h => absurd h (by decide))
    refine wp_run [(.aload_n 0, 1), (.dup, 1)] (pc' := 19) (L' := [(0, .inr (10, some 0)), (1, .inl (.int x))]) (st' := [.inr (10, some 0), .inr (10, some 0)]) ⟨dX9_pass_17, dX9_pass_18, trivial⟩ rfl rfl ?_
    refine wx_getI cls_10 (k := 30) (f := 1030) (by decide) rfl rfl fl_X9_118 dX9_pass_19 ?_
    refine wp_run [(.iload_n 1, 1), (.iadd, 1)] (pc' := 24) (L' := [(0, .inr (10, some 0)), (1, .inl (.int x))]) (st' := [.inl (.int ((xFI (sFI h 1043 0 0) 1030 0) + x)), .inr (10, some 0)]) ⟨dX9_pass_22, dX9_pass_23, trivial⟩ rfl rfl ?_
    refine wx_putI cls_10 (k := 30) (f := 1030) (by decide) rfl rfl rfl fl_X9_118 (Or.inl rfl) dX9_pass_24 ?_
    have D_3 : DM (sFI (sFI h 1043 0 0) 1030 0 ((xFI (sFI h 1043 0 0) 1030 0) + x)) := hS_2.2.fput (by decide)
    refine wp_run [(.iconst 0, 1), (.istore_n 2, 1), (.iconst 0, 1), (.istore_n 3, 1)] (pc' := 31) (L' := [(3, .inl (.int 0)), (2, .inl (.int 0)), (0, .inr (10, some 0)), (1, .inl (.int x))]) (st' := []) ⟨dX9_pass_27, dX9_pass_28, dX9_pass_29, dX9_pass_30, trivial⟩ rfl rfl ?_
    rw [F_X9_pass, if_pos h_1]
    refine wp_sub [0, 1, 2] (L' := [(3, .inl (.int 0)), (2, .inl (.int 0)), (0, .inr (10, some 0))]) rfl ?_
    suffices Y31 : ∀ (n31 : Nat) (h31 : Hp) (nn : Int32) (b : Nat) (Sr31 : SR h h31) (D31 : DM h31) (hib : b < 2147483648) (hm31 : 2147483648 - b < n31), WP g M_X9_pass d 0 0 31 [(3, .inl (.int (nI b))), (2, .inl (.int nn)), (0, .inr (10, some 0))] [] h31 (cy_detP (.inl (some (.inl (.int (L_X9_pass_31 h x n31 h31 nn b).1)))) (L_X9_pass_31 h x n31 h31 nn b).2 (MP h (L_X9_pass_31 h x n31 h31 nn b).2)) from
      Y31 (2147483648 - 0 + 1) (sFI (sFI h 1043 0 0) 1030 0 ((xFI (sFI h 1043 0 0) 1030 0) + x)) 0 0 hS_2.1 D_3 (by decide) (Nat.lt_succ_self _)
    intro n31
    induction n31 with
    | zero => intro h31 nn b Sr31 D31 hib hm31; exact absurd hm31 (Nat.not_lt_zero _)
    | succ n31 ih31 =>
      intro h31 nn b Sr31 D31 hib hm31
      rw [L_X9_pass_31_s]
      generalize L_X9_pass_31 h x n31 = rec31 at ih31 ⊢
      refine wp_run [(.iload_n 3, 1), (.aload_n 0, 1)] (pc' := 33) (L' := [(3, .inl (.int (nI b))), (2, .inl (.int nn)), (0, .inr (10, some 0))]) (st' := [.inr (10, some 0), .inl (.int (nI b))]) ⟨dX9_pass_31, dX9_pass_32, trivial⟩ rfl rfl ?_
      refine wx_getI cls_10 (k := 31) (f := 1031) (by decide) rfl rfl fl_X9_135 dX9_pass_33 ?_
      refine wx_icmp_ge (tgt := 80) dX9_pass_36 (by decide) (fun h_4 => ?_) (fun h_4 => ?_)
      · refine wp_run [(.iload_n 2, 1)] (pc' := 81) (L' := [(3, .inl (.int (nI b))), (2, .inl (.int nn)), (0, .inr (10, some 0))]) (st' := [.inl (.int nn)]) ⟨dX9_pass_80, trivial⟩ rfl rfl ?_
        exact wx_iret rfl rfl dX9_pass_81 (by rw [B_X9_pass_31, if_pos h_4]; dsimp only; exact ⟨⟨Sr31, D31⟩, rfl, rfl⟩)
      · refine wp_run [(.aload_n 0, 1)] (pc' := 40) (L' := [(3, .inl (.int (nI b))), (2, .inl (.int nn)), (0, .inr (10, some 0))]) (st' := [.inr (10, some 0)]) ⟨dX9_pass_39, trivial⟩ rfl rfl ?_
        refine wx_getR cls_10 (k := 32) (f := 1032) (t := 65) (o := some 0) (by decide) rfl rfl fl_X9_85 ((W.sr Sr31).fr (f := 1032) (by decide)) dX9_pass_40 ?_
        refine wp_run [(.iload_n 3, 1)] (pc' := 44) (L' := [(3, .inl (.int (nI b))), (2, .inl (.int nn)), (0, .inr (10, some 0))]) (st' := [.inl (.int (nI b)), .inr (65, some 0)]) ⟨dX9_pass_43, trivial⟩ rfl rfl ?_
        refine wx_iald (Or.inl rfl) (vin_mono (n := 30) (vin_lt hib h_4 (D31.fi (f := 1031) (b := 31) (by decide))) (by decide)) dX9_pass_44 ?_
        refine wx_if_ne (tgt := 74) dX9_pass_45 (by decide) (fun h_5 => ?_) (fun h_5 => ?_)
        · refine wp_run [(.iinc 3 1, 3)] (pc' := 77) (L' := [(3, .inl (.int ((nI b) + 1))), (2, .inl (.int nn)), (0, .inr (10, some 0))]) (st' := []) ⟨dX9_pass_74, trivial⟩ rfl rfl ?_
          refine wx_goto (tgt := 31) dX9_pass_77 (by decide) ?_
          rw [B_X9_pass_31, if_neg h_4, if_neg h_5]
          rw [nI_1 b]
          refine wp_sub [0, 1, 2] (L' := [(3, .inl (.int (nI (b + 1)))), (2, .inl (.int nn)), (0, .inr (10, some 0))]) rfl ?_
          exact ih31 _ _ _ Sr31 D31 (cy_nlt hib h_4).2 (by have := (cy_nlt hib h_4).2; omega)
        · refine wp_run [(.aload_n 0, 1)] (pc' := 49) (L' := [(3, .inl (.int (nI b))), (2, .inl (.int nn)), (0, .inr (10, some 0))]) (st' := [.inr (10, some 0)]) ⟨dX9_pass_48, trivial⟩ rfl rfl ?_
          refine wx_getI cls_10 (k := 30) (f := 1030) (by decide) rfl rfl fl_X9_118 dX9_pass_49 ?_
          refine wp_run [(.aload_n 0, 1)] (pc' := 53) (L' := [(3, .inl (.int (nI b))), (2, .inl (.int nn)), (0, .inr (10, some 0))]) (st' := [.inr (10, some 0), .inl (.int (xFI h31 1030 0))]) ⟨dX9_pass_52, trivial⟩ rfl rfl ?_
          refine wx_getR cls_10 (k := 35) (f := 1035) (t := 68) (o := some 0) (by decide) rfl rfl fl_X9_94 ((W.sr Sr31).fr (f := 1035) (by decide)) dX9_pass_53 ?_
          refine wp_run [(.iload_n 3, 1)] (pc' := 57) (L' := [(3, .inl (.int (nI b))), (2, .inl (.int nn)), (0, .inr (10, some 0))]) (st' := [.inl (.int (nI b)), .inr (68, some 0), .inl (.int (xFI h31 1030 0))]) ⟨dX9_pass_56, trivial⟩ rfl rfl ?_
          refine wx_iald (Or.inl rfl) (vin_mono (n := 30) (vin_lt hib h_4 (D31.fi (f := 1031) (b := 31) (by decide))) (by decide)) dX9_pass_57 ?_
          refine wp_run [(.isub, 1), (.bipush 30, 2)] (pc' := 61) (L' := [(3, .inl (.int (nI b))), (2, .inl (.int nn)), (0, .inr (10, some 0))]) (st' := [.inl (.int 30), .inl (.int ((xFI h31 1030 0) - (xAI h31 68 0 (nI b).toNatClampNeg)))]) ⟨dX9_pass_58, dX9_pass_59, trivial⟩ rfl rfl ?_
          refine wx_icmp_le (tgt := 74) dX9_pass_61 (by decide) (fun h_6 => ?_) (fun h_6 => ?_)
          · refine wp_run [(.iinc 3 1, 3)] (pc' := 77) (L' := [(3, .inl (.int ((nI b) + 1))), (2, .inl (.int nn)), (0, .inr (10, some 0))]) (st' := []) ⟨dX9_pass_74, trivial⟩ rfl rfl ?_
            refine wx_goto (tgt := 31) dX9_pass_77 (by decide) ?_
            rw [B_X9_pass_31, if_neg h_4, if_pos h_5, if_pos h_6]
            rw [nI_1 b]
            refine wp_sub [0, 1, 2] (L' := [(3, .inl (.int (nI (b + 1)))), (2, .inl (.int nn)), (0, .inr (10, some 0))]) rfl ?_
            exact ih31 _ _ _ Sr31 D31 (cy_nlt hib h_4).2 (by have := (cy_nlt hib h_4).2; omega)
          · refine wp_run [(.aload_n 0, 1)] (pc' := 65) (L' := [(3, .inl (.int (nI b))), (2, .inl (.int nn)), (0, .inr (10, some 0))]) (st' := [.inr (10, some 0)]) ⟨dX9_pass_64, trivial⟩ rfl rfl ?_
            refine wx_getR cls_10 (k := 32) (f := 1032) (t := 65) (o := some 0) (by decide) rfl rfl fl_X9_85 ((W.sr Sr31).fr (f := 1032) (by decide)) dX9_pass_65 ?_
            refine wp_run [(.iload_n 3, 1), (.iconst 2, 1)] (pc' := 70) (L' := [(3, .inl (.int (nI b))), (2, .inl (.int nn)), (0, .inr (10, some 0))]) (st' := [.inl (.int 2), .inl (.int (nI b)), .inr (65, some 0)]) ⟨dX9_pass_68, dX9_pass_69, trivial⟩ rfl rfl ?_
            refine wx_iast rfl (vin_mono (n := 30) (vin_lt hib h_4 (D31.fi (f := 1031) (b := 31) (by decide))) (by decide)) dX9_pass_70 ?_
            have D_7 : DM (sAI h31 65 0 ((nI b).toNatClampNeg) 2) := D31.put (by decide)
            refine wp_run [(.iinc 2 1, 3), (.iinc 3 1, 3)] (pc' := 77) (L' := [(3, .inl (.int ((nI b) + 1))), (2, .inl (.int (nn + 1))), (0, .inr (10, some 0))]) (st' := []) ⟨dX9_pass_71, dX9_pass_74, trivial⟩ rfl rfl ?_
            refine wx_goto (tgt := 31) dX9_pass_77 (by decide) ?_
            rw [B_X9_pass_31, if_neg h_4, if_pos h_5, if_neg h_6]
            rw [nI_1 b]
            refine wp_sub [0, 1, 2] (L' := [(3, .inl (.int (nI (b + 1)))), (2, .inl (.int (nn + 1))), (0, .inr (10, some 0))]) rfl ?_
            exact ih31 _ _ _ Sr31 D_7 (cy_nlt hib h_4).2 (by have := (cy_nlt hib h_4).2; omega)
  · refine wx_staticD (M := M_X9_pass) (uc := 0) (us := 0) (As := [.inl (.int x), .inl (.int 1), .inl (.int 1440)]) (rest := [.inr (10, some 0)]) (ok_X9_in _ _) ml_X9_128 st_X9_in (by omega) (det_to (c_X9_in (d := d - 1) (h := h) (by omega) x 1 1440) (by rw [in_no h_1]) rfl) rfl rfl (Nat.le_of_ble_eq_true rfl) dX9_pass_6 ?_
    refine wx_virtualDP (M := M_X9_pass) (uc := 0) (us := 0) (s := 10) (i := 0) (As := [.inl (.int 0)]) (rest := []) cls_10 rfl (ok_X9_asks _ _) ml_X9_138 im_X9_asks se_X9_asks (by omega) (c_asks0 (d := d - 1) (h := h) (by omega) W D) rfl rfl (Nat.le_of_ble_eq_true rfl) dX9_pass_9 (fun hS_8 => ?_)
    refine wx_if_ne (tgt := 17) dX9_pass_12 (by decide) (fun h => absurd h (by decide)) (fun _ => ?_)
    refine wp_run [(.iconst 0, 1)] (pc' := 16) (L' := [(0, .inr (10, some 0)), (1, .inl (.int x))]) (st' := [.inl (.int 0)]) ⟨dX9_pass_15, trivial⟩ rfl rfl ?_
    exact wx_iret rfl rfl dX9_pass_16 (by rw [F_X9_pass, if_neg h_1]; dsimp only; exact ⟨⟨hS_8.1, hS_8.2⟩, rfl, rfl⟩)
def F_X9_ofBooking (h : Hp) (b : Int32) (wh : Int32) : Int32 × Hp := (if okR b 0 (xFI h 1031 0 - 1) then (if wh = 0 then ((xAI (sFI h 1043 0 0) 65 0 b.toNatClampNeg), sFI h 1043 0 0) else (if wh = 1 then ((xAI (sFI h 1043 0 0) 66 0 b.toNatClampNeg), sFI h 1043 0 0) else (if wh = 2 then ((xAI (sFI h 1043 0 0) 67 0 b.toNatClampNeg), sFI h 1043 0 0) else (if wh = 3 then ((xAI (sFI h 1043 0 0) 70 0 b.toNatClampNeg), sFI h 1043 0 0) else (0, sFI (sFI h 1043 0 0) 1043 0 2))))) else (0, sFI h 1043 0 1))
set_option maxRecDepth 20000 in
theorem c_X9_ofBooking {g : GT} {d : Nat} (hd : 3 ≤ d) {h : Hp} (W : MW h) (b : Int32) (wh : Int32) (D : DM h)  : Ctr g M_X9_ofBooking d 0 0 [.inr (10, some 0), .inl (.int b), .inl (.int wh)] h (cy_detP (.inl (some (.inl (.int (F_X9_ofBooking h b wh).1)))) (F_X9_ofBooking h b wh).2 (MP h (F_X9_ofBooking h b wh).2)) := by
  refine cy_body rfl rfl (by decide) (Nat.le_of_ble_eq_true rfl) ?_
  refine wp_run [(.aload_n 0, 1), (.aload_n 0, 1), (.iload_n 1, 1)] (pc' := 3) (L' := [(0, .inr (10, some 0)), (1, .inl (.int b)), (2, .inl (.int wh))]) (st' := [.inl (.int b), .inr (10, some 0), .inr (10, some 0)]) ⟨dX9_ofBooking_0, dX9_ofBooking_1, dX9_ofBooking_2, trivial⟩ rfl rfl ?_
  by_cases h_1 : okR b 0 (xFI h 1031 0 - 1)
  · refine wx_virtualD (M := M_X9_ofBooking) (uc := 0) (us := 0) (s := 10) (i := 0) (As := [.inl (.int b)]) (rest := [.inr (10, some 0)]) cls_10 rfl (ok_X9_isBooking _ _) ml_X9_256 im_X9_isBooking se_X9_isBooking (by omega) (det_to (c_X9_isBooking (d := d - 1) (h := h) (by omega) W b D) (by rw [isBooking_ok h_1]) rfl) rfl rfl (Nat.le_of_ble_eq_true rfl) dX9_ofBooking_3 ?_
    refine wx_virtualDP (M := M_X9_ofBooking) (uc := 0) (us := 0) (s := 10) (i := 0) (As := [.inl (.int 1)]) (rest := []) cls_10 rfl (ok_X9_asks _ _) ml_X9_138 im_X9_asks se_X9_asks (by omega) (c_asks1 (d := d - 1) (h := h) (by omega) W D) rfl rfl (Nat.le_of_ble_eq_true rfl) dX9_ofBooking_6 (fun hS_2 => ?_)
    refine wx_if_ne (tgt := 14) dX9_ofBooking_9 (by decide) (fun _ => ?_) (fun h => absurd h (by decide))
    refine wp_run [(.iload_n 2, 1)] (pc' := 15) (L' := [(0, .inr (10, some 0)), (1, .inl (.int b)), (2, .inl (.int wh))]) (st' := [.inl (.int wh)]) ⟨dX9_ofBooking_14, trivial⟩ rfl rfl ?_
    by_cases h_3 : wh = 0
    · refine wx_tableIn (tgt := 44) (off := 29) dX9_ofBooking_15 (by rw [h_3]; decide) (by rw [h_3]; decide) (by rw [h_3]; rfl) (by decide) ?_
      refine wp_run [(.aload_n 0, 1)] (pc' := 45) (L' := [(0, .inr (10, some 0)), (1, .inl (.int b)), (2, .inl (.int wh))]) (st' := [.inr (10, some 0)]) ⟨dX9_ofBooking_44, trivial⟩ rfl rfl ?_
      refine wx_getR cls_10 (k := 32) (f := 1032) (t := 65) (o := some 0) (by decide) rfl rfl fl_X9_85 ((W.sr hS_2.1).fr (f := 1032) (by decide)) dX9_ofBooking_45 ?_
      refine wp_run [(.iload_n 1, 1)] (pc' := 49) (L' := [(0, .inr (10, some 0)), (1, .inl (.int b)), (2, .inl (.int wh))]) (st' := [.inl (.int b), .inr (65, some 0)]) ⟨dX9_ofBooking_48, trivial⟩ rfl rfl ?_
      refine wx_iald (Or.inl rfl) (vin_mono (n := 30) (vin_cnt (n := 30) (D.fi (f := 1031) (by decide)) (by decide) h_1) (by decide)) dX9_ofBooking_49 ?_
      exact wx_iret rfl rfl dX9_ofBooking_50 (by rw [F_X9_ofBooking, if_pos h_1, if_pos h_3]; dsimp only; exact ⟨⟨hS_2.1, hS_2.2⟩, rfl, rfl⟩)
    by_cases h_4 : wh = 1
    · refine wx_tableIn (tgt := 51) (off := 36) dX9_ofBooking_15 (by rw [h_4]; decide) (by rw [h_4]; decide) (by rw [h_4]; rfl) (by decide) ?_
      refine wp_run [(.aload_n 0, 1)] (pc' := 52) (L' := [(0, .inr (10, some 0)), (1, .inl (.int b)), (2, .inl (.int wh))]) (st' := [.inr (10, some 0)]) ⟨dX9_ofBooking_51, trivial⟩ rfl rfl ?_
      refine wx_getR cls_10 (k := 33) (f := 1033) (t := 66) (o := some 0) (by decide) rfl rfl fl_X9_88 ((W.sr hS_2.1).fr (f := 1033) (by decide)) dX9_ofBooking_52 ?_
      refine wp_run [(.iload_n 1, 1)] (pc' := 56) (L' := [(0, .inr (10, some 0)), (1, .inl (.int b)), (2, .inl (.int wh))]) (st' := [.inl (.int b), .inr (66, some 0)]) ⟨dX9_ofBooking_55, trivial⟩ rfl rfl ?_
      refine wx_iald (Or.inl rfl) (vin_mono (n := 30) (vin_cnt (n := 30) (D.fi (f := 1031) (by decide)) (by decide) h_1) (by decide)) dX9_ofBooking_56 ?_
      exact wx_iret rfl rfl dX9_ofBooking_57 (by rw [F_X9_ofBooking, if_pos h_1, if_neg h_3, if_pos h_4]; dsimp only; exact ⟨⟨hS_2.1, hS_2.2⟩, rfl, rfl⟩)
    by_cases h_5 : wh = 2
    · refine wx_tableIn (tgt := 58) (off := 43) dX9_ofBooking_15 (by rw [h_5]; decide) (by rw [h_5]; decide) (by rw [h_5]; rfl) (by decide) ?_
      refine wp_run [(.aload_n 0, 1)] (pc' := 59) (L' := [(0, .inr (10, some 0)), (1, .inl (.int b)), (2, .inl (.int wh))]) (st' := [.inr (10, some 0)]) ⟨dX9_ofBooking_58, trivial⟩ rfl rfl ?_
      refine wx_getR cls_10 (k := 34) (f := 1034) (t := 67) (o := some 0) (by decide) rfl rfl fl_X9_91 ((W.sr hS_2.1).fr (f := 1034) (by decide)) dX9_ofBooking_59 ?_
      refine wp_run [(.iload_n 1, 1)] (pc' := 63) (L' := [(0, .inr (10, some 0)), (1, .inl (.int b)), (2, .inl (.int wh))]) (st' := [.inl (.int b), .inr (67, some 0)]) ⟨dX9_ofBooking_62, trivial⟩ rfl rfl ?_
      refine wx_iald (Or.inl rfl) (vin_mono (n := 30) (vin_cnt (n := 30) (D.fi (f := 1031) (by decide)) (by decide) h_1) (by decide)) dX9_ofBooking_63 ?_
      exact wx_iret rfl rfl dX9_ofBooking_64 (by rw [F_X9_ofBooking, if_pos h_1, if_neg h_3, if_neg h_4, if_pos h_5]; dsimp only; exact ⟨⟨hS_2.1, hS_2.2⟩, rfl, rfl⟩)
    by_cases h_6 : wh = 3
    · refine wx_tableIn (tgt := 65) (off := 50) dX9_ofBooking_15 (by rw [h_6]; decide) (by rw [h_6]; decide) (by rw [h_6]; rfl) (by decide) ?_
      refine wp_run [(.aload_n 0, 1)] (pc' := 66) (L' := [(0, .inr (10, some 0)), (1, .inl (.int b)), (2, .inl (.int wh))]) (st' := [.inr (10, some 0)]) ⟨dX9_ofBooking_65, trivial⟩ rfl rfl ?_
      refine wx_getR cls_10 (k := 37) (f := 1037) (t := 70) (o := some 0) (by decide) rfl rfl fl_X9_100 ((W.sr hS_2.1).fr (f := 1037) (by decide)) dX9_ofBooking_66 ?_
      refine wp_run [(.iload_n 1, 1)] (pc' := 70) (L' := [(0, .inr (10, some 0)), (1, .inl (.int b)), (2, .inl (.int wh))]) (st' := [.inl (.int b), .inr (70, some 0)]) ⟨dX9_ofBooking_69, trivial⟩ rfl rfl ?_
      refine wx_iald (Or.inl rfl) (vin_mono (n := 30) (vin_cnt (n := 30) (D.fi (f := 1031) (by decide)) (by decide) h_1) (by decide)) dX9_ofBooking_70 ?_
      exact wx_iret rfl rfl dX9_ofBooking_71 (by rw [F_X9_ofBooking, if_pos h_1, if_neg h_3, if_neg h_4, if_neg h_5, if_pos h_6]; dsimp only; exact ⟨⟨hS_2.1, hS_2.2⟩, rfl, rfl⟩)
    refine wx_tableOut (tgt := 72) dX9_ofBooking_15 (cy_o3 h_3 h_4 h_5 h_6) (by decide) ?_
    refine wp_run [(.aload_n 0, 1), (.iconst 2, 1)] (pc' := 74) (L' := [(0, .inr (10, some 0)), (1, .inl (.int b)), (2, .inl (.int wh))]) (st' := [.inl (.int 2), .inr (10, some 0)]) ⟨dX9_ofBooking_72, dX9_ofBooking_73, trivial⟩ rfl rfl ?_
    refine wx_virtualDP (M := M_X9_ofBooking) (uc := 0) (us := 0) (s := 10) (i := 0) (As := [.inl (.int 2)]) (rest := []) cls_10 rfl (ok_X9_fails _ _) ml_X9_142 im_X9_fails se_X9_fails (by omega) (c_fails (d := d - 1) (h := (sFI h 1043 0 0)) (by omega) (W.sr hS_2.1) 2 hS_2.2) rfl rfl (Nat.le_of_ble_eq_true rfl) dX9_ofBooking_74 (fun hS_7 => ?_)
    exact wx_iret rfl rfl dX9_ofBooking_77 (by rw [F_X9_ofBooking, if_pos h_1, if_neg h_3, if_neg h_4, if_neg h_5, if_neg h_6]; dsimp only; exact ⟨⟨(hS_2.1.trans hS_7.1), hS_7.2⟩, rfl, rfl⟩)
  · refine wx_virtualD (M := M_X9_ofBooking) (uc := 0) (us := 0) (s := 10) (i := 0) (As := [.inl (.int b)]) (rest := [.inr (10, some 0)]) cls_10 rfl (ok_X9_isBooking _ _) ml_X9_256 im_X9_isBooking se_X9_isBooking (by omega) (det_to (c_X9_isBooking (d := d - 1) (h := h) (by omega) W b D) (by rw [isBooking_no h_1]) rfl) rfl rfl (Nat.le_of_ble_eq_true rfl) dX9_ofBooking_3 ?_
    refine wx_virtualDP (M := M_X9_ofBooking) (uc := 0) (us := 0) (s := 10) (i := 0) (As := [.inl (.int 0)]) (rest := []) cls_10 rfl (ok_X9_asks _ _) ml_X9_138 im_X9_asks se_X9_asks (by omega) (c_asks0 (d := d - 1) (h := h) (by omega) W D) rfl rfl (Nat.le_of_ble_eq_true rfl) dX9_ofBooking_6 (fun hS_8 => ?_)
    refine wx_if_ne (tgt := 14) dX9_ofBooking_9 (by decide) (fun h => absurd h (by decide)) (fun _ => ?_)
    refine wp_run [(.iconst 0, 1)] (pc' := 13) (L' := [(0, .inr (10, some 0)), (1, .inl (.int b)), (2, .inl (.int wh))]) (st' := [.inl (.int 0)]) ⟨dX9_ofBooking_12, trivial⟩ rfl rfl ?_
    exact wx_iret rfl rfl dX9_ofBooking_13 (by rw [F_X9_ofBooking, if_neg h_1]; dsimp only; exact ⟨⟨hS_8.1, hS_8.2⟩, rfl, rfl⟩)
