theorem nb_isRun (h : Hp) (t dy : Int32) : narrow .boolean (.int (F_X9_isRun h t dy)) = .int (F_X9_isRun h t dy) := by
  unfold F_X9_isRun
  repeat' split
  all_goals rfl
def F_X9_runs (h : Hp) (t : Int32) (dy : Int32) (v : Int32) : Int32 × Hp := (if okR t 0 (xFI h 1003 0 - 1) then (if okR dy 0 99 then (if v = 0 then ((F_X9_isRun (sFI h 1043 0 0) t dy), sAI (sFI h 1043 0 0) 50 0 (((100 * t) + dy).toNatClampNeg) 2) else ((F_X9_isRun (sFI h 1043 0 0) t dy), sAI (sFI h 1043 0 0) 50 0 (((100 * t) + dy).toNatClampNeg) 1)) else (0, sFI (sFI h 1043 0 0) 1043 0 2)) else (0, sFI h 1043 0 1))
set_option maxRecDepth 20000 in
theorem c_X9_runs {g : GT} {d : Nat} (hd : 3 ≤ d) {h : Hp} (W : MW h) (t : Int32) (dy : Int32) (v : Int32) (D : DM h)  : Ctr g M_X9_runs d 0 0 [.inr (10, some 0), .inl (.int t), .inl (.int dy), .inl (.int v)] h (cy_detP (.inl (some (.inl (.int (F_X9_runs h t dy v).1)))) (F_X9_runs h t dy v).2 (MP h (F_X9_runs h t dy v).2)) := by
  refine cy_body rfl rfl (by decide) (Nat.le_of_ble_eq_true rfl) ?_
  refine wp_run [(.aload_n 0, 1), (.aload_n 0, 1), (.iload_n 1, 1)] (pc' := 3) (L' := [(0, .inr (10, some 0)), (1, .inl (.int t)), (2, .inl (.int dy)), (3, .inl (.int v))]) (st' := [.inl (.int t), .inr (10, some 0), .inr (10, some 0)]) ⟨dX9_runs_0, dX9_runs_1, dX9_runs_2, trivial⟩ rfl rfl ?_
  by_cases h_1 : okR t 0 (xFI h 1003 0 - 1)
  · refine wx_virtualD (M := M_X9_runs) (uc := 0) (us := 0) (s := 10) (i := 0) (As := [.inl (.int t)]) (rest := [.inr (10, some 0)]) cls_10 rfl (ok_X9_isTrip _ _) ml_X9_153 im_X9_isTrip se_X9_isTrip (by omega) (det_to (c_X9_isTrip (d := d - 1) (h := h) (by omega) W t D) (by rw [isTrip_ok h_1]) rfl) rfl rfl (Nat.le_of_ble_eq_true rfl) dX9_runs_3 ?_
    refine wx_virtualDP (M := M_X9_runs) (uc := 0) (us := 0) (s := 10) (i := 0) (As := [.inl (.int 1)]) (rest := []) cls_10 rfl (ok_X9_asks _ _) ml_X9_138 im_X9_asks se_X9_asks (by omega) (c_asks1 (d := d - 1) (h := h) (by omega) W D) rfl rfl (Nat.le_of_ble_eq_true rfl) dX9_runs_6 (fun hS_2 => ?_)
    refine wx_if_ne (tgt := 14) dX9_runs_9 (by decide) (fun _ => ?_) (fun h => absurd h (by decide))
    refine wp_run [(.iload_n 2, 1)] (pc' := 15) (L' := [(0, .inr (10, some 0)), (1, .inl (.int t)), (2, .inl (.int dy)), (3, .inl (.int v))]) (st' := [.inl (.int dy)]) ⟨dX9_runs_14, trivial⟩ rfl rfl ?_
    by_cases h_3 : okR dy 0 99
    · refine wx_staticD (M := M_X9_runs) (uc := 0) (us := 0) (As := [.inl (.int dy)]) (rest := []) (ok_X9_isDay _ _) ml_X9_156 st_X9_isDay (by omega) (det_to (c_X9_isDay (d := d - 1) (h := (sFI h 1043 0 0)) (by omega) dy) (by rw [isDay_ok h_3]) rfl) rfl rfl (Nat.le_of_ble_eq_true rfl) dX9_runs_15 ?_
      refine wx_if_ne (tgt := 28) dX9_runs_18 (by decide) (fun _ => ?_) (fun h => absurd h (by decide))
      refine wp_run [(.aload_n 0, 1), (.iload_n 1, 1), (.iload_n 2, 1)] (pc' := 31) (L' := [(0, .inr (10, some 0)), (1, .inl (.int t)), (2, .inl (.int dy)), (3, .inl (.int v))]) (st' := [.inl (.int dy), .inl (.int t), .inr (10, some 0)]) ⟨dX9_runs_28, dX9_runs_29, dX9_runs_30, trivial⟩ rfl rfl ?_
      refine wx_virtualD (M := M_X9_runs) (uc := 0) (us := 0) (s := 10) (i := 0) (As := [.inl (.int t), .inl (.int dy)]) (rest := []) cls_10 rfl (ok_X9_isRun _ _) ml_X9_159 im_X9_isRun se_X9_isRun (by omega) (c_X9_isRun (d := d - 1) (h := (sFI h 1043 0 0)) (by omega) (W.sr hS_2.1) t dy hS_2.2 (vin_mono (n := 20) (vin_cnt (n := 20) (D.fi (f := 1003) (by decide)) (by decide) h_1) (by decide)) (vin_mono (n := 100) (vin_ok (n := 99) (by decide) h_3) (by decide))) rfl rfl (Nat.le_of_ble_eq_true rfl) dX9_runs_31 ?_
      refine wp_run [(.istore 4, 2), (.aload_n 0, 1)] (pc' := 37) (L' := [(4, .inl (.int (F_X9_isRun (sFI h 1043 0 0) t dy))), (0, .inr (10, some 0)), (1, .inl (.int t)), (2, .inl (.int dy)), (3, .inl (.int v))]) (st' := [.inr (10, some 0)]) ⟨dX9_runs_34, dX9_runs_36, trivial⟩ rfl rfl ?_
      refine wx_getR cls_10 (k := 12) (f := 1012) (t := 50) (o := some 0) (by decide) rfl rfl fl_X9_40 ((W.sr hS_2.1).fr (f := 1012) (by decide)) dX9_runs_37 ?_
      refine wp_run [(.bipush 100, 2), (.iload_n 1, 1), (.imul, 1), (.iload_n 2, 1), (.iadd, 1), (.iload_n 3, 1)] (pc' := 47) (L' := [(4, .inl (.int (F_X9_isRun (sFI h 1043 0 0) t dy))), (0, .inr (10, some 0)), (1, .inl (.int t)), (2, .inl (.int dy)), (3, .inl (.int v))]) (st' := [.inl (.int v), .inl (.int ((100 * t) + dy)), .inr (50, some 0)]) ⟨dX9_runs_40, dX9_runs_42, dX9_runs_43, dX9_runs_44, dX9_runs_45, dX9_runs_46, trivial⟩ rfl rfl ?_
      refine wx_if_eq (tgt := 54) dX9_runs_47 (by decide) (fun h_4 => ?_) (fun h_4 => ?_)
      · refine wp_run [(.iconst 2, 1)] (pc' := 55) (L' := [(4, .inl (.int (F_X9_isRun (sFI h 1043 0 0) t dy))), (0, .inr (10, some 0)), (1, .inl (.int t)), (2, .inl (.int dy)), (3, .inl (.int v))]) (st' := [.inl (.int 2), .inl (.int ((100 * t) + dy)), .inr (50, some 0)]) ⟨dX9_runs_54, trivial⟩ rfl rfl ?_
        refine wx_iast rfl (vin_mono (n := 2000) (vin_lin (c := 100) (vin_cnt (n := 20) (D.fi (f := 1003) (by decide)) (by decide) h_1) (vin_mono (vin_ok (n := 99) (by decide) h_3) (by decide)) (by decide)) (by decide)) dX9_runs_55 ?_
        have D_5 : DM (sAI (sFI h 1043 0 0) 50 0 (((100 * t) + dy).toNatClampNeg) 2) := hS_2.2.put (by decide)
        refine wp_run [(.iload 4, 2)] (pc' := 58) (L' := [(4, .inl (.int (F_X9_isRun (sFI h 1043 0 0) t dy))), (0, .inr (10, some 0)), (1, .inl (.int t)), (2, .inl (.int dy)), (3, .inl (.int v))]) (st' := [.inl (.int (F_X9_isRun (sFI h 1043 0 0) t dy))]) ⟨dX9_runs_56, trivial⟩ rfl rfl ?_
        exact wx_zret rfl rfl (nb_isRun _ _ _) dX9_runs_58 (by rw [F_X9_runs, if_pos h_1, if_pos h_3, if_pos h_4]; dsimp only; exact ⟨⟨hS_2.1, D_5⟩, rfl, rfl⟩)
      · refine wp_run [(.iconst 1, 1)] (pc' := 51) (L' := [(4, .inl (.int (F_X9_isRun (sFI h 1043 0 0) t dy))), (0, .inr (10, some 0)), (1, .inl (.int t)), (2, .inl (.int dy)), (3, .inl (.int v))]) (st' := [.inl (.int 1), .inl (.int ((100 * t) + dy)), .inr (50, some 0)]) ⟨dX9_runs_50, trivial⟩ rfl rfl ?_
        refine wx_goto (tgt := 55) dX9_runs_51 (by decide) ?_
        refine wx_iast rfl (vin_mono (n := 2000) (vin_lin (c := 100) (vin_cnt (n := 20) (D.fi (f := 1003) (by decide)) (by decide) h_1) (vin_mono (vin_ok (n := 99) (by decide) h_3) (by decide)) (by decide)) (by decide)) dX9_runs_55 ?_
        have D_6 : DM (sAI (sFI h 1043 0 0) 50 0 (((100 * t) + dy).toNatClampNeg) 1) := hS_2.2.put (by decide)
        refine wp_run [(.iload 4, 2)] (pc' := 58) (L' := [(4, .inl (.int (F_X9_isRun (sFI h 1043 0 0) t dy))), (0, .inr (10, some 0)), (1, .inl (.int t)), (2, .inl (.int dy)), (3, .inl (.int v))]) (st' := [.inl (.int (F_X9_isRun (sFI h 1043 0 0) t dy))]) ⟨dX9_runs_56, trivial⟩ rfl rfl ?_
        exact wx_zret rfl rfl (nb_isRun _ _ _) dX9_runs_58 (by rw [F_X9_runs, if_pos h_1, if_pos h_3, if_neg h_4]; dsimp only; exact ⟨⟨hS_2.1, D_6⟩, rfl, rfl⟩)
    · refine wx_staticD (M := M_X9_runs) (uc := 0) (us := 0) (As := [.inl (.int dy)]) (rest := []) (ok_X9_isDay _ _) ml_X9_156 st_X9_isDay (by omega) (det_to (c_X9_isDay (d := d - 1) (h := (sFI h 1043 0 0)) (by omega) dy) (by rw [isDay_no h_3]) rfl) rfl rfl (Nat.le_of_ble_eq_true rfl) dX9_runs_15 ?_
      refine wx_if_ne (tgt := 28) dX9_runs_18 (by decide) (fun h => absurd h (by decide)) (fun _ => ?_)
      refine wp_run [(.aload_n 0, 1), (.iconst 2, 1)] (pc' := 23) (L' := [(0, .inr (10, some 0)), (1, .inl (.int t)), (2, .inl (.int dy)), (3, .inl (.int v))]) (st' := [.inl (.int 2), .inr (10, some 0)]) ⟨dX9_runs_21, dX9_runs_22, trivial⟩ rfl rfl ?_
      refine wx_putI cls_10 (k := 43) (f := 1043) (by decide) rfl rfl rfl fl_X9_122 (Or.inl rfl) dX9_runs_23 ?_
      have D_7 : DM (sFI (sFI h 1043 0 0) 1043 0 2) := hS_2.2.fput (by decide)
      refine wp_run [(.iconst 0, 1)] (pc' := 27) (L' := [(0, .inr (10, some 0)), (1, .inl (.int t)), (2, .inl (.int dy)), (3, .inl (.int v))]) (st' := [.inl (.int 0)]) ⟨dX9_runs_26, trivial⟩ rfl rfl ?_
      exact wx_zret rfl rfl rfl dX9_runs_27 (by rw [F_X9_runs, if_pos h_1, if_neg h_3]; dsimp only; exact ⟨⟨hS_2.1, D_7⟩, rfl, rfl⟩)
  · refine wx_virtualD (M := M_X9_runs) (uc := 0) (us := 0) (s := 10) (i := 0) (As := [.inl (.int t)]) (rest := [.inr (10, some 0)]) cls_10 rfl (ok_X9_isTrip _ _) ml_X9_153 im_X9_isTrip se_X9_isTrip (by omega) (det_to (c_X9_isTrip (d := d - 1) (h := h) (by omega) W t D) (by rw [isTrip_no h_1]) rfl) rfl rfl (Nat.le_of_ble_eq_true rfl) dX9_runs_3 ?_
    refine wx_virtualDP (M := M_X9_runs) (uc := 0) (us := 0) (s := 10) (i := 0) (As := [.inl (.int 0)]) (rest := []) cls_10 rfl (ok_X9_asks _ _) ml_X9_138 im_X9_asks se_X9_asks (by omega) (c_asks0 (d := d - 1) (h := h) (by omega) W D) rfl rfl (Nat.le_of_ble_eq_true rfl) dX9_runs_6 (fun hS_8 => ?_)
    refine wx_if_ne (tgt := 14) dX9_runs_9 (by decide) (fun h => absurd h (by decide)) (fun _ => ?_)
    refine wp_run [(.iconst 0, 1)] (pc' := 13) (L' := [(0, .inr (10, some 0)), (1, .inl (.int t)), (2, .inl (.int dy)), (3, .inl (.int v))]) (st' := [.inl (.int 0)]) ⟨dX9_runs_12, trivial⟩ rfl rfl ?_
    exact wx_zret rfl rfl rfl dX9_runs_13 (by rw [F_X9_runs, if_neg h_1]; dsimp only; exact ⟨⟨hS_8.1, hS_8.2⟩, rfl, rfl⟩)
def K_X9_rides_66 (h : Hp) (k : Int32) (t : Int32) (dy : Int32) (h3 : Hp) (i : Nat) (rec3 : Hp → Nat → Hp) (h66 : Hp) (j : Nat) : Hp := (rec3 h66 (i + 1))
def B_X9_rides_66 (h : Hp) (k : Int32) (t : Int32) (dy : Int32) (h3 : Hp) (i : Nat) (rec3 : Hp → Nat → Hp) (kx : Hp → Nat → Hp) (rec66 : Hp → Nat → Hp) (h66 : Hp) (j : Nat) : Hp := (if (xAI h66 46 0 t.toNatClampNeg) ≤ (nI j) then (kx h66 j) else (if ((if (F_X9_departure h3 t dy (nI i)) < (xAI h3 58 0 ((10 * (k - 1)) + (xAI h3 47 0 ((6 * t) + (nI i)).toNatClampNeg)).toNatClampNeg) then 0 else 1) : Int32) = 0 then (kx h66 j) else (rec66 (sAI h66 57 0 (((10 * k) + (xAI h66 47 0 ((6 * t) + (nI j)).toNatClampNeg)).toNatClampNeg) ((if (xAI h66 57 0 ((10 * k) + (xAI h66 47 0 ((6 * t) + (nI j)).toNatClampNeg)).toNatClampNeg) ≤ (F_X9_arrivalOf h66 t dy (nI j)) then (xAI h66 57 0 ((10 * k) + (xAI h66 47 0 ((6 * t) + (nI j)).toNatClampNeg)).toNatClampNeg) else (F_X9_arrivalOf h66 t dy (nI j))) : Int32)) (j + 1))))
def L_X9_rides_66 (h : Hp) (k : Int32) (t : Int32) (dy : Int32) (h3 : Hp) (i : Nat) (rec3 : Hp → Nat → Hp) (kx : Hp → Nat → Hp) : Nat → Hp → Nat → Hp
  | 0 => fun h66 j => h66
  | fu + 1 => B_X9_rides_66 h k t dy h3 i rec3 kx (L_X9_rides_66 h k t dy h3 i rec3 kx fu)
theorem L_X9_rides_66_s (h : Hp) (k : Int32) (t : Int32) (dy : Int32) (h3 : Hp) (i : Nat) (rec3 : Hp → Nat → Hp) (kx : Hp → Nat → Hp) (fu : Nat) (h66 : Hp) (j : Nat) : L_X9_rides_66 h k t dy h3 i rec3 kx (fu + 1) h66 j = B_X9_rides_66 h k t dy h3 i rec3 kx (L_X9_rides_66 h k t dy h3 i rec3 kx fu) h66 j := rfl
def B_X9_rides_3 (h : Hp) (k : Int32) (t : Int32) (dy : Int32) (rec3 : Hp → Nat → Hp) (h3 : Hp) (i : Nat) : Hp := (if (xAI h3 46 0 t.toNatClampNeg) ≤ (nI i) then h3 else L_X9_rides_66 h k t dy h3 i rec3 (K_X9_rides_66 h k t dy h3 i rec3) (2147483648 - (i + 1) + 1) h3 (i + 1))
def L_X9_rides_3 (h : Hp) (k : Int32) (t : Int32) (dy : Int32) : Nat → Hp → Nat → Hp
  | 0 => fun h3 i => h3
  | fu + 1 => B_X9_rides_3 h k t dy (L_X9_rides_3 h k t dy fu)
theorem L_X9_rides_3_s (h : Hp) (k : Int32) (t : Int32) (dy : Int32) (fu : Nat) (h3 : Hp) (i : Nat) : L_X9_rides_3 h k t dy (fu + 1) h3 i = B_X9_rides_3 h k t dy (L_X9_rides_3 h k t dy fu) h3 i := rfl
def F_X9_rides (h : Hp) (k : Int32) (t : Int32) (dy : Int32) : Hp := L_X9_rides_3 h k t dy (2147483648 - 0 + 1) h 0
set_option maxRecDepth 20000 in
theorem c_X9_rides {g : GT} {d : Nat} (hd : 2 ≤ d) {h : Hp} (W : MW h) (k : Int32) (t : Int32) (dy : Int32) (D : DM h) (v_k : vp_in k 5) (v_k1 : vp_in (k - 1) 4) (v_t : vp_in t 20) (v_dy : vp_in dy 100)  : Ctr g M_X9_rides d 0 0 [.inr (10, some 0), .inl (.int k), .inl (.int t), .inl (.int dy)] h (cy_detP (.inl none) (F_X9_rides h k t dy) (MP h (F_X9_rides h k t dy))) := by
  refine cy_body rfl rfl (by decide) (Nat.le_of_ble_eq_true rfl) ?_
  refine wp_run [(.iconst 0, 1), (.istore 4, 2)] (pc' := 3) (L' := [(4, .inl (.int 0)), (0, .inr (10, some 0)), (1, .inl (.int k)), (2, .inl (.int t)), (3, .inl (.int dy))]) (st' := []) ⟨dX9_rides_0, dX9_rides_1, trivial⟩ rfl rfl ?_
  rw [F_X9_rides]
  refine wp_sub [0, 1, 2, 3, 4] (L' := [(4, .inl (.int 0)), (0, .inr (10, some 0)), (1, .inl (.int k)), (2, .inl (.int t)), (3, .inl (.int dy))]) rfl ?_
  suffices Y3 : ∀ (n3 : Nat) (h3 : Hp) (i : Nat) (Sr3 : SR h h3) (D3 : DM h3) (hii : i < 2147483648) (hm3 : 2147483648 - i < n3), WP g M_X9_rides d 0 0 3 [(4, .inl (.int (nI i))), (0, .inr (10, some 0)), (1, .inl (.int k)), (2, .inl (.int t)), (3, .inl (.int dy))] [] h3 (cy_detP (.inl none) (L_X9_rides_3 h k t dy n3 h3 i) (MP h (L_X9_rides_3 h k t dy n3 h3 i))) from
    Y3 (2147483648 - 0 + 1) h 0 SR.rf D (by decide) (Nat.lt_succ_self _)
  intro n3
  induction n3 with
  | zero => intro h3 i Sr3 D3 hii hm3; exact absurd hm3 (Nat.not_lt_zero _)
  | succ n3 ih3 =>
    intro h3 i Sr3 D3 hii hm3
    rw [L_X9_rides_3_s]
    generalize L_X9_rides_3 h k t dy n3 = rec3 at ih3 ⊢
    refine wp_run [(.iload 4, 2), (.aload_n 0, 1)] (pc' := 6) (L' := [(4, .inl (.int (nI i))), (0, .inr (10, some 0)), (1, .inl (.int k)), (2, .inl (.int t)), (3, .inl (.int dy))]) (st' := [.inr (10, some 0), .inl (.int (nI i))]) ⟨dX9_rides_3, dX9_rides_5, trivial⟩ rfl rfl ?_
    refine wx_getR cls_10 (k := 8) (f := 1008) (t := 46) (o := some 0) (by decide) rfl rfl fl_X9_28 ((W.sr Sr3).fr (f := 1008) (by decide)) dX9_rides_6 ?_
    refine wp_run [(.iload_n 2, 1)] (pc' := 10) (L' := [(4, .inl (.int (nI i))), (0, .inr (10, some 0)), (1, .inl (.int k)), (2, .inl (.int t)), (3, .inl (.int dy))]) (st' := [.inl (.int t), .inr (46, some 0), .inl (.int (nI i))]) ⟨dX9_rides_9, trivial⟩ rfl rfl ?_
    refine wx_iald (Or.inl rfl) (vin_mono (n := 20) v_t (by decide)) dX9_rides_10 ?_
    refine wx_icmp_ge (tgt := 154) dX9_rides_11 (by decide) (fun h_1 => ?_) (fun h_1 => ?_)
    · exact wx_vret rfl rfl dX9_rides_154 (by rw [B_X9_rides_3, if_pos h_1]; exact ⟨⟨Sr3, D3⟩, rfl, rfl⟩)
    · refine wp_run [(.aload_n 0, 1)] (pc' := 15) (L' := [(4, .inl (.int (nI i))), (0, .inr (10, some 0)), (1, .inl (.int k)), (2, .inl (.int t)), (3, .inl (.int dy))]) (st' := [.inr (10, some 0)]) ⟨dX9_rides_14, trivial⟩ rfl rfl ?_
      refine wx_getR cls_10 (k := 9) (f := 1009) (t := 47) (o := some 0) (by decide) rfl rfl fl_X9_31 ((W.sr Sr3).fr (f := 1009) (by decide)) dX9_rides_15 ?_
      refine wp_run [(.bipush 6, 2), (.iload_n 2, 1), (.imul, 1), (.iload 4, 2), (.iadd, 1)] (pc' := 25) (L' := [(4, .inl (.int (nI i))), (0, .inr (10, some 0)), (1, .inl (.int k)), (2, .inl (.int t)), (3, .inl (.int dy))]) (st' := [.inl (.int ((6 * t) + (nI i))), .inr (47, some 0)]) ⟨dX9_rides_18, dX9_rides_20, dX9_rides_21, dX9_rides_22, dX9_rides_24, trivial⟩ rfl rfl ?_
      refine wx_iald (Or.inl rfl) (vin_mono (n := 120) (vin_lin (c := 6) v_t (vin_mono (vin_lt hii h_1 (D3.ai (s := 46) (b := 7) (by decide) _)) (by decide)) (by decide)) (by decide)) dX9_rides_25 ?_
      refine wp_run [(.istore 5, 2), (.aload_n 0, 1), (.iload_n 2, 1), (.iload_n 3, 1), (.iload 4, 2)] (pc' := 33) (L' := [(5, .inl (.int (xAI h3 47 0 ((6 * t) + (nI i)).toNatClampNeg))), (4, .inl (.int (nI i))), (0, .inr (10, some 0)), (1, .inl (.int k)), (2, .inl (.int t)), (3, .inl (.int dy))]) (st' := [.inl (.int (nI i)), .inl (.int dy), .inl (.int t), .inr (10, some 0)]) ⟨dX9_rides_26, dX9_rides_28, dX9_rides_29, dX9_rides_30, dX9_rides_31, trivial⟩ rfl rfl ?_
      refine wx_virtualD (M := M_X9_rides) (uc := 0) (us := 0) (s := 10) (i := 0) (As := [.inl (.int t), .inl (.int dy), .inl (.int (nI i))]) (rest := []) cls_10 rfl (ok_X9_departure _ _) ml_X9_169 im_X9_departure se_X9_departure (by omega) (c_X9_departure (d := d - 1) (h := h3) (by omega) (W.sr Sr3) t dy (nI i) D3 (vin_mono (n := 20) v_t (by decide)) (vin_mono (n := 100) v_dy (by decide)) (vin_mono (n := 6) (vin_lt hii h_1 (D3.ai (s := 46) (b := 7) (by decide) _)) (by decide))) rfl rfl (Nat.le_of_ble_eq_true rfl) dX9_rides_33 ?_
      refine wp_run [(.aload_n 0, 1)] (pc' := 37) (L' := [(5, .inl (.int (xAI h3 47 0 ((6 * t) + (nI i)).toNatClampNeg))), (4, .inl (.int (nI i))), (0, .inr (10, some 0)), (1, .inl (.int k)), (2, .inl (.int t)), (3, .inl (.int dy))]) (st' := [.inr (10, some 0), .inl (.int (F_X9_departure h3 t dy (nI i)))]) ⟨dX9_rides_36, trivial⟩ rfl rfl ?_
      refine wx_getR cls_10 (k := 20) (f := 1020) (t := 58) (o := some 0) (by decide) rfl rfl fl_X9_64 ((W.sr Sr3).fr (f := 1020) (by decide)) dX9_rides_37 ?_
      refine wp_run [(.bipush 10, 2), (.iload_n 1, 1), (.iconst 1, 1), (.isub, 1), (.imul, 1), (.iload 5, 2), (.iadd, 1)] (pc' := 49) (L' := [(5, .inl (.int (xAI h3 47 0 ((6 * t) + (nI i)).toNatClampNeg))), (4, .inl (.int (nI i))), (0, .inr (10, some 0)), (1, .inl (.int k)), (2, .inl (.int t)), (3, .inl (.int dy))]) (st' := [.inl (.int ((10 * (k - 1)) + (xAI h3 47 0 ((6 * t) + (nI i)).toNatClampNeg))), .inr (58, some 0), .inl (.int (F_X9_departure h3 t dy (nI i)))]) ⟨dX9_rides_40, dX9_rides_42, dX9_rides_43, dX9_rides_44, dX9_rides_45, dX9_rides_46, dX9_rides_48, trivial⟩ rfl rfl ?_
      refine wx_iald (Or.inl rfl) (vin_mono (n := 50) (vin_lin (c := 10) v_k1 (vin_mono (D3.ai (s := 47) (b := 10) (by decide) _) (by decide)) (by decide)) (by decide)) dX9_rides_49 ?_
      refine wp_by (uc' := 0) (us' := 0) (pc' := 58) (L' := [(5, .inl (.int (xAI h3 47 0 ((6 * t) + (nI i)).toNatClampNeg))), (4, .inl (.int (nI i))), (0, .inr (10, some 0)), (1, .inl (.int k)), (2, .inl (.int t)), (3, .inl (.int dy))]) (st' := [.inl (.int ((if (F_X9_departure h3 t dy (nI i)) < (xAI h3 58 0 ((10 * (k - 1)) + (xAI h3 47 0 ((6 * t) + (nI i)).toNatClampNeg)).toNatClampNeg) then 0 else 1) : Int32))]) (h' := h3) (fun J_2 => ?_) ?_
      · refine wx_icmp_lt (tgt := 57) dX9_rides_50 (by decide) (fun h_3 => ?_) (fun h_3 => ?_)
        · refine wp_run [(.iconst 0, 1)] (pc' := 58) (L' := [(5, .inl (.int (xAI h3 47 0 ((6 * t) + (nI i)).toNatClampNeg))), (4, .inl (.int (nI i))), (0, .inr (10, some 0)), (1, .inl (.int k)), (2, .inl (.int t)), (3, .inl (.int dy))]) (st' := [.inl (.int 0)]) ⟨dX9_rides_57, trivial⟩ rfl rfl ?_
          refine wp_sub [0, 1, 2, 3, 4, 5] (L' := [(5, .inl (.int (xAI h3 47 0 ((6 * t) + (nI i)).toNatClampNeg))), (4, .inl (.int (nI i))), (0, .inr (10, some 0)), (1, .inl (.int k)), (2, .inl (.int t)), (3, .inl (.int dy))]) rfl ?_
          exact wp_eq J_2 rfl (by simp only [if_pos h_3]) rfl
        · refine wp_run [(.iconst 1, 1)] (pc' := 54) (L' := [(5, .inl (.int (xAI h3 47 0 ((6 * t) + (nI i)).toNatClampNeg))), (4, .inl (.int (nI i))), (0, .inr (10, some 0)), (1, .inl (.int k)), (2, .inl (.int t)), (3, .inl (.int dy))]) (st' := [.inl (.int 1)]) ⟨dX9_rides_53, trivial⟩ rfl rfl ?_
          refine wx_goto (tgt := 58) dX9_rides_54 (by decide) ?_
          refine wp_sub [0, 1, 2, 3, 4, 5] (L' := [(5, .inl (.int (xAI h3 47 0 ((6 * t) + (nI i)).toNatClampNeg))), (4, .inl (.int (nI i))), (0, .inr (10, some 0)), (1, .inl (.int k)), (2, .inl (.int t)), (3, .inl (.int dy))]) rfl ?_
          exact wp_eq J_2 rfl (by simp only [if_neg h_3]) rfl
      refine wp_run [(.istore 6, 2), (.iload 4, 2), (.iconst 1, 1), (.iadd, 1), (.istore 7, 2)] (pc' := 66) (L' := [(7, .inl (.int ((nI i) + 1))), (6, .inl (.int ((if (F_X9_departure h3 t dy (nI i)) < (xAI h3 58 0 ((10 * (k - 1)) + (xAI h3 47 0 ((6 * t) + (nI i)).toNatClampNeg)).toNatClampNeg) then 0 else 1) : Int32))), (5, .inl (.int (xAI h3 47 0 ((6 * t) + (nI i)).toNatClampNeg))), (4, .inl (.int (nI i))), (0, .inr (10, some 0)), (1, .inl (.int k)), (2, .inl (.int t)), (3, .inl (.int dy))]) (st' := []) ⟨dX9_rides_58, dX9_rides_60, dX9_rides_62, dX9_rides_63, dX9_rides_64, trivial⟩ rfl rfl ?_
      rw [B_X9_rides_3, if_neg h_1]
      rw [nI_1 i]
      refine wp_sub [0, 1, 3, 4, 5, 6, 7] (L' := [(7, .inl (.int (nI (i + 1)))), (6, .inl (.int ((if (F_X9_departure h3 t dy (nI i)) < (xAI h3 58 0 ((10 * (k - 1)) + (xAI h3 47 0 ((6 * t) + (nI i)).toNatClampNeg)).toNatClampNeg) then 0 else 1) : Int32))), (4, .inl (.int (nI i))), (0, .inr (10, some 0)), (1, .inl (.int k)), (2, .inl (.int t)), (3, .inl (.int dy))]) rfl ?_
      have X66 : ∀ (h66 : Hp) (j : Nat) (Sr66 : SR h h66) (D66 : DM h66) (hij : j < 2147483648) , WP g M_X9_rides d 0 0 148 [(4, .inl (.int (nI i))), (0, .inr (10, some 0)), (1, .inl (.int k)), (2, .inl (.int t)), (3, .inl (.int dy))] [] h66 (cy_detP (.inl none) (K_X9_rides_66 h k t dy h3 i rec3 h66 j) (MP h (K_X9_rides_66 h k t dy h3 i rec3 h66 j))) := by
        intro h66 j Sr66 D66 hij
        refine wp_run [(.iinc 4 1, 3)] (pc' := 151) (L' := [(4, .inl (.int ((nI i) + 1))), (0, .inr (10, some 0)), (1, .inl (.int k)), (2, .inl (.int t)), (3, .inl (.int dy))]) (st' := []) ⟨dX9_rides_148, trivial⟩ rfl rfl ?_
        refine wx_goto (tgt := 3) dX9_rides_151 (by decide) ?_
        rw [K_X9_rides_66]
        rw [nI_1 i]
        refine wp_sub [0, 1, 2, 3, 4] (L' := [(4, .inl (.int (nI (i + 1)))), (0, .inr (10, some 0)), (1, .inl (.int k)), (2, .inl (.int t)), (3, .inl (.int dy))]) rfl ?_
        exact ih3 _ _ Sr66 D66 (cy_nlt hii h_1).2 (by have := (cy_nlt hii h_1).2; omega)
      suffices Y66 : ∀ (n66 : Nat) (h66 : Hp) (j : Nat) (Sr66 : SR h h66) (D66 : DM h66) (hij : j < 2147483648) (hm66 : 2147483648 - j < n66), WP g M_X9_rides d 0 0 66 [(7, .inl (.int (nI j))), (6, .inl (.int ((if (F_X9_departure h3 t dy (nI i)) < (xAI h3 58 0 ((10 * (k - 1)) + (xAI h3 47 0 ((6 * t) + (nI i)).toNatClampNeg)).toNatClampNeg) then 0 else 1) : Int32))), (4, .inl (.int (nI i))), (0, .inr (10, some 0)), (1, .inl (.int k)), (2, .inl (.int t)), (3, .inl (.int dy))] [] h66 (cy_detP (.inl none) (L_X9_rides_66 h k t dy h3 i rec3 (K_X9_rides_66 h k t dy h3 i rec3) n66 h66 j) (MP h (L_X9_rides_66 h k t dy h3 i rec3 (K_X9_rides_66 h k t dy h3 i rec3) n66 h66 j))) from
        Y66 (2147483648 - (i + 1) + 1) h3 (i + 1) Sr3 D3 (cy_nlt hii h_1).2 (Nat.lt_succ_self _)
      intro n66
      induction n66 with
      | zero => intro h66 j Sr66 D66 hij hm66; exact absurd hm66 (Nat.not_lt_zero _)
      | succ n66 ih66 =>
        intro h66 j Sr66 D66 hij hm66
        rw [L_X9_rides_66_s]
        generalize L_X9_rides_66 h k t dy h3 i rec3 (K_X9_rides_66 h k t dy h3 i rec3) n66 = rec66 at ih66 ⊢
        refine wp_run [(.iload 7, 2), (.aload_n 0, 1)] (pc' := 69) (L' := [(7, .inl (.int (nI j))), (6, .inl (.int ((if (F_X9_departure h3 t dy (nI i)) < (xAI h3 58 0 ((10 * (k - 1)) + (xAI h3 47 0 ((6 * t) + (nI i)).toNatClampNeg)).toNatClampNeg) then 0 else 1) : Int32))), (4, .inl (.int (nI i))), (0, .inr (10, some 0)), (1, .inl (.int k)), (2, .inl (.int t)), (3, .inl (.int dy))]) (st' := [.inr (10, some 0), .inl (.int (nI j))]) ⟨dX9_rides_66, dX9_rides_68, trivial⟩ rfl rfl ?_
        refine wx_getR cls_10 (k := 8) (f := 1008) (t := 46) (o := some 0) (by decide) rfl rfl fl_X9_28 ((W.sr Sr66).fr (f := 1008) (by decide)) dX9_rides_69 ?_
        refine wp_run [(.iload_n 2, 1)] (pc' := 73) (L' := [(7, .inl (.int (nI j))), (6, .inl (.int ((if (F_X9_departure h3 t dy (nI i)) < (xAI h3 58 0 ((10 * (k - 1)) + (xAI h3 47 0 ((6 * t) + (nI i)).toNatClampNeg)).toNatClampNeg) then 0 else 1) : Int32))), (4, .inl (.int (nI i))), (0, .inr (10, some 0)), (1, .inl (.int k)), (2, .inl (.int t)), (3, .inl (.int dy))]) (st' := [.inl (.int t), .inr (46, some 0), .inl (.int (nI j))]) ⟨dX9_rides_72, trivial⟩ rfl rfl ?_
        refine wx_iald (Or.inl rfl) (vin_mono (n := 20) v_t (by decide)) dX9_rides_73 ?_
        refine wx_icmp_ge (tgt := 148) dX9_rides_74 (by decide) (fun h_4 => ?_) (fun h_4 => ?_)
        · rw [B_X9_rides_66, if_pos h_4]
          refine wp_sub [2, 3, 4, 5, 6] (L' := [(4, .inl (.int (nI i))), (0, .inr (10, some 0)), (1, .inl (.int k)), (2, .inl (.int t)), (3, .inl (.int dy))]) rfl ?_
          exact X66 _ _ Sr66 D66 hij
        · refine wp_run [(.iload 6, 2)] (pc' := 79) (L' := [(7, .inl (.int (nI j))), (6, .inl (.int ((if (F_X9_departure h3 t dy (nI i)) < (xAI h3 58 0 ((10 * (k - 1)) + (xAI h3 47 0 ((6 * t) + (nI i)).toNatClampNeg)).toNatClampNeg) then 0 else 1) : Int32))), (4, .inl (.int (nI i))), (0, .inr (10, some 0)), (1, .inl (.int k)), (2, .inl (.int t)), (3, .inl (.int dy))]) (st' := [.inl (.int ((if (F_X9_departure h3 t dy (nI i)) < (xAI h3 58 0 ((10 * (k - 1)) + (xAI h3 47 0 ((6 * t) + (nI i)).toNatClampNeg)).toNatClampNeg) then 0 else 1) : Int32))]) ⟨dX9_rides_77, trivial⟩ rfl rfl ?_
          refine wx_if_eq (tgt := 148) dX9_rides_79 (by decide) (fun h_5 => ?_) (fun h_5 => ?_)
          · rw [B_X9_rides_66, if_neg h_4, if_pos h_5]
            refine wp_sub [2, 3, 4, 5, 6] (L' := [(4, .inl (.int (nI i))), (0, .inr (10, some 0)), (1, .inl (.int k)), (2, .inl (.int t)), (3, .inl (.int dy))]) rfl ?_
            exact X66 _ _ Sr66 D66 hij
          · refine wp_run [(.bipush 10, 2), (.iload_n 1, 1), (.imul, 1), (.aload_n 0, 1)] (pc' := 87) (L' := [(7, .inl (.int (nI j))), (6, .inl (.int ((if (F_X9_departure h3 t dy (nI i)) < (xAI h3 58 0 ((10 * (k - 1)) + (xAI h3 47 0 ((6 * t) + (nI i)).toNatClampNeg)).toNatClampNeg) then 0 else 1) : Int32))), (4, .inl (.int (nI i))), (0, .inr (10, some 0)), (1, .inl (.int k)), (2, .inl (.int t)), (3, .inl (.int dy))]) (st' := [.inr (10, some 0), .inl (.int (10 * k))]) ⟨dX9_rides_82, dX9_rides_84, dX9_rides_85, dX9_rides_86, trivial⟩ rfl rfl ?_
            refine wx_getR cls_10 (k := 9) (f := 1009) (t := 47) (o := some 0) (by decide) rfl rfl fl_X9_31 ((W.sr Sr66).fr (f := 1009) (by decide)) dX9_rides_87 ?_
            refine wp_run [(.bipush 6, 2), (.iload_n 2, 1), (.imul, 1), (.iload 7, 2), (.iadd, 1)] (pc' := 97) (L' := [(7, .inl (.int (nI j))), (6, .inl (.int ((if (F_X9_departure h3 t dy (nI i)) < (xAI h3 58 0 ((10 * (k - 1)) + (xAI h3 47 0 ((6 * t) + (nI i)).toNatClampNeg)).toNatClampNeg) then 0 else 1) : Int32))), (4, .inl (.int (nI i))), (0, .inr (10, some 0)), (1, .inl (.int k)), (2, .inl (.int t)), (3, .inl (.int dy))]) (st' := [.inl (.int ((6 * t) + (nI j))), .inr (47, some 0), .inl (.int (10 * k))]) ⟨dX9_rides_90, dX9_rides_92, dX9_rides_93, dX9_rides_94, dX9_rides_96, trivial⟩ rfl rfl ?_
            refine wx_iald (Or.inl rfl) (vin_mono (n := 120) (vin_lin (c := 6) v_t (vin_mono (vin_lt hij h_4 (D66.ai (s := 46) (b := 7) (by decide) _)) (by decide)) (by decide)) (by decide)) dX9_rides_97 ?_
            refine wp_run [(.iadd, 1), (.istore 8, 2), (.aload_n 0, 1), (.iload_n 2, 1), (.iload_n 3, 1), (.iload 7, 2)] (pc' := 106) (L' := [(8, .inl (.int ((10 * k) + (xAI h66 47 0 ((6 * t) + (nI j)).toNatClampNeg)))), (7, .inl (.int (nI j))), (6, .inl (.int ((if (F_X9_departure h3 t dy (nI i)) < (xAI h3 58 0 ((10 * (k - 1)) + (xAI h3 47 0 ((6 * t) + (nI i)).toNatClampNeg)).toNatClampNeg) then 0 else 1) : Int32))), (4, .inl (.int (nI i))), (0, .inr (10, some 0)), (1, .inl (.int k)), (2, .inl (.int t)), (3, .inl (.int dy))]) (st' := [.inl (.int (nI j)), .inl (.int dy), .inl (.int t), .inr (10, some 0)]) ⟨dX9_rides_98, dX9_rides_99, dX9_rides_101, dX9_rides_102, dX9_rides_103, dX9_rides_104, trivial⟩ rfl rfl ?_
            refine wx_virtualD (M := M_X9_rides) (uc := 0) (us := 0) (s := 10) (i := 0) (As := [.inl (.int t), .inl (.int dy), .inl (.int (nI j))]) (rest := []) cls_10 rfl (ok_X9_arrivalOf _ _) ml_X9_173 im_X9_arrivalOf se_X9_arrivalOf (by omega) (c_X9_arrivalOf (d := d - 1) (h := h66) (by omega) (W.sr Sr66) t dy (nI j) D66 (vin_mono (n := 20) v_t (by decide)) (vin_mono (n := 100) v_dy (by decide)) (vin_mono (n := 6) (vin_lt hij h_4 (D66.ai (s := 46) (b := 7) (by decide) _)) (by decide))) rfl rfl (Nat.le_of_ble_eq_true rfl) dX9_rides_106 ?_
            refine wp_run [(.istore 9, 2), (.aload_n 0, 1)] (pc' := 112) (L' := [(9, .inl (.int (F_X9_arrivalOf h66 t dy (nI j)))), (8, .inl (.int ((10 * k) + (xAI h66 47 0 ((6 * t) + (nI j)).toNatClampNeg)))), (7, .inl (.int (nI j))), (6, .inl (.int ((if (F_X9_departure h3 t dy (nI i)) < (xAI h3 58 0 ((10 * (k - 1)) + (xAI h3 47 0 ((6 * t) + (nI i)).toNatClampNeg)).toNatClampNeg) then 0 else 1) : Int32))), (4, .inl (.int (nI i))), (0, .inr (10, some 0)), (1, .inl (.int k)), (2, .inl (.int t)), (3, .inl (.int dy))]) (st' := [.inr (10, some 0)]) ⟨dX9_rides_109, dX9_rides_111, trivial⟩ rfl rfl ?_
            refine wx_getR cls_10 (k := 19) (f := 1019) (t := 57) (o := some 0) (by decide) rfl rfl fl_X9_61 ((W.sr Sr66).fr (f := 1019) (by decide)) dX9_rides_112 ?_
            refine wp_run [(.iload 8, 2), (.iload 9, 2), (.aload_n 0, 1)] (pc' := 120) (L' := [(9, .inl (.int (F_X9_arrivalOf h66 t dy (nI j)))), (8, .inl (.int ((10 * k) + (xAI h66 47 0 ((6 * t) + (nI j)).toNatClampNeg)))), (7, .inl (.int (nI j))), (6, .inl (.int ((if (F_X9_departure h3 t dy (nI i)) < (xAI h3 58 0 ((10 * (k - 1)) + (xAI h3 47 0 ((6 * t) + (nI i)).toNatClampNeg)).toNatClampNeg) then 0 else 1) : Int32))), (4, .inl (.int (nI i))), (0, .inr (10, some 0)), (1, .inl (.int k)), (2, .inl (.int t)), (3, .inl (.int dy))]) (st' := [.inr (10, some 0), .inl (.int (F_X9_arrivalOf h66 t dy (nI j))), .inl (.int ((10 * k) + (xAI h66 47 0 ((6 * t) + (nI j)).toNatClampNeg))), .inr (57, some 0)]) ⟨dX9_rides_115, dX9_rides_117, dX9_rides_119, trivial⟩ rfl rfl ?_
            refine wx_getR cls_10 (k := 19) (f := 1019) (t := 57) (o := some 0) (by decide) rfl rfl fl_X9_61 ((W.sr Sr66).fr (f := 1019) (by decide)) dX9_rides_120 ?_
            refine wp_run [(.iload 8, 2)] (pc' := 125) (L' := [(9, .inl (.int (F_X9_arrivalOf h66 t dy (nI j)))), (8, .inl (.int ((10 * k) + (xAI h66 47 0 ((6 * t) + (nI j)).toNatClampNeg)))), (7, .inl (.int (nI j))), (6, .inl (.int ((if (F_X9_departure h3 t dy (nI i)) < (xAI h3 58 0 ((10 * (k - 1)) + (xAI h3 47 0 ((6 * t) + (nI i)).toNatClampNeg)).toNatClampNeg) then 0 else 1) : Int32))), (4, .inl (.int (nI i))), (0, .inr (10, some 0)), (1, .inl (.int k)), (2, .inl (.int t)), (3, .inl (.int dy))]) (st' := [.inl (.int ((10 * k) + (xAI h66 47 0 ((6 * t) + (nI j)).toNatClampNeg))), .inr (57, some 0), .inl (.int (F_X9_arrivalOf h66 t dy (nI j))), .inl (.int ((10 * k) + (xAI h66 47 0 ((6 * t) + (nI j)).toNatClampNeg))), .inr (57, some 0)]) ⟨dX9_rides_123, trivial⟩ rfl rfl ?_
            refine wx_iald (Or.inl rfl) (vin_mono (n := 50) (vin_lin (c := 10) v_k (vin_mono (D66.ai (s := 47) (b := 10) (by decide) _) (by decide)) (by decide)) (by decide)) dX9_rides_125 ?_
            refine wp_by (uc' := 0) (us' := 0) (pc' := 141) (L' := [(9, .inl (.int (F_X9_arrivalOf h66 t dy (nI j)))), (8, .inl (.int ((10 * k) + (xAI h66 47 0 ((6 * t) + (nI j)).toNatClampNeg)))), (7, .inl (.int (nI j))), (6, .inl (.int ((if (F_X9_departure h3 t dy (nI i)) < (xAI h3 58 0 ((10 * (k - 1)) + (xAI h3 47 0 ((6 * t) + (nI i)).toNatClampNeg)).toNatClampNeg) then 0 else 1) : Int32))), (4, .inl (.int (nI i))), (0, .inr (10, some 0)), (1, .inl (.int k)), (2, .inl (.int t)), (3, .inl (.int dy))]) (st' := [.inl (.int ((if (xAI h66 57 0 ((10 * k) + (xAI h66 47 0 ((6 * t) + (nI j)).toNatClampNeg)).toNatClampNeg) ≤ (F_X9_arrivalOf h66 t dy (nI j)) then (xAI h66 57 0 ((10 * k) + (xAI h66 47 0 ((6 * t) + (nI j)).toNatClampNeg)).toNatClampNeg) else (F_X9_arrivalOf h66 t dy (nI j))) : Int32)), .inl (.int ((10 * k) + (xAI h66 47 0 ((6 * t) + (nI j)).toNatClampNeg))), .inr (57, some 0)]) (h' := h66) (fun J_6 => ?_) ?_
            · refine wx_icmp_ge (tgt := 134) dX9_rides_126 (by decide) (fun h_7 => ?_) (fun h_7 => ?_)
              · refine wp_run [(.aload_n 0, 1)] (pc' := 135) (L' := [(9, .inl (.int (F_X9_arrivalOf h66 t dy (nI j)))), (8, .inl (.int ((10 * k) + (xAI h66 47 0 ((6 * t) + (nI j)).toNatClampNeg)))), (7, .inl (.int (nI j))), (6, .inl (.int ((if (F_X9_departure h3 t dy (nI i)) < (xAI h3 58 0 ((10 * (k - 1)) + (xAI h3 47 0 ((6 * t) + (nI i)).toNatClampNeg)).toNatClampNeg) then 0 else 1) : Int32))), (4, .inl (.int (nI i))), (0, .inr (10, some 0)), (1, .inl (.int k)), (2, .inl (.int t)), (3, .inl (.int dy))]) (st' := [.inr (10, some 0), .inl (.int ((10 * k) + (xAI h66 47 0 ((6 * t) + (nI j)).toNatClampNeg))), .inr (57, some 0)]) ⟨dX9_rides_134, trivial⟩ rfl rfl ?_
                refine wx_getR cls_10 (k := 19) (f := 1019) (t := 57) (o := some 0) (by decide) rfl rfl fl_X9_61 ((W.sr Sr66).fr (f := 1019) (by decide)) dX9_rides_135 ?_
                refine wp_run [(.iload 8, 2)] (pc' := 140) (L' := [(9, .inl (.int (F_X9_arrivalOf h66 t dy (nI j)))), (8, .inl (.int ((10 * k) + (xAI h66 47 0 ((6 * t) + (nI j)).toNatClampNeg)))), (7, .inl (.int (nI j))), (6, .inl (.int ((if (F_X9_departure h3 t dy (nI i)) < (xAI h3 58 0 ((10 * (k - 1)) + (xAI h3 47 0 ((6 * t) + (nI i)).toNatClampNeg)).toNatClampNeg) then 0 else 1) : Int32))), (4, .inl (.int (nI i))), (0, .inr (10, some 0)), (1, .inl (.int k)), (2, .inl (.int t)), (3, .inl (.int dy))]) (st' := [.inl (.int ((10 * k) + (xAI h66 47 0 ((6 * t) + (nI j)).toNatClampNeg))), .inr (57, some 0), .inl (.int ((10 * k) + (xAI h66 47 0 ((6 * t) + (nI j)).toNatClampNeg))), .inr (57, some 0)]) ⟨dX9_rides_138, trivial⟩ rfl rfl ?_
                refine wx_iald (Or.inl rfl) (vin_mono (n := 50) (vin_lin (c := 10) v_k (vin_mono (D66.ai (s := 47) (b := 10) (by decide) _) (by decide)) (by decide)) (by decide)) dX9_rides_140 ?_
                refine wp_sub [0, 1, 2, 3, 4, 5, 6, 7, 8] (L' := [(9, .inl (.int (F_X9_arrivalOf h66 t dy (nI j)))), (8, .inl (.int ((10 * k) + (xAI h66 47 0 ((6 * t) + (nI j)).toNatClampNeg)))), (7, .inl (.int (nI j))), (6, .inl (.int ((if (F_X9_departure h3 t dy (nI i)) < (xAI h3 58 0 ((10 * (k - 1)) + (xAI h3 47 0 ((6 * t) + (nI i)).toNatClampNeg)).toNatClampNeg) then 0 else 1) : Int32))), (4, .inl (.int (nI i))), (0, .inr (10, some 0)), (1, .inl (.int k)), (2, .inl (.int t)), (3, .inl (.int dy))]) rfl ?_
                exact wp_eq J_6 rfl (by simp only [if_pos h_7]) rfl
              · refine wp_run [(.iload 9, 2)] (pc' := 131) (L' := [(9, .inl (.int (F_X9_arrivalOf h66 t dy (nI j)))), (8, .inl (.int ((10 * k) + (xAI h66 47 0 ((6 * t) + (nI j)).toNatClampNeg)))), (7, .inl (.int (nI j))), (6, .inl (.int ((if (F_X9_departure h3 t dy (nI i)) < (xAI h3 58 0 ((10 * (k - 1)) + (xAI h3 47 0 ((6 * t) + (nI i)).toNatClampNeg)).toNatClampNeg) then 0 else 1) : Int32))), (4, .inl (.int (nI i))), (0, .inr (10, some 0)), (1, .inl (.int k)), (2, .inl (.int t)), (3, .inl (.int dy))]) (st' := [.inl (.int (F_X9_arrivalOf h66 t dy (nI j))), .inl (.int ((10 * k) + (xAI h66 47 0 ((6 * t) + (nI j)).toNatClampNeg))), .inr (57, some 0)]) ⟨dX9_rides_129, trivial⟩ rfl rfl ?_
                refine wx_goto (tgt := 141) dX9_rides_131 (by decide) ?_
                refine wp_sub [0, 1, 2, 3, 4, 5, 6, 7, 8] (L' := [(9, .inl (.int (F_X9_arrivalOf h66 t dy (nI j)))), (8, .inl (.int ((10 * k) + (xAI h66 47 0 ((6 * t) + (nI j)).toNatClampNeg)))), (7, .inl (.int (nI j))), (6, .inl (.int ((if (F_X9_departure h3 t dy (nI i)) < (xAI h3 58 0 ((10 * (k - 1)) + (xAI h3 47 0 ((6 * t) + (nI i)).toNatClampNeg)).toNatClampNeg) then 0 else 1) : Int32))), (4, .inl (.int (nI i))), (0, .inr (10, some 0)), (1, .inl (.int k)), (2, .inl (.int t)), (3, .inl (.int dy))]) rfl ?_
                exact wp_eq J_6 rfl (by simp only [if_neg h_7]) rfl
            refine wx_iast rfl (vin_mono (n := 50) (vin_lin (c := 10) v_k (vin_mono (D66.ai (s := 47) (b := 10) (by decide) _) (by decide)) (by decide)) (by decide)) dX9_rides_141 ?_
            have D_8 : DM (sAI h66 57 0 (((10 * k) + (xAI h66 47 0 ((6 * t) + (nI j)).toNatClampNeg)).toNatClampNeg) ((if (xAI h66 57 0 ((10 * k) + (xAI h66 47 0 ((6 * t) + (nI j)).toNatClampNeg)).toNatClampNeg) ≤ (F_X9_arrivalOf h66 t dy (nI j)) then (xAI h66 57 0 ((10 * k) + (xAI h66 47 0 ((6 * t) + (nI j)).toNatClampNeg)).toNatClampNeg) else (F_X9_arrivalOf h66 t dy (nI j))) : Int32)) := D66.put (by decide)
            refine wp_run [(.iinc 7 1, 3)] (pc' := 145) (L' := [(7, .inl (.int ((nI j) + 1))), (9, .inl (.int (F_X9_arrivalOf h66 t dy (nI j)))), (8, .inl (.int ((10 * k) + (xAI h66 47 0 ((6 * t) + (nI j)).toNatClampNeg)))), (6, .inl (.int ((if (F_X9_departure h3 t dy (nI i)) < (xAI h3 58 0 ((10 * (k - 1)) + (xAI h3 47 0 ((6 * t) + (nI i)).toNatClampNeg)).toNatClampNeg) then 0 else 1) : Int32))), (4, .inl (.int (nI i))), (0, .inr (10, some 0)), (1, .inl (.int k)), (2, .inl (.int t)), (3, .inl (.int dy))]) (st' := []) ⟨dX9_rides_142, trivial⟩ rfl rfl ?_
            refine wx_goto (tgt := 66) dX9_rides_145 (by decide) ?_
            rw [B_X9_rides_66, if_neg h_4, if_neg h_5]
            rw [nI_1 j]
            refine wp_sub [0, 3, 4, 5, 6, 7, 8] (L' := [(7, .inl (.int (nI (j + 1)))), (6, .inl (.int ((if (F_X9_departure h3 t dy (nI i)) < (xAI h3 58 0 ((10 * (k - 1)) + (xAI h3 47 0 ((6 * t) + (nI i)).toNatClampNeg)).toNatClampNeg) then 0 else 1) : Int32))), (4, .inl (.int (nI i))), (0, .inr (10, some 0)), (1, .inl (.int k)), (2, .inl (.int t)), (3, .inl (.int dy))]) rfl ?_
            exact ih66 _ _ Sr66 D_8 (cy_nlt hij h_4).2 (by have := (cy_nlt hij h_4).2; omega)
def K_X9_readies_32 (h : Hp) (k : Int32) (h2 : Hp) (s : Nat) (rec2 : Hp → Nat → Hp) (le : Int32) (o : Nat) : Hp := (rec2 (sAI h2 58 0 (((10 * k) + (nI s)).toNatClampNeg) ((if 100000000 ≤ le then 100000000 else le) : Int32)) (s + 1))
def B_X9_readies_32 (h : Hp) (k : Int32) (h2 : Hp) (s : Nat) (rec2 : Hp → Nat → Hp) (kx : Int32 → Nat → Hp) (rec32 : Int32 → Nat → Hp) (le : Int32) (o : Nat) : Hp := (if (xFI h2 1000 0) ≤ (nI o) then (kx le o) else (rec32 ((if (xAI h2 41 0 ((10 * (nI o)) + (nI s)).toNatClampNeg) ≤ 0 then le else (if le ≤ ((xAI h2 57 0 ((10 * k) + (nI o)).toNatClampNeg) + (xAI h2 41 0 ((10 * (nI o)) + (nI s)).toNatClampNeg)) then le else ((xAI h2 57 0 ((10 * k) + (nI o)).toNatClampNeg) + (xAI h2 41 0 ((10 * (nI o)) + (nI s)).toNatClampNeg)))) : Int32) (o + 1)))
def L_X9_readies_32 (h : Hp) (k : Int32) (h2 : Hp) (s : Nat) (rec2 : Hp → Nat → Hp) (kx : Int32 → Nat → Hp) : Nat → Int32 → Nat → Hp
  | 0 => fun le o => h
  | fu + 1 => B_X9_readies_32 h k h2 s rec2 kx (L_X9_readies_32 h k h2 s rec2 kx fu)
theorem L_X9_readies_32_s (h : Hp) (k : Int32) (h2 : Hp) (s : Nat) (rec2 : Hp → Nat → Hp) (kx : Int32 → Nat → Hp) (fu : Nat) (le : Int32) (o : Nat) : L_X9_readies_32 h k h2 s rec2 kx (fu + 1) le o = B_X9_readies_32 h k h2 s rec2 kx (L_X9_readies_32 h k h2 s rec2 kx fu) le o := rfl
def B_X9_readies_2 (h : Hp) (k : Int32) (rec2 : Hp → Nat → Hp) (h2 : Hp) (s : Nat) : Hp := (if (xFI h2 1000 0) ≤ (nI s) then h2 else L_X9_readies_32 h k h2 s rec2 (K_X9_readies_32 h k h2 s rec2) (2147483648 - 0 + 1) ((xAI h2 57 0 ((10 * k) + (nI s)).toNatClampNeg) + (xAI h2 40 0 (nI s).toNatClampNeg)) 0)
def L_X9_readies_2 (h : Hp) (k : Int32) : Nat → Hp → Nat → Hp
  | 0 => fun h2 s => h2
  | fu + 1 => B_X9_readies_2 h k (L_X9_readies_2 h k fu)
theorem L_X9_readies_2_s (h : Hp) (k : Int32) (fu : Nat) (h2 : Hp) (s : Nat) : L_X9_readies_2 h k (fu + 1) h2 s = B_X9_readies_2 h k (L_X9_readies_2 h k fu) h2 s := rfl
def F_X9_readies (h : Hp) (k : Int32) : Hp := L_X9_readies_2 h k (2147483648 - 0 + 1) h 0
set_option maxRecDepth 20000 in
theorem c_X9_readies {g : GT} {d : Nat} (hd : 1 ≤ d) {h : Hp} (W : MW h) (k : Int32) (D : DM h) (v_k : vp_in k 5)  : Ctr g M_X9_readies d 0 0 [.inr (10, some 0), .inl (.int k)] h (cy_detP (.inl none) (F_X9_readies h k) (MP h (F_X9_readies h k))) := by
  refine cy_body rfl rfl (by decide) (Nat.le_of_ble_eq_true rfl) ?_
  refine wp_run [(.iconst 0, 1), (.istore_n 2, 1)] (pc' := 2) (L' := [(2, .inl (.int 0)), (0, .inr (10, some 0)), (1, .inl (.int k))]) (st' := []) ⟨dX9_readies_0, dX9_readies_1, trivial⟩ rfl rfl ?_
  rw [F_X9_readies]
  refine wp_sub [0, 1, 2] (L' := [(2, .inl (.int 0)), (0, .inr (10, some 0)), (1, .inl (.int k))]) rfl ?_
  suffices Y2 : ∀ (n2 : Nat) (h2 : Hp) (s : Nat) (Sr2 : SR h h2) (D2 : DM h2) (his : s < 2147483648) (hm2 : 2147483648 - s < n2), WP g M_X9_readies d 0 0 2 [(2, .inl (.int (nI s))), (0, .inr (10, some 0)), (1, .inl (.int k))] [] h2 (cy_detP (.inl none) (L_X9_readies_2 h k n2 h2 s) (MP h (L_X9_readies_2 h k n2 h2 s))) from
    Y2 (2147483648 - 0 + 1) h 0 SR.rf D (by decide) (Nat.lt_succ_self _)
  intro n2
  induction n2 with
  | zero => intro h2 s Sr2 D2 his hm2; exact absurd hm2 (Nat.not_lt_zero _)
  | succ n2 ih2 =>
    intro h2 s Sr2 D2 his hm2
    rw [L_X9_readies_2_s]
    generalize L_X9_readies_2 h k n2 = rec2 at ih2 ⊢
    refine wp_run [(.iload_n 2, 1), (.aload_n 0, 1)] (pc' := 4) (L' := [(2, .inl (.int (nI s))), (0, .inr (10, some 0)), (1, .inl (.int k))]) (st' := [.inr (10, some 0), .inl (.int (nI s))]) ⟨dX9_readies_2, dX9_readies_3, trivial⟩ rfl rfl ?_
    refine wx_getI cls_10 (k := 0) (f := 1000) (by decide) rfl rfl fl_X9_125 dX9_readies_4 ?_
    refine wx_icmp_ge (tgt := 125) dX9_readies_7 (by decide) (fun h_1 => ?_) (fun h_1 => ?_)
    · exact wx_vret rfl rfl dX9_readies_125 (by rw [B_X9_readies_2, if_pos h_1]; exact ⟨⟨Sr2, D2⟩, rfl, rfl⟩)
    · refine wp_run [(.aload_n 0, 1)] (pc' := 11) (L' := [(2, .inl (.int (nI s))), (0, .inr (10, some 0)), (1, .inl (.int k))]) (st' := [.inr (10, some 0)]) ⟨dX9_readies_10, trivial⟩ rfl rfl ?_
      refine wx_getR cls_10 (k := 19) (f := 1019) (t := 57) (o := some 0) (by decide) rfl rfl fl_X9_61 ((W.sr Sr2).fr (f := 1019) (by decide)) dX9_readies_11 ?_
      refine wp_run [(.bipush 10, 2), (.iload_n 1, 1), (.imul, 1), (.iload_n 2, 1), (.iadd, 1)] (pc' := 20) (L' := [(2, .inl (.int (nI s))), (0, .inr (10, some 0)), (1, .inl (.int k))]) (st' := [.inl (.int ((10 * k) + (nI s))), .inr (57, some 0)]) ⟨dX9_readies_14, dX9_readies_16, dX9_readies_17, dX9_readies_18, dX9_readies_19, trivial⟩ rfl rfl ?_
      refine wx_iald (Or.inl rfl) (vin_mono (n := 50) (vin_lin (c := 10) v_k (vin_mono (vin_lt his h_1 (D2.fi (f := 1000) (b := 11) (by decide))) (by decide)) (by decide)) (by decide)) dX9_readies_20 ?_
      refine wp_run [(.aload_n 0, 1)] (pc' := 22) (L' := [(2, .inl (.int (nI s))), (0, .inr (10, some 0)), (1, .inl (.int k))]) (st' := [.inr (10, some 0), .inl (.int (xAI h2 57 0 ((10 * k) + (nI s)).toNatClampNeg))]) ⟨dX9_readies_21, trivial⟩ rfl rfl ?_
      refine wx_getR cls_10 (k := 1) (f := 1001) (t := 40) (o := some 0) (by decide) rfl rfl fl_X9_7 ((W.sr Sr2).fr (f := 1001) (by decide)) dX9_readies_22 ?_
      refine wp_run [(.iload_n 2, 1)] (pc' := 26) (L' := [(2, .inl (.int (nI s))), (0, .inr (10, some 0)), (1, .inl (.int k))]) (st' := [.inl (.int (nI s)), .inr (40, some 0), .inl (.int (xAI h2 57 0 ((10 * k) + (nI s)).toNatClampNeg))]) ⟨dX9_readies_25, trivial⟩ rfl rfl ?_
      refine wx_iald (Or.inl rfl) (vin_mono (n := 10) (vin_lt his h_1 (D2.fi (f := 1000) (b := 11) (by decide))) (by decide)) dX9_readies_26 ?_
      refine wp_run [(.iadd, 1), (.istore_n 3, 1), (.iconst 0, 1), (.istore 4, 2)] (pc' := 32) (L' := [(4, .inl (.int 0)), (3, .inl (.int ((xAI h2 57 0 ((10 * k) + (nI s)).toNatClampNeg) + (xAI h2 40 0 (nI s).toNatClampNeg)))), (2, .inl (.int (nI s))), (0, .inr (10, some 0)), (1, .inl (.int k))]) (st' := []) ⟨dX9_readies_27, dX9_readies_28, dX9_readies_29, dX9_readies_30, trivial⟩ rfl rfl ?_
      rw [B_X9_readies_2, if_neg h_1]
      refine wp_sub [0, 1, 2, 3, 4] (L' := [(4, .inl (.int 0)), (3, .inl (.int ((xAI h2 57 0 ((10 * k) + (nI s)).toNatClampNeg) + (xAI h2 40 0 (nI s).toNatClampNeg)))), (2, .inl (.int (nI s))), (0, .inr (10, some 0)), (1, .inl (.int k))]) rfl ?_
      have X32 : ∀ (le : Int32) (o : Nat) (hio : o < 2147483648) , WP g M_X9_readies d 0 0 96 [(3, .inl (.int le)), (2, .inl (.int (nI s))), (0, .inr (10, some 0)), (1, .inl (.int k))] [] h2 (cy_detP (.inl none) (K_X9_readies_32 h k h2 s rec2 le o) (MP h (K_X9_readies_32 h k h2 s rec2 le o))) := by
        intro le o hio
        refine wp_run [(.aload_n 0, 1)] (pc' := 97) (L' := [(3, .inl (.int le)), (2, .inl (.int (nI s))), (0, .inr (10, some 0)), (1, .inl (.int k))]) (st' := [.inr (10, some 0)]) ⟨dX9_readies_96, trivial⟩ rfl rfl ?_
        refine wx_getR cls_10 (k := 20) (f := 1020) (t := 58) (o := some 0) (by decide) rfl rfl fl_X9_64 ((W.sr Sr2).fr (f := 1020) (by decide)) dX9_readies_97 ?_
        refine wp_run [(.bipush 10, 2), (.iload_n 1, 1), (.imul, 1), (.iload_n 2, 1), (.iadd, 1), (.iload_n 3, 1)] (pc' := 107) (L' := [(3, .inl (.int le)), (2, .inl (.int (nI s))), (0, .inr (10, some 0)), (1, .inl (.int k))]) (st' := [.inl (.int le), .inl (.int ((10 * k) + (nI s))), .inr (58, some 0)]) ⟨dX9_readies_100, dX9_readies_102, dX9_readies_103, dX9_readies_104, dX9_readies_105, dX9_readies_106, trivial⟩ rfl rfl ?_
        refine wx_ldc kc_X9_176 dX9_readies_107 ?_
        refine wp_by (uc' := 0) (us' := 0) (pc' := 118) (L' := [(3, .inl (.int le)), (2, .inl (.int (nI s))), (0, .inr (10, some 0)), (1, .inl (.int k))]) (st' := [.inl (.int ((if 100000000 ≤ le then 100000000 else le) : Int32)), .inl (.int ((10 * k) + (nI s))), .inr (58, some 0)]) (h' := h2) (fun J_2 => ?_) ?_
        · refine wx_icmp_ge (tgt := 116) dX9_readies_109 (by decide) (fun h_3 => ?_) (fun h_3 => ?_)
          · refine wx_ldc kc_X9_176 dX9_readies_116 ?_
            refine wp_sub [0, 1, 2, 3] (L' := [(3, .inl (.int le)), (2, .inl (.int (nI s))), (0, .inr (10, some 0)), (1, .inl (.int k))]) rfl ?_
            exact wp_eq J_2 rfl (by simp only [if_pos h_3]) rfl
          · refine wp_run [(.iload_n 3, 1)] (pc' := 113) (L' := [(3, .inl (.int le)), (2, .inl (.int (nI s))), (0, .inr (10, some 0)), (1, .inl (.int k))]) (st' := [.inl (.int le), .inl (.int ((10 * k) + (nI s))), .inr (58, some 0)]) ⟨dX9_readies_112, trivial⟩ rfl rfl ?_
            refine wx_goto (tgt := 118) dX9_readies_113 (by decide) ?_
            refine wp_sub [0, 1, 2, 3] (L' := [(3, .inl (.int le)), (2, .inl (.int (nI s))), (0, .inr (10, some 0)), (1, .inl (.int k))]) rfl ?_
            exact wp_eq J_2 rfl (by simp only [if_neg h_3]) rfl
        refine wx_iast rfl (vin_mono (n := 50) (vin_lin (c := 10) v_k (vin_mono (vin_lt his h_1 (D2.fi (f := 1000) (b := 11) (by decide))) (by decide)) (by decide)) (by decide)) dX9_readies_118 ?_
        have D_4 : DM (sAI h2 58 0 (((10 * k) + (nI s)).toNatClampNeg) ((if 100000000 ≤ le then 100000000 else le) : Int32)) := D2.put (by decide)
        refine wp_run [(.iinc 2 1, 3)] (pc' := 122) (L' := [(2, .inl (.int ((nI s) + 1))), (3, .inl (.int le)), (0, .inr (10, some 0)), (1, .inl (.int k))]) (st' := []) ⟨dX9_readies_119, trivial⟩ rfl rfl ?_
        refine wx_goto (tgt := 2) dX9_readies_122 (by decide) ?_
        rw [K_X9_readies_32]
        rw [nI_1 s]
        refine wp_sub [0, 2, 3] (L' := [(2, .inl (.int (nI (s + 1)))), (0, .inr (10, some 0)), (1, .inl (.int k))]) rfl ?_
        exact ih2 _ _ Sr2 D_4 (cy_nlt his h_1).2 (by have := (cy_nlt his h_1).2; omega)
      suffices Y32 : ∀ (n32 : Nat) (le : Int32) (o : Nat) (hio : o < 2147483648) (hm32 : 2147483648 - o < n32), WP g M_X9_readies d 0 0 32 [(4, .inl (.int (nI o))), (3, .inl (.int le)), (2, .inl (.int (nI s))), (0, .inr (10, some 0)), (1, .inl (.int k))] [] h2 (cy_detP (.inl none) (L_X9_readies_32 h k h2 s rec2 (K_X9_readies_32 h k h2 s rec2) n32 le o) (MP h (L_X9_readies_32 h k h2 s rec2 (K_X9_readies_32 h k h2 s rec2) n32 le o))) from
        Y32 (2147483648 - 0 + 1) ((xAI h2 57 0 ((10 * k) + (nI s)).toNatClampNeg) + (xAI h2 40 0 (nI s).toNatClampNeg)) 0 (by decide) (Nat.lt_succ_self _)
      intro n32
      induction n32 with
      | zero => intro le o hio hm32; exact absurd hm32 (Nat.not_lt_zero _)
      | succ n32 ih32 =>
        intro le o hio hm32
        rw [L_X9_readies_32_s]
        generalize L_X9_readies_32 h k h2 s rec2 (K_X9_readies_32 h k h2 s rec2) n32 = rec32 at ih32 ⊢
        refine wp_run [(.iload 4, 2), (.aload_n 0, 1)] (pc' := 35) (L' := [(4, .inl (.int (nI o))), (3, .inl (.int le)), (2, .inl (.int (nI s))), (0, .inr (10, some 0)), (1, .inl (.int k))]) (st' := [.inr (10, some 0), .inl (.int (nI o))]) ⟨dX9_readies_32, dX9_readies_34, trivial⟩ rfl rfl ?_
        refine wx_getI cls_10 (k := 0) (f := 1000) (by decide) rfl rfl fl_X9_125 dX9_readies_35 ?_
        refine wx_icmp_ge (tgt := 96) dX9_readies_38 (by decide) (fun h_5 => ?_) (fun h_5 => ?_)
        · rw [B_X9_readies_32, if_pos h_5]
          refine wp_sub [1, 2, 3, 4] (L' := [(3, .inl (.int le)), (2, .inl (.int (nI s))), (0, .inr (10, some 0)), (1, .inl (.int k))]) rfl ?_
          exact X32 _ _ hio
        · refine wp_run [(.aload_n 0, 1)] (pc' := 42) (L' := [(4, .inl (.int (nI o))), (3, .inl (.int le)), (2, .inl (.int (nI s))), (0, .inr (10, some 0)), (1, .inl (.int k))]) (st' := [.inr (10, some 0)]) ⟨dX9_readies_41, trivial⟩ rfl rfl ?_
          refine wx_getR cls_10 (k := 2) (f := 1002) (t := 41) (o := some 0) (by decide) rfl rfl fl_X9_13 ((W.sr Sr2).fr (f := 1002) (by decide)) dX9_readies_42 ?_
          refine wp_run [(.bipush 10, 2), (.iload 4, 2), (.imul, 1), (.iload_n 2, 1), (.iadd, 1)] (pc' := 52) (L' := [(4, .inl (.int (nI o))), (3, .inl (.int le)), (2, .inl (.int (nI s))), (0, .inr (10, some 0)), (1, .inl (.int k))]) (st' := [.inl (.int ((10 * (nI o)) + (nI s))), .inr (41, some 0)]) ⟨dX9_readies_45, dX9_readies_47, dX9_readies_49, dX9_readies_50, dX9_readies_51, trivial⟩ rfl rfl ?_
          refine wx_iald (Or.inl rfl) (vin_mono (n := 100) (vin_lin (c := 10) (vin_lt hio h_5 (D2.fi (f := 1000) (b := 11) (by decide))) (vin_mono (vin_lt his h_1 (D2.fi (f := 1000) (b := 11) (by decide))) (by decide)) (by decide)) (by decide)) dX9_readies_52 ?_
          refine wp_run [(.istore 5, 2), (.aload_n 0, 1)] (pc' := 56) (L' := [(5, .inl (.int (xAI h2 41 0 ((10 * (nI o)) + (nI s)).toNatClampNeg))), (4, .inl (.int (nI o))), (3, .inl (.int le)), (2, .inl (.int (nI s))), (0, .inr (10, some 0)), (1, .inl (.int k))]) (st' := [.inr (10, some 0)]) ⟨dX9_readies_53, dX9_readies_55, trivial⟩ rfl rfl ?_
          refine wx_getR cls_10 (k := 19) (f := 1019) (t := 57) (o := some 0) (by decide) rfl rfl fl_X9_61 ((W.sr Sr2).fr (f := 1019) (by decide)) dX9_readies_56 ?_
          refine wp_run [(.bipush 10, 2), (.iload_n 1, 1), (.imul, 1), (.iload 4, 2), (.iadd, 1)] (pc' := 66) (L' := [(5, .inl (.int (xAI h2 41 0 ((10 * (nI o)) + (nI s)).toNatClampNeg))), (4, .inl (.int (nI o))), (3, .inl (.int le)), (2, .inl (.int (nI s))), (0, .inr (10, some 0)), (1, .inl (.int k))]) (st' := [.inl (.int ((10 * k) + (nI o))), .inr (57, some 0)]) ⟨dX9_readies_59, dX9_readies_61, dX9_readies_62, dX9_readies_63, dX9_readies_65, trivial⟩ rfl rfl ?_
          refine wx_iald (Or.inl rfl) (vin_mono (n := 50) (vin_lin (c := 10) v_k (vin_mono (vin_lt hio h_5 (D2.fi (f := 1000) (b := 11) (by decide))) (by decide)) (by decide)) (by decide)) dX9_readies_66 ?_
          refine wp_run [(.iload 5, 2), (.iadd, 1), (.istore 6, 2), (.iload 5, 2)] (pc' := 74) (L' := [(6, .inl (.int ((xAI h2 57 0 ((10 * k) + (nI o)).toNatClampNeg) + (xAI h2 41 0 ((10 * (nI o)) + (nI s)).toNatClampNeg)))), (5, .inl (.int (xAI h2 41 0 ((10 * (nI o)) + (nI s)).toNatClampNeg))), (4, .inl (.int (nI o))), (3, .inl (.int le)), (2, .inl (.int (nI s))), (0, .inr (10, some 0)), (1, .inl (.int k))]) (st' := [.inl (.int (xAI h2 41 0 ((10 * (nI o)) + (nI s)).toNatClampNeg))]) ⟨dX9_readies_67, dX9_readies_69, dX9_readies_70, dX9_readies_72, trivial⟩ rfl rfl ?_
          refine wp_by (uc' := 0) (us' := 0) (pc' := 89) (L' := [(6, .inl (.int ((xAI h2 57 0 ((10 * k) + (nI o)).toNatClampNeg) + (xAI h2 41 0 ((10 * (nI o)) + (nI s)).toNatClampNeg)))), (5, .inl (.int (xAI h2 41 0 ((10 * (nI o)) + (nI s)).toNatClampNeg))), (4, .inl (.int (nI o))), (3, .inl (.int le)), (2, .inl (.int (nI s))), (0, .inr (10, some 0)), (1, .inl (.int k))]) (st' := [.inl (.int ((if (xAI h2 41 0 ((10 * (nI o)) + (nI s)).toNatClampNeg) ≤ 0 then le else (if le ≤ ((xAI h2 57 0 ((10 * k) + (nI o)).toNatClampNeg) + (xAI h2 41 0 ((10 * (nI o)) + (nI s)).toNatClampNeg)) then le else ((xAI h2 57 0 ((10 * k) + (nI o)).toNatClampNeg) + (xAI h2 41 0 ((10 * (nI o)) + (nI s)).toNatClampNeg)))) : Int32))]) (h' := h2) (fun J_6 => ?_) ?_
          · refine wx_if_le (tgt := 88) dX9_readies_74 (by decide) (fun h_7 => ?_) (fun h_7 => ?_)
            · refine wp_run [(.iload_n 3, 1)] (pc' := 89) (L' := [(6, .inl (.int ((xAI h2 57 0 ((10 * k) + (nI o)).toNatClampNeg) + (xAI h2 41 0 ((10 * (nI o)) + (nI s)).toNatClampNeg)))), (5, .inl (.int (xAI h2 41 0 ((10 * (nI o)) + (nI s)).toNatClampNeg))), (4, .inl (.int (nI o))), (3, .inl (.int le)), (2, .inl (.int (nI s))), (0, .inr (10, some 0)), (1, .inl (.int k))]) (st' := [.inl (.int le)]) ⟨dX9_readies_88, trivial⟩ rfl rfl ?_
              refine wp_sub [0, 1, 2, 3, 4, 5, 6] (L' := [(6, .inl (.int ((xAI h2 57 0 ((10 * k) + (nI o)).toNatClampNeg) + (xAI h2 41 0 ((10 * (nI o)) + (nI s)).toNatClampNeg)))), (5, .inl (.int (xAI h2 41 0 ((10 * (nI o)) + (nI s)).toNatClampNeg))), (4, .inl (.int (nI o))), (3, .inl (.int le)), (2, .inl (.int (nI s))), (0, .inr (10, some 0)), (1, .inl (.int k))]) rfl ?_
              exact wp_eq J_6 rfl (by simp only [if_pos h_7]) rfl
            · refine wp_run [(.iload 6, 2), (.iload_n 3, 1)] (pc' := 80) (L' := [(6, .inl (.int ((xAI h2 57 0 ((10 * k) + (nI o)).toNatClampNeg) + (xAI h2 41 0 ((10 * (nI o)) + (nI s)).toNatClampNeg)))), (5, .inl (.int (xAI h2 41 0 ((10 * (nI o)) + (nI s)).toNatClampNeg))), (4, .inl (.int (nI o))), (3, .inl (.int le)), (2, .inl (.int (nI s))), (0, .inr (10, some 0)), (1, .inl (.int k))]) (st' := [.inl (.int le), .inl (.int ((xAI h2 57 0 ((10 * k) + (nI o)).toNatClampNeg) + (xAI h2 41 0 ((10 * (nI o)) + (nI s)).toNatClampNeg)))]) ⟨dX9_readies_77, dX9_readies_79, trivial⟩ rfl rfl ?_
              refine wx_icmp_ge (tgt := 88) dX9_readies_80 (by decide) (fun h_8 => ?_) (fun h_8 => ?_)
              · refine wp_run [(.iload_n 3, 1)] (pc' := 89) (L' := [(6, .inl (.int ((xAI h2 57 0 ((10 * k) + (nI o)).toNatClampNeg) + (xAI h2 41 0 ((10 * (nI o)) + (nI s)).toNatClampNeg)))), (5, .inl (.int (xAI h2 41 0 ((10 * (nI o)) + (nI s)).toNatClampNeg))), (4, .inl (.int (nI o))), (3, .inl (.int le)), (2, .inl (.int (nI s))), (0, .inr (10, some 0)), (1, .inl (.int k))]) (st' := [.inl (.int le)]) ⟨dX9_readies_88, trivial⟩ rfl rfl ?_
                refine wp_sub [0, 1, 2, 3, 4, 5, 6] (L' := [(6, .inl (.int ((xAI h2 57 0 ((10 * k) + (nI o)).toNatClampNeg) + (xAI h2 41 0 ((10 * (nI o)) + (nI s)).toNatClampNeg)))), (5, .inl (.int (xAI h2 41 0 ((10 * (nI o)) + (nI s)).toNatClampNeg))), (4, .inl (.int (nI o))), (3, .inl (.int le)), (2, .inl (.int (nI s))), (0, .inr (10, some 0)), (1, .inl (.int k))]) rfl ?_
                exact wp_eq J_6 rfl (by simp only [if_neg h_7, if_pos h_8]) rfl
              · refine wp_run [(.iload 6, 2)] (pc' := 85) (L' := [(6, .inl (.int ((xAI h2 57 0 ((10 * k) + (nI o)).toNatClampNeg) + (xAI h2 41 0 ((10 * (nI o)) + (nI s)).toNatClampNeg)))), (5, .inl (.int (xAI h2 41 0 ((10 * (nI o)) + (nI s)).toNatClampNeg))), (4, .inl (.int (nI o))), (3, .inl (.int le)), (2, .inl (.int (nI s))), (0, .inr (10, some 0)), (1, .inl (.int k))]) (st' := [.inl (.int ((xAI h2 57 0 ((10 * k) + (nI o)).toNatClampNeg) + (xAI h2 41 0 ((10 * (nI o)) + (nI s)).toNatClampNeg)))]) ⟨dX9_readies_83, trivial⟩ rfl rfl ?_
                refine wx_goto (tgt := 89) dX9_readies_85 (by decide) ?_
                refine wp_sub [0, 1, 2, 3, 4, 5, 6] (L' := [(6, .inl (.int ((xAI h2 57 0 ((10 * k) + (nI o)).toNatClampNeg) + (xAI h2 41 0 ((10 * (nI o)) + (nI s)).toNatClampNeg)))), (5, .inl (.int (xAI h2 41 0 ((10 * (nI o)) + (nI s)).toNatClampNeg))), (4, .inl (.int (nI o))), (3, .inl (.int le)), (2, .inl (.int (nI s))), (0, .inr (10, some 0)), (1, .inl (.int k))]) rfl ?_
                exact wp_eq J_6 rfl (by simp only [if_neg h_7, if_neg h_8]) rfl
          refine wp_run [(.istore_n 3, 1), (.iinc 4 1, 3)] (pc' := 93) (L' := [(4, .inl (.int ((nI o) + 1))), (3, .inl (.int ((if (xAI h2 41 0 ((10 * (nI o)) + (nI s)).toNatClampNeg) ≤ 0 then le else (if le ≤ ((xAI h2 57 0 ((10 * k) + (nI o)).toNatClampNeg) + (xAI h2 41 0 ((10 * (nI o)) + (nI s)).toNatClampNeg)) then le else ((xAI h2 57 0 ((10 * k) + (nI o)).toNatClampNeg) + (xAI h2 41 0 ((10 * (nI o)) + (nI s)).toNatClampNeg)))) : Int32))), (6, .inl (.int ((xAI h2 57 0 ((10 * k) + (nI o)).toNatClampNeg) + (xAI h2 41 0 ((10 * (nI o)) + (nI s)).toNatClampNeg)))), (5, .inl (.int (xAI h2 41 0 ((10 * (nI o)) + (nI s)).toNatClampNeg))), (2, .inl (.int (nI s))), (0, .inr (10, some 0)), (1, .inl (.int k))]) (st' := []) ⟨dX9_readies_89, dX9_readies_90, trivial⟩ rfl rfl ?_
          refine wx_goto (tgt := 32) dX9_readies_93 (by decide) ?_
          rw [B_X9_readies_32, if_neg h_5]
          rw [nI_1 o]
          refine wp_sub [0, 1, 4, 5, 6] (L' := [(4, .inl (.int (nI (o + 1)))), (3, .inl (.int ((if (xAI h2 41 0 ((10 * (nI o)) + (nI s)).toNatClampNeg) ≤ 0 then le else (if le ≤ ((xAI h2 57 0 ((10 * k) + (nI o)).toNatClampNeg) + (xAI h2 41 0 ((10 * (nI o)) + (nI s)).toNatClampNeg)) then le else ((xAI h2 57 0 ((10 * k) + (nI o)).toNatClampNeg) + (xAI h2 41 0 ((10 * (nI o)) + (nI s)).toNatClampNeg)))) : Int32))), (2, .inl (.int (nI s))), (0, .inr (10, some 0)), (1, .inl (.int k))]) rfl ?_
          exact ih32 _ _ (cy_nlt hio h_5).2 (by have := (cy_nlt hio h_5).2; omega)
def B_X9_timeBy_15 (h : Hp) (to : Int32) (k : Int32) (rec15 : Int32 → Nat → Int32) (le : Int32) (s : Nat) : Int32 := (if (xFI h 1000 0) ≤ (nI s) then (if 100000000 ≤ le then 100000000 else le) else (rec15 ((if (xAI h 41 0 ((10 * (nI s)) + to).toNatClampNeg) ≤ 0 then le else (if le ≤ ((xAI h 57 0 ((10 * k) + (nI s)).toNatClampNeg) + (xAI h 41 0 ((10 * (nI s)) + to).toNatClampNeg)) then le else ((xAI h 57 0 ((10 * k) + (nI s)).toNatClampNeg) + (xAI h 41 0 ((10 * (nI s)) + to).toNatClampNeg)))) : Int32) (s + 1)))
def L_X9_timeBy_15 (h : Hp) (to : Int32) (k : Int32) : Nat → Int32 → Nat → Int32
  | 0 => fun le s => 0
  | fu + 1 => B_X9_timeBy_15 h to k (L_X9_timeBy_15 h to k fu)
theorem L_X9_timeBy_15_s (h : Hp) (to : Int32) (k : Int32) (fu : Nat) (le : Int32) (s : Nat) : L_X9_timeBy_15 h to k (fu + 1) le s = B_X9_timeBy_15 h to k (L_X9_timeBy_15 h to k fu) le s := rfl
def F_X9_timeBy (h : Hp) (to : Int32) (k : Int32) : Int32 := L_X9_timeBy_15 h to k (2147483648 - 0 + 1) (xAI h 57 0 ((10 * k) + to).toNatClampNeg) 0
set_option maxRecDepth 20000 in
theorem c_X9_timeBy {g : GT} {d : Nat} (hd : 1 ≤ d) {h : Hp} (W : MW h) (to : Int32) (k : Int32) (D : DM h) (v_to : vp_in to 10) (v_k : vp_in k 5)  : Ctr g M_X9_timeBy d 0 0 [.inr (10, some 0), .inl (.int to), .inl (.int k)] h (cy_det (.inl (some (.inl (.int (F_X9_timeBy h to k))))) h) := by
  refine cy_body rfl rfl (by decide) (Nat.le_of_ble_eq_true rfl) ?_
  refine wp_run [(.aload_n 0, 1)] (pc' := 1) (L' := [(0, .inr (10, some 0)), (1, .inl (.int to)), (2, .inl (.int k))]) (st' := [.inr (10, some 0)]) ⟨dX9_timeBy_0, trivial⟩ rfl rfl ?_
  refine wx_getR cls_10 (k := 19) (f := 1019) (t := 57) (o := some 0) (by decide) rfl rfl fl_X9_61 (W.fr (f := 1019) (by decide)) dX9_timeBy_1 ?_
  refine wp_run [(.bipush 10, 2), (.iload_n 2, 1), (.imul, 1), (.iload_n 1, 1), (.iadd, 1)] (pc' := 10) (L' := [(0, .inr (10, some 0)), (1, .inl (.int to)), (2, .inl (.int k))]) (st' := [.inl (.int ((10 * k) + to)), .inr (57, some 0)]) ⟨dX9_timeBy_4, dX9_timeBy_6, dX9_timeBy_7, dX9_timeBy_8, dX9_timeBy_9, trivial⟩ rfl rfl ?_
  refine wx_iald (Or.inl rfl) (vin_mono (n := 50) (vin_lin (c := 10) v_k (vin_mono v_to (by decide)) (by decide)) (by decide)) dX9_timeBy_10 ?_
  refine wp_run [(.istore_n 3, 1), (.iconst 0, 1), (.istore 4, 2)] (pc' := 15) (L' := [(4, .inl (.int 0)), (3, .inl (.int (xAI h 57 0 ((10 * k) + to).toNatClampNeg))), (0, .inr (10, some 0)), (1, .inl (.int to)), (2, .inl (.int k))]) (st' := []) ⟨dX9_timeBy_11, dX9_timeBy_12, dX9_timeBy_13, trivial⟩ rfl rfl ?_
  rw [F_X9_timeBy]
  refine wp_sub [0, 1, 2, 3, 4] (L' := [(4, .inl (.int 0)), (3, .inl (.int (xAI h 57 0 ((10 * k) + to).toNatClampNeg))), (0, .inr (10, some 0)), (1, .inl (.int to)), (2, .inl (.int k))]) rfl ?_
  suffices Y15 : ∀ (n15 : Nat) (le : Int32) (s : Nat) (his : s < 2147483648) (hm15 : 2147483648 - s < n15), WP g M_X9_timeBy d 0 0 15 [(4, .inl (.int (nI s))), (3, .inl (.int le)), (0, .inr (10, some 0)), (1, .inl (.int to)), (2, .inl (.int k))] [] h (cy_det (.inl (some (.inl (.int (L_X9_timeBy_15 h to k n15 le s))))) h) from
    Y15 (2147483648 - 0 + 1) (xAI h 57 0 ((10 * k) + to).toNatClampNeg) 0 (by decide) (Nat.lt_succ_self _)
  intro n15
  induction n15 with
  | zero => intro le s his hm15; exact absurd hm15 (Nat.not_lt_zero _)
  | succ n15 ih15 =>
    intro le s his hm15
    rw [L_X9_timeBy_15_s]
    generalize L_X9_timeBy_15 h to k n15 = rec15 at ih15 ⊢
    refine wp_run [(.iload 4, 2), (.aload_n 0, 1)] (pc' := 18) (L' := [(4, .inl (.int (nI s))), (3, .inl (.int le)), (0, .inr (10, some 0)), (1, .inl (.int to)), (2, .inl (.int k))]) (st' := [.inr (10, some 0), .inl (.int (nI s))]) ⟨dX9_timeBy_15, dX9_timeBy_17, trivial⟩ rfl rfl ?_
    refine wx_getI cls_10 (k := 0) (f := 1000) (by decide) rfl rfl fl_X9_125 dX9_timeBy_18 ?_
    refine wx_icmp_ge (tgt := 79) dX9_timeBy_21 (by decide) (fun h_1 => ?_) (fun h_1 => ?_)
    · refine wp_run [(.iload_n 3, 1)] (pc' := 80) (L' := [(4, .inl (.int (nI s))), (3, .inl (.int le)), (0, .inr (10, some 0)), (1, .inl (.int to)), (2, .inl (.int k))]) (st' := [.inl (.int le)]) ⟨dX9_timeBy_79, trivial⟩ rfl rfl ?_
      refine wx_ldc kc_X9_176 dX9_timeBy_80 ?_
      refine wx_icmp_ge (tgt := 89) dX9_timeBy_82 (by decide) (fun h_2 => ?_) (fun h_2 => ?_)
      · refine wx_ldc kc_X9_176 dX9_timeBy_89 ?_
        exact wx_iret rfl rfl dX9_timeBy_91 (by rw [B_X9_timeBy_15, if_pos h_1, if_pos h_2]; exact ⟨rfl, rfl⟩)
      · refine wp_run [(.iload_n 3, 1)] (pc' := 86) (L' := [(4, .inl (.int (nI s))), (3, .inl (.int le)), (0, .inr (10, some 0)), (1, .inl (.int to)), (2, .inl (.int k))]) (st' := [.inl (.int le)]) ⟨dX9_timeBy_85, trivial⟩ rfl rfl ?_
        refine wx_goto (tgt := 91) dX9_timeBy_86 (by decide) ?_
        exact wx_iret rfl rfl dX9_timeBy_91 (by rw [B_X9_timeBy_15, if_pos h_1, if_neg h_2]; exact ⟨rfl, rfl⟩)
    · refine wp_run [(.aload_n 0, 1)] (pc' := 25) (L' := [(4, .inl (.int (nI s))), (3, .inl (.int le)), (0, .inr (10, some 0)), (1, .inl (.int to)), (2, .inl (.int k))]) (st' := [.inr (10, some 0)]) ⟨dX9_timeBy_24, trivial⟩ rfl rfl ?_
      refine wx_getR cls_10 (k := 2) (f := 1002) (t := 41) (o := some 0) (by decide) rfl rfl fl_X9_13 (W.fr (f := 1002) (by decide)) dX9_timeBy_25 ?_
      refine wp_run [(.bipush 10, 2), (.iload 4, 2), (.imul, 1), (.iload_n 1, 1), (.iadd, 1)] (pc' := 35) (L' := [(4, .inl (.int (nI s))), (3, .inl (.int le)), (0, .inr (10, some 0)), (1, .inl (.int to)), (2, .inl (.int k))]) (st' := [.inl (.int ((10 * (nI s)) + to)), .inr (41, some 0)]) ⟨dX9_timeBy_28, dX9_timeBy_30, dX9_timeBy_32, dX9_timeBy_33, dX9_timeBy_34, trivial⟩ rfl rfl ?_
      refine wx_iald (Or.inl rfl) (vin_mono (n := 100) (vin_lin (c := 10) (vin_lt his h_1 (D.fi (f := 1000) (b := 11) (by decide))) (vin_mono v_to (by decide)) (by decide)) (by decide)) dX9_timeBy_35 ?_
      refine wp_run [(.istore 5, 2), (.aload_n 0, 1)] (pc' := 39) (L' := [(5, .inl (.int (xAI h 41 0 ((10 * (nI s)) + to).toNatClampNeg))), (4, .inl (.int (nI s))), (3, .inl (.int le)), (0, .inr (10, some 0)), (1, .inl (.int to)), (2, .inl (.int k))]) (st' := [.inr (10, some 0)]) ⟨dX9_timeBy_36, dX9_timeBy_38, trivial⟩ rfl rfl ?_
      refine wx_getR cls_10 (k := 19) (f := 1019) (t := 57) (o := some 0) (by decide) rfl rfl fl_X9_61 (W.fr (f := 1019) (by decide)) dX9_timeBy_39 ?_
      refine wp_run [(.bipush 10, 2), (.iload_n 2, 1), (.imul, 1), (.iload 4, 2), (.iadd, 1)] (pc' := 49) (L' := [(5, .inl (.int (xAI h 41 0 ((10 * (nI s)) + to).toNatClampNeg))), (4, .inl (.int (nI s))), (3, .inl (.int le)), (0, .inr (10, some 0)), (1, .inl (.int to)), (2, .inl (.int k))]) (st' := [.inl (.int ((10 * k) + (nI s))), .inr (57, some 0)]) ⟨dX9_timeBy_42, dX9_timeBy_44, dX9_timeBy_45, dX9_timeBy_46, dX9_timeBy_48, trivial⟩ rfl rfl ?_
      refine wx_iald (Or.inl rfl) (vin_mono (n := 50) (vin_lin (c := 10) v_k (vin_mono (vin_lt his h_1 (D.fi (f := 1000) (b := 11) (by decide))) (by decide)) (by decide)) (by decide)) dX9_timeBy_49 ?_
      refine wp_run [(.iload 5, 2), (.iadd, 1), (.istore 6, 2), (.iload 5, 2)] (pc' := 57) (L' := [(6, .inl (.int ((xAI h 57 0 ((10 * k) + (nI s)).toNatClampNeg) + (xAI h 41 0 ((10 * (nI s)) + to).toNatClampNeg)))), (5, .inl (.int (xAI h 41 0 ((10 * (nI s)) + to).toNatClampNeg))), (4, .inl (.int (nI s))), (3, .inl (.int le)), (0, .inr (10, some 0)), (1, .inl (.int to)), (2, .inl (.int k))]) (st' := [.inl (.int (xAI h 41 0 ((10 * (nI s)) + to).toNatClampNeg))]) ⟨dX9_timeBy_50, dX9_timeBy_52, dX9_timeBy_53, dX9_timeBy_55, trivial⟩ rfl rfl ?_
      refine wp_by (uc' := 0) (us' := 0) (pc' := 72) (L' := [(6, .inl (.int ((xAI h 57 0 ((10 * k) + (nI s)).toNatClampNeg) + (xAI h 41 0 ((10 * (nI s)) + to).toNatClampNeg)))), (5, .inl (.int (xAI h 41 0 ((10 * (nI s)) + to).toNatClampNeg))), (4, .inl (.int (nI s))), (3, .inl (.int le)), (0, .inr (10, some 0)), (1, .inl (.int to)), (2, .inl (.int k))]) (st' := [.inl (.int ((if (xAI h 41 0 ((10 * (nI s)) + to).toNatClampNeg) ≤ 0 then le else (if le ≤ ((xAI h 57 0 ((10 * k) + (nI s)).toNatClampNeg) + (xAI h 41 0 ((10 * (nI s)) + to).toNatClampNeg)) then le else ((xAI h 57 0 ((10 * k) + (nI s)).toNatClampNeg) + (xAI h 41 0 ((10 * (nI s)) + to).toNatClampNeg)))) : Int32))]) (h' := h) (fun J_3 => ?_) ?_
      · refine wx_if_le (tgt := 71) dX9_timeBy_57 (by decide) (fun h_4 => ?_) (fun h_4 => ?_)
        · refine wp_run [(.iload_n 3, 1)] (pc' := 72) (L' := [(6, .inl (.int ((xAI h 57 0 ((10 * k) + (nI s)).toNatClampNeg) + (xAI h 41 0 ((10 * (nI s)) + to).toNatClampNeg)))), (5, .inl (.int (xAI h 41 0 ((10 * (nI s)) + to).toNatClampNeg))), (4, .inl (.int (nI s))), (3, .inl (.int le)), (0, .inr (10, some 0)), (1, .inl (.int to)), (2, .inl (.int k))]) (st' := [.inl (.int le)]) ⟨dX9_timeBy_71, trivial⟩ rfl rfl ?_
          refine wp_sub [0, 1, 2, 3, 4, 5, 6] (L' := [(6, .inl (.int ((xAI h 57 0 ((10 * k) + (nI s)).toNatClampNeg) + (xAI h 41 0 ((10 * (nI s)) + to).toNatClampNeg)))), (5, .inl (.int (xAI h 41 0 ((10 * (nI s)) + to).toNatClampNeg))), (4, .inl (.int (nI s))), (3, .inl (.int le)), (0, .inr (10, some 0)), (1, .inl (.int to)), (2, .inl (.int k))]) rfl ?_
          exact wp_eq J_3 rfl (by simp only [if_pos h_4]) rfl
        · refine wp_run [(.iload 6, 2), (.iload_n 3, 1)] (pc' := 63) (L' := [(6, .inl (.int ((xAI h 57 0 ((10 * k) + (nI s)).toNatClampNeg) + (xAI h 41 0 ((10 * (nI s)) + to).toNatClampNeg)))), (5, .inl (.int (xAI h 41 0 ((10 * (nI s)) + to).toNatClampNeg))), (4, .inl (.int (nI s))), (3, .inl (.int le)), (0, .inr (10, some 0)), (1, .inl (.int to)), (2, .inl (.int k))]) (st' := [.inl (.int le), .inl (.int ((xAI h 57 0 ((10 * k) + (nI s)).toNatClampNeg) + (xAI h 41 0 ((10 * (nI s)) + to).toNatClampNeg)))]) ⟨dX9_timeBy_60, dX9_timeBy_62, trivial⟩ rfl rfl ?_
          refine wx_icmp_ge (tgt := 71) dX9_timeBy_63 (by decide) (fun h_5 => ?_) (fun h_5 => ?_)
          · refine wp_run [(.iload_n 3, 1)] (pc' := 72) (L' := [(6, .inl (.int ((xAI h 57 0 ((10 * k) + (nI s)).toNatClampNeg) + (xAI h 41 0 ((10 * (nI s)) + to).toNatClampNeg)))), (5, .inl (.int (xAI h 41 0 ((10 * (nI s)) + to).toNatClampNeg))), (4, .inl (.int (nI s))), (3, .inl (.int le)), (0, .inr (10, some 0)), (1, .inl (.int to)), (2, .inl (.int k))]) (st' := [.inl (.int le)]) ⟨dX9_timeBy_71, trivial⟩ rfl rfl ?_
            refine wp_sub [0, 1, 2, 3, 4, 5, 6] (L' := [(6, .inl (.int ((xAI h 57 0 ((10 * k) + (nI s)).toNatClampNeg) + (xAI h 41 0 ((10 * (nI s)) + to).toNatClampNeg)))), (5, .inl (.int (xAI h 41 0 ((10 * (nI s)) + to).toNatClampNeg))), (4, .inl (.int (nI s))), (3, .inl (.int le)), (0, .inr (10, some 0)), (1, .inl (.int to)), (2, .inl (.int k))]) rfl ?_
            exact wp_eq J_3 rfl (by simp only [if_neg h_4, if_pos h_5]) rfl
          · refine wp_run [(.iload 6, 2)] (pc' := 68) (L' := [(6, .inl (.int ((xAI h 57 0 ((10 * k) + (nI s)).toNatClampNeg) + (xAI h 41 0 ((10 * (nI s)) + to).toNatClampNeg)))), (5, .inl (.int (xAI h 41 0 ((10 * (nI s)) + to).toNatClampNeg))), (4, .inl (.int (nI s))), (3, .inl (.int le)), (0, .inr (10, some 0)), (1, .inl (.int to)), (2, .inl (.int k))]) (st' := [.inl (.int ((xAI h 57 0 ((10 * k) + (nI s)).toNatClampNeg) + (xAI h 41 0 ((10 * (nI s)) + to).toNatClampNeg)))]) ⟨dX9_timeBy_66, trivial⟩ rfl rfl ?_
            refine wx_goto (tgt := 72) dX9_timeBy_68 (by decide) ?_
            refine wp_sub [0, 1, 2, 3, 4, 5, 6] (L' := [(6, .inl (.int ((xAI h 57 0 ((10 * k) + (nI s)).toNatClampNeg) + (xAI h 41 0 ((10 * (nI s)) + to).toNatClampNeg)))), (5, .inl (.int (xAI h 41 0 ((10 * (nI s)) + to).toNatClampNeg))), (4, .inl (.int (nI s))), (3, .inl (.int le)), (0, .inr (10, some 0)), (1, .inl (.int to)), (2, .inl (.int k))]) rfl ?_
            exact wp_eq J_3 rfl (by simp only [if_neg h_4, if_neg h_5]) rfl
      refine wp_run [(.istore_n 3, 1), (.iinc 4 1, 3)] (pc' := 76) (L' := [(4, .inl (.int ((nI s) + 1))), (3, .inl (.int ((if (xAI h 41 0 ((10 * (nI s)) + to).toNatClampNeg) ≤ 0 then le else (if le ≤ ((xAI h 57 0 ((10 * k) + (nI s)).toNatClampNeg) + (xAI h 41 0 ((10 * (nI s)) + to).toNatClampNeg)) then le else ((xAI h 57 0 ((10 * k) + (nI s)).toNatClampNeg) + (xAI h 41 0 ((10 * (nI s)) + to).toNatClampNeg)))) : Int32))), (6, .inl (.int ((xAI h 57 0 ((10 * k) + (nI s)).toNatClampNeg) + (xAI h 41 0 ((10 * (nI s)) + to).toNatClampNeg)))), (5, .inl (.int (xAI h 41 0 ((10 * (nI s)) + to).toNatClampNeg))), (0, .inr (10, some 0)), (1, .inl (.int to)), (2, .inl (.int k))]) (st' := []) ⟨dX9_timeBy_72, dX9_timeBy_73, trivial⟩ rfl rfl ?_
      refine wx_goto (tgt := 15) dX9_timeBy_76 (by decide) ?_
      rw [B_X9_timeBy_15, if_neg h_1]
      rw [nI_1 s]
      refine wp_sub [0, 1, 4, 5, 6] (L' := [(4, .inl (.int (nI (s + 1)))), (3, .inl (.int ((if (xAI h 41 0 ((10 * (nI s)) + to).toNatClampNeg) ≤ 0 then le else (if le ≤ ((xAI h 57 0 ((10 * k) + (nI s)).toNatClampNeg) + (xAI h 41 0 ((10 * (nI s)) + to).toNatClampNeg)) then le else ((xAI h 57 0 ((10 * k) + (nI s)).toNatClampNeg) + (xAI h 41 0 ((10 * (nI s)) + to).toNatClampNeg)))) : Int32))), (0, .inr (10, some 0)), (1, .inl (.int to)), (2, .inl (.int k))]) rfl ?_
      exact ih15 _ _ (cy_nlt his h_1).2 (by have := (cy_nlt his h_1).2; omega)
theorem il_day {h : Hp} {t dy : Int32} (p : ¬ F_X9_isLooked h t dy = 0) : vp_in dy 100 := by
  by_cases q : okR dy 0 99
  · exact vin_ok (n := 99) (by decide) q
  · exact absurd (if_neg q) p
def K_X9_reaches_132 (h : Hp) (fr : Int32) (ti : Int32) (n : Int32) (h105 : Hp) (k : Nat) (rec105 : Hp → Nat → Hp) (h114 : Hp) (t : Nat) (rec114 : Hp → Nat → Hp) (h132 : Hp) (dy : Int32) : Hp := (rec114 h132 (t + 1))
def B_X9_reaches_132 (h : Hp) (fr : Int32) (ti : Int32) (n : Int32) (h105 : Hp) (k : Nat) (rec105 : Hp → Nat → Hp) (h114 : Hp) (t : Nat) (rec114 : Hp → Nat → Hp) (kx : Hp → Int32 → Hp) (rec132 : Hp → Int32 → Hp) (h132 : Hp) (dy : Int32) : Hp := (if ((ti / 1440) + 1) < dy then (kx h132 dy) else (if (F_X9_isLooked h132 (nI t) dy) = 0 then (rec132 h132 (dy + 1)) else (rec132 (F_X9_rides h132 (nI k) (nI t) dy) (dy + 1))))
def L_X9_reaches_132 (h : Hp) (fr : Int32) (ti : Int32) (n : Int32) (h105 : Hp) (k : Nat) (rec105 : Hp → Nat → Hp) (h114 : Hp) (t : Nat) (rec114 : Hp → Nat → Hp) (kx : Hp → Int32 → Hp) : Nat → Hp → Int32 → Hp
  | 0 => fun h132 dy => h132
  | fu + 1 => B_X9_reaches_132 h fr ti n h105 k rec105 h114 t rec114 kx (L_X9_reaches_132 h fr ti n h105 k rec105 h114 t rec114 kx fu)
theorem L_X9_reaches_132_s (h : Hp) (fr : Int32) (ti : Int32) (n : Int32) (h105 : Hp) (k : Nat) (rec105 : Hp → Nat → Hp) (h114 : Hp) (t : Nat) (rec114 : Hp → Nat → Hp) (kx : Hp → Int32 → Hp) (fu : Nat) (h132 : Hp) (dy : Int32) : L_X9_reaches_132 h fr ti n h105 k rec105 h114 t rec114 kx (fu + 1) h132 dy = B_X9_reaches_132 h fr ti n h105 k rec105 h114 t rec114 kx (L_X9_reaches_132 h fr ti n h105 k rec105 h114 t rec114 kx fu) h132 dy := rfl
def K_X9_reaches_114 (h : Hp) (fr : Int32) (ti : Int32) (n : Int32) (h105 : Hp) (k : Nat) (rec105 : Hp → Nat → Hp) (h114 : Hp) (t : Nat) : Hp := (rec105 (F_X9_readies h114 (nI k)) (k + 1))
def B_X9_reaches_114 (h : Hp) (fr : Int32) (ti : Int32) (n : Int32) (h105 : Hp) (k : Nat) (rec105 : Hp → Nat → Hp) (kx : Hp → Nat → Hp) (rec114 : Hp → Nat → Hp) (h114 : Hp) (t : Nat) : Hp := (if (xFI h114 1003 0) ≤ (nI t) then (kx h114 t) else L_X9_reaches_132 h fr ti n h105 k rec105 h114 t rec114 (K_X9_reaches_132 h fr ti n h105 k rec105 h114 t rec114) ((2147483647 - ((ti / 1440) - 1).toInt).toNat + 1) h114 ((ti / 1440) - 1))
def L_X9_reaches_114 (h : Hp) (fr : Int32) (ti : Int32) (n : Int32) (h105 : Hp) (k : Nat) (rec105 : Hp → Nat → Hp) (kx : Hp → Nat → Hp) : Nat → Hp → Nat → Hp
  | 0 => fun h114 t => h114
  | fu + 1 => B_X9_reaches_114 h fr ti n h105 k rec105 kx (L_X9_reaches_114 h fr ti n h105 k rec105 kx fu)
theorem L_X9_reaches_114_s (h : Hp) (fr : Int32) (ti : Int32) (n : Int32) (h105 : Hp) (k : Nat) (rec105 : Hp → Nat → Hp) (kx : Hp → Nat → Hp) (fu : Nat) (h114 : Hp) (t : Nat) : L_X9_reaches_114 h fr ti n h105 k rec105 kx (fu + 1) h114 t = B_X9_reaches_114 h fr ti n h105 k rec105 kx (L_X9_reaches_114 h fr ti n h105 k rec105 kx fu) h114 t := rfl
def B_X9_reaches_105 (h : Hp) (fr : Int32) (ti : Int32) (n : Int32) (rec105 : Hp → Nat → Hp) (h105 : Hp) (k : Nat) : Hp := (if n < (nI k) then h105 else L_X9_reaches_114 h fr ti n h105 k rec105 (K_X9_reaches_114 h fr ti n h105 k rec105) (2147483648 - 0 + 1) h105 0)
def L_X9_reaches_105 (h : Hp) (fr : Int32) (ti : Int32) (n : Int32) : Nat → Hp → Nat → Hp
  | 0 => fun h105 k => h105
  | fu + 1 => B_X9_reaches_105 h fr ti n (L_X9_reaches_105 h fr ti n fu)
theorem L_X9_reaches_105_s (h : Hp) (fr : Int32) (ti : Int32) (n : Int32) (fu : Nat) (h105 : Hp) (k : Nat) : L_X9_reaches_105 h fr ti n (fu + 1) h105 k = B_X9_reaches_105 h fr ti n (L_X9_reaches_105 h fr ti n fu) h105 k := rfl
def K_X9_reaches_42 (h : Hp) (fr : Int32) (ti : Int32) (n : Int32) (h42 : Hp) (s : Nat) : Hp := L_X9_reaches_105 h fr ti n (2147483648 - 1 + 1) h42 1
def B_X9_reaches_42 (h : Hp) (fr : Int32) (ti : Int32) (n : Int32) (kx : Hp → Nat → Hp) (rec42 : Hp → Nat → Hp) (h42 : Hp) (s : Nat) : Hp := (if (xFI h42 1000 0) ≤ (nI s) then (kx h42 s) else (rec42 (sAI h42 58 0 ((nI s).toNatClampNeg) ((if (nI s) = fr then ti else (if (xAI h42 41 0 ((10 * fr) + (nI s)).toNatClampNeg) ≤ 0 then 100000000 else (ti + (xAI h42 41 0 ((10 * fr) + (nI s)).toNatClampNeg)))) : Int32)) (s + 1)))
def L_X9_reaches_42 (h : Hp) (fr : Int32) (ti : Int32) (n : Int32) (kx : Hp → Nat → Hp) : Nat → Hp → Nat → Hp
  | 0 => fun h42 s => h42
  | fu + 1 => B_X9_reaches_42 h fr ti n kx (L_X9_reaches_42 h fr ti n kx fu)
theorem L_X9_reaches_42_s (h : Hp) (fr : Int32) (ti : Int32) (n : Int32) (kx : Hp → Nat → Hp) (fu : Nat) (h42 : Hp) (s : Nat) : L_X9_reaches_42 h fr ti n kx (fu + 1) h42 s = B_X9_reaches_42 h fr ti n kx (L_X9_reaches_42 h fr ti n kx fu) h42 s := rfl
def K_X9_reaches_8 (h : Hp) (fr : Int32) (ti : Int32) (n : Int32) (h8 : Hp) (i : Nat) : Hp := L_X9_reaches_42 h fr ti n (K_X9_reaches_42 h fr ti n) (2147483648 - 0 + 1) h8 0
def B_X9_reaches_8 (h : Hp) (fr : Int32) (ti : Int32) (n : Int32) (kx : Hp → Nat → Hp) (rec8 : Hp → Nat → Hp) (h8 : Hp) (i : Nat) : Hp := (if 50 ≤ (nI i) then (kx h8 i) else (rec8 (sAI (sAI h8 57 0 ((nI i).toNatClampNeg) 100000000) 58 0 ((nI i).toNatClampNeg) 100000000) (i + 1)))
def L_X9_reaches_8 (h : Hp) (fr : Int32) (ti : Int32) (n : Int32) (kx : Hp → Nat → Hp) : Nat → Hp → Nat → Hp
  | 0 => fun h8 i => h8
  | fu + 1 => B_X9_reaches_8 h fr ti n kx (L_X9_reaches_8 h fr ti n kx fu)
theorem L_X9_reaches_8_s (h : Hp) (fr : Int32) (ti : Int32) (n : Int32) (kx : Hp → Nat → Hp) (fu : Nat) (h8 : Hp) (i : Nat) : L_X9_reaches_8 h fr ti n kx (fu + 1) h8 i = B_X9_reaches_8 h fr ti n kx (L_X9_reaches_8 h fr ti n kx fu) h8 i := rfl
def F_X9_reaches (h : Hp) (fr : Int32) (ti : Int32) (n : Int32) : Hp := L_X9_reaches_8 h fr ti n (K_X9_reaches_8 h fr ti n) (2147483648 - 0 + 1) (sFI h 1022 0 ti) 0
set_option maxRecDepth 20000 in
theorem c_X9_reaches {g : GT} {d : Nat} (hd : 4 ≤ d) {h : Hp} (W : MW h) (fr : Int32) (ti : Int32) (n : Int32) (D : DM h) (v_fr : vp_in fr 10) (v_n : vp_in n 5)  : Ctr g M_X9_reaches d 0 0 [.inr (10, some 0), .inl (.int fr), .inl (.int ti), .inl (.int n)] h (cy_detP (.inl none) (F_X9_reaches h fr ti n) (MP h (F_X9_reaches h fr ti n))) := by
  refine cy_body rfl rfl (by decide) (Nat.le_of_ble_eq_true rfl) ?_
  refine wp_run [(.aload_n 0, 1), (.iload_n 2, 1)] (pc' := 2) (L' := [(0, .inr (10, some 0)), (1, .inl (.int fr)), (2, .inl (.int ti)), (3, .inl (.int n))]) (st' := [.inl (.int ti), .inr (10, some 0)]) ⟨dX9_reaches_0, dX9_reaches_1, trivial⟩ rfl rfl ?_
  refine wx_putI cls_10 (k := 22) (f := 1022) (by decide) rfl rfl rfl fl_X9_163 (Or.inl rfl) dX9_reaches_2 ?_
  have D_1 : DM (sFI h 1022 0 ti) := D.fput (by decide)
  refine wp_run [(.iconst 0, 1), (.istore 4, 2)] (pc' := 8) (L' := [(4, .inl (.int 0)), (0, .inr (10, some 0)), (1, .inl (.int fr)), (2, .inl (.int ti)), (3, .inl (.int n))]) (st' := []) ⟨dX9_reaches_5, dX9_reaches_6, trivial⟩ rfl rfl ?_
  rw [F_X9_reaches]
  refine wp_sub [0, 1, 2, 3, 4] (L' := [(4, .inl (.int 0)), (0, .inr (10, some 0)), (1, .inl (.int fr)), (2, .inl (.int ti)), (3, .inl (.int n))]) rfl ?_
  have X8 : ∀ (h8 : Hp) (i : Nat) (Sr8 : SR h h8) (D8 : DM h8) (hii : i < 2147483648) , WP g M_X9_reaches d 0 0 39 [(0, .inr (10, some 0)), (1, .inl (.int fr)), (2, .inl (.int ti)), (3, .inl (.int n))] [] h8 (cy_detP (.inl none) (K_X9_reaches_8 h fr ti n h8 i) (MP h (K_X9_reaches_8 h fr ti n h8 i))) := by
    intro h8 i Sr8 D8 hii
    refine wp_run [(.iconst 0, 1), (.istore 4, 2)] (pc' := 42) (L' := [(4, .inl (.int 0)), (0, .inr (10, some 0)), (1, .inl (.int fr)), (2, .inl (.int ti)), (3, .inl (.int n))]) (st' := []) ⟨dX9_reaches_39, dX9_reaches_40, trivial⟩ rfl rfl ?_
    rw [K_X9_reaches_8]
    refine wp_sub [0, 1, 2, 3, 4] (L' := [(4, .inl (.int 0)), (0, .inr (10, some 0)), (1, .inl (.int fr)), (2, .inl (.int ti)), (3, .inl (.int n))]) rfl ?_
    have X42 : ∀ (h42 : Hp) (s : Nat) (Sr42 : SR h h42) (D42 : DM h42) (his : s < 2147483648) , WP g M_X9_reaches d 0 0 102 [(0, .inr (10, some 0)), (1, .inl (.int fr)), (2, .inl (.int ti)), (3, .inl (.int n))] [] h42 (cy_detP (.inl none) (K_X9_reaches_42 h fr ti n h42 s) (MP h (K_X9_reaches_42 h fr ti n h42 s))) := by
      intro h42 s Sr42 D42 his
      refine wp_run [(.iconst 1, 1), (.istore 4, 2)] (pc' := 105) (L' := [(4, .inl (.int 1)), (0, .inr (10, some 0)), (1, .inl (.int fr)), (2, .inl (.int ti)), (3, .inl (.int n))]) (st' := []) ⟨dX9_reaches_102, dX9_reaches_103, trivial⟩ rfl rfl ?_
      rw [K_X9_reaches_42]
      refine wp_sub [0, 1, 2, 3, 4] (L' := [(4, .inl (.int 1)), (0, .inr (10, some 0)), (1, .inl (.int fr)), (2, .inl (.int ti)), (3, .inl (.int n))]) rfl ?_
      suffices Y105 : ∀ (n105 : Nat) (h105 : Hp) (k : Nat) (Sr105 : SR h h105) (D105 : DM h105) (hik : k < 2147483648) (h1k : 1 ≤ k) (hm105 : 2147483648 - k < n105), WP g M_X9_reaches d 0 0 105 [(4, .inl (.int (nI k))), (0, .inr (10, some 0)), (1, .inl (.int fr)), (2, .inl (.int ti)), (3, .inl (.int n))] [] h105 (cy_detP (.inl none) (L_X9_reaches_105 h fr ti n n105 h105 k) (MP h (L_X9_reaches_105 h fr ti n n105 h105 k))) from
        Y105 (2147483648 - 1 + 1) h42 1 Sr42 D42 (by decide) (by omega) (Nat.lt_succ_self _)
      intro n105
      induction n105 with
      | zero => intro h105 k Sr105 D105 hik h1k hm105; exact absurd hm105 (Nat.not_lt_zero _)
      | succ n105 ih105 =>
        intro h105 k Sr105 D105 hik h1k hm105
        rw [L_X9_reaches_105_s]
        generalize L_X9_reaches_105 h fr ti n n105 = rec105 at ih105 ⊢
        refine wp_run [(.iload 4, 2), (.iload_n 3, 1)] (pc' := 108) (L' := [(4, .inl (.int (nI k))), (0, .inr (10, some 0)), (1, .inl (.int fr)), (2, .inl (.int ti)), (3, .inl (.int n))]) (st' := [.inl (.int n), .inl (.int (nI k))]) ⟨dX9_reaches_105, dX9_reaches_107, trivial⟩ rfl rfl ?_
        refine wx_icmp_gt (tgt := 189) dX9_reaches_108 (by decide) (fun h_2 => ?_) (fun h_2 => ?_)
        · exact wx_vret rfl rfl dX9_reaches_189 (by rw [B_X9_reaches_105, if_pos h_2]; exact ⟨⟨Sr105, D105⟩, rfl, rfl⟩)
        · refine wp_run [(.iconst 0, 1), (.istore 5, 2)] (pc' := 114) (L' := [(5, .inl (.int 0)), (4, .inl (.int (nI k))), (0, .inr (10, some 0)), (1, .inl (.int fr)), (2, .inl (.int ti)), (3, .inl (.int n))]) (st' := []) ⟨dX9_reaches_111, dX9_reaches_112, trivial⟩ rfl rfl ?_
          rw [B_X9_reaches_105, if_neg h_2]
          refine wp_sub [0, 1, 2, 3, 4, 5] (L' := [(5, .inl (.int 0)), (4, .inl (.int (nI k))), (0, .inr (10, some 0)), (1, .inl (.int fr)), (2, .inl (.int ti)), (3, .inl (.int n))]) rfl ?_
          have X114 : ∀ (h114 : Hp) (t : Nat) (Sr114 : SR h h114) (D114 : DM h114) (hit : t < 2147483648) , WP g M_X9_reaches d 0 0 177 [(4, .inl (.int (nI k))), (0, .inr (10, some 0)), (1, .inl (.int fr)), (2, .inl (.int ti)), (3, .inl (.int n))] [] h114 (cy_detP (.inl none) (K_X9_reaches_114 h fr ti n h105 k rec105 h114 t) (MP h (K_X9_reaches_114 h fr ti n h105 k rec105 h114 t))) := by
            intro h114 t Sr114 D114 hit
            refine wp_run [(.aload_n 0, 1), (.iload 4, 2)] (pc' := 180) (L' := [(4, .inl (.int (nI k))), (0, .inr (10, some 0)), (1, .inl (.int fr)), (2, .inl (.int ti)), (3, .inl (.int n))]) (st' := [.inl (.int (nI k)), .inr (10, some 0)]) ⟨dX9_reaches_177, dX9_reaches_178, trivial⟩ rfl rfl ?_
            refine wx_virtualDP (M := M_X9_reaches) (uc := 0) (us := 0) (s := 10) (i := 0) (As := [.inl (.int (nI k))]) (rest := []) cls_10 rfl (ok_X9_readies _ _) ml_X9_183 im_X9_readies se_X9_readies (by omega) (c_X9_readies (d := d - 1) (h := h114) (by omega) (W.sr Sr114) (nI k) D114 (vin_mono (n := 5) (vin_le hik h_2 v_n) (by decide))) rfl rfl (Nat.le_of_ble_eq_true rfl) dX9_reaches_180 (fun hS_3 => ?_)
            refine wp_run [(.iinc 4 1, 3)] (pc' := 186) (L' := [(4, .inl (.int ((nI k) + 1))), (0, .inr (10, some 0)), (1, .inl (.int fr)), (2, .inl (.int ti)), (3, .inl (.int n))]) (st' := []) ⟨dX9_reaches_183, trivial⟩ rfl rfl ?_
            refine wx_goto (tgt := 105) dX9_reaches_186 (by decide) ?_
            rw [K_X9_reaches_114]
            rw [nI_1 k]
            refine wp_sub [0, 1, 2, 3, 4] (L' := [(4, .inl (.int (nI (k + 1)))), (0, .inr (10, some 0)), (1, .inl (.int fr)), (2, .inl (.int ti)), (3, .inl (.int n))]) rfl ?_
            exact ih105 _ _ (Sr114.trans hS_3.1) hS_3.2 (cy_nle hik (Int32.not_lt.mp h_2) (vin_int v_n (by decide))).2 (by omega) (by have := (cy_nle hik (Int32.not_lt.mp h_2) (vin_int v_n (by decide))).2; omega)
          suffices Y114 : ∀ (n114 : Nat) (h114 : Hp) (t : Nat) (Sr114 : SR h h114) (D114 : DM h114) (hit : t < 2147483648) (hm114 : 2147483648 - t < n114), WP g M_X9_reaches d 0 0 114 [(5, .inl (.int (nI t))), (4, .inl (.int (nI k))), (0, .inr (10, some 0)), (1, .inl (.int fr)), (2, .inl (.int ti)), (3, .inl (.int n))] [] h114 (cy_detP (.inl none) (L_X9_reaches_114 h fr ti n h105 k rec105 (K_X9_reaches_114 h fr ti n h105 k rec105) n114 h114 t) (MP h (L_X9_reaches_114 h fr ti n h105 k rec105 (K_X9_reaches_114 h fr ti n h105 k rec105) n114 h114 t))) from
            Y114 (2147483648 - 0 + 1) h105 0 Sr105 D105 (by decide) (Nat.lt_succ_self _)
          intro n114
          induction n114 with
          | zero => intro h114 t Sr114 D114 hit hm114; exact absurd hm114 (Nat.not_lt_zero _)
          | succ n114 ih114 =>
            intro h114 t Sr114 D114 hit hm114
            rw [L_X9_reaches_114_s]
            generalize L_X9_reaches_114 h fr ti n h105 k rec105 (K_X9_reaches_114 h fr ti n h105 k rec105) n114 = rec114 at ih114 ⊢
            refine wp_run [(.iload 5, 2), (.aload_n 0, 1)] (pc' := 117) (L' := [(5, .inl (.int (nI t))), (4, .inl (.int (nI k))), (0, .inr (10, some 0)), (1, .inl (.int fr)), (2, .inl (.int ti)), (3, .inl (.int n))]) (st' := [.inr (10, some 0), .inl (.int (nI t))]) ⟨dX9_reaches_114, dX9_reaches_116, trivial⟩ rfl rfl ?_
            refine wx_getI cls_10 (k := 3) (f := 1003) (by decide) rfl rfl fl_X9_132 dX9_reaches_117 ?_
            refine wx_icmp_ge (tgt := 177) dX9_reaches_120 (by decide) (fun h_4 => ?_) (fun h_4 => ?_)
            · rw [B_X9_reaches_114, if_pos h_4]
              refine wp_sub [1, 2, 3, 4, 5] (L' := [(4, .inl (.int (nI k))), (0, .inr (10, some 0)), (1, .inl (.int fr)), (2, .inl (.int ti)), (3, .inl (.int n))]) rfl ?_
              exact X114 _ _ Sr114 D114 hit
            · refine wp_run [(.iload_n 2, 1), (.sipush 1440, 3)] (pc' := 127) (L' := [(5, .inl (.int (nI t))), (4, .inl (.int (nI k))), (0, .inr (10, some 0)), (1, .inl (.int fr)), (2, .inl (.int ti)), (3, .inl (.int n))]) (st' := [.inl (.int 1440), .inl (.int ti)]) ⟨dX9_reaches_123, dX9_reaches_124, trivial⟩ rfl rfl ?_
              refine wx_idiv (by decide) dX9_reaches_127 ?_
              refine wp_run [(.iconst 1, 1), (.isub, 1), (.istore 6, 2)] (pc' := 132) (L' := [(6, .inl (.int ((ti / 1440) - 1))), (5, .inl (.int (nI t))), (4, .inl (.int (nI k))), (0, .inr (10, some 0)), (1, .inl (.int fr)), (2, .inl (.int ti)), (3, .inl (.int n))]) (st' := []) ⟨dX9_reaches_128, dX9_reaches_129, dX9_reaches_130, trivial⟩ rfl rfl ?_
              rw [B_X9_reaches_114, if_neg h_4]
              refine wp_sub [0, 1, 2, 3, 4, 5, 6] (L' := [(6, .inl (.int ((ti / 1440) - 1))), (5, .inl (.int (nI t))), (4, .inl (.int (nI k))), (0, .inr (10, some 0)), (1, .inl (.int fr)), (2, .inl (.int ti)), (3, .inl (.int n))]) rfl ?_
              have X132 : ∀ (h132 : Hp) (dy : Int32) (Sr132 : SR h h132) (D132 : DM h132) , WP g M_X9_reaches d 0 0 171 [(5, .inl (.int (nI t))), (4, .inl (.int (nI k))), (0, .inr (10, some 0)), (1, .inl (.int fr)), (2, .inl (.int ti)), (3, .inl (.int n))] [] h132 (cy_detP (.inl none) (K_X9_reaches_132 h fr ti n h105 k rec105 h114 t rec114 h132 dy) (MP h (K_X9_reaches_132 h fr ti n h105 k rec105 h114 t rec114 h132 dy))) := by
                intro h132 dy Sr132 D132
                refine wp_run [(.iinc 5 1, 3)] (pc' := 174) (L' := [(5, .inl (.int ((nI t) + 1))), (4, .inl (.int (nI k))), (0, .inr (10, some 0)), (1, .inl (.int fr)), (2, .inl (.int ti)), (3, .inl (.int n))]) (st' := []) ⟨dX9_reaches_171, trivial⟩ rfl rfl ?_
                refine wx_goto (tgt := 114) dX9_reaches_174 (by decide) ?_
                rw [K_X9_reaches_132]
                rw [nI_1 t]
                refine wp_sub [0, 1, 2, 3, 4, 5] (L' := [(5, .inl (.int (nI (t + 1)))), (4, .inl (.int (nI k))), (0, .inr (10, some 0)), (1, .inl (.int fr)), (2, .inl (.int ti)), (3, .inl (.int n))]) rfl ?_
                exact ih114 _ _ Sr132 D132 (cy_nlt hit h_4).2 (by have := (cy_nlt hit h_4).2; omega)
              suffices Y132 : ∀ (n132 : Nat) (h132 : Hp) (dy : Int32) (Sr132 : SR h h132) (D132 : DM h132) (hm132 : (2147483647 - dy.toInt).toNat < n132), WP g M_X9_reaches d 0 0 132 [(6, .inl (.int dy)), (5, .inl (.int (nI t))), (4, .inl (.int (nI k))), (0, .inr (10, some 0)), (1, .inl (.int fr)), (2, .inl (.int ti)), (3, .inl (.int n))] [] h132 (cy_detP (.inl none) (L_X9_reaches_132 h fr ti n h105 k rec105 h114 t rec114 (K_X9_reaches_132 h fr ti n h105 k rec105 h114 t rec114) n132 h132 dy) (MP h (L_X9_reaches_132 h fr ti n h105 k rec105 h114 t rec114 (K_X9_reaches_132 h fr ti n h105 k rec105 h114 t rec114) n132 h132 dy))) from
                Y132 ((2147483647 - ((ti / 1440) - 1).toInt).toNat + 1) h114 ((ti / 1440) - 1) Sr114 D114 (Nat.lt_succ_self _)
              intro n132
              induction n132 with
              | zero => intro h132 dy Sr132 D132 hm132; exact absurd hm132 (Nat.not_lt_zero _)
              | succ n132 ih132 =>
                intro h132 dy Sr132 D132 hm132
                rw [L_X9_reaches_132_s]
                generalize L_X9_reaches_132 h fr ti n h105 k rec105 h114 t rec114 (K_X9_reaches_132 h fr ti n h105 k rec105 h114 t rec114) n132 = rec132 at ih132 ⊢
                refine wp_run [(.iload 6, 2), (.iload_n 2, 1), (.sipush 1440, 3)] (pc' := 138) (L' := [(6, .inl (.int dy)), (5, .inl (.int (nI t))), (4, .inl (.int (nI k))), (0, .inr (10, some 0)), (1, .inl (.int fr)), (2, .inl (.int ti)), (3, .inl (.int n))]) (st' := [.inl (.int 1440), .inl (.int ti), .inl (.int dy)]) ⟨dX9_reaches_132, dX9_reaches_134, dX9_reaches_135, trivial⟩ rfl rfl ?_
                refine wx_idiv (by decide) dX9_reaches_138 ?_
                refine wp_run [(.iconst 1, 1), (.iadd, 1)] (pc' := 141) (L' := [(6, .inl (.int dy)), (5, .inl (.int (nI t))), (4, .inl (.int (nI k))), (0, .inr (10, some 0)), (1, .inl (.int fr)), (2, .inl (.int ti)), (3, .inl (.int n))]) (st' := [.inl (.int ((ti / 1440) + 1)), .inl (.int dy)]) ⟨dX9_reaches_139, dX9_reaches_140, trivial⟩ rfl rfl ?_
                refine wx_icmp_gt (tgt := 171) dX9_reaches_141 (by decide) (fun h_5 => ?_) (fun h_5 => ?_)
                · rw [B_X9_reaches_132, if_pos h_5]
                  refine wp_sub [1, 2, 3, 4, 5, 6] (L' := [(5, .inl (.int (nI t))), (4, .inl (.int (nI k))), (0, .inr (10, some 0)), (1, .inl (.int fr)), (2, .inl (.int ti)), (3, .inl (.int n))]) rfl ?_
                  exact X132 _ _ Sr132 D132
                · refine wp_run [(.aload_n 0, 1), (.iload 5, 2), (.iload 6, 2)] (pc' := 149) (L' := [(6, .inl (.int dy)), (5, .inl (.int (nI t))), (4, .inl (.int (nI k))), (0, .inr (10, some 0)), (1, .inl (.int fr)), (2, .inl (.int ti)), (3, .inl (.int n))]) (st' := [.inl (.int dy), .inl (.int (nI t)), .inr (10, some 0)]) ⟨dX9_reaches_144, dX9_reaches_145, dX9_reaches_147, trivial⟩ rfl rfl ?_
                  refine wx_virtualD (M := M_X9_reaches) (uc := 0) (us := 0) (s := 10) (i := 0) (As := [.inl (.int (nI t)), .inl (.int dy)]) (rest := []) cls_10 rfl (ok_X9_isLooked _ _) ml_X9_177 im_X9_isLooked se_X9_isLooked (by omega) (c_X9_isLooked (d := d - 1) (h := h132) (by omega) (W.sr Sr132) (nI t) dy D132 (vin_mono (n := 20) (vin_lt hit h_4 (D114.fi (f := 1003) (b := 21) (by decide))) (by decide))) rfl rfl (Nat.le_of_ble_eq_true rfl) dX9_reaches_149 ?_
                  refine wx_if_eq (tgt := 165) dX9_reaches_152 (by decide) (fun h_6 => ?_) (fun h_6 => ?_)
                  · refine wp_run [(.iinc 6 1, 3)] (pc' := 168) (L' := [(6, .inl (.int (dy + 1))), (5, .inl (.int (nI t))), (4, .inl (.int (nI k))), (0, .inr (10, some 0)), (1, .inl (.int fr)), (2, .inl (.int ti)), (3, .inl (.int n))]) (st' := []) ⟨dX9_reaches_165, trivial⟩ rfl rfl ?_
                    refine wx_goto (tgt := 132) dX9_reaches_168 (by decide) ?_
                    rw [B_X9_reaches_132, if_neg h_5, if_pos h_6]
                    refine wp_sub [0, 1, 2, 3, 4, 5, 6] (L' := [(6, .inl (.int (dy + 1))), (5, .inl (.int (nI t))), (4, .inl (.int (nI k))), (0, .inr (10, some 0)), (1, .inl (.int fr)), (2, .inl (.int ti)), (3, .inl (.int n))]) rfl ?_
                    exact ih132 _ _ Sr132 D132 (Nat.lt_of_lt_of_le (cy_upl h_5 (day_lt _)) (Nat.le_of_lt_succ hm132))
                  · skip
                    refine wp_run [(.aload_n 0, 1), (.iload 4, 2), (.iload 5, 2), (.iload 6, 2)] (pc' := 162) (L' := [(6, .inl (.int dy)), (5, .inl (.int (nI t))), (4, .inl (.int (nI k))), (0, .inr (10, some 0)), (1, .inl (.int fr)), (2, .inl (.int ti)), (3, .inl (.int n))]) (st' := [.inl (.int dy), .inl (.int (nI t)), .inl (.int (nI k)), .inr (10, some 0)]) ⟨dX9_reaches_155, dX9_reaches_156, dX9_reaches_158, dX9_reaches_160, trivial⟩ rfl rfl ?_
                    refine wx_virtualDP (M := M_X9_reaches) (uc := 0) (us := 0) (s := 10) (i := 0) (As := [.inl (.int (nI k)), .inl (.int (nI t)), .inl (.int dy)]) (rest := []) cls_10 rfl (ok_X9_rides _ _) ml_X9_180 im_X9_rides se_X9_rides (by omega) (c_X9_rides (d := d - 1) (h := h132) (by omega) (W.sr Sr132) (nI k) (nI t) dy D132 (vin_mono (n := 5) (vin_le hik h_2 v_n) (by decide)) (vin_mono (n := 4) (vin_dec hik h1k (vin_le hik h_2 v_n)) (by decide)) (vin_mono (n := 20) (vin_lt hit h_4 (D114.fi (f := 1003) (b := 21) (by decide))) (by decide)) (vin_mono (n := 100) (il_day h_6) (by decide))) rfl rfl (Nat.le_of_ble_eq_true rfl) dX9_reaches_162 (fun hS_7 => ?_)
                    refine wp_run [(.iinc 6 1, 3)] (pc' := 168) (L' := [(6, .inl (.int (dy + 1))), (5, .inl (.int (nI t))), (4, .inl (.int (nI k))), (0, .inr (10, some 0)), (1, .inl (.int fr)), (2, .inl (.int ti)), (3, .inl (.int n))]) (st' := []) ⟨dX9_reaches_165, trivial⟩ rfl rfl ?_
                    refine wx_goto (tgt := 132) dX9_reaches_168 (by decide) ?_
                    rw [B_X9_reaches_132, if_neg h_5, if_neg h_6]
                    refine wp_sub [0, 1, 2, 3, 4, 5, 6] (L' := [(6, .inl (.int (dy + 1))), (5, .inl (.int (nI t))), (4, .inl (.int (nI k))), (0, .inr (10, some 0)), (1, .inl (.int fr)), (2, .inl (.int ti)), (3, .inl (.int n))]) rfl ?_
                    exact ih132 _ _ (Sr132.trans hS_7.1) hS_7.2 (Nat.lt_of_lt_of_le (cy_upl h_5 (day_lt _)) (Nat.le_of_lt_succ hm132))
    suffices Y42 : ∀ (n42 : Nat) (h42 : Hp) (s : Nat) (Sr42 : SR h h42) (D42 : DM h42) (his : s < 2147483648) (hm42 : 2147483648 - s < n42), WP g M_X9_reaches d 0 0 42 [(4, .inl (.int (nI s))), (0, .inr (10, some 0)), (1, .inl (.int fr)), (2, .inl (.int ti)), (3, .inl (.int n))] [] h42 (cy_detP (.inl none) (L_X9_reaches_42 h fr ti n (K_X9_reaches_42 h fr ti n) n42 h42 s) (MP h (L_X9_reaches_42 h fr ti n (K_X9_reaches_42 h fr ti n) n42 h42 s))) from
      Y42 (2147483648 - 0 + 1) h8 0 Sr8 D8 (by decide) (Nat.lt_succ_self _)
    intro n42
    induction n42 with
    | zero => intro h42 s Sr42 D42 his hm42; exact absurd hm42 (Nat.not_lt_zero _)
    | succ n42 ih42 =>
      intro h42 s Sr42 D42 his hm42
      rw [L_X9_reaches_42_s]
      generalize L_X9_reaches_42 h fr ti n (K_X9_reaches_42 h fr ti n) n42 = rec42 at ih42 ⊢
      refine wp_run [(.iload 4, 2), (.aload_n 0, 1)] (pc' := 45) (L' := [(4, .inl (.int (nI s))), (0, .inr (10, some 0)), (1, .inl (.int fr)), (2, .inl (.int ti)), (3, .inl (.int n))]) (st' := [.inr (10, some 0), .inl (.int (nI s))]) ⟨dX9_reaches_42, dX9_reaches_44, trivial⟩ rfl rfl ?_
      refine wx_getI cls_10 (k := 0) (f := 1000) (by decide) rfl rfl fl_X9_125 dX9_reaches_45 ?_
      refine wx_icmp_ge (tgt := 102) dX9_reaches_48 (by decide) (fun h_8 => ?_) (fun h_8 => ?_)
      · rw [B_X9_reaches_42, if_pos h_8]
        refine wp_sub [1, 2, 3, 4] (L' := [(0, .inr (10, some 0)), (1, .inl (.int fr)), (2, .inl (.int ti)), (3, .inl (.int n))]) rfl ?_
        exact X42 _ _ Sr42 D42 his
      · refine wp_run [(.aload_n 0, 1)] (pc' := 52) (L' := [(4, .inl (.int (nI s))), (0, .inr (10, some 0)), (1, .inl (.int fr)), (2, .inl (.int ti)), (3, .inl (.int n))]) (st' := [.inr (10, some 0)]) ⟨dX9_reaches_51, trivial⟩ rfl rfl ?_
        refine wx_getR cls_10 (k := 2) (f := 1002) (t := 41) (o := some 0) (by decide) rfl rfl fl_X9_13 ((W.sr Sr42).fr (f := 1002) (by decide)) dX9_reaches_52 ?_
        refine wp_run [(.bipush 10, 2), (.iload_n 1, 1), (.imul, 1), (.iload 4, 2), (.iadd, 1)] (pc' := 62) (L' := [(4, .inl (.int (nI s))), (0, .inr (10, some 0)), (1, .inl (.int fr)), (2, .inl (.int ti)), (3, .inl (.int n))]) (st' := [.inl (.int ((10 * fr) + (nI s))), .inr (41, some 0)]) ⟨dX9_reaches_55, dX9_reaches_57, dX9_reaches_58, dX9_reaches_59, dX9_reaches_61, trivial⟩ rfl rfl ?_
        refine wx_iald (Or.inl rfl) (vin_mono (n := 100) (vin_lin (c := 10) v_fr (vin_mono (vin_lt his h_8 (D42.fi (f := 1000) (b := 11) (by decide))) (by decide)) (by decide)) (by decide)) dX9_reaches_62 ?_
        refine wp_run [(.istore 5, 2), (.aload_n 0, 1)] (pc' := 66) (L' := [(5, .inl (.int (xAI h42 41 0 ((10 * fr) + (nI s)).toNatClampNeg))), (4, .inl (.int (nI s))), (0, .inr (10, some 0)), (1, .inl (.int fr)), (2, .inl (.int ti)), (3, .inl (.int n))]) (st' := [.inr (10, some 0)]) ⟨dX9_reaches_63, dX9_reaches_65, trivial⟩ rfl rfl ?_
        refine wx_getR cls_10 (k := 20) (f := 1020) (t := 58) (o := some 0) (by decide) rfl rfl fl_X9_64 ((W.sr Sr42).fr (f := 1020) (by decide)) dX9_reaches_66 ?_
        refine wp_run [(.iload 4, 2), (.iload 4, 2), (.iload_n 1, 1)] (pc' := 74) (L' := [(5, .inl (.int (xAI h42 41 0 ((10 * fr) + (nI s)).toNatClampNeg))), (4, .inl (.int (nI s))), (0, .inr (10, some 0)), (1, .inl (.int fr)), (2, .inl (.int ti)), (3, .inl (.int n))]) (st' := [.inl (.int fr), .inl (.int (nI s)), .inl (.int (nI s)), .inr (58, some 0)]) ⟨dX9_reaches_69, dX9_reaches_71, dX9_reaches_73, trivial⟩ rfl rfl ?_
        refine wp_by (uc' := 0) (us' := 0) (pc' := 95) (L' := [(5, .inl (.int (xAI h42 41 0 ((10 * fr) + (nI s)).toNatClampNeg))), (4, .inl (.int (nI s))), (0, .inr (10, some 0)), (1, .inl (.int fr)), (2, .inl (.int ti)), (3, .inl (.int n))]) (st' := [.inl (.int ((if (nI s) = fr then ti else (if (xAI h42 41 0 ((10 * fr) + (nI s)).toNatClampNeg) ≤ 0 then 100000000 else (ti + (xAI h42 41 0 ((10 * fr) + (nI s)).toNatClampNeg)))) : Int32)), .inl (.int (nI s)), .inr (58, some 0)]) (h' := h42) (fun J_9 => ?_) ?_
        · refine wx_icmp_ne (tgt := 81) dX9_reaches_74 (by decide) (fun h_10 => ?_) (fun h_10 => ?_)
          · refine wp_run [(.iload 5, 2)] (pc' := 83) (L' := [(5, .inl (.int (xAI h42 41 0 ((10 * fr) + (nI s)).toNatClampNeg))), (4, .inl (.int (nI s))), (0, .inr (10, some 0)), (1, .inl (.int fr)), (2, .inl (.int ti)), (3, .inl (.int n))]) (st' := [.inl (.int (xAI h42 41 0 ((10 * fr) + (nI s)).toNatClampNeg)), .inl (.int (nI s)), .inr (58, some 0)]) ⟨dX9_reaches_81, trivial⟩ rfl rfl ?_
            refine wx_if_le (tgt := 93) dX9_reaches_83 (by decide) (fun h_11 => ?_) (fun h_11 => ?_)
            · refine wx_ldc kc_X9_176 dX9_reaches_93 ?_
              refine wp_sub [0, 1, 2, 3, 4, 5] (L' := [(5, .inl (.int (xAI h42 41 0 ((10 * fr) + (nI s)).toNatClampNeg))), (4, .inl (.int (nI s))), (0, .inr (10, some 0)), (1, .inl (.int fr)), (2, .inl (.int ti)), (3, .inl (.int n))]) rfl ?_
              exact wp_eq J_9 rfl (by simp only [if_neg h_10, if_pos h_11]) rfl
            · refine wp_run [(.iload_n 2, 1), (.iload 5, 2), (.iadd, 1)] (pc' := 90) (L' := [(5, .inl (.int (xAI h42 41 0 ((10 * fr) + (nI s)).toNatClampNeg))), (4, .inl (.int (nI s))), (0, .inr (10, some 0)), (1, .inl (.int fr)), (2, .inl (.int ti)), (3, .inl (.int n))]) (st' := [.inl (.int (ti + (xAI h42 41 0 ((10 * fr) + (nI s)).toNatClampNeg))), .inl (.int (nI s)), .inr (58, some 0)]) ⟨dX9_reaches_86, dX9_reaches_87, dX9_reaches_89, trivial⟩ rfl rfl ?_
              refine wx_goto (tgt := 95) dX9_reaches_90 (by decide) ?_
              refine wp_sub [0, 1, 2, 3, 4, 5] (L' := [(5, .inl (.int (xAI h42 41 0 ((10 * fr) + (nI s)).toNatClampNeg))), (4, .inl (.int (nI s))), (0, .inr (10, some 0)), (1, .inl (.int fr)), (2, .inl (.int ti)), (3, .inl (.int n))]) rfl ?_
              exact wp_eq J_9 rfl (by simp only [if_neg h_10, if_neg h_11]) rfl
          · refine wp_run [(.iload_n 2, 1)] (pc' := 78) (L' := [(5, .inl (.int (xAI h42 41 0 ((10 * fr) + (nI s)).toNatClampNeg))), (4, .inl (.int (nI s))), (0, .inr (10, some 0)), (1, .inl (.int fr)), (2, .inl (.int ti)), (3, .inl (.int n))]) (st' := [.inl (.int ti), .inl (.int (nI s)), .inr (58, some 0)]) ⟨dX9_reaches_77, trivial⟩ rfl rfl ?_
            refine wx_goto (tgt := 95) dX9_reaches_78 (by decide) ?_
            refine wp_sub [0, 1, 2, 3, 4, 5] (L' := [(5, .inl (.int (xAI h42 41 0 ((10 * fr) + (nI s)).toNatClampNeg))), (4, .inl (.int (nI s))), (0, .inr (10, some 0)), (1, .inl (.int fr)), (2, .inl (.int ti)), (3, .inl (.int n))]) rfl ?_
            exact wp_eq J_9 rfl (by simp only [if_pos h_10]) rfl
        refine wx_iast rfl (vin_mono (n := 50) (vin_lt his h_8 (D42.fi (f := 1000) (b := 11) (by decide))) (by decide)) dX9_reaches_95 ?_
        have D_12 : DM (sAI h42 58 0 ((nI s).toNatClampNeg) ((if (nI s) = fr then ti else (if (xAI h42 41 0 ((10 * fr) + (nI s)).toNatClampNeg) ≤ 0 then 100000000 else (ti + (xAI h42 41 0 ((10 * fr) + (nI s)).toNatClampNeg)))) : Int32)) := D42.put (by decide)
        refine wp_run [(.iinc 4 1, 3)] (pc' := 99) (L' := [(4, .inl (.int ((nI s) + 1))), (5, .inl (.int (xAI h42 41 0 ((10 * fr) + (nI s)).toNatClampNeg))), (0, .inr (10, some 0)), (1, .inl (.int fr)), (2, .inl (.int ti)), (3, .inl (.int n))]) (st' := []) ⟨dX9_reaches_96, trivial⟩ rfl rfl ?_
        refine wx_goto (tgt := 42) dX9_reaches_99 (by decide) ?_
        rw [B_X9_reaches_42, if_neg h_8]
        rw [nI_1 s]
        refine wp_sub [0, 2, 3, 4, 5] (L' := [(4, .inl (.int (nI (s + 1)))), (0, .inr (10, some 0)), (1, .inl (.int fr)), (2, .inl (.int ti)), (3, .inl (.int n))]) rfl ?_
        exact ih42 _ _ Sr42 D_12 (cy_nlt his h_8).2 (by have := (cy_nlt his h_8).2; omega)
  suffices Y8 : ∀ (n8 : Nat) (h8 : Hp) (i : Nat) (Sr8 : SR h h8) (D8 : DM h8) (hii : i < 2147483648) (hm8 : 2147483648 - i < n8), WP g M_X9_reaches d 0 0 8 [(4, .inl (.int (nI i))), (0, .inr (10, some 0)), (1, .inl (.int fr)), (2, .inl (.int ti)), (3, .inl (.int n))] [] h8 (cy_detP (.inl none) (L_X9_reaches_8 h fr ti n (K_X9_reaches_8 h fr ti n) n8 h8 i) (MP h (L_X9_reaches_8 h fr ti n (K_X9_reaches_8 h fr ti n) n8 h8 i))) from
    Y8 (2147483648 - 0 + 1) (sFI h 1022 0 ti) 0 SR.rf D_1 (by decide) (Nat.lt_succ_self _)
  intro n8
  induction n8 with
  | zero => intro h8 i Sr8 D8 hii hm8; exact absurd hm8 (Nat.not_lt_zero _)
  | succ n8 ih8 =>
    intro h8 i Sr8 D8 hii hm8
    rw [L_X9_reaches_8_s]
    generalize L_X9_reaches_8 h fr ti n (K_X9_reaches_8 h fr ti n) n8 = rec8 at ih8 ⊢
    refine wp_run [(.iload 4, 2), (.bipush 50, 2)] (pc' := 12) (L' := [(4, .inl (.int (nI i))), (0, .inr (10, some 0)), (1, .inl (.int fr)), (2, .inl (.int ti)), (3, .inl (.int n))]) (st' := [.inl (.int 50), .inl (.int (nI i))]) ⟨dX9_reaches_8, dX9_reaches_10, trivial⟩ rfl rfl ?_
    refine wx_icmp_ge (tgt := 39) dX9_reaches_12 (by decide) (fun h_13 => ?_) (fun h_13 => ?_)
    · rw [B_X9_reaches_8, if_pos h_13]
      refine wp_sub [1, 2, 3, 4] (L' := [(0, .inr (10, some 0)), (1, .inl (.int fr)), (2, .inl (.int ti)), (3, .inl (.int n))]) rfl ?_
      exact X8 _ _ Sr8 D8 hii
    · refine wp_run [(.aload_n 0, 1)] (pc' := 16) (L' := [(4, .inl (.int (nI i))), (0, .inr (10, some 0)), (1, .inl (.int fr)), (2, .inl (.int ti)), (3, .inl (.int n))]) (st' := [.inr (10, some 0)]) ⟨dX9_reaches_15, trivial⟩ rfl rfl ?_
      refine wx_getR cls_10 (k := 19) (f := 1019) (t := 57) (o := some 0) (by decide) rfl rfl fl_X9_61 ((W.sr Sr8).fr (f := 1019) (by decide)) dX9_reaches_16 ?_
      refine wp_run [(.iload 4, 2)] (pc' := 21) (L' := [(4, .inl (.int (nI i))), (0, .inr (10, some 0)), (1, .inl (.int fr)), (2, .inl (.int ti)), (3, .inl (.int n))]) (st' := [.inl (.int (nI i)), .inr (57, some 0)]) ⟨dX9_reaches_19, trivial⟩ rfl rfl ?_
      refine wx_ldc kc_X9_176 dX9_reaches_21 ?_
      refine wx_iast rfl (vin_mono (n := 50) (vin_lt hii h_13 (vin_lit (n := 50) (by decide))) (by decide)) dX9_reaches_23 ?_
      have D_14 : DM (sAI h8 57 0 ((nI i).toNatClampNeg) 100000000) := D8.put (by decide)
      refine wp_run [(.aload_n 0, 1)] (pc' := 25) (L' := [(4, .inl (.int (nI i))), (0, .inr (10, some 0)), (1, .inl (.int fr)), (2, .inl (.int ti)), (3, .inl (.int n))]) (st' := [.inr (10, some 0)]) ⟨dX9_reaches_24, trivial⟩ rfl rfl ?_
      refine wx_getR cls_10 (k := 20) (f := 1020) (t := 58) (o := some 0) (by decide) rfl rfl fl_X9_64 ((W.sr Sr8).fr (f := 1020) (by decide)) dX9_reaches_25 ?_
      refine wp_run [(.iload 4, 2)] (pc' := 30) (L' := [(4, .inl (.int (nI i))), (0, .inr (10, some 0)), (1, .inl (.int fr)), (2, .inl (.int ti)), (3, .inl (.int n))]) (st' := [.inl (.int (nI i)), .inr (58, some 0)]) ⟨dX9_reaches_28, trivial⟩ rfl rfl ?_
      refine wx_ldc kc_X9_176 dX9_reaches_30 ?_
      refine wx_iast rfl (vin_mono (n := 50) (vin_lt hii h_13 (vin_lit (n := 50) (by decide))) (by decide)) dX9_reaches_32 ?_
      have D_15 : DM (sAI (sAI h8 57 0 ((nI i).toNatClampNeg) 100000000) 58 0 ((nI i).toNatClampNeg) 100000000) := D_14.put (by decide)
      refine wp_run [(.iinc 4 1, 3)] (pc' := 36) (L' := [(4, .inl (.int ((nI i) + 1))), (0, .inr (10, some 0)), (1, .inl (.int fr)), (2, .inl (.int ti)), (3, .inl (.int n))]) (st' := []) ⟨dX9_reaches_33, trivial⟩ rfl rfl ?_
      refine wx_goto (tgt := 8) dX9_reaches_36 (by decide) ?_
      rw [B_X9_reaches_8, if_neg h_13]
      rw [nI_1 i]
      refine wp_sub [0, 1, 2, 3, 4] (L' := [(4, .inl (.int (nI (i + 1)))), (0, .inr (10, some 0)), (1, .inl (.int fr)), (2, .inl (.int ti)), (3, .inl (.int n))]) rfl ?_
      exact ih8 _ _ Sr8 D_15 (cy_nlt hii h_13).2 (by have := (cy_nlt hii h_13).2; omega)
