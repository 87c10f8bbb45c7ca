def F_X9_thrown (h : Hp) : Int32 := (xFI h 1043 0)
set_option maxRecDepth 20000 in
theorem c_X9_thrown {g : GT} {d : Nat} (hd : 1 ≤ d) {h : Hp} (W : MW h) (D : DM h)  : Ctr g M_X9_thrown d 0 0 [.inr (10, some 0)] h (cy_det (.inl (some (.inl (.int (F_X9_thrown h))))) h) := by
  refine cy_body rfl rfl (by decide) (Nat.le_of_ble_eq_true rfl) ?_
  refine wp_run [(.aload_n 0, 1)] (pc' := 1) (L' := [(0, .inr (10, some 0))]) (st' := [.inr (10, some 0)]) ⟨dX9_thrown_0, trivial⟩ rfl rfl ?_
  refine wx_getI cls_10 (k := 43) (f := 1043) (by decide) rfl rfl fl_X9_122 dX9_thrown_1 ?_
  exact wx_iret rfl rfl dX9_thrown_4 (by rw [F_X9_thrown]; exact ⟨rfl, rfl⟩)
def F_X9_in (v : Int32) (lo : Int32) (hi : Int32) : Int32 := (if v < lo then 0 else (if hi < v then 0 else 1))
set_option maxRecDepth 20000 in
theorem c_X9_in {g : GT} {d : Nat} (hd : 1 ≤ d) {h : Hp} (v : Int32) (lo : Int32) (hi : Int32)  : Ctr g M_X9_in d 0 0 [.inl (.int v), .inl (.int lo), .inl (.int hi)] h (cy_det (.inl (some (.inl (.int (F_X9_in v lo hi))))) h) := by
  refine cy_body rfl rfl (by decide) (Nat.le_of_ble_eq_true rfl) ?_
  refine wp_run [(.iload_n 0, 1), (.iload_n 1, 1)] (pc' := 2) (L' := [(0, .inl (.int v)), (1, .inl (.int lo)), (2, .inl (.int hi))]) (st' := [.inl (.int lo), .inl (.int v)]) ⟨dX9_in_0, dX9_in_1, trivial⟩ rfl rfl ?_
  refine wx_icmp_lt (tgt := 14) dX9_in_2 (by decide) (fun h_1 => ?_) (fun h_1 => ?_)
  · refine wp_run [(.iconst 0, 1)] (pc' := 15) (L' := [(0, .inl (.int v)), (1, .inl (.int lo)), (2, .inl (.int hi))]) (st' := [.inl (.int 0)]) ⟨dX9_in_14, trivial⟩ rfl rfl ?_
    exact wx_zret rfl rfl rfl dX9_in_15 (by rw [F_X9_in, if_pos h_1]; exact ⟨rfl, rfl⟩)
  · refine wp_run [(.iload_n 0, 1), (.iload_n 2, 1)] (pc' := 7) (L' := [(0, .inl (.int v)), (1, .inl (.int lo)), (2, .inl (.int hi))]) (st' := [.inl (.int hi), .inl (.int v)]) ⟨dX9_in_5, dX9_in_6, trivial⟩ rfl rfl ?_
    refine wx_icmp_gt (tgt := 14) dX9_in_7 (by decide) (fun h_2 => ?_) (fun h_2 => ?_)
    · refine wp_run [(.iconst 0, 1)] (pc' := 15) (L' := [(0, .inl (.int v)), (1, .inl (.int lo)), (2, .inl (.int hi))]) (st' := [.inl (.int 0)]) ⟨dX9_in_14, trivial⟩ rfl rfl ?_
      exact wx_zret rfl rfl rfl dX9_in_15 (by rw [F_X9_in, if_neg h_1, if_pos h_2]; exact ⟨rfl, rfl⟩)
    · refine wp_run [(.iconst 1, 1)] (pc' := 11) (L' := [(0, .inl (.int v)), (1, .inl (.int lo)), (2, .inl (.int hi))]) (st' := [.inl (.int 1)]) ⟨dX9_in_10, trivial⟩ rfl rfl ?_
      refine wx_goto (tgt := 15) dX9_in_11 (by decide) ?_
      exact wx_zret rfl rfl rfl dX9_in_15 (by rw [F_X9_in, if_neg h_1, if_neg h_2]; exact ⟨rfl, rfl⟩)
theorem in_ok {v lo hi : Int32} (p : okR v lo hi) : F_X9_in v lo hi = 1 := by unfold F_X9_in; rw [if_neg p.1, if_neg (Int32.not_lt.mpr p.2)]
theorem in_no {v lo hi : Int32} (p : ¬ okR v lo hi) : F_X9_in v lo hi = 0 := by
  unfold F_X9_in
  by_cases a : v < lo
  · rw [if_pos a]
  · rw [if_neg a, if_pos (Int32.not_le.mp fun b => p ⟨a, b⟩)]
theorem vin_ok1 {x : Int32} {a n : Nat} (hn : a < 2147483647 ∧ n < 2147483647) (p : okR x (nI a) (nI n)) : vp_in x (n + 1) := by
  obtain ⟨h1, h2⟩ := okR_n (n := n) (by omega) (nI_pos (by omega)) p
  rw [h1]
  exact vp_in_nI (by omega) (by omega)
theorem vin_ok {x : Int32} {n : Nat} (hn : n < 2147483647) (p : okR x 0 (nI n)) : vp_in x (n + 1) := vin_ok1 (a := 0) ⟨by decide, hn⟩ p
theorem vin_cnt {x y : Int32} {n : Nat} (hy : vp_in y (n + 1)) (hn : n < 1000) (p : okR x 0 (y - 1)) : vp_in x n := by
  obtain ⟨j, hj, rfl⟩ := vp_in_of hy (by omega)
  have h0 : ¬ x < 0 := p.1
  obtain ⟨i, hi, rfl⟩ := nI_of h0
  have h2 := p.2
  by_cases c : j = 0
  · subst c
    rw [Int32.le_iff_toInt_le, nI_toInt hi] at h2
    have : (nI 0 - 1 : Int32).toInt = -1 := by decide
    omega
  · obtain ⟨k, rfl⟩ : ∃ k, j = k + 1 := ⟨j - 1, by omega⟩
    rw [nI_pred] at h2
    have := (nI_leI hi (by omega)).mp h2
    exact vp_in_nI (by omega) (by omega)
def F_X9_isStop (h : Hp) (x : Int32) : Int32 := (if okR x 0 ((xFI h 1000 0) - 1) then 1 else 0)
set_option maxRecDepth 20000 in
theorem c_X9_isStop {g : GT} {d : Nat} (hd : 2 ≤ d) {h : Hp} (W : MW h) (x : Int32) (D : DM h)  : Ctr g M_X9_isStop d 0 0 [.inr (10, some 0), .inl (.int x)] h (cy_det (.inl (some (.inl (.int (F_X9_isStop h x))))) h) := by
  refine cy_body rfl rfl (by decide) (Nat.le_of_ble_eq_true rfl) ?_
  refine wp_run [(.iload_n 1, 1), (.iconst 0, 1), (.aload_n 0, 1)] (pc' := 3) (L' := [(0, .inr (10, some 0)), (1, .inl (.int x))]) (st' := [.inr (10, some 0), .inl (.int 0), .inl (.int x)]) ⟨dX9_isStop_0, dX9_isStop_1, dX9_isStop_2, trivial⟩ rfl rfl ?_
  refine wx_getI cls_10 (k := 0) (f := 1000) (by decide) rfl rfl fl_X9_125 dX9_isStop_3 ?_
  refine wp_run [(.iconst 1, 1), (.isub, 1)] (pc' := 8) (L' := [(0, .inr (10, some 0)), (1, .inl (.int x))]) (st' := [.inl (.int ((xFI h 1000 0) - 1)), .inl (.int 0), .inl (.int x)]) ⟨dX9_isStop_6, dX9_isStop_7, trivial⟩ rfl rfl ?_
  by_cases h_1 : okR x 0 ((xFI h 1000 0) - 1)
  · refine wx_staticD (M := M_X9_isStop) (uc := 0) (us := 0) (As := [.inl (.int x), .inl (.int 0), .inl (.int ((xFI h 1000 0) - 1))]) (rest := []) (ok_X9_in _ _) ml_X9_128 st_X9_in (by omega) (det_to (c_X9_in (d := d - 1) (h := h) (by omega) x 0 ((xFI h 1000 0) - 1)) (by rw [in_ok h_1]) rfl) rfl rfl (Nat.le_of_ble_eq_true rfl) dX9_isStop_8 ?_
    exact wx_zret rfl rfl rfl dX9_isStop_11 (by rw [F_X9_isStop, if_pos h_1]; exact ⟨rfl, rfl⟩)
  · refine wx_staticD (M := M_X9_isStop) (uc := 0) (us := 0) (As := [.inl (.int x), .inl (.int 0), .inl (.int ((xFI h 1000 0) - 1))]) (rest := []) (ok_X9_in _ _) ml_X9_128 st_X9_in (by omega) (det_to (c_X9_in (d := d - 1) (h := h) (by omega) x 0 ((xFI h 1000 0) - 1)) (by rw [in_no h_1]) rfl) rfl rfl (Nat.le_of_ble_eq_true rfl) dX9_isStop_8 ?_
    exact wx_zret rfl rfl rfl dX9_isStop_11 (by rw [F_X9_isStop, if_neg h_1]; exact ⟨rfl, rfl⟩)
theorem isStop_ok {h : Hp} {x : Int32} (p : okR x 0 (xFI h 1000 0 - 1)) : F_X9_isStop h x = 1 := if_pos p
theorem isStop_no {h : Hp} {x : Int32} (p : ¬ okR x 0 (xFI h 1000 0 - 1)) : F_X9_isStop h x = 0 := if_neg p
def F_X9_isTrip (h : Hp) (x : Int32) : Int32 := (if okR x 0 ((xFI h 1003 0) - 1) then 1 else 0)
set_option maxRecDepth 20000 in
theorem c_X9_isTrip {g : GT} {d : Nat} (hd : 2 ≤ d) {h : Hp} (W : MW h) (x : Int32) (D : DM h)  : Ctr g M_X9_isTrip d 0 0 [.inr (10, some 0), .inl (.int x)] h (cy_det (.inl (some (.inl (.int (F_X9_isTrip h x))))) h) := by
  refine cy_body rfl rfl (by decide) (Nat.le_of_ble_eq_true rfl) ?_
  refine wp_run [(.iload_n 1, 1), (.iconst 0, 1), (.aload_n 0, 1)] (pc' := 3) (L' := [(0, .inr (10, some 0)), (1, .inl (.int x))]) (st' := [.inr (10, some 0), .inl (.int 0), .inl (.int x)]) ⟨dX9_isTrip_0, dX9_isTrip_1, dX9_isTrip_2, trivial⟩ rfl rfl ?_
  refine wx_getI cls_10 (k := 3) (f := 1003) (by decide) rfl rfl fl_X9_132 dX9_isTrip_3 ?_
  refine wp_run [(.iconst 1, 1), (.isub, 1)] (pc' := 8) (L' := [(0, .inr (10, some 0)), (1, .inl (.int x))]) (st' := [.inl (.int ((xFI h 1003 0) - 1)), .inl (.int 0), .inl (.int x)]) ⟨dX9_isTrip_6, dX9_isTrip_7, trivial⟩ rfl rfl ?_
  by_cases h_1 : okR x 0 ((xFI h 1003 0) - 1)
  · refine wx_staticD (M := M_X9_isTrip) (uc := 0) (us := 0) (As := [.inl (.int x), .inl (.int 0), .inl (.int ((xFI h 1003 0) - 1))]) (rest := []) (ok_X9_in _ _) ml_X9_128 st_X9_in (by omega) (det_to (c_X9_in (d := d - 1) (h := h) (by omega) x 0 ((xFI h 1003 0) - 1)) (by rw [in_ok h_1]) rfl) rfl rfl (Nat.le_of_ble_eq_true rfl) dX9_isTrip_8 ?_
    exact wx_zret rfl rfl rfl dX9_isTrip_11 (by rw [F_X9_isTrip, if_pos h_1]; exact ⟨rfl, rfl⟩)
  · refine wx_staticD (M := M_X9_isTrip) (uc := 0) (us := 0) (As := [.inl (.int x), .inl (.int 0), .inl (.int ((xFI h 1003 0) - 1))]) (rest := []) (ok_X9_in _ _) ml_X9_128 st_X9_in (by omega) (det_to (c_X9_in (d := d - 1) (h := h) (by omega) x 0 ((xFI h 1003 0) - 1)) (by rw [in_no h_1]) rfl) rfl rfl (Nat.le_of_ble_eq_true rfl) dX9_isTrip_8 ?_
    exact wx_zret rfl rfl rfl dX9_isTrip_11 (by rw [F_X9_isTrip, if_neg h_1]; exact ⟨rfl, rfl⟩)
theorem isTrip_ok {h : Hp} {x : Int32} (p : okR x 0 (xFI h 1003 0 - 1)) : F_X9_isTrip h x = 1 := if_pos p
theorem isTrip_no {h : Hp} {x : Int32} (p : ¬ okR x 0 (xFI h 1003 0 - 1)) : F_X9_isTrip h x = 0 := if_neg p
def F_X9_isBooking (h : Hp) (x : Int32) : Int32 := (if okR x 0 ((xFI h 1031 0) - 1) then 1 else 0)
set_option maxRecDepth 20000 in
theorem c_X9_isBooking {g : GT} {d : Nat} (hd : 2 ≤ d) {h : Hp} (W : MW h) (x : Int32) (D : DM h)  : Ctr g M_X9_isBooking d 0 0 [.inr (10, some 0), .inl (.int x)] h (cy_det (.inl (some (.inl (.int (F_X9_isBooking h x))))) h) := by
  refine cy_body rfl rfl (by decide) (Nat.le_of_ble_eq_true rfl) ?_
  refine wp_run [(.iload_n 1, 1), (.iconst 0, 1), (.aload_n 0, 1)] (pc' := 3) (L' := [(0, .inr (10, some 0)), (1, .inl (.int x))]) (st' := [.inr (10, some 0), .inl (.int 0), .inl (.int x)]) ⟨dX9_isBooking_0, dX9_isBooking_1, dX9_isBooking_2, trivial⟩ rfl rfl ?_
  refine wx_getI cls_10 (k := 31) (f := 1031) (by decide) rfl rfl fl_X9_135 dX9_isBooking_3 ?_
  refine wp_run [(.iconst 1, 1), (.isub, 1)] (pc' := 8) (L' := [(0, .inr (10, some 0)), (1, .inl (.int x))]) (st' := [.inl (.int ((xFI h 1031 0) - 1)), .inl (.int 0), .inl (.int x)]) ⟨dX9_isBooking_6, dX9_isBooking_7, trivial⟩ rfl rfl ?_
  by_cases h_1 : okR x 0 ((xFI h 1031 0) - 1)
  · refine wx_staticD (M := M_X9_isBooking) (uc := 0) (us := 0) (As := [.inl (.int x), .inl (.int 0), .inl (.int ((xFI h 1031 0) - 1))]) (rest := []) (ok_X9_in _ _) ml_X9_128 st_X9_in (by omega) (det_to (c_X9_in (d := d - 1) (h := h) (by omega) x 0 ((xFI h 1031 0) - 1)) (by rw [in_ok h_1]) rfl) rfl rfl (Nat.le_of_ble_eq_true rfl) dX9_isBooking_8 ?_
    exact wx_zret rfl rfl rfl dX9_isBooking_11 (by rw [F_X9_isBooking, if_pos h_1]; exact ⟨rfl, rfl⟩)
  · refine wx_staticD (M := M_X9_isBooking) (uc := 0) (us := 0) (As := [.inl (.int x), .inl (.int 0), .inl (.int ((xFI h 1031 0) - 1))]) (rest := []) (ok_X9_in _ _) ml_X9_128 st_X9_in (by omega) (det_to (c_X9_in (d := d - 1) (h := h) (by omega) x 0 ((xFI h 1031 0) - 1)) (by rw [in_no h_1]) rfl) rfl rfl (Nat.le_of_ble_eq_true rfl) dX9_isBooking_8 ?_
    exact wx_zret rfl rfl rfl dX9_isBooking_11 (by rw [F_X9_isBooking, if_neg h_1]; exact ⟨rfl, rfl⟩)
theorem isBooking_ok {h : Hp} {x : Int32} (p : okR x 0 (xFI h 1031 0 - 1)) : F_X9_isBooking h x = 1 := if_pos p
theorem isBooking_no {h : Hp} {x : Int32} (p : ¬ okR x 0 (xFI h 1031 0 - 1)) : F_X9_isBooking h x = 0 := if_neg p
def F_X9_isFirm (x : Int32) : Int32 := (if okR x 0 2 then 1 else 0)
set_option maxRecDepth 20000 in
theorem c_X9_isFirm {g : GT} {d : Nat} (hd : 2 ≤ d) {h : Hp} (x : Int32)  : Ctr g M_X9_isFirm d 0 0 [.inl (.int x)] h (cy_det (.inl (some (.inl (.int (F_X9_isFirm x))))) h) := by
  refine cy_body rfl rfl (by decide) (Nat.le_of_ble_eq_true rfl) ?_
  refine wp_run [(.iload_n 0, 1), (.iconst 0, 1), (.iconst 2, 1)] (pc' := 3) (L' := [(0, .inl (.int x))]) (st' := [.inl (.int 2), .inl (.int 0), .inl (.int x)]) ⟨dX9_isFirm_0, dX9_isFirm_1, dX9_isFirm_2, trivial⟩ rfl rfl ?_
  by_cases h_1 : okR x 0 2
  · refine wx_staticD (M := M_X9_isFirm) (uc := 0) (us := 0) (As := [.inl (.int x), .inl (.int 0), .inl (.int 2)]) (rest := []) (ok_X9_in _ _) ml_X9_128 st_X9_in (by omega) (det_to (c_X9_in (d := d - 1) (h := h) (by omega) x 0 2) (by rw [in_ok h_1]) rfl) rfl rfl (Nat.le_of_ble_eq_true rfl) dX9_isFirm_3 ?_
    exact wx_zret rfl rfl rfl dX9_isFirm_6 (by rw [F_X9_isFirm, if_pos h_1]; exact ⟨rfl, rfl⟩)
  · refine wx_staticD (M := M_X9_isFirm) (uc := 0) (us := 0) (As := [.inl (.int x), .inl (.int 0), .inl (.int 2)]) (rest := []) (ok_X9_in _ _) ml_X9_128 st_X9_in (by omega) (det_to (c_X9_in (d := d - 1) (h := h) (by omega) x 0 2) (by rw [in_no h_1]) rfl) rfl rfl (Nat.le_of_ble_eq_true rfl) dX9_isFirm_3 ?_
    exact wx_zret rfl rfl rfl dX9_isFirm_6 (by rw [F_X9_isFirm, if_neg h_1]; exact ⟨rfl, rfl⟩)
theorem isFirm_ok {x : Int32} (p : okR x 0 2) : F_X9_isFirm x = 1 := if_pos p
theorem isFirm_no {x : Int32} (p : ¬ okR x 0 2) : F_X9_isFirm x = 0 := if_neg p
def F_X9_isDay (x : Int32) : Int32 := (if okR x 0 99 then 1 else 0)
set_option maxRecDepth 20000 in
theorem c_X9_isDay {g : GT} {d : Nat} (hd : 2 ≤ d) {h : Hp} (x : Int32)  : Ctr g M_X9_isDay d 0 0 [.inl (.int x)] h (cy_det (.inl (some (.inl (.int (F_X9_isDay x))))) h) := by
  refine cy_body rfl rfl (by decide) (Nat.le_of_ble_eq_true rfl) ?_
  refine wp_run [(.iload_n 0, 1), (.iconst 0, 1), (.bipush 99, 2)] (pc' := 4) (L' := [(0, .inl (.int x))]) (st' := [.inl (.int 99), .inl (.int 0), .inl (.int x)]) ⟨dX9_isDay_0, dX9_isDay_1, dX9_isDay_2, trivial⟩ rfl rfl ?_
  by_cases h_1 : okR x 0 99
  · refine wx_staticD (M := M_X9_isDay) (uc := 0) (us := 0) (As := [.inl (.int x), .inl (.int 0), .inl (.int 99)]) (rest := []) (ok_X9_in _ _) ml_X9_128 st_X9_in (by omega) (det_to (c_X9_in (d := d - 1) (h := h) (by omega) x 0 99) (by rw [in_ok h_1]) rfl) rfl rfl (Nat.le_of_ble_eq_true rfl) dX9_isDay_4 ?_
    exact wx_zret rfl rfl rfl dX9_isDay_7 (by rw [F_X9_isDay, if_pos h_1]; exact ⟨rfl, rfl⟩)
  · refine wx_staticD (M := M_X9_isDay) (uc := 0) (us := 0) (As := [.inl (.int x), .inl (.int 0), .inl (.int 99)]) (rest := []) (ok_X9_in _ _) ml_X9_128 st_X9_in (by omega) (det_to (c_X9_in (d := d - 1) (h := h) (by omega) x 0 99) (by rw [in_no h_1]) rfl) rfl rfl (Nat.le_of_ble_eq_true rfl) dX9_isDay_4 ?_
    exact wx_zret rfl rfl rfl dX9_isDay_7 (by rw [F_X9_isDay, if_neg h_1]; exact ⟨rfl, rfl⟩)
theorem isDay_ok {x : Int32} (p : okR x 0 99) : F_X9_isDay x = 1 := if_pos p
theorem isDay_no {x : Int32} (p : ¬ okR x 0 99) : F_X9_isDay x = 0 := if_neg p
def F_X9_asks0 (h : Hp) : Int32 × Hp := (0, sFI h 1043 0 1)
set_option maxRecDepth 20000 in
theorem c_X9_asks0 {g : GT} {d : Nat} (hd : 1 ≤ d) {h : Hp} (W : MW h) (D : DM h)  : Ctr g M_X9_asks d 0 0 [.inr (10, some 0), .inl (.int 0)] h (cy_detP (.inl (some (.inl (.int (F_X9_asks0 h).1)))) (F_X9_asks0 h).2 (MP h (F_X9_asks0 h).2)) := by
  refine cy_body rfl rfl (by decide) (Nat.le_of_ble_eq_true rfl) ?_
  refine wp_run [(.aload_n 0, 1), (.iload_n 1, 1)] (pc' := 2) (L' := [(0, .inr (10, some 0)), (1, .inl (.int 0))]) (st' := [.inl (.int 0), .inr (10, some 0)]) ⟨dX9_asks_0, dX9_asks_1, trivial⟩ rfl rfl ?_
  refine wx_if_eq (tgt := 9) dX9_asks_2 (by decide) (fun _ => ?_) (fun h => absurd h (by decide))
  refine wp_run [(.iconst 1, 1)] (pc' := 10) (L' := [(0, .inr (10, some 0)), (1, .inl (.int 0))]) (st' := [.inl (.int 1), .inr (10, some 0)]) ⟨dX9_asks_9, trivial⟩ rfl rfl ?_
  refine wx_putI cls_10 (k := 43) (f := 1043) (by decide) rfl rfl rfl fl_X9_122 (Or.inl rfl) dX9_asks_10 ?_
  have D_1 : DM (sFI h 1043 0 1) := D.fput (by decide)
  refine wp_run [(.iload_n 1, 1)] (pc' := 14) (L' := [(0, .inr (10, some 0)), (1, .inl (.int 0))]) (st' := [.inl (.int 0)]) ⟨dX9_asks_13, trivial⟩ rfl rfl ?_
  exact wx_zret rfl rfl rfl dX9_asks_14 (by rw [F_X9_asks0]; dsimp only; exact ⟨⟨SR.rf, D_1⟩, rfl, rfl⟩)
def F_X9_asks1 (h : Hp) : Int32 × Hp := (1, sFI h 1043 0 0)
set_option maxRecDepth 20000 in
theorem c_X9_asks1 {g : GT} {d : Nat} (hd : 1 ≤ d) {h : Hp} (W : MW h) (D : DM h)  : Ctr g M_X9_asks d 0 0 [.inr (10, some 0), .inl (.int 1)] h (cy_detP (.inl (some (.inl (.int (F_X9_asks1 h).1)))) (F_X9_asks1 h).2 (MP h (F_X9_asks1 h).2)) := by
  refine cy_body rfl rfl (by decide) (Nat.le_of_ble_eq_true rfl) ?_
  refine wp_run [(.aload_n 0, 1), (.iload_n 1, 1)] (pc' := 2) (L' := [(0, .inr (10, some 0)), (1, .inl (.int 1))]) (st' := [.inl (.int 1), .inr (10, some 0)]) ⟨dX9_asks_0, dX9_asks_1, trivial⟩ rfl rfl ?_
  refine wx_if_eq (tgt := 9) dX9_asks_2 (by decide) (fun h => absurd h (by decide)) (fun _ => ?_)
  refine wp_run [(.iconst 0, 1)] (pc' := 6) (L' := [(0, .inr (10, some 0)), (1, .inl (.int 1))]) (st' := [.inl (.int 0), .inr (10, some 0)]) ⟨dX9_asks_5, trivial⟩ rfl rfl ?_
  refine wx_goto (tgt := 10) dX9_asks_6 (by decide) ?_
  refine wx_putI cls_10 (k := 43) (f := 1043) (by decide) rfl rfl rfl fl_X9_122 (Or.inl rfl) dX9_asks_10 ?_
  have D_1 : DM (sFI h 1043 0 0) := D.fput (by decide)
  refine wp_run [(.iload_n 1, 1)] (pc' := 14) (L' := [(0, .inr (10, some 0)), (1, .inl (.int 1))]) (st' := [.inl (.int 1)]) ⟨dX9_asks_13, trivial⟩ rfl rfl ?_
  exact wx_zret rfl rfl rfl dX9_asks_14 (by rw [F_X9_asks1]; dsimp only; exact ⟨⟨SR.rf, D_1⟩, rfl, rfl⟩)
def F_X9_fails (h : Hp) (w : Int32) : Int32 × Hp := (0, sFI h 1043 0 w)
set_option maxRecDepth 20000 in
theorem c_X9_fails {g : GT} {d : Nat} (hd : 1 ≤ d) {h : Hp} (W : MW h) (w : Int32) (D : DM h)  : Ctr g M_X9_fails d 0 0 [.inr (10, some 0), .inl (.int w)] h (cy_detP (.inl (some (.inl (.int (F_X9_fails h w).1)))) (F_X9_fails h w).2 (MP h (F_X9_fails h w).2)) := by
  refine cy_body rfl rfl (by decide) (Nat.le_of_ble_eq_true rfl) ?_
  refine wp_run [(.aload_n 0, 1), (.iload_n 1, 1)] (pc' := 2) (L' := [(0, .inr (10, some 0)), (1, .inl (.int w))]) (st' := [.inl (.int w), .inr (10, some 0)]) ⟨dX9_fails_0, dX9_fails_1, trivial⟩ rfl rfl ?_
  refine wx_putI cls_10 (k := 43) (f := 1043) (by decide) rfl rfl rfl fl_X9_122 (Or.inl rfl) dX9_fails_2 ?_
  have D_1 : DM (sFI h 1043 0 w) := D.fput (by decide)
  refine wp_run [(.iconst 0, 1)] (pc' := 6) (L' := [(0, .inr (10, some 0)), (1, .inl (.int w))]) (st' := [.inl (.int 0)]) ⟨dX9_fails_5, trivial⟩ rfl rfl ?_
  exact wx_iret rfl rfl dX9_fails_6 (by rw [F_X9_fails]; dsimp only; exact ⟨⟨SR.rf, D_1⟩, rfl, rfl⟩)
theorem c_asks0 {g : GT} {d : Nat} (hd : 1 ≤ d) {h : Hp} (W : MW h) (D : DM h) : Ctr g M_X9_asks d 0 0 [.inr (10, some 0), .inl (.int 0)] h (cy_detP (.inl (some (.inl (.int 0)))) (sFI h 1043 0 1) (MP h (sFI h 1043 0 1))) := c_X9_asks0 hd W D
theorem c_asks1 {g : GT} {d : Nat} (hd : 1 ≤ d) {h : Hp} (W : MW h) (D : DM h) : Ctr g M_X9_asks d 0 0 [.inr (10, some 0), .inl (.int 1)] h (cy_detP (.inl (some (.inl (.int 1)))) (sFI h 1043 0 0) (MP h (sFI h 1043 0 0))) := c_X9_asks1 hd W D
theorem c_fails {g : GT} {d : Nat} (hd : 1 ≤ d) {h : Hp} (W : MW h) (w : Int32) (D : DM h) : Ctr g M_X9_fails d 0 0 [.inr (10, some 0), .inl (.int w)] h (cy_detP (.inl (some (.inl (.int 0)))) (sFI h 1043 0 w) (MP h (sFI h 1043 0 w))) := c_X9_fails hd W w D
def F_X9_stop (h : Hp) (x : Int32) : Int32 × Hp := (if okR x 0 60 then (if (xFI (sFI h 1043 0 0) 1000 0) = 10 then (0, sFI (sFI h 1043 0 0) 1043 0 2) else (((xFI (sFI (sAI (sFI h 1043 0 0) 40 0 ((xFI (sFI h 1043 0 0) 1000 0).toNatClampNeg) x) 1000 0 ((xFI (sAI (sFI h 1043 0 0) 40 0 ((xFI (sFI h 1043 0 0) 1000 0).toNatClampNeg) x) 1000 0) + 1)) 1000 0) - 1), sFI (sAI (sFI h 1043 0 0) 40 0 ((xFI (sFI h 1043 0 0) 1000 0).toNatClampNeg) x) 1000 0 ((xFI (sAI (sFI h 1043 0 0) 40 0 ((xFI (sFI h 1043 0 0) 1000 0).toNatClampNeg) x) 1000 0) + 1))) else (0, sFI h 1043 0 1))
set_option maxRecDepth 20000 in
theorem c_X9_stop {g : GT} {d : Nat} (hd : 2 ≤ d) {h : Hp} (W : MW h) (x : Int32) (D : DM h)  : Ctr g M_X9_stop d 0 0 [.inr (10, some 0), .inl (.int x)] h (cy_detP (.inl (some (.inl (.int (F_X9_stop h x).1)))) (F_X9_stop h x).2 (MP h (F_X9_stop h x).2)) := by
  refine cy_body rfl rfl (by decide) (Nat.le_of_ble_eq_true rfl) ?_
  refine wp_run [(.aload_n 0, 1), (.iload_n 1, 1), (.iconst 0, 1), (.bipush 60, 2)] (pc' := 5) (L' := [(0, .inr (10, some 0)), (1, .inl (.int x))]) (st' := [.inl (.int 60), .inl (.int 0), .inl (.int x), .inr (10, some 0)]) ⟨dX9_stop_0, dX9_stop_1, dX9_stop_2, dX9_stop_3, trivial⟩ rfl rfl ?_
  by_cases h_1 : okR x 0 60
  · refine wx_staticD (M := M_X9_stop) (uc := 0) (us := 0) (As := [.inl (.int x), .inl (.int 0), .inl (.int 60)]) (rest := [.inr (10, some 0)]) (ok_X9_in _ _) ml_X9_128 st_X9_in (by omega) (det_to (c_X9_in (d := d - 1) (h := h) (by omega) x 0 60) (by rw [in_ok h_1]) rfl) rfl rfl (Nat.le_of_ble_eq_true rfl) dX9_stop_5 ?_
    refine wx_virtualDP (M := M_X9_stop) (uc := 0) (us := 0) (s := 10) (i := 0) (As := [.inl (.int 1)]) (rest := []) cls_10 rfl (ok_X9_asks _ _) ml_X9_138 im_X9_asks se_X9_asks (by omega) (c_asks1 (d := d - 1) (h := h) (by omega) W D) rfl rfl (Nat.le_of_ble_eq_true rfl) dX9_stop_8 (fun hS_2 => ?_)
    refine wx_if_ne (tgt := 16) dX9_stop_11 (by decide) (fun _ => ?_) (fun h => absurd h (by decide))
    refine wp_run [(.aload_n 0, 1)] (pc' := 17) (L' := [(0, .inr (10, some 0)), (1, .inl (.int x))]) (st' := [.inr (10, some 0)]) ⟨dX9_stop_16, trivial⟩ rfl rfl ?_
    refine wx_getI cls_10 (k := 0) (f := 1000) (by decide) rfl rfl fl_X9_125 dX9_stop_17 ?_
    refine wp_run [(.bipush 10, 2)] (pc' := 22) (L' := [(0, .inr (10, some 0)), (1, .inl (.int x))]) (st' := [.inl (.int 10), .inl (.int (xFI (sFI h 1043 0 0) 1000 0))]) ⟨dX9_stop_20, trivial⟩ rfl rfl ?_
    refine wx_icmp_ne (tgt := 31) dX9_stop_22 (by decide) (fun h_3 => ?_) (fun h_3 => ?_)
    · refine wp_run [(.aload_n 0, 1)] (pc' := 32) (L' := [(0, .inr (10, some 0)), (1, .inl (.int x))]) (st' := [.inr (10, some 0)]) ⟨dX9_stop_31, trivial⟩ rfl rfl ?_
      refine wx_getR cls_10 (k := 1) (f := 1001) (t := 40) (o := some 0) (by decide) rfl rfl fl_X9_7 ((W.sr hS_2.1).fr (f := 1001) (by decide)) dX9_stop_32 ?_
      refine wp_run [(.aload_n 0, 1)] (pc' := 36) (L' := [(0, .inr (10, some 0)), (1, .inl (.int x))]) (st' := [.inr (10, some 0), .inr (40, some 0)]) ⟨dX9_stop_35, trivial⟩ rfl rfl ?_
      refine wx_getI cls_10 (k := 0) (f := 1000) (by decide) rfl rfl fl_X9_125 dX9_stop_36 ?_
      refine wp_run [(.iload_n 1, 1)] (pc' := 40) (L' := [(0, .inr (10, some 0)), (1, .inl (.int x))]) (st' := [.inl (.int x), .inl (.int (xFI (sFI h 1043 0 0) 1000 0)), .inr (40, some 0)]) ⟨dX9_stop_39, trivial⟩ rfl rfl ?_
      refine wx_iast rfl (vin_ne (n := 10) (hS_2.2.fi (f := 1000) (b := 11) (by decide)) h_3 (by decide)) dX9_stop_40 ?_
      have D_4 : DM (sAI (sFI h 1043 0 0) 40 0 ((xFI (sFI h 1043 0 0) 1000 0).toNatClampNeg) x) := hS_2.2.put (by decide)
      refine wp_run [(.aload_n 0, 1), (.dup, 1)] (pc' := 43) (L' := [(0, .inr (10, some 0)), (1, .inl (.int x))]) (st' := [.inr (10, some 0), .inr (10, some 0)]) ⟨dX9_stop_41, dX9_stop_42, trivial⟩ rfl rfl ?_
      refine wx_getI cls_10 (k := 0) (f := 1000) (by decide) rfl rfl fl_X9_125 dX9_stop_43 ?_
      refine wp_run [(.iconst 1, 1), (.iadd, 1)] (pc' := 48) (L' := [(0, .inr (10, some 0)), (1, .inl (.int x))]) (st' := [.inl (.int ((xFI (sAI (sFI h 1043 0 0) 40 0 ((xFI (sFI h 1043 0 0) 1000 0).toNatClampNeg) x) 1000 0) + 1)), .inr (10, some 0)]) ⟨dX9_stop_46, dX9_stop_47, trivial⟩ rfl rfl ?_
      refine wx_putI cls_10 (k := 0) (f := 1000) (by decide) rfl rfl rfl fl_X9_125 (Or.inl rfl) dX9_stop_48 ?_
      have D_5 : DM (sFI (sAI (sFI h 1043 0 0) 40 0 ((xFI (sFI h 1043 0 0) 1000 0).toNatClampNeg) x) 1000 0 ((xFI (sAI (sFI h 1043 0 0) 40 0 ((xFI (sFI h 1043 0 0) 1000 0).toNatClampNeg) x) 1000 0) + 1)) := D_4.fputV (b := 11) (by decide) (vin_add (vin_ne (n := 10) (D_4.fi (f := 1000) (b := 11) (by decide)) h_3 (by decide)) (vin_lit (n := 1) (by decide)) (by decide))
      refine wp_run [(.aload_n 0, 1)] (pc' := 52) (L' := [(0, .inr (10, some 0)), (1, .inl (.int x))]) (st' := [.inr (10, some 0)]) ⟨dX9_stop_51, trivial⟩ rfl rfl ?_
      refine wx_getI cls_10 (k := 0) (f := 1000) (by decide) rfl rfl fl_X9_125 dX9_stop_52 ?_
      refine wp_run [(.iconst 1, 1), (.isub, 1)] (pc' := 57) (L' := [(0, .inr (10, some 0)), (1, .inl (.int x))]) (st' := [.inl (.int ((xFI (sFI (sAI (sFI h 1043 0 0) 40 0 ((xFI (sFI h 1043 0 0) 1000 0).toNatClampNeg) x) 1000 0 ((xFI (sAI (sFI h 1043 0 0) 40 0 ((xFI (sFI h 1043 0 0) 1000 0).toNatClampNeg) x) 1000 0) + 1)) 1000 0) - 1))]) ⟨dX9_stop_55, dX9_stop_56, trivial⟩ rfl rfl ?_
      exact wx_iret rfl rfl dX9_stop_57 (by rw [F_X9_stop, if_pos h_1, if_neg h_3]; dsimp only; exact ⟨⟨hS_2.1, D_5⟩, rfl, rfl⟩)
    · refine wp_run [(.aload_n 0, 1), (.iconst 2, 1)] (pc' := 27) (L' := [(0, .inr (10, some 0)), (1, .inl (.int x))]) (st' := [.inl (.int 2), .inr (10, some 0)]) ⟨dX9_stop_25, dX9_stop_26, trivial⟩ rfl rfl ?_
      refine wx_virtualDP (M := M_X9_stop) (uc := 0) (us := 0) (s := 10) (i := 0) (As := [.inl (.int 2)]) (rest := []) cls_10 rfl (ok_X9_fails _ _) ml_X9_142 im_X9_fails se_X9_fails (by omega) (c_fails (d := d - 1) (h := (sFI h 1043 0 0)) (by omega) (W.sr hS_2.1) 2 hS_2.2) rfl rfl (Nat.le_of_ble_eq_true rfl) dX9_stop_27 (fun hS_6 => ?_)
      exact wx_iret rfl rfl dX9_stop_30 (by rw [F_X9_stop, if_pos h_1, if_pos h_3]; dsimp only; exact ⟨⟨(hS_2.1.trans hS_6.1), hS_6.2⟩, rfl, rfl⟩)
  · refine wx_staticD (M := M_X9_stop) (uc := 0) (us := 0) (As := [.inl (.int x), .inl (.int 0), .inl (.int 60)]) (rest := [.inr (10, some 0)]) (ok_X9_in _ _) ml_X9_128 st_X9_in (by omega) (det_to (c_X9_in (d := d - 1) (h := h) (by omega) x 0 60) (by rw [in_no h_1]) rfl) rfl rfl (Nat.le_of_ble_eq_true rfl) dX9_stop_5 ?_
    refine wx_virtualDP (M := M_X9_stop) (uc := 0) (us := 0) (s := 10) (i := 0) (As := [.inl (.int 0)]) (rest := []) cls_10 rfl (ok_X9_asks _ _) ml_X9_138 im_X9_asks se_X9_asks (by omega) (c_asks0 (d := d - 1) (h := h) (by omega) W D) rfl rfl (Nat.le_of_ble_eq_true rfl) dX9_stop_8 (fun hS_7 => ?_)
    refine wx_if_ne (tgt := 16) dX9_stop_11 (by decide) (fun h => absurd h (by decide)) (fun _ => ?_)
    refine wp_run [(.iconst 0, 1)] (pc' := 15) (L' := [(0, .inr (10, some 0)), (1, .inl (.int x))]) (st' := [.inl (.int 0)]) ⟨dX9_stop_14, trivial⟩ rfl rfl ?_
    exact wx_iret rfl rfl dX9_stop_15 (by rw [F_X9_stop, if_neg h_1]; dsimp only; exact ⟨⟨hS_7.1, hS_7.2⟩, rfl, rfl⟩)
def F_X9_footway (h : Hp) (a : Int32) (b : Int32) (mi : Int32) : Int32 × Hp := (if okR a 0 (xFI h 1000 0 - 1) then (if okR b 0 (xFI h 1000 0 - 1) then (if a = b then (0, sFI (sFI h 1043 0 0) 1043 0 2) else (if mi = (-1) then (if mi = (-1) then (if mi = (-1) then (if (xAI (sFI h 1043 0 0) 41 0 ((10 * a) + b).toNatClampNeg) = 0 then ((-1), sAI (sAI (sFI h 1043 0 0) 41 0 (((10 * a) + b).toNatClampNeg) 0) 41 0 (((10 * b) + a).toNatClampNeg) 0) else ((xAI (sFI h 1043 0 0) 41 0 ((10 * a) + b).toNatClampNeg), sAI (sAI (sFI h 1043 0 0) 41 0 (((10 * a) + b).toNatClampNeg) 0) 41 0 (((10 * b) + a).toNatClampNeg) 0)) else (if (xAI (sFI h 1043 0 0) 41 0 ((10 * a) + b).toNatClampNeg) = 0 then ((-1), sAI (sAI (sFI h 1043 0 0) 41 0 (((10 * a) + b).toNatClampNeg) 0) 41 0 (((10 * b) + a).toNatClampNeg) mi) else ((xAI (sFI h 1043 0 0) 41 0 ((10 * a) + b).toNatClampNeg), sAI (sAI (sFI h 1043 0 0) 41 0 (((10 * a) + b).toNatClampNeg) 0) 41 0 (((10 * b) + a).toNatClampNeg) mi))) else (if mi = (-1) then (if (xAI (sFI h 1043 0 0) 41 0 ((10 * a) + b).toNatClampNeg) = 0 then ((-1), sAI (sAI (sFI h 1043 0 0) 41 0 (((10 * a) + b).toNatClampNeg) mi) 41 0 (((10 * b) + a).toNatClampNeg) 0) else ((xAI (sFI h 1043 0 0) 41 0 ((10 * a) + b).toNatClampNeg), sAI (sAI (sFI h 1043 0 0) 41 0 (((10 * a) + b).toNatClampNeg) mi) 41 0 (((10 * b) + a).toNatClampNeg) 0)) else (if (xAI (sFI h 1043 0 0) 41 0 ((10 * a) + b).toNatClampNeg) = 0 then ((-1), sAI (sAI (sFI h 1043 0 0) 41 0 (((10 * a) + b).toNatClampNeg) mi) 41 0 (((10 * b) + a).toNatClampNeg) mi) else ((xAI (sFI h 1043 0 0) 41 0 ((10 * a) + b).toNatClampNeg), sAI (sAI (sFI h 1043 0 0) 41 0 (((10 * a) + b).toNatClampNeg) mi) 41 0 (((10 * b) + a).toNatClampNeg) mi)))) else (if okR mi 1 120 then (if mi = (-1) then (if mi = (-1) then (if (xAI (sFI h 1043 0 0) 41 0 ((10 * a) + b).toNatClampNeg) = 0 then ((-1), sAI (sAI (sFI h 1043 0 0) 41 0 (((10 * a) + b).toNatClampNeg) 0) 41 0 (((10 * b) + a).toNatClampNeg) 0) else ((xAI (sFI h 1043 0 0) 41 0 ((10 * a) + b).toNatClampNeg), sAI (sAI (sFI h 1043 0 0) 41 0 (((10 * a) + b).toNatClampNeg) 0) 41 0 (((10 * b) + a).toNatClampNeg) 0)) else (if (xAI (sFI h 1043 0 0) 41 0 ((10 * a) + b).toNatClampNeg) = 0 then ((-1), sAI (sAI (sFI h 1043 0 0) 41 0 (((10 * a) + b).toNatClampNeg) 0) 41 0 (((10 * b) + a).toNatClampNeg) mi) else ((xAI (sFI h 1043 0 0) 41 0 ((10 * a) + b).toNatClampNeg), sAI (sAI (sFI h 1043 0 0) 41 0 (((10 * a) + b).toNatClampNeg) 0) 41 0 (((10 * b) + a).toNatClampNeg) mi))) else (if mi = (-1) then (if (xAI (sFI h 1043 0 0) 41 0 ((10 * a) + b).toNatClampNeg) = 0 then ((-1), sAI (sAI (sFI h 1043 0 0) 41 0 (((10 * a) + b).toNatClampNeg) mi) 41 0 (((10 * b) + a).toNatClampNeg) 0) else ((xAI (sFI h 1043 0 0) 41 0 ((10 * a) + b).toNatClampNeg), sAI (sAI (sFI h 1043 0 0) 41 0 (((10 * a) + b).toNatClampNeg) mi) 41 0 (((10 * b) + a).toNatClampNeg) 0)) else (if (xAI (sFI h 1043 0 0) 41 0 ((10 * a) + b).toNatClampNeg) = 0 then ((-1), sAI (sAI (sFI h 1043 0 0) 41 0 (((10 * a) + b).toNatClampNeg) mi) 41 0 (((10 * b) + a).toNatClampNeg) mi) else ((xAI (sFI h 1043 0 0) 41 0 ((10 * a) + b).toNatClampNeg), sAI (sAI (sFI h 1043 0 0) 41 0 (((10 * a) + b).toNatClampNeg) mi) 41 0 (((10 * b) + a).toNatClampNeg) mi)))) else (0, sFI (sFI h 1043 0 0) 1043 0 2)))) else (0, sFI h 1043 0 1)) else (0, sFI h 1043 0 1))
set_option maxRecDepth 20000 in
theorem c_X9_footway {g : GT} {d : Nat} (hd : 3 ≤ d) {h : Hp} (W : MW h) (a : Int32) (b : Int32) (mi : Int32) (D : DM h)  : Ctr g M_X9_footway d 0 0 [.inr (10, some 0), .inl (.int a), .inl (.int b), .inl (.int mi)] h (cy_detP (.inl (some (.inl (.int (F_X9_footway h a b mi).1)))) (F_X9_footway h a b mi).2 (MP h (F_X9_footway h a b mi).2)) := by
  refine cy_body rfl rfl (by decide) (Nat.le_of_ble_eq_true rfl) ?_
  refine wp_run [(.aload_n 0, 1), (.aload_n 0, 1), (.iload_n 1, 1)] (pc' := 3) (L' := [(0, .inr (10, some 0)), (1, .inl (.int a)), (2, .inl (.int b)), (3, .inl (.int mi))]) (st' := [.inl (.int a), .inr (10, some 0), .inr (10, some 0)]) ⟨dX9_footway_0, dX9_footway_1, dX9_footway_2, trivial⟩ rfl rfl ?_
  by_cases h_1 : okR a 0 (xFI h 1000 0 - 1)
  · refine wx_virtualD (M := M_X9_footway) (uc := 0) (us := 0) (s := 10) (i := 0) (As := [.inl (.int a)]) (rest := [.inr (10, some 0)]) cls_10 rfl (ok_X9_isStop _ _) ml_X9_146 im_X9_isStop se_X9_isStop (by omega) (det_to (c_X9_isStop (d := d - 1) (h := h) (by omega) W a D) (by rw [isStop_ok h_1]) rfl) rfl rfl (Nat.le_of_ble_eq_true rfl) dX9_footway_3 ?_
    refine wx_if_eq (tgt := 21) dX9_footway_6 (by decide) (fun h => absurd h (by decide)) (fun _ => ?_)
    refine wp_run [(.aload_n 0, 1), (.iload_n 2, 1)] (pc' := 11) (L' := [(0, .inr (10, some 0)), (1, .inl (.int a)), (2, .inl (.int b)), (3, .inl (.int mi))]) (st' := [.inl (.int b), .inr (10, some 0), .inr (10, some 0)]) ⟨dX9_footway_9, dX9_footway_10, trivial⟩ rfl rfl ?_
    by_cases h_2 : okR b 0 (xFI h 1000 0 - 1)
    · refine wx_virtualD (M := M_X9_footway) (uc := 0) (us := 0) (s := 10) (i := 0) (As := [.inl (.int b)]) (rest := [.inr (10, some 0)]) cls_10 rfl (ok_X9_isStop _ _) ml_X9_146 im_X9_isStop se_X9_isStop (by omega) (det_to (c_X9_isStop (d := d - 1) (h := h) (by omega) W b D) (by rw [isStop_ok h_2]) rfl) rfl rfl (Nat.le_of_ble_eq_true rfl) dX9_footway_11 ?_
      refine wx_if_eq (tgt := 21) dX9_footway_14 (by decide) (fun h => absurd h (by decide)) (fun _ => ?_)
      refine wp_run [(.iconst 1, 1)] (pc' := 18) (L' := [(0, .inr (10, some 0)), (1, .inl (.int a)), (2, .inl (.int b)), (3, .inl (.int mi))]) (st' := [.inl (.int 1), .inr (10, some 0)]) ⟨dX9_footway_17, trivial⟩ rfl rfl ?_
      refine wx_goto (tgt := 22) dX9_footway_18 (by decide) ?_
      refine wx_virtualDP (M := M_X9_footway) (uc := 0) (us := 0) (s := 10) (i := 0) (As := [.inl (.int 1)]) (rest := []) cls_10 rfl (ok_X9_asks _ _) ml_X9_138 im_X9_asks se_X9_asks (by omega) (c_asks1 (d := d - 1) (h := h) (by omega) W D) rfl rfl (Nat.le_of_ble_eq_true rfl) dX9_footway_22 (fun hS_3 => ?_)
      refine wx_if_ne (tgt := 30) dX9_footway_25 (by decide) (fun _ => ?_) (fun h => absurd h (by decide))
      refine wp_run [(.iload_n 1, 1), (.iload_n 2, 1)] (pc' := 32) (L' := [(0, .inr (10, some 0)), (1, .inl (.int a)), (2, .inl (.int b)), (3, .inl (.int mi))]) (st' := [.inl (.int b), .inl (.int a)]) ⟨dX9_footway_30, dX9_footway_31, trivial⟩ rfl rfl ?_
      refine wx_icmp_eq (tgt := 50) dX9_footway_32 (by decide) (fun h_4 => ?_) (fun h_4 => ?_)
      · refine wp_run [(.aload_n 0, 1), (.iconst 2, 1)] (pc' := 52) (L' := [(0, .inr (10, some 0)), (1, .inl (.int a)), (2, .inl (.int b)), (3, .inl (.int mi))]) (st' := [.inl (.int 2), .inr (10, some 0)]) ⟨dX9_footway_50, dX9_footway_51, trivial⟩ rfl rfl ?_
        refine wx_virtualDP (M := M_X9_footway) (uc := 0) (us := 0) (s := 10) (i := 0) (As := [.inl (.int 2)]) (rest := []) cls_10 rfl (ok_X9_fails _ _) ml_X9_142 im_X9_fails se_X9_fails (by omega) (c_fails (d := d - 1) (h := (sFI h 1043 0 0)) (by omega) (W.sr hS_3.1) 2 hS_3.2) rfl rfl (Nat.le_of_ble_eq_true rfl) dX9_footway_52 (fun hS_5 => ?_)
        exact wx_iret rfl rfl dX9_footway_55 (by rw [F_X9_footway, if_pos h_1, if_pos h_2, if_pos h_4]; dsimp only; exact ⟨⟨(hS_3.1.trans hS_5.1), hS_5.2⟩, rfl, rfl⟩)
      · refine wp_run [(.iload_n 3, 1), (.iconst (-1), 1)] (pc' := 37) (L' := [(0, .inr (10, some 0)), (1, .inl (.int a)), (2, .inl (.int b)), (3, .inl (.int mi))]) (st' := [.inl (.int (-1)), .inl (.int mi)]) ⟨dX9_footway_35, dX9_footway_36, trivial⟩ rfl rfl ?_
        refine wx_icmp_eq (tgt := 56) dX9_footway_37 (by decide) (fun h_6 => ?_) (fun h_6 => ?_)
        · refine wp_run [(.aload_n 0, 1)] (pc' := 57) (L' := [(0, .inr (10, some 0)), (1, .inl (.int a)), (2, .inl (.int b)), (3, .inl (.int mi))]) (st' := [.inr (10, some 0)]) ⟨dX9_footway_56, trivial⟩ rfl rfl ?_
          refine wx_getR cls_10 (k := 2) (f := 1002) (t := 41) (o := some 0) (by decide) rfl rfl fl_X9_13 ((W.sr hS_3.1).fr (f := 1002) (by decide)) dX9_footway_57 ?_
          refine wp_run [(.bipush 10, 2), (.iload_n 1, 1), (.imul, 1), (.iload_n 2, 1), (.iadd, 1)] (pc' := 66) (L' := [(0, .inr (10, some 0)), (1, .inl (.int a)), (2, .inl (.int b)), (3, .inl (.int mi))]) (st' := [.inl (.int ((10 * a) + b)), .inr (41, some 0)]) ⟨dX9_footway_60, dX9_footway_62, dX9_footway_63, dX9_footway_64, dX9_footway_65, trivial⟩ rfl rfl ?_
          refine wx_iald (Or.inl rfl) (vin_mono (n := 100) (vin_lin (c := 10) (vin_cnt (n := 10) (D.fi (f := 1000) (by decide)) (by decide) h_1) (vin_mono (vin_cnt (n := 10) (D.fi (f := 1000) (by decide)) (by decide) h_2) (by decide)) (by decide)) (by decide)) dX9_footway_66 ?_
          refine wp_run [(.istore 4, 2), (.aload_n 0, 1)] (pc' := 70) (L' := [(4, .inl (.int (xAI (sFI h 1043 0 0) 41 0 ((10 * a) + b).toNatClampNeg))), (0, .inr (10, some 0)), (1, .inl (.int a)), (2, .inl (.int b)), (3, .inl (.int mi))]) (st' := [.inr (10, some 0)]) ⟨dX9_footway_67, dX9_footway_69, trivial⟩ rfl rfl ?_
          refine wx_getR cls_10 (k := 2) (f := 1002) (t := 41) (o := some 0) (by decide) rfl rfl fl_X9_13 ((W.sr hS_3.1).fr (f := 1002) (by decide)) dX9_footway_70 ?_
          refine wp_run [(.bipush 10, 2), (.iload_n 1, 1), (.imul, 1), (.iload_n 2, 1), (.iadd, 1), (.iload_n 3, 1), (.iconst (-1), 1)] (pc' := 81) (L' := [(4, .inl (.int (xAI (sFI h 1043 0 0) 41 0 ((10 * a) + b).toNatClampNeg))), (0, .inr (10, some 0)), (1, .inl (.int a)), (2, .inl (.int b)), (3, .inl (.int mi))]) (st' := [.inl (.int (-1)), .inl (.int mi), .inl (.int ((10 * a) + b)), .inr (41, some 0)]) ⟨dX9_footway_73, dX9_footway_75, dX9_footway_76, dX9_footway_77, dX9_footway_78, dX9_footway_79, dX9_footway_80, trivial⟩ rfl rfl ?_
          refine wx_icmp_ne (tgt := 88) dX9_footway_81 (by decide) (fun h_7 => ?_) (fun h_7 => ?_)
          · refine wp_run [(.iload_n 3, 1)] (pc' := 89) (L' := [(4, .inl (.int (xAI (sFI h 1043 0 0) 41 0 ((10 * a) + b).toNatClampNeg))), (0, .inr (10, some 0)), (1, .inl (.int a)), (2, .inl (.int b)), (3, .inl (.int mi))]) (st' := [.inl (.int mi), .inl (.int ((10 * a) + b)), .inr (41, some 0)]) ⟨dX9_footway_88, trivial⟩ rfl rfl ?_
            refine wx_iast rfl (vin_mono (n := 100) (vin_lin (c := 10) (vin_cnt (n := 10) (D.fi (f := 1000) (by decide)) (by decide) h_1) (vin_mono (vin_cnt (n := 10) (D.fi (f := 1000) (by decide)) (by decide) h_2) (by decide)) (by decide)) (by decide)) dX9_footway_89 ?_
            have D_8 : DM (sAI (sFI h 1043 0 0) 41 0 (((10 * a) + b).toNatClampNeg) mi) := hS_3.2.put (by decide)
            refine wp_run [(.aload_n 0, 1)] (pc' := 91) (L' := [(4, .inl (.int (xAI (sFI h 1043 0 0) 41 0 ((10 * a) + b).toNatClampNeg))), (0, .inr (10, some 0)), (1, .inl (.int a)), (2, .inl (.int b)), (3, .inl (.int mi))]) (st' := [.inr (10, some 0)]) ⟨dX9_footway_90, trivial⟩ rfl rfl ?_
            refine wx_getR cls_10 (k := 2) (f := 1002) (t := 41) (o := some 0) (by decide) rfl rfl fl_X9_13 ((W.sr hS_3.1).fr (f := 1002) (by decide)) dX9_footway_91 ?_
            refine wp_run [(.bipush 10, 2), (.iload_n 2, 1), (.imul, 1), (.iload_n 1, 1), (.iadd, 1), (.iload_n 3, 1), (.iconst (-1), 1)] (pc' := 102) (L' := [(4, .inl (.int (xAI (sFI h 1043 0 0) 41 0 ((10 * a) + b).toNatClampNeg))), (0, .inr (10, some 0)), (1, .inl (.int a)), (2, .inl (.int b)), (3, .inl (.int mi))]) (st' := [.inl (.int (-1)), .inl (.int mi), .inl (.int ((10 * b) + a)), .inr (41, some 0)]) ⟨dX9_footway_94, dX9_footway_96, dX9_footway_97, dX9_footway_98, dX9_footway_99, dX9_footway_100, dX9_footway_101, trivial⟩ rfl rfl ?_
            refine wx_icmp_ne (tgt := 109) dX9_footway_102 (by decide) (fun h_9 => ?_) (fun h_9 => ?_)
            · refine wp_run [(.iload_n 3, 1)] (pc' := 110) (L' := [(4, .inl (.int (xAI (sFI h 1043 0 0) 41 0 ((10 * a) + b).toNatClampNeg))), (0, .inr (10, some 0)), (1, .inl (.int a)), (2, .inl (.int b)), (3, .inl (.int mi))]) (st' := [.inl (.int mi), .inl (.int ((10 * b) + a)), .inr (41, some 0)]) ⟨dX9_footway_109, trivial⟩ rfl rfl ?_
              refine wx_iast rfl (vin_mono (n := 100) (vin_lin (c := 10) (vin_cnt (n := 10) (D.fi (f := 1000) (by decide)) (by decide) h_2) (vin_mono (vin_cnt (n := 10) (D.fi (f := 1000) (by decide)) (by decide) h_1) (by decide)) (by decide)) (by decide)) dX9_footway_110 ?_
              have D_10 : DM (sAI (sAI (sFI h 1043 0 0) 41 0 (((10 * a) + b).toNatClampNeg) mi) 41 0 (((10 * b) + a).toNatClampNeg) mi) := D_8.put (by decide)
              refine wp_run [(.iload 4, 2)] (pc' := 113) (L' := [(4, .inl (.int (xAI (sFI h 1043 0 0) 41 0 ((10 * a) + b).toNatClampNeg))), (0, .inr (10, some 0)), (1, .inl (.int a)), (2, .inl (.int b)), (3, .inl (.int mi))]) (st' := [.inl (.int (xAI (sFI h 1043 0 0) 41 0 ((10 * a) + b).toNatClampNeg))]) ⟨dX9_footway_111, trivial⟩ rfl rfl ?_
              refine wx_if_ne (tgt := 120) dX9_footway_113 (by decide) (fun h_11 => ?_) (fun h_11 => ?_)
              · refine wp_run [(.iload 4, 2)] (pc' := 122) (L' := [(4, .inl (.int (xAI (sFI h 1043 0 0) 41 0 ((10 * a) + b).toNatClampNeg))), (0, .inr (10, some 0)), (1, .inl (.int a)), (2, .inl (.int b)), (3, .inl (.int mi))]) (st' := [.inl (.int (xAI (sFI h 1043 0 0) 41 0 ((10 * a) + b).toNatClampNeg))]) ⟨dX9_footway_120, trivial⟩ rfl rfl ?_
                exact wx_iret rfl rfl dX9_footway_122 (by rw [F_X9_footway, if_pos h_1, if_pos h_2, if_neg h_4, if_pos h_6, if_neg h_7, if_neg h_9, if_neg h_11]; dsimp only; exact ⟨⟨hS_3.1, D_10⟩, rfl, rfl⟩)
              · refine wp_run [(.iconst (-1), 1)] (pc' := 117) (L' := [(4, .inl (.int (xAI (sFI h 1043 0 0) 41 0 ((10 * a) + b).toNatClampNeg))), (0, .inr (10, some 0)), (1, .inl (.int a)), (2, .inl (.int b)), (3, .inl (.int mi))]) (st' := [.inl (.int (-1))]) ⟨dX9_footway_116, trivial⟩ rfl rfl ?_
                refine wx_goto (tgt := 122) dX9_footway_117 (by decide) ?_
                exact wx_iret rfl rfl dX9_footway_122 (by rw [F_X9_footway, if_pos h_1, if_pos h_2, if_neg h_4, if_pos h_6, if_neg h_7, if_neg h_9, if_pos h_11]; dsimp only; exact ⟨⟨hS_3.1, D_10⟩, rfl, rfl⟩)
            · refine wp_run [(.iconst 0, 1)] (pc' := 106) (L' := [(4, .inl (.int (xAI (sFI h 1043 0 0) 41 0 ((10 * a) + b).toNatClampNeg))), (0, .inr (10, some 0)), (1, .inl (.int a)), (2, .inl (.int b)), (3, .inl (.int mi))]) (st' := [.inl (.int 0), .inl (.int ((10 * b) + a)), .inr (41, some 0)]) ⟨dX9_footway_105, trivial⟩ rfl rfl ?_
              refine wx_goto (tgt := 110) dX9_footway_106 (by decide) ?_
              refine wx_iast rfl (vin_mono (n := 100) (vin_lin (c := 10) (vin_cnt (n := 10) (D.fi (f := 1000) (by decide)) (by decide) h_2) (vin_mono (vin_cnt (n := 10) (D.fi (f := 1000) (by decide)) (by decide) h_1) (by decide)) (by decide)) (by decide)) dX9_footway_110 ?_
              have D_12 : DM (sAI (sAI (sFI h 1043 0 0) 41 0 (((10 * a) + b).toNatClampNeg) mi) 41 0 (((10 * b) + a).toNatClampNeg) 0) := D_8.put (by decide)
              refine wp_run [(.iload 4, 2)] (pc' := 113) (L' := [(4, .inl (.int (xAI (sFI h 1043 0 0) 41 0 ((10 * a) + b).toNatClampNeg))), (0, .inr (10, some 0)), (1, .inl (.int a)), (2, .inl (.int b)), (3, .inl (.int mi))]) (st' := [.inl (.int (xAI (sFI h 1043 0 0) 41 0 ((10 * a) + b).toNatClampNeg))]) ⟨dX9_footway_111, trivial⟩ rfl rfl ?_
              refine wx_if_ne (tgt := 120) dX9_footway_113 (by decide) (fun h_13 => ?_) (fun h_13 => ?_)
              · refine wp_run [(.iload 4, 2)] (pc' := 122) (L' := [(4, .inl (.int (xAI (sFI h 1043 0 0) 41 0 ((10 * a) + b).toNatClampNeg))), (0, .inr (10, some 0)), (1, .inl (.int a)), (2, .inl (.int b)), (3, .inl (.int mi))]) (st' := [.inl (.int (xAI (sFI h 1043 0 0) 41 0 ((10 * a) + b).toNatClampNeg))]) ⟨dX9_footway_120, trivial⟩ rfl rfl ?_
                exact wx_iret rfl rfl dX9_footway_122 (by rw [F_X9_footway, if_pos h_1, if_pos h_2, if_neg h_4, if_pos h_6, if_neg h_7, if_pos h_9, if_neg h_13]; dsimp only; exact ⟨⟨hS_3.1, D_12⟩, rfl, rfl⟩)
              · refine wp_run [(.iconst (-1), 1)] (pc' := 117) (L' := [(4, .inl (.int (xAI (sFI h 1043 0 0) 41 0 ((10 * a) + b).toNatClampNeg))), (0, .inr (10, some 0)), (1, .inl (.int a)), (2, .inl (.int b)), (3, .inl (.int mi))]) (st' := [.inl (.int (-1))]) ⟨dX9_footway_116, trivial⟩ rfl rfl ?_
                refine wx_goto (tgt := 122) dX9_footway_117 (by decide) ?_
                exact wx_iret rfl rfl dX9_footway_122 (by rw [F_X9_footway, if_pos h_1, if_pos h_2, if_neg h_4, if_pos h_6, if_neg h_7, if_pos h_9, if_pos h_13]; dsimp only; exact ⟨⟨hS_3.1, D_12⟩, rfl, rfl⟩)
          · refine wp_run [(.iconst 0, 1)] (pc' := 85) (L' := [(4, .inl (.int (xAI (sFI h 1043 0 0) 41 0 ((10 * a) + b).toNatClampNeg))), (0, .inr (10, some 0)), (1, .inl (.int a)), (2, .inl (.int b)), (3, .inl (.int mi))]) (st' := [.inl (.int 0), .inl (.int ((10 * a) + b)), .inr (41, some 0)]) ⟨dX9_footway_84, trivial⟩ rfl rfl ?_
            refine wx_goto (tgt := 89) dX9_footway_85 (by decide) ?_
            refine wx_iast rfl (vin_mono (n := 100) (vin_lin (c := 10) (vin_cnt (n := 10) (D.fi (f := 1000) (by decide)) (by decide) h_1) (vin_mono (vin_cnt (n := 10) (D.fi (f := 1000) (by decide)) (by decide) h_2) (by decide)) (by decide)) (by decide)) dX9_footway_89 ?_
            have D_14 : DM (sAI (sFI h 1043 0 0) 41 0 (((10 * a) + b).toNatClampNeg) 0) := hS_3.2.put (by decide)
            refine wp_run [(.aload_n 0, 1)] (pc' := 91) (L' := [(4, .inl (.int (xAI (sFI h 1043 0 0) 41 0 ((10 * a) + b).toNatClampNeg))), (0, .inr (10, some 0)), (1, .inl (.int a)), (2, .inl (.int b)), (3, .inl (.int mi))]) (st' := [.inr (10, some 0)]) ⟨dX9_footway_90, trivial⟩ rfl rfl ?_
            refine wx_getR cls_10 (k := 2) (f := 1002) (t := 41) (o := some 0) (by decide) rfl rfl fl_X9_13 ((W.sr hS_3.1).fr (f := 1002) (by decide)) dX9_footway_91 ?_
            refine wp_run [(.bipush 10, 2), (.iload_n 2, 1), (.imul, 1), (.iload_n 1, 1), (.iadd, 1), (.iload_n 3, 1), (.iconst (-1), 1)] (pc' := 102) (L' := [(4, .inl (.int (xAI (sFI h 1043 0 0) 41 0 ((10 * a) + b).toNatClampNeg))), (0, .inr (10, some 0)), (1, .inl (.int a)), (2, .inl (.int b)), (3, .inl (.int mi))]) (st' := [.inl (.int (-1)), .inl (.int mi), .inl (.int ((10 * b) + a)), .inr (41, some 0)]) ⟨dX9_footway_94, dX9_footway_96, dX9_footway_97, dX9_footway_98, dX9_footway_99, dX9_footway_100, dX9_footway_101, trivial⟩ rfl rfl ?_
            refine wx_icmp_ne (tgt := 109) dX9_footway_102 (by decide) (fun h_15 => ?_) (fun h_15 => ?_)
            · refine wp_run [(.iload_n 3, 1)] (pc' := 110) (L' := [(4, .inl (.int (xAI (sFI h 1043 0 0) 41 0 ((10 * a) + b).toNatClampNeg))), (0, .inr (10, some 0)), (1, .inl (.int a)), (2, .inl (.int b)), (3, .inl (.int mi))]) (st' := [.inl (.int mi), .inl (.int ((10 * b) + a)), .inr (41, some 0)]) ⟨dX9_footway_109, trivial⟩ rfl rfl ?_
              refine wx_iast rfl (vin_mono (n := 100) (vin_lin (c := 10) (vin_cnt (n := 10) (D.fi (f := 1000) (by decide)) (by decide) h_2) (vin_mono (vin_cnt (n := 10) (D.fi (f := 1000) (by decide)) (by decide) h_1) (by decide)) (by decide)) (by decide)) dX9_footway_110 ?_
              have D_16 : DM (sAI (sAI (sFI h 1043 0 0) 41 0 (((10 * a) + b).toNatClampNeg) 0) 41 0 (((10 * b) + a).toNatClampNeg) mi) := D_14.put (by decide)
              refine wp_run [(.iload 4, 2)] (pc' := 113) (L' := [(4, .inl (.int (xAI (sFI h 1043 0 0) 41 0 ((10 * a) + b).toNatClampNeg))), (0, .inr (10, some 0)), (1, .inl (.int a)), (2, .inl (.int b)), (3, .inl (.int mi))]) (st' := [.inl (.int (xAI (sFI h 1043 0 0) 41 0 ((10 * a) + b).toNatClampNeg))]) ⟨dX9_footway_111, trivial⟩ rfl rfl ?_
              refine wx_if_ne (tgt := 120) dX9_footway_113 (by decide) (fun h_17 => ?_) (fun h_17 => ?_)
              · refine wp_run [(.iload 4, 2)] (pc' := 122) (L' := [(4, .inl (.int (xAI (sFI h 1043 0 0) 41 0 ((10 * a) + b).toNatClampNeg))), (0, .inr (10, some 0)), (1, .inl (.int a)), (2, .inl (.int b)), (3, .inl (.int mi))]) (st' := [.inl (.int (xAI (sFI h 1043 0 0) 41 0 ((10 * a) + b).toNatClampNeg))]) ⟨dX9_footway_120, trivial⟩ rfl rfl ?_
                exact wx_iret rfl rfl dX9_footway_122 (by rw [F_X9_footway, if_pos h_1, if_pos h_2, if_neg h_4, if_pos h_6, if_pos h_7, if_neg h_15, if_neg h_17]; dsimp only; exact ⟨⟨hS_3.1, D_16⟩, rfl, rfl⟩)
              · refine wp_run [(.iconst (-1), 1)] (pc' := 117) (L' := [(4, .inl (.int (xAI (sFI h 1043 0 0) 41 0 ((10 * a) + b).toNatClampNeg))), (0, .inr (10, some 0)), (1, .inl (.int a)), (2, .inl (.int b)), (3, .inl (.int mi))]) (st' := [.inl (.int (-1))]) ⟨dX9_footway_116, trivial⟩ rfl rfl ?_
                refine wx_goto (tgt := 122) dX9_footway_117 (by decide) ?_
                exact wx_iret rfl rfl dX9_footway_122 (by rw [F_X9_footway, if_pos h_1, if_pos h_2, if_neg h_4, if_pos h_6, if_pos h_7, if_neg h_15, if_pos h_17]; dsimp only; exact ⟨⟨hS_3.1, D_16⟩, rfl, rfl⟩)
            · refine wp_run [(.iconst 0, 1)] (pc' := 106) (L' := [(4, .inl (.int (xAI (sFI h 1043 0 0) 41 0 ((10 * a) + b).toNatClampNeg))), (0, .inr (10, some 0)), (1, .inl (.int a)), (2, .inl (.int b)), (3, .inl (.int mi))]) (st' := [.inl (.int 0), .inl (.int ((10 * b) + a)), .inr (41, some 0)]) ⟨dX9_footway_105, trivial⟩ rfl rfl ?_
              refine wx_goto (tgt := 110) dX9_footway_106 (by decide) ?_
              refine wx_iast rfl (vin_mono (n := 100) (vin_lin (c := 10) (vin_cnt (n := 10) (D.fi (f := 1000) (by decide)) (by decide) h_2) (vin_mono (vin_cnt (n := 10) (D.fi (f := 1000) (by decide)) (by decide) h_1) (by decide)) (by decide)) (by decide)) dX9_footway_110 ?_
              have D_18 : DM (sAI (sAI (sFI h 1043 0 0) 41 0 (((10 * a) + b).toNatClampNeg) 0) 41 0 (((10 * b) + a).toNatClampNeg) 0) := D_14.put (by decide)
              refine wp_run [(.iload 4, 2)] (pc' := 113) (L' := [(4, .inl (.int (xAI (sFI h 1043 0 0) 41 0 ((10 * a) + b).toNatClampNeg))), (0, .inr (10, some 0)), (1, .inl (.int a)), (2, .inl (.int b)), (3, .inl (.int mi))]) (st' := [.inl (.int (xAI (sFI h 1043 0 0) 41 0 ((10 * a) + b).toNatClampNeg))]) ⟨dX9_footway_111, trivial⟩ rfl rfl ?_
              refine wx_if_ne (tgt := 120) dX9_footway_113 (by decide) (fun h_19 => ?_) (fun h_19 => ?_)
              · refine wp_run [(.iload 4, 2)] (pc' := 122) (L' := [(4, .inl (.int (xAI (sFI h 1043 0 0) 41 0 ((10 * a) + b).toNatClampNeg))), (0, .inr (10, some 0)), (1, .inl (.int a)), (2, .inl (.int b)), (3, .inl (.int mi))]) (st' := [.inl (.int (xAI (sFI h 1043 0 0) 41 0 ((10 * a) + b).toNatClampNeg))]) ⟨dX9_footway_120, trivial⟩ rfl rfl ?_
                exact wx_iret rfl rfl dX9_footway_122 (by rw [F_X9_footway, if_pos h_1, if_pos h_2, if_neg h_4, if_pos h_6, if_pos h_7, if_pos h_15, if_neg h_19]; dsimp only; exact ⟨⟨hS_3.1, D_18⟩, rfl, rfl⟩)
              · refine wp_run [(.iconst (-1), 1)] (pc' := 117) (L' := [(4, .inl (.int (xAI (sFI h 1043 0 0) 41 0 ((10 * a) + b).toNatClampNeg))), (0, .inr (10, some 0)), (1, .inl (.int a)), (2, .inl (.int b)), (3, .inl (.int mi))]) (st' := [.inl (.int (-1))]) ⟨dX9_footway_116, trivial⟩ rfl rfl ?_
                refine wx_goto (tgt := 122) dX9_footway_117 (by decide) ?_
                exact wx_iret rfl rfl dX9_footway_122 (by rw [F_X9_footway, if_pos h_1, if_pos h_2, if_neg h_4, if_pos h_6, if_pos h_7, if_pos h_15, if_pos h_19]; dsimp only; exact ⟨⟨hS_3.1, D_18⟩, rfl, rfl⟩)
        · refine wp_run [(.iload_n 3, 1), (.iconst 1, 1), (.bipush 120, 2)] (pc' := 44) (L' := [(0, .inr (10, some 0)), (1, .inl (.int a)), (2, .inl (.int b)), (3, .inl (.int mi))]) (st' := [.inl (.int 120), .inl (.int 1), .inl (.int mi)]) ⟨dX9_footway_40, dX9_footway_41, dX9_footway_42, trivial⟩ rfl rfl ?_
          by_cases h_20 : okR mi 1 120
          · refine wx_staticD (M := M_X9_footway) (uc := 0) (us := 0) (As := [.inl (.int mi), .inl (.int 1), .inl (.int 120)]) (rest := []) (ok_X9_in _ _) ml_X9_128 st_X9_in (by omega) (det_to (c_X9_in (d := d - 1) (h := (sFI h 1043 0 0)) (by omega) mi 1 120) (by rw [in_ok h_20]) rfl) rfl rfl (Nat.le_of_ble_eq_true rfl) dX9_footway_44 ?_
            refine wx_if_ne (tgt := 56) dX9_footway_47 (by decide) (fun _ => ?_) (fun h => absurd h (by decide))
            refine wp_run [(.aload_n 0, 1)] (pc' := 57) (L' := [(0, .inr (10, some 0)), (1, .inl (.int a)), (2, .inl (.int b)), (3, .inl (.int mi))]) (st' := [.inr (10, some 0)]) ⟨dX9_footway_56, trivial⟩ rfl rfl ?_
            refine wx_getR cls_10 (k := 2) (f := 1002) (t := 41) (o := some 0) (by decide) rfl rfl fl_X9_13 ((W.sr hS_3.1).fr (f := 1002) (by decide)) dX9_footway_57 ?_
            refine wp_run [(.bipush 10, 2), (.iload_n 1, 1), (.imul, 1), (.iload_n 2, 1), (.iadd, 1)] (pc' := 66) (L' := [(0, .inr (10, some 0)), (1, .inl (.int a)), (2, .inl (.int b)), (3, .inl (.int mi))]) (st' := [.inl (.int ((10 * a) + b)), .inr (41, some 0)]) ⟨dX9_footway_60, dX9_footway_62, dX9_footway_63, dX9_footway_64, dX9_footway_65, trivial⟩ rfl rfl ?_
            refine wx_iald (Or.inl rfl) (vin_mono (n := 100) (vin_lin (c := 10) (vin_cnt (n := 10) (D.fi (f := 1000) (by decide)) (by decide) h_1) (vin_mono (vin_cnt (n := 10) (D.fi (f := 1000) (by decide)) (by decide) h_2) (by decide)) (by decide)) (by decide)) dX9_footway_66 ?_
            refine wp_run [(.istore 4, 2), (.aload_n 0, 1)] (pc' := 70) (L' := [(4, .inl (.int (xAI (sFI h 1043 0 0) 41 0 ((10 * a) + b).toNatClampNeg))), (0, .inr (10, some 0)), (1, .inl (.int a)), (2, .inl (.int b)), (3, .inl (.int mi))]) (st' := [.inr (10, some 0)]) ⟨dX9_footway_67, dX9_footway_69, trivial⟩ rfl rfl ?_
            refine wx_getR cls_10 (k := 2) (f := 1002) (t := 41) (o := some 0) (by decide) rfl rfl fl_X9_13 ((W.sr hS_3.1).fr (f := 1002) (by decide)) dX9_footway_70 ?_
            refine wp_run [(.bipush 10, 2), (.iload_n 1, 1), (.imul, 1), (.iload_n 2, 1), (.iadd, 1), (.iload_n 3, 1), (.iconst (-1), 1)] (pc' := 81) (L' := [(4, .inl (.int (xAI (sFI h 1043 0 0) 41 0 ((10 * a) + b).toNatClampNeg))), (0, .inr (10, some 0)), (1, .inl (.int a)), (2, .inl (.int b)), (3, .inl (.int mi))]) (st' := [.inl (.int (-1)), .inl (.int mi), .inl (.int ((10 * a) + b)), .inr (41, some 0)]) ⟨dX9_footway_73, dX9_footway_75, dX9_footway_76, dX9_footway_77, dX9_footway_78, dX9_footway_79, dX9_footway_80, trivial⟩ rfl rfl ?_
            refine wx_icmp_ne (tgt := 88) dX9_footway_81 (by decide) (fun h_21 => ?_) (fun h_21 => ?_)
            · refine wp_run [(.iload_n 3, 1)] (pc' := 89) (L' := [(4, .inl (.int (xAI (sFI h 1043 0 0) 41 0 ((10 * a) + b).toNatClampNeg))), (0, .inr (10, some 0)), (1, .inl (.int a)), (2, .inl (.int b)), (3, .inl (.int mi))]) (st' := [.inl (.int mi), .inl (.int ((10 * a) + b)), .inr (41, some 0)]) ⟨dX9_footway_88, trivial⟩ rfl rfl ?_
              refine wx_iast rfl (vin_mono (n := 100) (vin_lin (c := 10) (vin_cnt (n := 10) (D.fi (f := 1000) (by decide)) (by decide) h_1) (vin_mono (vin_cnt (n := 10) (D.fi (f := 1000) (by decide)) (by decide) h_2) (by decide)) (by decide)) (by decide)) dX9_footway_89 ?_
              have D_22 : DM (sAI (sFI h 1043 0 0) 41 0 (((10 * a) + b).toNatClampNeg) mi) := hS_3.2.put (by decide)
              refine wp_run [(.aload_n 0, 1)] (pc' := 91) (L' := [(4, .inl (.int (xAI (sFI h 1043 0 0) 41 0 ((10 * a) + b).toNatClampNeg))), (0, .inr (10, some 0)), (1, .inl (.int a)), (2, .inl (.int b)), (3, .inl (.int mi))]) (st' := [.inr (10, some 0)]) ⟨dX9_footway_90, trivial⟩ rfl rfl ?_
              refine wx_getR cls_10 (k := 2) (f := 1002) (t := 41) (o := some 0) (by decide) rfl rfl fl_X9_13 ((W.sr hS_3.1).fr (f := 1002) (by decide)) dX9_footway_91 ?_
              refine wp_run [(.bipush 10, 2), (.iload_n 2, 1), (.imul, 1), (.iload_n 1, 1), (.iadd, 1), (.iload_n 3, 1), (.iconst (-1), 1)] (pc' := 102) (L' := [(4, .inl (.int (xAI (sFI h 1043 0 0) 41 0 ((10 * a) + b).toNatClampNeg))), (0, .inr (10, some 0)), (1, .inl (.int a)), (2, .inl (.int b)), (3, .inl (.int mi))]) (st' := [.inl (.int (-1)), .inl (.int mi), .inl (.int ((10 * b) + a)), .inr (41, some 0)]) ⟨dX9_footway_94, dX9_footway_96, dX9_footway_97, dX9_footway_98, dX9_footway_99, dX9_footway_100, dX9_footway_101, trivial⟩ rfl rfl ?_
              refine wx_icmp_ne (tgt := 109) dX9_footway_102 (by decide) (fun h_23 => ?_) (fun h_23 => ?_)
              · refine wp_run [(.iload_n 3, 1)] (pc' := 110) (L' := [(4, .inl (.int (xAI (sFI h 1043 0 0) 41 0 ((10 * a) + b).toNatClampNeg))), (0, .inr (10, some 0)), (1, .inl (.int a)), (2, .inl (.int b)), (3, .inl (.int mi))]) (st' := [.inl (.int mi), .inl (.int ((10 * b) + a)), .inr (41, some 0)]) ⟨dX9_footway_109, trivial⟩ rfl rfl ?_
                refine wx_iast rfl (vin_mono (n := 100) (vin_lin (c := 10) (vin_cnt (n := 10) (D.fi (f := 1000) (by decide)) (by decide) h_2) (vin_mono (vin_cnt (n := 10) (D.fi (f := 1000) (by decide)) (by decide) h_1) (by decide)) (by decide)) (by decide)) dX9_footway_110 ?_
                have D_24 : DM (sAI (sAI (sFI h 1043 0 0) 41 0 (((10 * a) + b).toNatClampNeg) mi) 41 0 (((10 * b) + a).toNatClampNeg) mi) := D_22.put (by decide)
                refine wp_run [(.iload 4, 2)] (pc' := 113) (L' := [(4, .inl (.int (xAI (sFI h 1043 0 0) 41 0 ((10 * a) + b).toNatClampNeg))), (0, .inr (10, some 0)), (1, .inl (.int a)), (2, .inl (.int b)), (3, .inl (.int mi))]) (st' := [.inl (.int (xAI (sFI h 1043 0 0) 41 0 ((10 * a) + b).toNatClampNeg))]) ⟨dX9_footway_111, trivial⟩ rfl rfl ?_
                refine wx_if_ne (tgt := 120) dX9_footway_113 (by decide) (fun h_25 => ?_) (fun h_25 => ?_)
                · refine wp_run [(.iload 4, 2)] (pc' := 122) (L' := [(4, .inl (.int (xAI (sFI h 1043 0 0) 41 0 ((10 * a) + b).toNatClampNeg))), (0, .inr (10, some 0)), (1, .inl (.int a)), (2, .inl (.int b)), (3, .inl (.int mi))]) (st' := [.inl (.int (xAI (sFI h 1043 0 0) 41 0 ((10 * a) + b).toNatClampNeg))]) ⟨dX9_footway_120, trivial⟩ rfl rfl ?_
                  exact wx_iret rfl rfl dX9_footway_122 (by rw [F_X9_footway, if_pos h_1, if_pos h_2, if_neg h_4, if_neg h_6, if_pos h_20, if_neg h_21, if_neg h_23, if_neg h_25]; dsimp only; exact ⟨⟨hS_3.1, D_24⟩, rfl, rfl⟩)
                · refine wp_run [(.iconst (-1), 1)] (pc' := 117) (L' := [(4, .inl (.int (xAI (sFI h 1043 0 0) 41 0 ((10 * a) + b).toNatClampNeg))), (0, .inr (10, some 0)), (1, .inl (.int a)), (2, .inl (.int b)), (3, .inl (.int mi))]) (st' := [.inl (.int (-1))]) ⟨dX9_footway_116, trivial⟩ rfl rfl ?_
                  refine wx_goto (tgt := 122) dX9_footway_117 (by decide) ?_
                  exact wx_iret rfl rfl dX9_footway_122 (by rw [F_X9_footway, if_pos h_1, if_pos h_2, if_neg h_4, if_neg h_6, if_pos h_20, if_neg h_21, if_neg h_23, if_pos h_25]; dsimp only; exact ⟨⟨hS_3.1, D_24⟩, rfl, rfl⟩)
              · refine wp_run [(.iconst 0, 1)] (pc' := 106) (L' := [(4, .inl (.int (xAI (sFI h 1043 0 0) 41 0 ((10 * a) + b).toNatClampNeg))), (0, .inr (10, some 0)), (1, .inl (.int a)), (2, .inl (.int b)), (3, .inl (.int mi))]) (st' := [.inl (.int 0), .inl (.int ((10 * b) + a)), .inr (41, some 0)]) ⟨dX9_footway_105, trivial⟩ rfl rfl ?_
                refine wx_goto (tgt := 110) dX9_footway_106 (by decide) ?_
                refine wx_iast rfl (vin_mono (n := 100) (vin_lin (c := 10) (vin_cnt (n := 10) (D.fi (f := 1000) (by decide)) (by decide) h_2) (vin_mono (vin_cnt (n := 10) (D.fi (f := 1000) (by decide)) (by decide) h_1) (by decide)) (by decide)) (by decide)) dX9_footway_110 ?_
                have D_26 : DM (sAI (sAI (sFI h 1043 0 0) 41 0 (((10 * a) + b).toNatClampNeg) mi) 41 0 (((10 * b) + a).toNatClampNeg) 0) := D_22.put (by decide)
                refine wp_run [(.iload 4, 2)] (pc' := 113) (L' := [(4, .inl (.int (xAI (sFI h 1043 0 0) 41 0 ((10 * a) + b).toNatClampNeg))), (0, .inr (10, some 0)), (1, .inl (.int a)), (2, .inl (.int b)), (3, .inl (.int mi))]) (st' := [.inl (.int (xAI (sFI h 1043 0 0) 41 0 ((10 * a) + b).toNatClampNeg))]) ⟨dX9_footway_111, trivial⟩ rfl rfl ?_
                refine wx_if_ne (tgt := 120) dX9_footway_113 (by decide) (fun h_27 => ?_) (fun h_27 => ?_)
                · refine wp_run [(.iload 4, 2)] (pc' := 122) (L' := [(4, .inl (.int (xAI (sFI h 1043 0 0) 41 0 ((10 * a) + b).toNatClampNeg))), (0, .inr (10, some 0)), (1, .inl (.int a)), (2, .inl (.int b)), (3, .inl (.int mi))]) (st' := [.inl (.int (xAI (sFI h 1043 0 0) 41 0 ((10 * a) + b).toNatClampNeg))]) ⟨dX9_footway_120, trivial⟩ rfl rfl ?_
                  exact wx_iret rfl rfl dX9_footway_122 (by rw [F_X9_footway, if_pos h_1, if_pos h_2, if_neg h_4, if_neg h_6, if_pos h_20, if_neg h_21, if_pos h_23, if_neg h_27]; dsimp only; exact ⟨⟨hS_3.1, D_26⟩, rfl, rfl⟩)
                · refine wp_run [(.iconst (-1), 1)] (pc' := 117) (L' := [(4, .inl (.int (xAI (sFI h 1043 0 0) 41 0 ((10 * a) + b).toNatClampNeg))), (0, .inr (10, some 0)), (1, .inl (.int a)), (2, .inl (.int b)), (3, .inl (.int mi))]) (st' := [.inl (.int (-1))]) ⟨dX9_footway_116, trivial⟩ rfl rfl ?_
                  refine wx_goto (tgt := 122) dX9_footway_117 (by decide) ?_
                  exact wx_iret rfl rfl dX9_footway_122 (by rw [F_X9_footway, if_pos h_1, if_pos h_2, if_neg h_4, if_neg h_6, if_pos h_20, if_neg h_21, if_pos h_23, if_pos h_27]; dsimp only; exact ⟨⟨hS_3.1, D_26⟩, rfl, rfl⟩)
            · refine wp_run [(.iconst 0, 1)] (pc' := 85) (L' := [(4, .inl (.int (xAI (sFI h 1043 0 0) 41 0 ((10 * a) + b).toNatClampNeg))), (0, .inr (10, some 0)), (1, .inl (.int a)), (2, .inl (.int b)), (3, .inl (.int mi))]) (st' := [.inl (.int 0), .inl (.int ((10 * a) + b)), .inr (41, some 0)]) ⟨dX9_footway_84, trivial⟩ rfl rfl ?_
              refine wx_goto (tgt := 89) dX9_footway_85 (by decide) ?_
              refine wx_iast rfl (vin_mono (n := 100) (vin_lin (c := 10) (vin_cnt (n := 10) (D.fi (f := 1000) (by decide)) (by decide) h_1) (vin_mono (vin_cnt (n := 10) (D.fi (f := 1000) (by decide)) (by decide) h_2) (by decide)) (by decide)) (by decide)) dX9_footway_89 ?_
              have D_28 : DM (sAI (sFI h 1043 0 0) 41 0 (((10 * a) + b).toNatClampNeg) 0) := hS_3.2.put (by decide)
              refine wp_run [(.aload_n 0, 1)] (pc' := 91) (L' := [(4, .inl (.int (xAI (sFI h 1043 0 0) 41 0 ((10 * a) + b).toNatClampNeg))), (0, .inr (10, some 0)), (1, .inl (.int a)), (2, .inl (.int b)), (3, .inl (.int mi))]) (st' := [.inr (10, some 0)]) ⟨dX9_footway_90, trivial⟩ rfl rfl ?_
              refine wx_getR cls_10 (k := 2) (f := 1002) (t := 41) (o := some 0) (by decide) rfl rfl fl_X9_13 ((W.sr hS_3.1).fr (f := 1002) (by decide)) dX9_footway_91 ?_
              refine wp_run [(.bipush 10, 2), (.iload_n 2, 1), (.imul, 1), (.iload_n 1, 1), (.iadd, 1), (.iload_n 3, 1), (.iconst (-1), 1)] (pc' := 102) (L' := [(4, .inl (.int (xAI (sFI h 1043 0 0) 41 0 ((10 * a) + b).toNatClampNeg))), (0, .inr (10, some 0)), (1, .inl (.int a)), (2, .inl (.int b)), (3, .inl (.int mi))]) (st' := [.inl (.int (-1)), .inl (.int mi), .inl (.int ((10 * b) + a)), .inr (41, some 0)]) ⟨dX9_footway_94, dX9_footway_96, dX9_footway_97, dX9_footway_98, dX9_footway_99, dX9_footway_100, dX9_footway_101, trivial⟩ rfl rfl ?_
              refine wx_icmp_ne (tgt := 109) dX9_footway_102 (by decide) (fun h_29 => ?_) (fun h_29 => ?_)
              · refine wp_run [(.iload_n 3, 1)] (pc' := 110) (L' := [(4, .inl (.int (xAI (sFI h 1043 0 0) 41 0 ((10 * a) + b).toNatClampNeg))), (0, .inr (10, some 0)), (1, .inl (.int a)), (2, .inl (.int b)), (3, .inl (.int mi))]) (st' := [.inl (.int mi), .inl (.int ((10 * b) + a)), .inr (41, some 0)]) ⟨dX9_footway_109, trivial⟩ rfl rfl ?_
                refine wx_iast rfl (vin_mono (n := 100) (vin_lin (c := 10) (vin_cnt (n := 10) (D.fi (f := 1000) (by decide)) (by decide) h_2) (vin_mono (vin_cnt (n := 10) (D.fi (f := 1000) (by decide)) (by decide) h_1) (by decide)) (by decide)) (by decide)) dX9_footway_110 ?_
                have D_30 : DM (sAI (sAI (sFI h 1043 0 0) 41 0 (((10 * a) + b).toNatClampNeg) 0) 41 0 (((10 * b) + a).toNatClampNeg) mi) := D_28.put (by decide)
                refine wp_run [(.iload 4, 2)] (pc' := 113) (L' := [(4, .inl (.int (xAI (sFI h 1043 0 0) 41 0 ((10 * a) + b).toNatClampNeg))), (0, .inr (10, some 0)), (1, .inl (.int a)), (2, .inl (.int b)), (3, .inl (.int mi))]) (st' := [.inl (.int (xAI (sFI h 1043 0 0) 41 0 ((10 * a) + b).toNatClampNeg))]) ⟨dX9_footway_111, trivial⟩ rfl rfl ?_
                refine wx_if_ne (tgt := 120) dX9_footway_113 (by decide) (fun h_31 => ?_) (fun h_31 => ?_)
                · refine wp_run [(.iload 4, 2)] (pc' := 122) (L' := [(4, .inl (.int (xAI (sFI h 1043 0 0) 41 0 ((10 * a) + b).toNatClampNeg))), (0, .inr (10, some 0)), (1, .inl (.int a)), (2, .inl (.int b)), (3, .inl (.int mi))]) (st' := [.inl (.int (xAI (sFI h 1043 0 0) 41 0 ((10 * a) + b).toNatClampNeg))]) ⟨dX9_footway_120, trivial⟩ rfl rfl ?_
                  exact wx_iret rfl rfl dX9_footway_122 (by rw [F_X9_footway, if_pos h_1, if_pos h_2, if_neg h_4, if_neg h_6, if_pos h_20, if_pos h_21, if_neg h_29, if_neg h_31]; dsimp only; exact ⟨⟨hS_3.1, D_30⟩, rfl, rfl⟩)
                · refine wp_run [(.iconst (-1), 1)] (pc' := 117) (L' := [(4, .inl (.int (xAI (sFI h 1043 0 0) 41 0 ((10 * a) + b).toNatClampNeg))), (0, .inr (10, some 0)), (1, .inl (.int a)), (2, .inl (.int b)), (3, .inl (.int mi))]) (st' := [.inl (.int (-1))]) ⟨dX9_footway_116, trivial⟩ rfl rfl ?_
                  refine wx_goto (tgt := 122) dX9_footway_117 (by decide) ?_
                  exact wx_iret rfl rfl dX9_footway_122 (by rw [F_X9_footway, if_pos h_1, if_pos h_2, if_neg h_4, if_neg h_6, if_pos h_20, if_pos h_21, if_neg h_29, if_pos h_31]; dsimp only; exact ⟨⟨hS_3.1, D_30⟩, rfl, rfl⟩)
              · refine wp_run [(.iconst 0, 1)] (pc' := 106) (L' := [(4, .inl (.int (xAI (sFI h 1043 0 0) 41 0 ((10 * a) + b).toNatClampNeg))), (0, .inr (10, some 0)), (1, .inl (.int a)), (2, .inl (.int b)), (3, .inl (.int mi))]) (st' := [.inl (.int 0), .inl (.int ((10 * b) + a)), .inr (41, some 0)]) ⟨dX9_footway_105, trivial⟩ rfl rfl ?_
                refine wx_goto (tgt := 110) dX9_footway_106 (by decide) ?_
                refine wx_iast rfl (vin_mono (n := 100) (vin_lin (c := 10) (vin_cnt (n := 10) (D.fi (f := 1000) (by decide)) (by decide) h_2) (vin_mono (vin_cnt (n := 10) (D.fi (f := 1000) (by decide)) (by decide) h_1) (by decide)) (by decide)) (by decide)) dX9_footway_110 ?_
                have D_32 : DM (sAI (sAI (sFI h 1043 0 0) 41 0 (((10 * a) + b).toNatClampNeg) 0) 41 0 (((10 * b) + a).toNatClampNeg) 0) := D_28.put (by decide)
                refine wp_run [(.iload 4, 2)] (pc' := 113) (L' := [(4, .inl (.int (xAI (sFI h 1043 0 0) 41 0 ((10 * a) + b).toNatClampNeg))), (0, .inr (10, some 0)), (1, .inl (.int a)), (2, .inl (.int b)), (3, .inl (.int mi))]) (st' := [.inl (.int (xAI (sFI h 1043 0 0) 41 0 ((10 * a) + b).toNatClampNeg))]) ⟨dX9_footway_111, trivial⟩ rfl rfl ?_
                refine wx_if_ne (tgt := 120) dX9_footway_113 (by decide) (fun h_33 => ?_) (fun h_33 => ?_)
                · refine wp_run [(.iload 4, 2)] (pc' := 122) (L' := [(4, .inl (.int (xAI (sFI h 1043 0 0) 41 0 ((10 * a) + b).toNatClampNeg))), (0, .inr (10, some 0)), (1, .inl (.int a)), (2, .inl (.int b)), (3, .inl (.int mi))]) (st' := [.inl (.int (xAI (sFI h 1043 0 0) 41 0 ((10 * a) + b).toNatClampNeg))]) ⟨dX9_footway_120, trivial⟩ rfl rfl ?_
                  exact wx_iret rfl rfl dX9_footway_122 (by rw [F_X9_footway, if_pos h_1, if_pos h_2, if_neg h_4, if_neg h_6, if_pos h_20, if_pos h_21, if_pos h_29, if_neg h_33]; dsimp only; exact ⟨⟨hS_3.1, D_32⟩, rfl, rfl⟩)
                · refine wp_run [(.iconst (-1), 1)] (pc' := 117) (L' := [(4, .inl (.int (xAI (sFI h 1043 0 0) 41 0 ((10 * a) + b).toNatClampNeg))), (0, .inr (10, some 0)), (1, .inl (.int a)), (2, .inl (.int b)), (3, .inl (.int mi))]) (st' := [.inl (.int (-1))]) ⟨dX9_footway_116, trivial⟩ rfl rfl ?_
                  refine wx_goto (tgt := 122) dX9_footway_117 (by decide) ?_
                  exact wx_iret rfl rfl dX9_footway_122 (by rw [F_X9_footway, if_pos h_1, if_pos h_2, if_neg h_4, if_neg h_6, if_pos h_20, if_pos h_21, if_pos h_29, if_pos h_33]; dsimp only; exact ⟨⟨hS_3.1, D_32⟩, rfl, rfl⟩)
          · refine wx_staticD (M := M_X9_footway) (uc := 0) (us := 0) (As := [.inl (.int mi), .inl (.int 1), .inl (.int 120)]) (rest := []) (ok_X9_in _ _) ml_X9_128 st_X9_in (by omega) (det_to (c_X9_in (d := d - 1) (h := (sFI h 1043 0 0)) (by omega) mi 1 120) (by rw [in_no h_20]) rfl) rfl rfl (Nat.le_of_ble_eq_true rfl) dX9_footway_44 ?_
            refine wx_if_ne (tgt := 56) dX9_footway_47 (by decide) (fun h => absurd h (by decide)) (fun _ => ?_)
            refine wp_run [(.aload_n 0, 1), (.iconst 2, 1)] (pc' := 52) (L' := [(0, .inr (10, some 0)), (1, .inl (.int a)), (2, .inl (.int b)), (3, .inl (.int mi))]) (st' := [.inl (.int 2), .inr (10, some 0)]) ⟨dX9_footway_50, dX9_footway_51, trivial⟩ rfl rfl ?_
            refine wx_virtualDP (M := M_X9_footway) (uc := 0) (us := 0) (s := 10) (i := 0) (As := [.inl (.int 2)]) (rest := []) cls_10 rfl (ok_X9_fails _ _) ml_X9_142 im_X9_fails se_X9_fails (by omega) (c_fails (d := d - 1) (h := (sFI h 1043 0 0)) (by omega) (W.sr hS_3.1) 2 hS_3.2) rfl rfl (Nat.le_of_ble_eq_true rfl) dX9_footway_52 (fun hS_34 => ?_)
            exact wx_iret rfl rfl dX9_footway_55 (by rw [F_X9_footway, if_pos h_1, if_pos h_2, if_neg h_4, if_neg h_6, if_neg h_20]; dsimp only; exact ⟨⟨(hS_3.1.trans hS_34.1), hS_34.2⟩, rfl, rfl⟩)
    · refine wx_virtualD (M := M_X9_footway) (uc := 0) (us := 0) (s := 10) (i := 0) (As := [.inl (.int b)]) (rest := [.inr (10, some 0)]) cls_10 rfl (ok_X9_isStop _ _) ml_X9_146 im_X9_isStop se_X9_isStop (by omega) (det_to (c_X9_isStop (d := d - 1) (h := h) (by omega) W b D) (by rw [isStop_no h_2]) rfl) rfl rfl (Nat.le_of_ble_eq_true rfl) dX9_footway_11 ?_
      refine wx_if_eq (tgt := 21) dX9_footway_14 (by decide) (fun _ => ?_) (fun h => absurd h (by decide))
      refine wp_run [(.iconst 0, 1)] (pc' := 22) (L' := [(0, .inr (10, some 0)), (1, .inl (.int a)), (2, .inl (.int b)), (3, .inl (.int mi))]) (st' := [.inl (.int 0), .inr (10, some 0)]) ⟨dX9_footway_21, trivial⟩ rfl rfl ?_
      refine wx_virtualDP (M := M_X9_footway) (uc := 0) (us := 0) (s := 10) (i := 0) (As := [.inl (.int 0)]) (rest := []) cls_10 rfl (ok_X9_asks _ _) ml_X9_138 im_X9_asks se_X9_asks (by omega) (c_asks0 (d := d - 1) (h := h) (by omega) W D) rfl rfl (Nat.le_of_ble_eq_true rfl) dX9_footway_22 (fun hS_35 => ?_)
      refine wx_if_ne (tgt := 30) dX9_footway_25 (by decide) (fun h => absurd h (by decide)) (fun _ => ?_)
      refine wp_run [(.iconst 0, 1)] (pc' := 29) (L' := [(0, .inr (10, some 0)), (1, .inl (.int a)), (2, .inl (.int b)), (3, .inl (.int mi))]) (st' := [.inl (.int 0)]) ⟨dX9_footway_28, trivial⟩ rfl rfl ?_
      exact wx_iret rfl rfl dX9_footway_29 (by rw [F_X9_footway, if_pos h_1, if_neg h_2]; dsimp only; exact ⟨⟨hS_35.1, hS_35.2⟩, rfl, rfl⟩)
  · refine wx_virtualD (M := M_X9_footway) (uc := 0) (us := 0) (s := 10) (i := 0) (As := [.inl (.int a)]) (rest := [.inr (10, some 0)]) cls_10 rfl (ok_X9_isStop _ _) ml_X9_146 im_X9_isStop se_X9_isStop (by omega) (det_to (c_X9_isStop (d := d - 1) (h := h) (by omega) W a D) (by rw [isStop_no h_1]) rfl) rfl rfl (Nat.le_of_ble_eq_true rfl) dX9_footway_3 ?_
    refine wx_if_eq (tgt := 21) dX9_footway_6 (by decide) (fun _ => ?_) (fun h => absurd h (by decide))
    refine wp_run [(.iconst 0, 1)] (pc' := 22) (L' := [(0, .inr (10, some 0)), (1, .inl (.int a)), (2, .inl (.int b)), (3, .inl (.int mi))]) (st' := [.inl (.int 0), .inr (10, some 0)]) ⟨dX9_footway_21, trivial⟩ rfl rfl ?_
    refine wx_virtualDP (M := M_X9_footway) (uc := 0) (us := 0) (s := 10) (i := 0) (As := [.inl (.int 0)]) (rest := []) cls_10 rfl (ok_X9_asks _ _) ml_X9_138 im_X9_asks se_X9_asks (by omega) (c_asks0 (d := d - 1) (h := h) (by omega) W D) rfl rfl (Nat.le_of_ble_eq_true rfl) dX9_footway_22 (fun hS_36 => ?_)
    refine wx_if_ne (tgt := 30) dX9_footway_25 (by decide) (fun h => absurd h (by decide)) (fun _ => ?_)
    refine wp_run [(.iconst 0, 1)] (pc' := 29) (L' := [(0, .inr (10, some 0)), (1, .inl (.int a)), (2, .inl (.int b)), (3, .inl (.int mi))]) (st' := [.inl (.int 0)]) ⟨dX9_footway_28, trivial⟩ rfl rfl ?_
    exact wx_iret rfl rfl dX9_footway_29 (by rw [F_X9_footway, if_neg h_1]; dsimp only; exact ⟨⟨hS_36.1, hS_36.2⟩, rfl, rfl⟩)
