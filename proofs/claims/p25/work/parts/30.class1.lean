def F_X8_firstDayFor (x : Int32) : Int32 := (if 0 < ((x / 1440) - 1) then ((x / 1440) - 1) else 0)
set_option maxRecDepth 20000 in
theorem c_X8_firstDayFor {g : GT} {d : Nat} (hd : 1 ≤ d) {h : Hp} (x : Int32)  : Ctr g M_X8_firstDayFor d 0 0 [.inl (.int x)] h (cy_det (.inl (some (.inl (.int (F_X8_firstDayFor x))))) h) := by
  refine cy_body rfl rfl (by decide) (Nat.le_of_ble_eq_true rfl) ?_
  refine wp_run [(.iconst 0, 1), (.iload_n 0, 1), (.sipush 1440, 3)] (pc' := 5) (L' := [(0, .inl (.int x))]) (st' := [.inl (.int 1440), .inl (.int x), .inl (.int 0)]) ⟨dX8_firstDayFor_0, dX8_firstDayFor_1, dX8_firstDayFor_2, trivial⟩ rfl rfl ?_
  refine wx_idiv (by decide) dX8_firstDayFor_5 ?_
  refine wp_run [(.iconst 1, 1), (.isub, 1)] (pc' := 8) (L' := [(0, .inl (.int x))]) (st' := [.inl (.int ((x / 1440) - 1)), .inl (.int 0)]) ⟨dX8_firstDayFor_6, dX8_firstDayFor_7, trivial⟩ rfl rfl ?_
  refine wx_max ml_X8_292 max_st math_ini max_code (by omega) (Nat.le_of_ble_eq_true rfl) dX8_firstDayFor_8 ?_
  exact wx_iret rfl rfl dX8_firstDayFor_11 (by rw [F_X8_firstDayFor]; exact ⟨rfl, rfl⟩)
def F_X8_lastDayFor (x : Int32) : Int32 := (if ((x / 1440) + 1) < 99 then ((x / 1440) + 1) else 99)
set_option maxRecDepth 20000 in
theorem c_X8_lastDayFor {g : GT} {d : Nat} (hd : 1 ≤ d) {h : Hp} (x : Int32)  : Ctr g M_X8_lastDayFor d 0 0 [.inl (.int x)] h (cy_det (.inl (some (.inl (.int (F_X8_lastDayFor x))))) h) := by
  refine cy_body rfl rfl (by decide) (Nat.le_of_ble_eq_true rfl) ?_
  refine wp_run [(.bipush 99, 2), (.iload_n 0, 1), (.sipush 1440, 3)] (pc' := 6) (L' := [(0, .inl (.int x))]) (st' := [.inl (.int 1440), .inl (.int x), .inl (.int 99)]) ⟨dX8_lastDayFor_0, dX8_lastDayFor_2, dX8_lastDayFor_3, trivial⟩ rfl rfl ?_
  refine wx_idiv (by decide) dX8_lastDayFor_6 ?_
  refine wp_run [(.iconst 1, 1), (.iadd, 1)] (pc' := 9) (L' := [(0, .inl (.int x))]) (st' := [.inl (.int ((x / 1440) + 1)), .inl (.int 99)]) ⟨dX8_lastDayFor_7, dX8_lastDayFor_8, trivial⟩ rfl rfl ?_
  refine wx_min ml_X8_297 min_st math_ini min_code (by omega) (Nat.le_of_ble_eq_true rfl) dX8_lastDayFor_9 ?_
  exact wx_iret rfl rfl dX8_lastDayFor_12 (by rw [F_X8_lastDayFor]; exact ⟨rfl, rfl⟩)
def F_X8_timeOrNone (x : Int32) : Int32 := (if 1000000000 ≤ x then (-1) else x)
set_option maxRecDepth 20000 in
theorem c_X8_timeOrNone {g : GT} {d : Nat} (hd : 1 ≤ d) {h : Hp} (x : Int32)  : Ctr g M_X8_timeOrNone d 0 0 [.inl (.int x)] h (cy_det (.inl (some (.inl (.int (F_X8_timeOrNone x))))) h) := by
  refine cy_body rfl rfl (by decide) (Nat.le_of_ble_eq_true rfl) ?_
  refine wp_run [(.iload_n 0, 1)] (pc' := 1) (L' := [(0, .inl (.int x))]) (st' := [.inl (.int x)]) ⟨dX8_timeOrNone_0, trivial⟩ rfl rfl ?_
  refine wx_ldc kc_X8_174 dX8_timeOrNone_1 ?_
  refine wx_icmp_ge (tgt := 10) dX8_timeOrNone_3 (by decide) (fun h_1 => ?_) (fun h_1 => ?_)
  · refine wp_run [(.iconst (-1), 1)] (pc' := 11) (L' := [(0, .inl (.int x))]) (st' := [.inl (.int (-1))]) ⟨dX8_timeOrNone_10, trivial⟩ rfl rfl ?_
    exact wx_iret rfl rfl dX8_timeOrNone_11 (by rw [F_X8_timeOrNone, if_pos h_1]; exact ⟨rfl, rfl⟩)
  · refine wp_run [(.iload_n 0, 1)] (pc' := 7) (L' := [(0, .inl (.int x))]) (st' := [.inl (.int x)]) ⟨dX8_timeOrNone_6, trivial⟩ rfl rfl ?_
    refine wx_goto (tgt := 11) dX8_timeOrNone_7 (by decide) ?_
    exact wx_iret rfl rfl dX8_timeOrNone_11 (by rw [F_X8_timeOrNone, if_neg h_1]; exact ⟨rfl, rfl⟩)
def F_X8_needRange (x : Int32) (lo : Int32) (hi : Int32) : Rs := (if x < lo then .inr cy_e1 else (if x ≤ hi then .inl none else .inr cy_e1))
set_option maxRecDepth 20000 in
theorem c_X8_needRange {g : GT} {d : Nat} (hd : 6 ≤ d) {h : Hp} (x : Int32) (lo : Int32) (hi : Int32)  : Ctr g M_X8_needRange d 1 6 [.inl (.int x), .inl (.int lo), .inl (.int hi)] h (cy_det (F_X8_needRange x lo hi) h) := by
  refine cy_body rfl rfl (by decide) (Nat.le_of_ble_eq_true rfl) ?_
  refine wp_run [(.iload_n 0, 1), (.iload_n 1, 1)] (pc' := 2) (L' := [(0, .inl (.int x)), (1, .inl (.int lo)), (2, .inl (.int hi))]) (st' := [.inl (.int lo), .inl (.int x)]) ⟨dX8_needRange_0, dX8_needRange_1, trivial⟩ rfl rfl ?_
  refine wx_icmp_lt (tgt := 10) dX8_needRange_2 (by decide) (fun h_1 => ?_) (fun h_1 => ?_)
  · exact wx_throwS (text := "out of range") (uc := 0) (us := 0) rfl rfl rfl (by omega) (by decide) exk_1 exi_1 (by decide) exa_1 (Nat.le_of_ble_eq_true rfl) dX8_needRange_10 dX8_needRange_13 dX8_needRange_14 dX8_needRange_16 dX8_needRange_19 (by rw [F_X8_needRange, if_pos h_1]; exact ⟨rfl, rfl⟩)
  · refine wp_run [(.iload_n 0, 1), (.iload_n 2, 1)] (pc' := 7) (L' := [(0, .inl (.int x)), (1, .inl (.int lo)), (2, .inl (.int hi))]) (st' := [.inl (.int hi), .inl (.int x)]) ⟨dX8_needRange_5, dX8_needRange_6, trivial⟩ rfl rfl ?_
    refine wx_icmp_le (tgt := 20) dX8_needRange_7 (by decide) (fun h_2 => ?_) (fun h_2 => ?_)
    · exact wx_vret rfl rfl dX8_needRange_20 (by rw [F_X8_needRange, if_neg h_1, if_pos h_2]; exact ⟨rfl, rfl⟩)
    · exact wx_throwS (text := "out of range") (uc := 0) (us := 0) rfl rfl rfl (by omega) (by decide) exk_1 exi_1 (by decide) exa_1 (Nat.le_of_ble_eq_true rfl) dX8_needRange_10 dX8_needRange_13 dX8_needRange_14 dX8_needRange_16 dX8_needRange_19 (by rw [F_X8_needRange, if_neg h_1, if_neg h_2]; exact ⟨rfl, rfl⟩)
def F_X8_needFirm (x : Int32) : Rs := (if x < 0 then .inr cy_e3 else (if x < 3 then .inl none else .inr cy_e3))
set_option maxRecDepth 20000 in
theorem c_X8_needFirm {g : GT} {d : Nat} (hd : 6 ≤ d) {h : Hp} (x : Int32)  : Ctr g M_X8_needFirm d 1 6 [.inl (.int x)] h (cy_det (F_X8_needFirm x) h) := by
  refine cy_body rfl rfl (by decide) (Nat.le_of_ble_eq_true rfl) ?_
  refine wp_run [(.iload_n 0, 1)] (pc' := 1) (L' := [(0, .inl (.int x))]) (st' := [.inl (.int x)]) ⟨dX8_needFirm_0, trivial⟩ rfl rfl ?_
  refine wx_if_lt (tgt := 9) dX8_needFirm_1 (by decide) (fun h_1 => ?_) (fun h_1 => ?_)
  · exact wx_throwW (text := "no such firm") (uc := 0) (us := 0) rfl rfl rfl (by omega) (by decide) exk_3 exi_3 (by decide) exa_3 (Nat.le_of_ble_eq_true rfl) dX8_needFirm_9 dX8_needFirm_12 dX8_needFirm_13 dX8_needFirm_16 dX8_needFirm_19 (by rw [F_X8_needFirm, if_pos h_1]; exact ⟨rfl, rfl⟩)
  · refine wp_run [(.iload_n 0, 1), (.iconst 3, 1)] (pc' := 6) (L' := [(0, .inl (.int x))]) (st' := [.inl (.int 3), .inl (.int x)]) ⟨dX8_needFirm_4, dX8_needFirm_5, trivial⟩ rfl rfl ?_
    refine wx_icmp_lt (tgt := 20) dX8_needFirm_6 (by decide) (fun h_2 => ?_) (fun h_2 => ?_)
    · exact wx_vret rfl rfl dX8_needFirm_20 (by rw [F_X8_needFirm, if_neg h_1, if_pos h_2]; exact ⟨rfl, rfl⟩)
    · exact wx_throwW (text := "no such firm") (uc := 0) (us := 0) rfl rfl rfl (by omega) (by decide) exk_3 exi_3 (by decide) exa_3 (Nat.le_of_ble_eq_true rfl) dX8_needFirm_9 dX8_needFirm_12 dX8_needFirm_13 dX8_needFirm_16 dX8_needFirm_19 (by rw [F_X8_needFirm, if_neg h_1, if_neg h_2]; exact ⟨rfl, rfl⟩)
def F_X8_needStop (h : Hp) (x : Int32) : Rs := (if x < 0 then .inr cy_e3 else (if x < (xFI h 403 0) then .inl none else .inr cy_e3))
set_option maxRecDepth 20000 in
theorem c_X8_needStop {g : GT} {d : Nat} (hd : 6 ≤ d) {h : Hp} (W : CW h) (x : Int32)  : Ctr g M_X8_needStop d 1 6 [.inr (9, some 0), .inl (.int x)] h (cy_det (F_X8_needStop h x) h) := by
  refine cy_body rfl rfl (by decide) (Nat.le_of_ble_eq_true rfl) ?_
  refine wp_run [(.iload_n 1, 1)] (pc' := 1) (L' := [(0, .inr (9, some 0)), (1, .inl (.int x))]) (st' := [.inl (.int x)]) ⟨dX8_needStop_0, trivial⟩ rfl rfl ?_
  refine wx_if_lt (tgt := 15) dX8_needStop_1 (by decide) (fun h_1 => ?_) (fun h_1 => ?_)
  · exact wx_throwW (text := "no such stop") (uc := 0) (us := 0) rfl rfl rfl (by omega) (by decide) exk_3 exi_3 (by decide) exa_3 (Nat.le_of_ble_eq_true rfl) dX8_needStop_15 dX8_needStop_18 dX8_needStop_19 dX8_needStop_22 dX8_needStop_25 (by rw [F_X8_needStop, if_pos h_1]; exact ⟨rfl, rfl⟩)
  · refine wp_run [(.iload_n 1, 1), (.aload_n 0, 1)] (pc' := 6) (L' := [(0, .inr (9, some 0)), (1, .inl (.int x))]) (st' := [.inr (9, some 0), .inl (.int x)]) ⟨dX8_needStop_4, dX8_needStop_5, trivial⟩ rfl rfl ?_
    refine wx_getR cls_9 (k := 0) (f := 900) (t := 4) (o := some 0) (by decide) rfl rfl fl_X8_10 (W.fr (f := 900) (by decide)) dX8_needStop_6 ?_
    refine wx_getI cls_4 (k := 3) (f := 403) (by decide) rfl rfl fl_X8_54 dX8_needStop_9 ?_
    refine wx_icmp_lt (tgt := 26) dX8_needStop_12 (by decide) (fun h_2 => ?_) (fun h_2 => ?_)
    · exact wx_vret rfl rfl dX8_needStop_26 (by rw [F_X8_needStop, if_neg h_1, if_pos h_2]; exact ⟨rfl, rfl⟩)
    · exact wx_throwW (text := "no such stop") (uc := 0) (us := 0) rfl rfl rfl (by omega) (by decide) exk_3 exi_3 (by decide) exa_3 (Nat.le_of_ble_eq_true rfl) dX8_needStop_15 dX8_needStop_18 dX8_needStop_19 dX8_needStop_22 dX8_needStop_25 (by rw [F_X8_needStop, if_neg h_1, if_neg h_2]; exact ⟨rfl, rfl⟩)
def F_X7_stopAt (h : Hp) (t : Nat) (p : Int32) : Int32 := (F_at h 28 t p)
set_option maxRecDepth 20000 in
theorem c_X7_stopAt {g : GT} {d : Nat} (hd : 2 ≤ d) {h : Hp} (W : CW h) {t : Nat} (ht : t < xLS h 11) (p : Int32)  : Ctr g M_X7_stopAt d 0 0 [.inr (8, some t), .inl (.int p)] h (cy_det (.inl (some (.inl (.int (F_X7_stopAt h t p))))) h) := by
  refine cy_body rfl rfl (by decide) (Nat.le_of_ble_eq_true rfl) ?_
  refine wp_run [(.aload_n 0, 1)] (pc' := 1) (L' := [(0, .inr (8, some t)), (1, .inl (.int p))]) (st' := [.inr (8, some t)]) ⟨dX7_stopAt_0, trivial⟩ rfl rfl ?_
  refine wx_getR cls_8 (k := 4) (f := 804) (t := 28) (o := some t) (by decide) rfl rfl fl_X7_9 (W.tfr (f := 804) ht (by decide)) dX7_stopAt_1 ?_
  refine wp_run [(.iload_n 1, 1)] (pc' := 5) (L' := [(0, .inr (8, some t)), (1, .inl (.int p))]) (st' := [.inl (.int p), .inr (28, some t)]) ⟨dX7_stopAt_4, trivial⟩ rfl rfl ?_
  refine wx_staticND (M := M_X7_stopAt) (uc := 0) (us := 0) (As := [.inr (28, some t), .inl (.int p)]) (rest := []) (ok_X8_at _ _) ml_X7_51 st_X8_at (by omega) (c_X8_at (d := d - 1) (by omega) (s := 28) (i := t) (Or.inl rfl) (Nat.le_of_ble_eq_true rfl) p) rfl rfl (Nat.le_of_ble_eq_true rfl) dX7_stopAt_5 ?_
  exact wx_iret rfl rfl dX7_stopAt_8 (by rw [F_X7_stopAt]; exact ⟨rfl, rfl⟩)
def F_X7_reaches (h : Hp) (t : Nat) (dy : Int32) (p : Int32) : Int32 := (((dy * 1440) + (F_at h 29 t p)) + (F_at h 32 t dy))
set_option maxRecDepth 20000 in
theorem c_X7_reaches {g : GT} {d : Nat} (hd : 2 ≤ d) {h : Hp} (W : CW h) {t : Nat} (ht : t < xLS h 11) (dy : Int32) (p : Int32)  : Ctr g M_X7_reaches d 0 0 [.inr (8, some t), .inl (.int dy), .inl (.int p)] h (cy_det (.inl (some (.inl (.int (F_X7_reaches h t dy p))))) h) := by
  refine cy_body rfl rfl (by decide) (Nat.le_of_ble_eq_true rfl) ?_
  refine wp_run [(.iload_n 1, 1), (.sipush 1440, 3), (.imul, 1), (.aload_n 0, 1)] (pc' := 6) (L' := [(0, .inr (8, some t)), (1, .inl (.int dy)), (2, .inl (.int p))]) (st' := [.inr (8, some t), .inl (.int (dy * 1440))]) ⟨dX7_reaches_0, dX7_reaches_1, dX7_reaches_4, dX7_reaches_5, trivial⟩ rfl rfl ?_
  refine wx_getR cls_8 (k := 5) (f := 805) (t := 29) (o := some t) (by decide) rfl rfl fl_X7_15 (W.tfr (f := 805) ht (by decide)) dX7_reaches_6 ?_
  refine wp_run [(.iload_n 2, 1)] (pc' := 10) (L' := [(0, .inr (8, some t)), (1, .inl (.int dy)), (2, .inl (.int p))]) (st' := [.inl (.int p), .inr (29, some t), .inl (.int (dy * 1440))]) ⟨dX7_reaches_9, trivial⟩ rfl rfl ?_
  refine wx_staticND (M := M_X7_reaches) (uc := 0) (us := 0) (As := [.inr (29, some t), .inl (.int p)]) (rest := [.inl (.int (dy * 1440))]) (ok_X8_at _ _) ml_X7_51 st_X8_at (by omega) (c_X8_at (d := d - 1) (by omega) (s := 29) (i := t) (Or.inl rfl) (Nat.le_of_ble_eq_true rfl) p) rfl rfl (Nat.le_of_ble_eq_true rfl) dX7_reaches_10 ?_
  refine wp_run [(.iadd, 1), (.aload_n 0, 1)] (pc' := 15) (L' := [(0, .inr (8, some t)), (1, .inl (.int dy)), (2, .inl (.int p))]) (st' := [.inr (8, some t), .inl (.int ((dy * 1440) + (F_at h 29 t p)))]) ⟨dX7_reaches_13, dX7_reaches_14, trivial⟩ rfl rfl ?_
  refine wx_getR cls_8 (k := 8) (f := 808) (t := 32) (o := some t) (by decide) rfl rfl fl_X7_25 (W.tfr (f := 808) ht (by decide)) dX7_reaches_15 ?_
  refine wp_run [(.iload_n 1, 1)] (pc' := 19) (L' := [(0, .inr (8, some t)), (1, .inl (.int dy)), (2, .inl (.int p))]) (st' := [.inl (.int dy), .inr (32, some t), .inl (.int ((dy * 1440) + (F_at h 29 t p)))]) ⟨dX7_reaches_18, trivial⟩ rfl rfl ?_
  refine wx_staticND (M := M_X7_reaches) (uc := 0) (us := 0) (As := [.inr (32, some t), .inl (.int dy)]) (rest := [.inl (.int ((dy * 1440) + (F_at h 29 t p)))]) (ok_X8_at _ _) ml_X7_51 st_X8_at (by omega) (c_X8_at (d := d - 1) (by omega) (s := 32) (i := t) (Or.inl rfl) (Nat.le_of_ble_eq_true rfl) dy) rfl rfl (Nat.le_of_ble_eq_true rfl) dX7_reaches_19 ?_
  refine wp_run [(.iadd, 1)] (pc' := 23) (L' := [(0, .inr (8, some t)), (1, .inl (.int dy)), (2, .inl (.int p))]) (st' := [.inl (.int (((dy * 1440) + (F_at h 29 t p)) + (F_at h 32 t dy)))]) ⟨dX7_reaches_22, trivial⟩ rfl rfl ?_
  exact wx_iret rfl rfl dX7_reaches_23 (by rw [F_X7_reaches]; exact ⟨rfl, rfl⟩)
def F_X7_leaves (h : Hp) (t : Nat) (dy : Int32) (p : Int32) : Int32 := (((dy * 1440) + (F_at h 30 t p)) + (F_at h 32 t dy))
set_option maxRecDepth 20000 in
theorem c_X7_leaves {g : GT} {d : Nat} (hd : 2 ≤ d) {h : Hp} (W : CW h) {t : Nat} (ht : t < xLS h 11) (dy : Int32) (p : Int32)  : Ctr g M_X7_leaves d 0 0 [.inr (8, some t), .inl (.int dy), .inl (.int p)] h (cy_det (.inl (some (.inl (.int (F_X7_leaves h t dy p))))) h) := by
  refine cy_body rfl rfl (by decide) (Nat.le_of_ble_eq_true rfl) ?_
  refine wp_run [(.iload_n 1, 1), (.sipush 1440, 3), (.imul, 1), (.aload_n 0, 1)] (pc' := 6) (L' := [(0, .inr (8, some t)), (1, .inl (.int dy)), (2, .inl (.int p))]) (st' := [.inr (8, some t), .inl (.int (dy * 1440))]) ⟨dX7_leaves_0, dX7_leaves_1, dX7_leaves_4, dX7_leaves_5, trivial⟩ rfl rfl ?_
  refine wx_getR cls_8 (k := 6) (f := 806) (t := 30) (o := some t) (by decide) rfl rfl fl_X7_18 (W.tfr (f := 806) ht (by decide)) dX7_leaves_6 ?_
  refine wp_run [(.iload_n 2, 1)] (pc' := 10) (L' := [(0, .inr (8, some t)), (1, .inl (.int dy)), (2, .inl (.int p))]) (st' := [.inl (.int p), .inr (30, some t), .inl (.int (dy * 1440))]) ⟨dX7_leaves_9, trivial⟩ rfl rfl ?_
  refine wx_staticND (M := M_X7_leaves) (uc := 0) (us := 0) (As := [.inr (30, some t), .inl (.int p)]) (rest := [.inl (.int (dy * 1440))]) (ok_X8_at _ _) ml_X7_51 st_X8_at (by omega) (c_X8_at (d := d - 1) (by omega) (s := 30) (i := t) (Or.inl rfl) (Nat.le_of_ble_eq_true rfl) p) rfl rfl (Nat.le_of_ble_eq_true rfl) dX7_leaves_10 ?_
  refine wp_run [(.iadd, 1), (.aload_n 0, 1)] (pc' := 15) (L' := [(0, .inr (8, some t)), (1, .inl (.int dy)), (2, .inl (.int p))]) (st' := [.inr (8, some t), .inl (.int ((dy * 1440) + (F_at h 30 t p)))]) ⟨dX7_leaves_13, dX7_leaves_14, trivial⟩ rfl rfl ?_
  refine wx_getR cls_8 (k := 8) (f := 808) (t := 32) (o := some t) (by decide) rfl rfl fl_X7_25 (W.tfr (f := 808) ht (by decide)) dX7_leaves_15 ?_
  refine wp_run [(.iload_n 1, 1)] (pc' := 19) (L' := [(0, .inr (8, some t)), (1, .inl (.int dy)), (2, .inl (.int p))]) (st' := [.inl (.int dy), .inr (32, some t), .inl (.int ((dy * 1440) + (F_at h 30 t p)))]) ⟨dX7_leaves_18, trivial⟩ rfl rfl ?_
  refine wx_staticND (M := M_X7_leaves) (uc := 0) (us := 0) (As := [.inr (32, some t), .inl (.int dy)]) (rest := [.inl (.int ((dy * 1440) + (F_at h 30 t p)))]) (ok_X8_at _ _) ml_X7_51 st_X8_at (by omega) (c_X8_at (d := d - 1) (by omega) (s := 32) (i := t) (Or.inl rfl) (Nat.le_of_ble_eq_true rfl) dy) rfl rfl (Nat.le_of_ble_eq_true rfl) dX7_leaves_19 ?_
  refine wp_run [(.iadd, 1)] (pc' := 23) (L' := [(0, .inr (8, some t)), (1, .inl (.int dy)), (2, .inl (.int p))]) (st' := [.inl (.int (((dy * 1440) + (F_at h 30 t p)) + (F_at h 32 t dy)))]) ⟨dX7_leaves_22, trivial⟩ rfl rfl ?_
  exact wx_iret rfl rfl dX7_leaves_23 (by rw [F_X7_leaves]; exact ⟨rfl, rfl⟩)
def F_X7_isThere (h : Hp) (t : Nat) (dy : Int32) : Int32 := (if dy < 0 then 0 else (if 100 ≤ dy then 0 else (if (xAI h 31 t dy.toNatClampNeg) = 0 then 0 else 1)))
set_option maxRecDepth 20000 in
theorem c_X7_isThere {g : GT} {d : Nat} (hd : 1 ≤ d) {h : Hp} (W : CW h) {t : Nat} (ht : t < xLS h 11) (dy : Int32)  : Ctr g M_X7_isThere d 0 0 [.inr (8, some t), .inl (.int dy)] h (cy_det (.inl (some (.inl (.int (F_X7_isThere h t dy))))) h) := by
  refine cy_body rfl rfl (by decide) (Nat.le_of_ble_eq_true rfl) ?_
  refine wp_run [(.iload_n 1, 1)] (pc' := 1) (L' := [(0, .inr (8, some t)), (1, .inl (.int dy))]) (st' := [.inl (.int dy)]) ⟨dX7_isThere_0, trivial⟩ rfl rfl ?_
  refine wx_if_lt (tgt := 26) dX7_isThere_1 (by decide) (fun h_1 => ?_) (fun h_1 => ?_)
  · refine wp_run [(.iconst 0, 1)] (pc' := 27) (L' := [(0, .inr (8, some t)), (1, .inl (.int dy))]) (st' := [.inl (.int 0)]) ⟨dX7_isThere_26, trivial⟩ rfl rfl ?_
    exact wx_zret rfl rfl rfl dX7_isThere_27 (by rw [F_X7_isThere, if_pos h_1]; exact ⟨rfl, rfl⟩)
  · refine wp_run [(.iload_n 1, 1), (.aload_n 0, 1)] (pc' := 6) (L' := [(0, .inr (8, some t)), (1, .inl (.int dy))]) (st' := [.inr (8, some t), .inl (.int dy)]) ⟨dX7_isThere_4, dX7_isThere_5, trivial⟩ rfl rfl ?_
    refine wx_getR cls_8 (k := 7) (f := 807) (t := 31) (o := some t) (by decide) rfl rfl fl_X7_21 (W.tfr (f := 807) ht (by decide)) dX7_isThere_6 ?_
    refine wx_alen (v := 100) (Or.inr (Or.inl rfl)) rfl dX7_isThere_9 ?_
    refine wx_icmp_ge (tgt := 26) dX7_isThere_10 (by decide) (fun h_2 => ?_) (fun h_2 => ?_)
    · refine wp_run [(.iconst 0, 1)] (pc' := 27) (L' := [(0, .inr (8, some t)), (1, .inl (.int dy))]) (st' := [.inl (.int 0)]) ⟨dX7_isThere_26, trivial⟩ rfl rfl ?_
      exact wx_zret rfl rfl rfl dX7_isThere_27 (by rw [F_X7_isThere, if_neg h_1, if_pos h_2]; exact ⟨rfl, rfl⟩)
    · refine wp_run [(.aload_n 0, 1)] (pc' := 14) (L' := [(0, .inr (8, some t)), (1, .inl (.int dy))]) (st' := [.inr (8, some t)]) ⟨dX7_isThere_13, trivial⟩ rfl rfl ?_
      refine wx_getR cls_8 (k := 7) (f := 807) (t := 31) (o := some t) (by decide) rfl rfl fl_X7_21 (W.tfr (f := 807) ht (by decide)) dX7_isThere_14 ?_
      refine wp_run [(.iload_n 1, 1)] (pc' := 18) (L' := [(0, .inr (8, some t)), (1, .inl (.int dy))]) (st' := [.inl (.int dy), .inr (31, some t)]) ⟨dX7_isThere_17, trivial⟩ rfl rfl ?_
      refine wx_zald rfl (cy_inr (n := 100) (by decide) h_1 h_2) dX7_isThere_18 ?_
      refine wx_if_eq (tgt := 26) dX7_isThere_19 (by decide) (fun h_3 => ?_) (fun h_3 => ?_)
      · refine wp_run [(.iconst 0, 1)] (pc' := 27) (L' := [(0, .inr (8, some t)), (1, .inl (.int dy))]) (st' := [.inl (.int 0)]) ⟨dX7_isThere_26, trivial⟩ rfl rfl ?_
        exact wx_zret rfl rfl rfl dX7_isThere_27 (by rw [F_X7_isThere, if_neg h_1, if_neg h_2, if_pos h_3]; exact ⟨rfl, rfl⟩)
      · refine wp_run [(.iconst 1, 1)] (pc' := 23) (L' := [(0, .inr (8, some t)), (1, .inl (.int dy))]) (st' := [.inl (.int 1)]) ⟨dX7_isThere_22, trivial⟩ rfl rfl ?_
        refine wx_goto (tgt := 27) dX7_isThere_23 (by decide) ?_
        exact wx_zret rfl rfl rfl dX7_isThere_27 (by rw [F_X7_isThere, if_neg h_1, if_neg h_2, if_neg h_3]; exact ⟨rfl, rfl⟩)
def F_X7_setThere (h : Hp) (t : Nat) (dy : Int32) (v : Int32) : Hp := (if dy < 0 then h else (if 100 ≤ dy then h else sAI h 31 t dy.toNatClampNeg v))
set_option maxRecDepth 20000 in
theorem c_X7_setThere {g : GT} {d : Nat} (hd : 1 ≤ d) {h : Hp} (W : CW h) {t : Nat} (ht : t < xLS h 11) (dy : Int32) (v : Int32) (hv : narrow .boolean (.int v) = .int v)  : Ctr g M_X7_setThere d 0 0 [.inr (8, some t), .inl (.int dy), .inl (.int v)] h (cy_detP (.inl none) (F_X7_setThere h t dy v) (SR h (F_X7_setThere h t dy v))) := by
  refine cy_body rfl rfl (by decide) (Nat.le_of_ble_eq_true rfl) ?_
  refine wp_run [(.iload_n 1, 1)] (pc' := 1) (L' := [(0, .inr (8, some t)), (1, .inl (.int dy)), (2, .inl (.int v))]) (st' := [.inl (.int dy)]) ⟨dX7_setThere_0, trivial⟩ rfl rfl ?_
  refine wx_if_lt (tgt := 20) dX7_setThere_1 (by decide) (fun h_1 => ?_) (fun h_1 => ?_)
  · exact wx_vret rfl rfl dX7_setThere_20 (by rw [F_X7_setThere, if_pos h_1]; exact ⟨SR.rf, rfl, rfl⟩)
  · refine wp_run [(.iload_n 1, 1), (.aload_n 0, 1)] (pc' := 6) (L' := [(0, .inr (8, some t)), (1, .inl (.int dy)), (2, .inl (.int v))]) (st' := [.inr (8, some t), .inl (.int dy)]) ⟨dX7_setThere_4, dX7_setThere_5, trivial⟩ rfl rfl ?_
    refine wx_getR cls_8 (k := 7) (f := 807) (t := 31) (o := some t) (by decide) rfl rfl fl_X7_21 (W.tfr (f := 807) ht (by decide)) dX7_setThere_6 ?_
    refine wx_alen (v := 100) (Or.inr (Or.inl rfl)) rfl dX7_setThere_9 ?_
    refine wx_icmp_ge (tgt := 20) dX7_setThere_10 (by decide) (fun h_2 => ?_) (fun h_2 => ?_)
    · exact wx_vret rfl rfl dX7_setThere_20 (by rw [F_X7_setThere, if_neg h_1, if_pos h_2]; exact ⟨SR.rf, rfl, rfl⟩)
    · refine wp_run [(.aload_n 0, 1)] (pc' := 14) (L' := [(0, .inr (8, some t)), (1, .inl (.int dy)), (2, .inl (.int v))]) (st' := [.inr (8, some t)]) ⟨dX7_setThere_13, trivial⟩ rfl rfl ?_
      refine wx_getR cls_8 (k := 7) (f := 807) (t := 31) (o := some t) (by decide) rfl rfl fl_X7_21 (W.tfr (f := 807) ht (by decide)) dX7_setThere_14 ?_
      refine wp_run [(.iload_n 1, 1), (.iload_n 2, 1)] (pc' := 19) (L' := [(0, .inr (8, some t)), (1, .inl (.int dy)), (2, .inl (.int v))]) (st' := [.inl (.int v), .inl (.int dy), .inr (31, some t)]) ⟨dX7_setThere_17, dX7_setThere_18, trivial⟩ rfl rfl ?_
      refine wx_zast rfl (cy_inr (n := 100) (by decide) h_1 h_2) hv dX7_setThere_19 ?_
      exact wx_vret rfl rfl dX7_setThere_20 (by rw [F_X7_setThere, if_neg h_1, if_neg h_2]; exact ⟨SR.rf, rfl, rfl⟩)
def F_X7_goes (h : Hp) (t : Nat) (dy : Int32) : Int32 := (if (F_X7_isThere h t dy) = 0 then 0 else (if (F_at h 32 t dy) = (-1) then 0 else 1))
set_option maxRecDepth 20000 in
theorem c_X7_goes {g : GT} {d : Nat} (hd : 2 ≤ d) {h : Hp} (W : CW h) {t : Nat} (ht : t < xLS h 11) (dy : Int32)  : Ctr g M_X7_goes d 0 0 [.inr (8, some t), .inl (.int dy)] h (cy_det (.inl (some (.inl (.int (F_X7_goes h t dy))))) h) := by
  refine cy_body rfl rfl (by decide) (Nat.le_of_ble_eq_true rfl) ?_
  refine wp_run [(.aload_n 0, 1), (.iload_n 1, 1)] (pc' := 2) (L' := [(0, .inr (8, some t)), (1, .inl (.int dy))]) (st' := [.inl (.int dy), .inr (8, some t)]) ⟨dX7_goes_0, dX7_goes_1, trivial⟩ rfl rfl ?_
  refine wx_virtualD (M := M_X7_goes) (uc := 0) (us := 0) (s := 8) (i := t) (As := [.inl (.int dy)]) (rest := []) cls_8 rfl (ok_X7_isThere _ _) ml_X7_55 im_X7_isThere se_X7_isThere (by omega) (c_X7_isThere (d := d - 1) (h := h) (by omega) W ht dy) rfl rfl (Nat.le_of_ble_eq_true rfl) dX7_goes_2 ?_
  refine wx_if_eq (tgt := 24) dX7_goes_5 (by decide) (fun h_1 => ?_) (fun h_1 => ?_)
  · refine wp_run [(.iconst 0, 1)] (pc' := 25) (L' := [(0, .inr (8, some t)), (1, .inl (.int dy))]) (st' := [.inl (.int 0)]) ⟨dX7_goes_24, trivial⟩ rfl rfl ?_
    exact wx_zret rfl rfl rfl dX7_goes_25 (by rw [F_X7_goes, if_pos h_1]; exact ⟨rfl, rfl⟩)
  · refine wp_run [(.aload_n 0, 1)] (pc' := 9) (L' := [(0, .inr (8, some t)), (1, .inl (.int dy))]) (st' := [.inr (8, some t)]) ⟨dX7_goes_8, trivial⟩ rfl rfl ?_
    refine wx_getR cls_8 (k := 8) (f := 808) (t := 32) (o := some t) (by decide) rfl rfl fl_X7_25 (W.tfr (f := 808) ht (by decide)) dX7_goes_9 ?_
    refine wp_run [(.iload_n 1, 1)] (pc' := 13) (L' := [(0, .inr (8, some t)), (1, .inl (.int dy))]) (st' := [.inl (.int dy), .inr (32, some t)]) ⟨dX7_goes_12, trivial⟩ rfl rfl ?_
    refine wx_staticND (M := M_X7_goes) (uc := 0) (us := 0) (As := [.inr (32, some t), .inl (.int dy)]) (rest := []) (ok_X8_at _ _) ml_X7_51 st_X8_at (by omega) (c_X8_at (d := d - 1) (by omega) (s := 32) (i := t) (Or.inl rfl) (Nat.le_of_ble_eq_true rfl) dy) rfl rfl (Nat.le_of_ble_eq_true rfl) dX7_goes_13 ?_
    refine wp_run [(.iconst (-1), 1)] (pc' := 17) (L' := [(0, .inr (8, some t)), (1, .inl (.int dy))]) (st' := [.inl (.int (-1)), .inl (.int (F_at h 32 t dy))]) ⟨dX7_goes_16, trivial⟩ rfl rfl ?_
    refine wx_icmp_eq (tgt := 24) dX7_goes_17 (by decide) (fun h_2 => ?_) (fun h_2 => ?_)
    · refine wp_run [(.iconst 0, 1)] (pc' := 25) (L' := [(0, .inr (8, some t)), (1, .inl (.int dy))]) (st' := [.inl (.int 0)]) ⟨dX7_goes_24, trivial⟩ rfl rfl ?_
      exact wx_zret rfl rfl rfl dX7_goes_25 (by rw [F_X7_goes, if_neg h_1, if_pos h_2]; exact ⟨rfl, rfl⟩)
    · refine wp_run [(.iconst 1, 1)] (pc' := 21) (L' := [(0, .inr (8, some t)), (1, .inl (.int dy))]) (st' := [.inl (.int 1)]) ⟨dX7_goes_20, trivial⟩ rfl rfl ?_
      refine wx_goto (tgt := 25) dX7_goes_21 (by decide) ?_
      exact wx_zret rfl rfl rfl dX7_goes_25 (by rw [F_X7_goes, if_neg h_1, if_neg h_2]; exact ⟨rfl, rfl⟩)
def F_X7_begin (h : Hp) (t : Nat) (s : Int32) (mi : Int32) : Hp := sFI (H_put (H_put (H_put h 28 t 0 s) 29 t 0 mi) 30 t 0 mi) 810 t 1
set_option maxRecDepth 20000 in
theorem c_X7_begin {g : GT} {d : Nat} (hd : 2 ≤ d) {h : Hp} {t : Nat} (ht : TOk h t) (s : Int32) (mi : Int32)  : Ctr g M_X7_begin d 0 0 [.inr (8, some t), .inl (.int s), .inl (.int mi)] h (cy_detP (.inl none) (F_X7_begin h t s mi) (SR h (F_X7_begin h t s mi))) := by
  refine cy_body rfl rfl (by decide) (Nat.le_of_ble_eq_true rfl) ?_
  refine wp_run [(.aload_n 0, 1)] (pc' := 1) (L' := [(0, .inr (8, some t)), (1, .inl (.int s)), (2, .inl (.int mi))]) (st' := [.inr (8, some t)]) ⟨dX7_begin_0, trivial⟩ rfl rfl ?_
  refine wx_getR cls_8 (k := 4) (f := 804) (t := 28) (o := some t) (by decide) rfl rfl fl_X7_9 (ht 804 (by decide)) dX7_begin_1 ?_
  refine wp_run [(.iconst 0, 1), (.iload_n 1, 1)] (pc' := 6) (L' := [(0, .inr (8, some t)), (1, .inl (.int s)), (2, .inl (.int mi))]) (st' := [.inl (.int s), .inl (.int 0), .inr (28, some t)]) ⟨dX7_begin_4, dX7_begin_5, trivial⟩ rfl rfl ?_
  refine wx_staticND (M := M_X7_begin) (uc := 0) (us := 0) (As := [.inr (28, some t), .inl (.int 0), .inl (.int s)]) (rest := []) (ok_X8_put _ _) ml_X7_44 st_X8_put (by omega) (c_X8_put (d := d - 1) (by omega) (s := 28) (i := t) rfl (Nat.le_of_ble_eq_true rfl) 0 s) rfl rfl (Nat.le_of_ble_eq_true rfl) dX7_begin_6 ?_
  refine wp_run [(.aload_n 0, 1)] (pc' := 10) (L' := [(0, .inr (8, some t)), (1, .inl (.int s)), (2, .inl (.int mi))]) (st' := [.inr (8, some t)]) ⟨dX7_begin_9, trivial⟩ rfl rfl ?_
  refine wx_getR cls_8 (k := 5) (f := 805) (t := 29) (o := some t) (by decide) rfl rfl fl_X7_15 (ht 805 (by decide)) dX7_begin_10 ?_
  refine wp_run [(.iconst 0, 1), (.iload_n 2, 1)] (pc' := 15) (L' := [(0, .inr (8, some t)), (1, .inl (.int s)), (2, .inl (.int mi))]) (st' := [.inl (.int mi), .inl (.int 0), .inr (29, some t)]) ⟨dX7_begin_13, dX7_begin_14, trivial⟩ rfl rfl ?_
  refine wx_staticND (M := M_X7_begin) (uc := 0) (us := 0) (As := [.inr (29, some t), .inl (.int 0), .inl (.int mi)]) (rest := []) (ok_X8_put _ _) ml_X7_44 st_X8_put (by omega) (c_X8_put (d := d - 1) (by omega) (s := 29) (i := t) rfl (Nat.le_of_ble_eq_true rfl) 0 mi) rfl rfl (Nat.le_of_ble_eq_true rfl) dX7_begin_15 ?_
  refine wp_run [(.aload_n 0, 1)] (pc' := 19) (L' := [(0, .inr (8, some t)), (1, .inl (.int s)), (2, .inl (.int mi))]) (st' := [.inr (8, some t)]) ⟨dX7_begin_18, trivial⟩ rfl rfl ?_
  refine wx_getR cls_8 (k := 6) (f := 806) (t := 30) (o := some t) (by decide) rfl rfl fl_X7_18 (ht 806 (by decide)) dX7_begin_19 ?_
  refine wp_run [(.iconst 0, 1), (.iload_n 2, 1)] (pc' := 24) (L' := [(0, .inr (8, some t)), (1, .inl (.int s)), (2, .inl (.int mi))]) (st' := [.inl (.int mi), .inl (.int 0), .inr (30, some t)]) ⟨dX7_begin_22, dX7_begin_23, trivial⟩ rfl rfl ?_
  refine wx_staticND (M := M_X7_begin) (uc := 0) (us := 0) (As := [.inr (30, some t), .inl (.int 0), .inl (.int mi)]) (rest := []) (ok_X8_put _ _) ml_X7_44 st_X8_put (by omega) (c_X8_put (d := d - 1) (by omega) (s := 30) (i := t) rfl (Nat.le_of_ble_eq_true rfl) 0 mi) rfl rfl (Nat.le_of_ble_eq_true rfl) dX7_begin_24 ?_
  refine wp_run [(.aload_n 0, 1), (.iconst 1, 1)] (pc' := 29) (L' := [(0, .inr (8, some t)), (1, .inl (.int s)), (2, .inl (.int mi))]) (st' := [.inl (.int 1), .inr (8, some t)]) ⟨dX7_begin_27, dX7_begin_28, trivial⟩ rfl rfl ?_
  refine wx_putI cls_8 (k := 10) (f := 810) (by decide) rfl rfl rfl fl_X7_48 (Or.inl rfl) dX7_begin_29 ?_
  exact wx_vret rfl rfl dX7_begin_32 (by rw [F_X7_begin]; exact ⟨SR.rf, rfl, rfl⟩)
def F_X7_goOn (h : Hp) (t : Nat) (s : Int32) (ri : Int32) (wa : Int32) : Hp := sFI (H_put (H_put (H_put h 28 t (xFI h 810 t) s) 29 t (xFI (H_put h 28 t (xFI h 810 t) s) 810 t) ((F_at h 30 t ((xFI h 810 t) - 1)) + ri)) 30 t (xFI (H_put (H_put h 28 t (xFI h 810 t) s) 29 t (xFI (H_put h 28 t (xFI h 810 t) s) 810 t) ((F_at h 30 t ((xFI h 810 t) - 1)) + ri)) 810 t) (((F_at h 30 t ((xFI h 810 t) - 1)) + ri) + wa)) 810 t ((xFI (H_put (H_put (H_put h 28 t (xFI h 810 t) s) 29 t (xFI (H_put h 28 t (xFI h 810 t) s) 810 t) ((F_at h 30 t ((xFI h 810 t) - 1)) + ri)) 30 t (xFI (H_put (H_put h 28 t (xFI h 810 t) s) 29 t (xFI (H_put h 28 t (xFI h 810 t) s) 810 t) ((F_at h 30 t ((xFI h 810 t) - 1)) + ri)) 810 t) (((F_at h 30 t ((xFI h 810 t) - 1)) + ri) + wa)) 810 t) + 1)
set_option maxRecDepth 20000 in
theorem c_X7_goOn {g : GT} {d : Nat} (hd : 2 ≤ d) {h : Hp} (W : CW h) {t : Nat} (ht : t < xLS h 11) (s : Int32) (ri : Int32) (wa : Int32)  : Ctr g M_X7_goOn d 0 0 [.inr (8, some t), .inl (.int s), .inl (.int ri), .inl (.int wa)] h (cy_detP (.inl none) (F_X7_goOn h t s ri wa) (SR h (F_X7_goOn h t s ri wa))) := by
  refine cy_body rfl rfl (by decide) (Nat.le_of_ble_eq_true rfl) ?_
  refine wp_run [(.aload_n 0, 1)] (pc' := 1) (L' := [(0, .inr (8, some t)), (1, .inl (.int s)), (2, .inl (.int ri)), (3, .inl (.int wa))]) (st' := [.inr (8, some t)]) ⟨dX7_goOn_0, trivial⟩ rfl rfl ?_
  refine wx_getR cls_8 (k := 6) (f := 806) (t := 30) (o := some t) (by decide) rfl rfl fl_X7_18 (W.tfr (f := 806) ht (by decide)) dX7_goOn_1 ?_
  refine wp_run [(.aload_n 0, 1)] (pc' := 5) (L' := [(0, .inr (8, some t)), (1, .inl (.int s)), (2, .inl (.int ri)), (3, .inl (.int wa))]) (st' := [.inr (8, some t), .inr (30, some t)]) ⟨dX7_goOn_4, trivial⟩ rfl rfl ?_
  refine wx_getI cls_8 (k := 10) (f := 810) (by decide) rfl rfl fl_X7_48 dX7_goOn_5 ?_
  refine wp_run [(.iconst 1, 1), (.isub, 1)] (pc' := 10) (L' := [(0, .inr (8, some t)), (1, .inl (.int s)), (2, .inl (.int ri)), (3, .inl (.int wa))]) (st' := [.inl (.int ((xFI h 810 t) - 1)), .inr (30, some t)]) ⟨dX7_goOn_8, dX7_goOn_9, trivial⟩ rfl rfl ?_
  refine wx_staticND (M := M_X7_goOn) (uc := 0) (us := 0) (As := [.inr (30, some t), .inl (.int ((xFI h 810 t) - 1))]) (rest := []) (ok_X8_at _ _) ml_X7_51 st_X8_at (by omega) (c_X8_at (d := d - 1) (by omega) (s := 30) (i := t) (Or.inl rfl) (Nat.le_of_ble_eq_true rfl) ((xFI h 810 t) - 1)) rfl rfl (Nat.le_of_ble_eq_true rfl) dX7_goOn_10 ?_
  refine wp_run [(.iload_n 2, 1), (.iadd, 1), (.istore 4, 2), (.aload_n 0, 1)] (pc' := 18) (L' := [(4, .inl (.int ((F_at h 30 t ((xFI h 810 t) - 1)) + ri))), (0, .inr (8, some t)), (1, .inl (.int s)), (2, .inl (.int ri)), (3, .inl (.int wa))]) (st' := [.inr (8, some t)]) ⟨dX7_goOn_13, dX7_goOn_14, dX7_goOn_15, dX7_goOn_17, trivial⟩ rfl rfl ?_
  refine wx_getR cls_8 (k := 4) (f := 804) (t := 28) (o := some t) (by decide) rfl rfl fl_X7_9 (W.tfr (f := 804) ht (by decide)) dX7_goOn_18 ?_
  refine wp_run [(.aload_n 0, 1)] (pc' := 22) (L' := [(4, .inl (.int ((F_at h 30 t ((xFI h 810 t) - 1)) + ri))), (0, .inr (8, some t)), (1, .inl (.int s)), (2, .inl (.int ri)), (3, .inl (.int wa))]) (st' := [.inr (8, some t), .inr (28, some t)]) ⟨dX7_goOn_21, trivial⟩ rfl rfl ?_
  refine wx_getI cls_8 (k := 10) (f := 810) (by decide) rfl rfl fl_X7_48 dX7_goOn_22 ?_
  refine wp_run [(.iload_n 1, 1)] (pc' := 26) (L' := [(4, .inl (.int ((F_at h 30 t ((xFI h 810 t) - 1)) + ri))), (0, .inr (8, some t)), (1, .inl (.int s)), (2, .inl (.int ri)), (3, .inl (.int wa))]) (st' := [.inl (.int s), .inl (.int (xFI h 810 t)), .inr (28, some t)]) ⟨dX7_goOn_25, trivial⟩ rfl rfl ?_
  refine wx_staticND (M := M_X7_goOn) (uc := 0) (us := 0) (As := [.inr (28, some t), .inl (.int (xFI h 810 t)), .inl (.int s)]) (rest := []) (ok_X8_put _ _) ml_X7_44 st_X8_put (by omega) (c_X8_put (d := d - 1) (by omega) (s := 28) (i := t) rfl (Nat.le_of_ble_eq_true rfl) (xFI h 810 t) s) rfl rfl (Nat.le_of_ble_eq_true rfl) dX7_goOn_26 ?_
  refine wp_run [(.aload_n 0, 1)] (pc' := 30) (L' := [(4, .inl (.int ((F_at h 30 t ((xFI h 810 t) - 1)) + ri))), (0, .inr (8, some t)), (1, .inl (.int s)), (2, .inl (.int ri)), (3, .inl (.int wa))]) (st' := [.inr (8, some t)]) ⟨dX7_goOn_29, trivial⟩ rfl rfl ?_
  refine wx_getR cls_8 (k := 5) (f := 805) (t := 29) (o := some t) (by decide) rfl rfl fl_X7_15 (W.tfr (f := 805) ht (by decide)) dX7_goOn_30 ?_
  refine wp_run [(.aload_n 0, 1)] (pc' := 34) (L' := [(4, .inl (.int ((F_at h 30 t ((xFI h 810 t) - 1)) + ri))), (0, .inr (8, some t)), (1, .inl (.int s)), (2, .inl (.int ri)), (3, .inl (.int wa))]) (st' := [.inr (8, some t), .inr (29, some t)]) ⟨dX7_goOn_33, trivial⟩ rfl rfl ?_
  refine wx_getI cls_8 (k := 10) (f := 810) (by decide) rfl rfl fl_X7_48 dX7_goOn_34 ?_
  refine wp_run [(.iload 4, 2)] (pc' := 39) (L' := [(4, .inl (.int ((F_at h 30 t ((xFI h 810 t) - 1)) + ri))), (0, .inr (8, some t)), (1, .inl (.int s)), (2, .inl (.int ri)), (3, .inl (.int wa))]) (st' := [.inl (.int ((F_at h 30 t ((xFI h 810 t) - 1)) + ri)), .inl (.int (xFI (H_put h 28 t (xFI h 810 t) s) 810 t)), .inr (29, some t)]) ⟨dX7_goOn_37, trivial⟩ rfl rfl ?_
  refine wx_staticND (M := M_X7_goOn) (uc := 0) (us := 0) (As := [.inr (29, some t), .inl (.int (xFI (H_put h 28 t (xFI h 810 t) s) 810 t)), .inl (.int ((F_at h 30 t ((xFI h 810 t) - 1)) + ri))]) (rest := []) (ok_X8_put _ _) ml_X7_44 st_X8_put (by omega) (c_X8_put (d := d - 1) (by omega) (s := 29) (i := t) rfl (Nat.le_of_ble_eq_true rfl) (xFI (H_put h 28 t (xFI h 810 t) s) 810 t) ((F_at h 30 t ((xFI h 810 t) - 1)) + ri)) rfl rfl (Nat.le_of_ble_eq_true rfl) dX7_goOn_39 ?_
  refine wp_run [(.aload_n 0, 1)] (pc' := 43) (L' := [(4, .inl (.int ((F_at h 30 t ((xFI h 810 t) - 1)) + ri))), (0, .inr (8, some t)), (1, .inl (.int s)), (2, .inl (.int ri)), (3, .inl (.int wa))]) (st' := [.inr (8, some t)]) ⟨dX7_goOn_42, trivial⟩ rfl rfl ?_
  refine wx_getR cls_8 (k := 6) (f := 806) (t := 30) (o := some t) (by decide) rfl rfl fl_X7_18 (W.tfr (f := 806) ht (by decide)) dX7_goOn_43 ?_
  refine wp_run [(.aload_n 0, 1)] (pc' := 47) (L' := [(4, .inl (.int ((F_at h 30 t ((xFI h 810 t) - 1)) + ri))), (0, .inr (8, some t)), (1, .inl (.int s)), (2, .inl (.int ri)), (3, .inl (.int wa))]) (st' := [.inr (8, some t), .inr (30, some t)]) ⟨dX7_goOn_46, trivial⟩ rfl rfl ?_
  refine wx_getI cls_8 (k := 10) (f := 810) (by decide) rfl rfl fl_X7_48 dX7_goOn_47 ?_
  refine wp_run [(.iload 4, 2), (.iload_n 3, 1), (.iadd, 1)] (pc' := 54) (L' := [(4, .inl (.int ((F_at h 30 t ((xFI h 810 t) - 1)) + ri))), (0, .inr (8, some t)), (1, .inl (.int s)), (2, .inl (.int ri)), (3, .inl (.int wa))]) (st' := [.inl (.int (((F_at h 30 t ((xFI h 810 t) - 1)) + ri) + wa)), .inl (.int (xFI (H_put (H_put h 28 t (xFI h 810 t) s) 29 t (xFI (H_put h 28 t (xFI h 810 t) s) 810 t) ((F_at h 30 t ((xFI h 810 t) - 1)) + ri)) 810 t)), .inr (30, some t)]) ⟨dX7_goOn_50, dX7_goOn_52, dX7_goOn_53, trivial⟩ rfl rfl ?_
  refine wx_staticND (M := M_X7_goOn) (uc := 0) (us := 0) (As := [.inr (30, some t), .inl (.int (xFI (H_put (H_put h 28 t (xFI h 810 t) s) 29 t (xFI (H_put h 28 t (xFI h 810 t) s) 810 t) ((F_at h 30 t ((xFI h 810 t) - 1)) + ri)) 810 t)), .inl (.int (((F_at h 30 t ((xFI h 810 t) - 1)) + ri) + wa))]) (rest := []) (ok_X8_put _ _) ml_X7_44 st_X8_put (by omega) (c_X8_put (d := d - 1) (by omega) (s := 30) (i := t) rfl (Nat.le_of_ble_eq_true rfl) (xFI (H_put (H_put h 28 t (xFI h 810 t) s) 29 t (xFI (H_put h 28 t (xFI h 810 t) s) 810 t) ((F_at h 30 t ((xFI h 810 t) - 1)) + ri)) 810 t) (((F_at h 30 t ((xFI h 810 t) - 1)) + ri) + wa)) rfl rfl (Nat.le_of_ble_eq_true rfl) dX7_goOn_54 ?_
  refine wp_run [(.aload_n 0, 1), (.dup, 1)] (pc' := 59) (L' := [(4, .inl (.int ((F_at h 30 t ((xFI h 810 t) - 1)) + ri))), (0, .inr (8, some t)), (1, .inl (.int s)), (2, .inl (.int ri)), (3, .inl (.int wa))]) (st' := [.inr (8, some t), .inr (8, some t)]) ⟨dX7_goOn_57, dX7_goOn_58, trivial⟩ rfl rfl ?_
  refine wx_getI cls_8 (k := 10) (f := 810) (by decide) rfl rfl fl_X7_48 dX7_goOn_59 ?_
  refine wp_run [(.iconst 1, 1), (.iadd, 1)] (pc' := 64) (L' := [(4, .inl (.int ((F_at h 30 t ((xFI h 810 t) - 1)) + ri))), (0, .inr (8, some t)), (1, .inl (.int s)), (2, .inl (.int ri)), (3, .inl (.int wa))]) (st' := [.inl (.int ((xFI (H_put (H_put (H_put h 28 t (xFI h 810 t) s) 29 t (xFI (H_put h 28 t (xFI h 810 t) s) 810 t) ((F_at h 30 t ((xFI h 810 t) - 1)) + ri)) 30 t (xFI (H_put (H_put h 28 t (xFI h 810 t) s) 29 t (xFI (H_put h 28 t (xFI h 810 t) s) 810 t) ((F_at h 30 t ((xFI h 810 t) - 1)) + ri)) 810 t) (((F_at h 30 t ((xFI h 810 t) - 1)) + ri) + wa)) 810 t) + 1)), .inr (8, some t)]) ⟨dX7_goOn_62, dX7_goOn_63, trivial⟩ rfl rfl ?_
  refine wx_putI cls_8 (k := 10) (f := 810) (by decide) rfl rfl rfl fl_X7_48 (Or.inl rfl) dX7_goOn_64 ?_
  exact wx_vret rfl rfl dX7_goOn_67 (by rw [F_X7_goOn]; exact ⟨SR.rf, rfl, rfl⟩)
def F_X3_addStop (h : Hp) (x : Int32) : Int32 × Hp := ((xFI h 403 0), sFI (H_put h 22 0 (xFI h 403 0) x) 403 0 ((xFI (H_put h 22 0 (xFI h 403 0) x) 403 0) + 1))
set_option maxRecDepth 20000 in
theorem c_X3_addStop {g : GT} {d : Nat} (hd : 2 ≤ d) {h : Hp} (W : CW h) (x : Int32)  : Ctr g M_X3_addStop d 0 0 [.inr (4, some 0), .inl (.int x)] h (cy_detP (.inl (some (.inl (.int (F_X3_addStop h x).1)))) (F_X3_addStop h x).2 (SR h (F_X3_addStop h x).2)) := by
  refine cy_body rfl rfl (by decide) (Nat.le_of_ble_eq_true rfl) ?_
  refine wp_run [(.aload_n 0, 1)] (pc' := 1) (L' := [(0, .inr (4, some 0)), (1, .inl (.int x))]) (st' := [.inr (4, some 0)]) ⟨dX3_addStop_0, trivial⟩ rfl rfl ?_
  refine wx_getI cls_4 (k := 3) (f := 403) (by decide) rfl rfl fl_X3_31 dX3_addStop_1 ?_
  refine wp_run [(.istore_n 2, 1), (.aload_n 0, 1)] (pc' := 6) (L' := [(2, .inl (.int (xFI h 403 0))), (0, .inr (4, some 0)), (1, .inl (.int x))]) (st' := [.inr (4, some 0)]) ⟨dX3_addStop_4, dX3_addStop_5, trivial⟩ rfl rfl ?_
  refine wx_getR cls_4 (k := 0) (f := 400) (t := 22) (o := some 0) (by decide) rfl rfl fl_X3_9 (W.fr (f := 400) (by decide)) dX3_addStop_6 ?_
  refine wp_run [(.iload_n 2, 1), (.iload_n 1, 1)] (pc' := 11) (L' := [(2, .inl (.int (xFI h 403 0))), (0, .inr (4, some 0)), (1, .inl (.int x))]) (st' := [.inl (.int x), .inl (.int (xFI h 403 0)), .inr (22, some 0)]) ⟨dX3_addStop_9, dX3_addStop_10, trivial⟩ rfl rfl ?_
  refine wx_staticND (M := M_X3_addStop) (uc := 0) (us := 0) (As := [.inr (22, some 0), .inl (.int (xFI h 403 0)), .inl (.int x)]) (rest := []) (ok_X8_put _ _) ml_X3_35 st_X8_put (by omega) (c_X8_put (d := d - 1) (by omega) (s := 22) (i := 0) rfl (Nat.le_of_ble_eq_true rfl) (xFI h 403 0) x) rfl rfl (Nat.le_of_ble_eq_true rfl) dX3_addStop_11 ?_
  refine wp_run [(.aload_n 0, 1), (.dup, 1)] (pc' := 16) (L' := [(2, .inl (.int (xFI h 403 0))), (0, .inr (4, some 0)), (1, .inl (.int x))]) (st' := [.inr (4, some 0), .inr (4, some 0)]) ⟨dX3_addStop_14, dX3_addStop_15, trivial⟩ rfl rfl ?_
  refine wx_getI cls_4 (k := 3) (f := 403) (by decide) rfl rfl fl_X3_31 dX3_addStop_16 ?_
  refine wp_run [(.iconst 1, 1), (.iadd, 1)] (pc' := 21) (L' := [(2, .inl (.int (xFI h 403 0))), (0, .inr (4, some 0)), (1, .inl (.int x))]) (st' := [.inl (.int ((xFI (H_put h 22 0 (xFI h 403 0) x) 403 0) + 1)), .inr (4, some 0)]) ⟨dX3_addStop_19, dX3_addStop_20, trivial⟩ rfl rfl ?_
  refine wx_putI cls_4 (k := 3) (f := 403) (by decide) rfl rfl rfl fl_X3_31 (Or.inl rfl) dX3_addStop_21 ?_
  refine wp_run [(.iload_n 2, 1)] (pc' := 25) (L' := [(2, .inl (.int (xFI h 403 0))), (0, .inr (4, some 0)), (1, .inl (.int x))]) (st' := [.inl (.int (xFI h 403 0))]) ⟨dX3_addStop_24, trivial⟩ rfl rfl ?_
  exact wx_iret rfl rfl dX3_addStop_25 (by rw [F_X3_addStop]; dsimp only; exact ⟨SR.rf, rfl, rfl⟩)
def F_X3_transferAt (h : Hp) (x : Int32) : Int32 := (F_at h 22 0 x)
set_option maxRecDepth 20000 in
theorem c_X3_transferAt {g : GT} {d : Nat} (hd : 2 ≤ d) {h : Hp} (W : CW h) (x : Int32)  : Ctr g M_X3_transferAt d 0 0 [.inr (4, some 0), .inl (.int x)] h (cy_det (.inl (some (.inl (.int (F_X3_transferAt h x))))) h) := by
  refine cy_body rfl rfl (by decide) (Nat.le_of_ble_eq_true rfl) ?_
  refine wp_run [(.aload_n 0, 1)] (pc' := 1) (L' := [(0, .inr (4, some 0)), (1, .inl (.int x))]) (st' := [.inr (4, some 0)]) ⟨dX3_transferAt_0, trivial⟩ rfl rfl ?_
  refine wx_getR cls_4 (k := 0) (f := 400) (t := 22) (o := some 0) (by decide) rfl rfl fl_X3_9 (W.fr (f := 400) (by decide)) dX3_transferAt_1 ?_
  refine wp_run [(.iload_n 1, 1)] (pc' := 5) (L' := [(0, .inr (4, some 0)), (1, .inl (.int x))]) (st' := [.inl (.int x), .inr (22, some 0)]) ⟨dX3_transferAt_4, trivial⟩ rfl rfl ?_
  refine wx_staticND (M := M_X3_transferAt) (uc := 0) (us := 0) (As := [.inr (22, some 0), .inl (.int x)]) (rest := []) (ok_X8_at _ _) ml_X3_39 st_X8_at (by omega) (c_X8_at (d := d - 1) (by omega) (s := 22) (i := 0) (Or.inl rfl) (Nat.le_of_ble_eq_true rfl) x) rfl rfl (Nat.le_of_ble_eq_true rfl) dX3_transferAt_5 ?_
  exact wx_iret rfl rfl dX3_transferAt_8 (by rw [F_X3_transferAt]; exact ⟨rfl, rfl⟩)
def F_X3_walk (h : Hp) (a : Int32) (b : Int32) : Int32 := (F_at h 23 0 ((a * 10) + b))
set_option maxRecDepth 20000 in
theorem c_X3_walk {g : GT} {d : Nat} (hd : 2 ≤ d) {h : Hp} (W : CW h) (a : Int32) (b : Int32)  : Ctr g M_X3_walk d 0 0 [.inr (4, some 0), .inl (.int a), .inl (.int b)] h (cy_det (.inl (some (.inl (.int (F_X3_walk h a b))))) h) := by
  refine cy_body rfl rfl (by decide) (Nat.le_of_ble_eq_true rfl) ?_
  refine wp_run [(.aload_n 0, 1)] (pc' := 1) (L' := [(0, .inr (4, some 0)), (1, .inl (.int a)), (2, .inl (.int b))]) (st' := [.inr (4, some 0)]) ⟨dX3_walk_0, trivial⟩ rfl rfl ?_
  refine wx_getR cls_4 (k := 1) (f := 401) (t := 23) (o := some 0) (by decide) rfl rfl fl_X3_15 (W.fr (f := 401) (by decide)) dX3_walk_1 ?_
  refine wp_run [(.iload_n 1, 1), (.bipush 10, 2), (.imul, 1), (.iload_n 2, 1), (.iadd, 1)] (pc' := 10) (L' := [(0, .inr (4, some 0)), (1, .inl (.int a)), (2, .inl (.int b))]) (st' := [.inl (.int ((a * 10) + b)), .inr (23, some 0)]) ⟨dX3_walk_4, dX3_walk_5, dX3_walk_7, dX3_walk_8, dX3_walk_9, trivial⟩ rfl rfl ?_
  refine wx_staticND (M := M_X3_walk) (uc := 0) (us := 0) (As := [.inr (23, some 0), .inl (.int ((a * 10) + b))]) (rest := []) (ok_X8_at _ _) ml_X3_39 st_X8_at (by omega) (c_X8_at (d := d - 1) (by omega) (s := 23) (i := 0) (Or.inl rfl) (Nat.le_of_ble_eq_true rfl) ((a * 10) + b)) rfl rfl (Nat.le_of_ble_eq_true rfl) dX3_walk_10 ?_
  exact wx_iret rfl rfl dX3_walk_13 (by rw [F_X3_walk]; exact ⟨rfl, rfl⟩)
def F_X3_setWalk (h : Hp) (a : Int32) (b : Int32) (m : Int32) : Hp := H_put (H_put h 23 0 ((a * 10) + b) m) 23 0 ((b * 10) + a) m
set_option maxRecDepth 20000 in
theorem c_X3_setWalk {g : GT} {d : Nat} (hd : 2 ≤ d) {h : Hp} (W : CW h) (a : Int32) (b : Int32) (m : Int32)  : Ctr g M_X3_setWalk d 0 0 [.inr (4, some 0), .inl (.int a), .inl (.int b), .inl (.int m)] h (cy_detP (.inl none) (F_X3_setWalk h a b m) (SR h (F_X3_setWalk h a b m))) := by
  refine cy_body rfl rfl (by decide) (Nat.le_of_ble_eq_true rfl) ?_
  refine wp_run [(.aload_n 0, 1)] (pc' := 1) (L' := [(0, .inr (4, some 0)), (1, .inl (.int a)), (2, .inl (.int b)), (3, .inl (.int m))]) (st' := [.inr (4, some 0)]) ⟨dX3_setWalk_0, trivial⟩ rfl rfl ?_
  refine wx_getR cls_4 (k := 1) (f := 401) (t := 23) (o := some 0) (by decide) rfl rfl fl_X3_15 (W.fr (f := 401) (by decide)) dX3_setWalk_1 ?_
  refine wp_run [(.iload_n 1, 1), (.bipush 10, 2), (.imul, 1), (.iload_n 2, 1), (.iadd, 1), (.iload_n 3, 1)] (pc' := 11) (L' := [(0, .inr (4, some 0)), (1, .inl (.int a)), (2, .inl (.int b)), (3, .inl (.int m))]) (st' := [.inl (.int m), .inl (.int ((a * 10) + b)), .inr (23, some 0)]) ⟨dX3_setWalk_4, dX3_setWalk_5, dX3_setWalk_7, dX3_setWalk_8, dX3_setWalk_9, dX3_setWalk_10, trivial⟩ rfl rfl ?_
  refine wx_staticND (M := M_X3_setWalk) (uc := 0) (us := 0) (As := [.inr (23, some 0), .inl (.int ((a * 10) + b)), .inl (.int m)]) (rest := []) (ok_X8_put _ _) ml_X3_35 st_X8_put (by omega) (c_X8_put (d := d - 1) (by omega) (s := 23) (i := 0) rfl (Nat.le_of_ble_eq_true rfl) ((a * 10) + b) m) rfl rfl (Nat.le_of_ble_eq_true rfl) dX3_setWalk_11 ?_
  refine wp_run [(.aload_n 0, 1)] (pc' := 15) (L' := [(0, .inr (4, some 0)), (1, .inl (.int a)), (2, .inl (.int b)), (3, .inl (.int m))]) (st' := [.inr (4, some 0)]) ⟨dX3_setWalk_14, trivial⟩ rfl rfl ?_
  refine wx_getR cls_4 (k := 1) (f := 401) (t := 23) (o := some 0) (by decide) rfl rfl fl_X3_15 (W.fr (f := 401) (by decide)) dX3_setWalk_15 ?_
  refine wp_run [(.iload_n 2, 1), (.bipush 10, 2), (.imul, 1), (.iload_n 1, 1), (.iadd, 1), (.iload_n 3, 1)] (pc' := 25) (L' := [(0, .inr (4, some 0)), (1, .inl (.int a)), (2, .inl (.int b)), (3, .inl (.int m))]) (st' := [.inl (.int m), .inl (.int ((b * 10) + a)), .inr (23, some 0)]) ⟨dX3_setWalk_18, dX3_setWalk_19, dX3_setWalk_21, dX3_setWalk_22, dX3_setWalk_23, dX3_setWalk_24, trivial⟩ rfl rfl ?_
  refine wx_staticND (M := M_X3_setWalk) (uc := 0) (us := 0) (As := [.inr (23, some 0), .inl (.int ((b * 10) + a)), .inl (.int m)]) (rest := []) (ok_X8_put _ _) ml_X3_35 st_X8_put (by omega) (c_X8_put (d := d - 1) (by omega) (s := 23) (i := 0) rfl (Nat.le_of_ble_eq_true rfl) ((b * 10) + a) m) rfl rfl (Nat.le_of_ble_eq_true rfl) dX3_setWalk_25 ?_
  exact wx_vret rfl rfl dX3_setWalk_28 (by rw [F_X3_setWalk]; exact ⟨SR.rf, rfl, rfl⟩)
def F_X4_boardsAt (h : Hp) (t : Nat) (r : Nat) : Int32 := (F_X7_stopAt h t (xFI h 502 r))
set_option maxRecDepth 20000 in
theorem c_X4_boardsAt {g : GT} {d : Nat} (hd : 3 ≤ d) {h : Hp} (W : CW h) {t r : Nat} (hr : xFR h 500 r = some t) (ht : t < xLS h 11)  : Ctr g M_X4_boardsAt d 0 0 [.inr (5, some r)] h (cy_det (.inl (some (.inl (.int (F_X4_boardsAt h t r))))) h) := by
  refine cy_body rfl rfl (by decide) (Nat.le_of_ble_eq_true rfl) ?_
  refine wp_run [(.aload_n 0, 1)] (pc' := 1) (L' := [(0, .inr (5, some r))]) (st' := [.inr (5, some r)]) ⟨dX4_boardsAt_0, trivial⟩ rfl rfl ?_
  refine wx_getR cls_5 (k := 0) (f := 500) (t := 8) (o := some t) (by decide) rfl rfl fl_X4_7 hr dX4_boardsAt_1 ?_
  refine wp_run [(.aload_n 0, 1)] (pc' := 5) (L' := [(0, .inr (5, some r))]) (st' := [.inr (5, some r), .inr (8, some t)]) ⟨dX4_boardsAt_4, trivial⟩ rfl rfl ?_
  refine wx_getI cls_5 (k := 2) (f := 502) (by decide) rfl rfl fl_X4_17 dX4_boardsAt_5 ?_
  refine wx_virtualD (M := M_X4_boardsAt) (uc := 0) (us := 0) (s := 8) (i := t) (As := [.inl (.int (xFI h 502 r))]) (rest := []) cls_8 rfl (ok_X7_stopAt _ _) ml_X4_27 im_X7_stopAt se_X7_stopAt (by omega) (c_X7_stopAt (d := d - 1) (h := h) (by omega) W ht (xFI h 502 r)) rfl rfl (Nat.le_of_ble_eq_true rfl) dX4_boardsAt_8 ?_
  exact wx_iret rfl rfl dX4_boardsAt_11 (by rw [F_X4_boardsAt]; exact ⟨rfl, rfl⟩)
def F_X4_departs (h : Hp) (t : Nat) (r : Nat) : Int32 := (F_X7_leaves h t (xFI h 501 r) (xFI h 502 r))
set_option maxRecDepth 20000 in
theorem c_X4_departs {g : GT} {d : Nat} (hd : 3 ≤ d) {h : Hp} (W : CW h) {t r : Nat} (hr : xFR h 500 r = some t) (ht : t < xLS h 11)  : Ctr g M_X4_departs d 0 0 [.inr (5, some r)] h (cy_det (.inl (some (.inl (.int (F_X4_departs h t r))))) h) := by
  refine cy_body rfl rfl (by decide) (Nat.le_of_ble_eq_true rfl) ?_
  refine wp_run [(.aload_n 0, 1)] (pc' := 1) (L' := [(0, .inr (5, some r))]) (st' := [.inr (5, some r)]) ⟨dX4_departs_0, trivial⟩ rfl rfl ?_
  refine wx_getR cls_5 (k := 0) (f := 500) (t := 8) (o := some t) (by decide) rfl rfl fl_X4_7 hr dX4_departs_1 ?_
  refine wp_run [(.aload_n 0, 1)] (pc' := 5) (L' := [(0, .inr (5, some r))]) (st' := [.inr (5, some r), .inr (8, some t)]) ⟨dX4_departs_4, trivial⟩ rfl rfl ?_
  refine wx_getI cls_5 (k := 1) (f := 501) (by decide) rfl rfl fl_X4_13 dX4_departs_5 ?_
  refine wp_run [(.aload_n 0, 1)] (pc' := 9) (L' := [(0, .inr (5, some r))]) (st' := [.inr (5, some r), .inl (.int (xFI h 501 r)), .inr (8, some t)]) ⟨dX4_departs_8, trivial⟩ rfl rfl ?_
  refine wx_getI cls_5 (k := 2) (f := 502) (by decide) rfl rfl fl_X4_17 dX4_departs_9 ?_
  refine wx_virtualD (M := M_X4_departs) (uc := 0) (us := 0) (s := 8) (i := t) (As := [.inl (.int (xFI h 501 r)), .inl (.int (xFI h 502 r))]) (rest := []) cls_8 rfl (ok_X7_leaves _ _) ml_X4_33 im_X7_leaves se_X7_leaves (by omega) (c_X7_leaves (d := d - 1) (h := h) (by omega) W ht (xFI h 501 r) (xFI h 502 r)) rfl rfl (Nat.le_of_ble_eq_true rfl) dX4_departs_12 ?_
  exact wx_iret rfl rfl dX4_departs_15 (by rw [F_X4_departs]; exact ⟨rfl, rfl⟩)
def F_X4_arrives (h : Hp) (t : Nat) (r : Nat) : Int32 := (F_X7_reaches h t (xFI h 501 r) (xFI h 503 r))
set_option maxRecDepth 20000 in
theorem c_X4_arrives {g : GT} {d : Nat} (hd : 3 ≤ d) {h : Hp} (W : CW h) {t r : Nat} (hr : xFR h 500 r = some t) (ht : t < xLS h 11)  : Ctr g M_X4_arrives d 0 0 [.inr (5, some r)] h (cy_det (.inl (some (.inl (.int (F_X4_arrives h t r))))) h) := by
  refine cy_body rfl rfl (by decide) (Nat.le_of_ble_eq_true rfl) ?_
  refine wp_run [(.aload_n 0, 1)] (pc' := 1) (L' := [(0, .inr (5, some r))]) (st' := [.inr (5, some r)]) ⟨dX4_arrives_0, trivial⟩ rfl rfl ?_
  refine wx_getR cls_5 (k := 0) (f := 500) (t := 8) (o := some t) (by decide) rfl rfl fl_X4_7 hr dX4_arrives_1 ?_
  refine wp_run [(.aload_n 0, 1)] (pc' := 5) (L' := [(0, .inr (5, some r))]) (st' := [.inr (5, some r), .inr (8, some t)]) ⟨dX4_arrives_4, trivial⟩ rfl rfl ?_
  refine wx_getI cls_5 (k := 1) (f := 501) (by decide) rfl rfl fl_X4_13 dX4_arrives_5 ?_
  refine wp_run [(.aload_n 0, 1)] (pc' := 9) (L' := [(0, .inr (5, some r))]) (st' := [.inr (5, some r), .inl (.int (xFI h 501 r)), .inr (8, some t)]) ⟨dX4_arrives_8, trivial⟩ rfl rfl ?_
  refine wx_getI cls_5 (k := 3) (f := 503) (by decide) rfl rfl fl_X4_20 dX4_arrives_9 ?_
  refine wx_virtualD (M := M_X4_arrives) (uc := 0) (us := 0) (s := 8) (i := t) (As := [.inl (.int (xFI h 501 r)), .inl (.int (xFI h 503 r))]) (rest := []) cls_8 rfl (ok_X7_reaches _ _) ml_X4_37 im_X7_reaches se_X7_reaches (by omega) (c_X7_reaches (d := d - 1) (h := h) (by omega) W ht (xFI h 501 r) (xFI h 503 r)) rfl rfl (Nat.le_of_ble_eq_true rfl) dX4_arrives_12 ?_
  exact wx_iret rfl rfl dX4_arrives_15 (by rw [F_X4_arrives]; exact ⟨rfl, rfl⟩)
def F_X4_length (h : Hp) (t : Nat) (r : Nat) : Int32 := ((xFI h 503 r) - (xFI h 502 r))
set_option maxRecDepth 20000 in
theorem c_X4_length {g : GT} {d : Nat} (hd : 1 ≤ d) {h : Hp} (W : CW h) {t r : Nat} (hr : xFR h 500 r = some t) (ht : t < xLS h 11)  : Ctr g M_X4_length d 0 0 [.inr (5, some r)] h (cy_det (.inl (some (.inl (.int (F_X4_length h t r))))) h) := by
  refine cy_body rfl rfl (by decide) (Nat.le_of_ble_eq_true rfl) ?_
  refine wp_run [(.aload_n 0, 1)] (pc' := 1) (L' := [(0, .inr (5, some r))]) (st' := [.inr (5, some r)]) ⟨dX4_length_0, trivial⟩ rfl rfl ?_
  refine wx_getI cls_5 (k := 3) (f := 503) (by decide) rfl rfl fl_X4_20 dX4_length_1 ?_
  refine wp_run [(.aload_n 0, 1)] (pc' := 5) (L' := [(0, .inr (5, some r))]) (st' := [.inr (5, some r), .inl (.int (xFI h 503 r))]) ⟨dX4_length_4, trivial⟩ rfl rfl ?_
  refine wx_getI cls_5 (k := 2) (f := 502) (by decide) rfl rfl fl_X4_17 dX4_length_5 ?_
  refine wp_run [(.isub, 1)] (pc' := 9) (L' := [(0, .inr (5, some r))]) (st' := [.inl (.int ((xFI h 503 r) - (xFI h 502 r)))]) ⟨dX4_length_8, trivial⟩ rfl rfl ?_
  exact wx_iret rfl rfl dX4_length_9 (by rw [F_X4_length]; exact ⟨rfl, rfl⟩)
def F_X1_setPrices (h : Hp) (f : Int32) (b : Int32) (c : Int32) (s : Int32) : Hp := H_put (H_put (H_put h 24 0 f b) 25 0 f c) 26 0 f s
set_option maxRecDepth 20000 in
theorem c_X1_setPrices {g : GT} {d : Nat} (hd : 2 ≤ d) {h : Hp} (W : CW h) (f : Int32) (b : Int32) (c : Int32) (s : Int32)  : Ctr g M_X1_setPrices d 0 0 [.inr (2, some 0), .inl (.int f), .inl (.int b), .inl (.int c), .inl (.int s)] h (cy_detP (.inl none) (F_X1_setPrices h f b c s) (SR h (F_X1_setPrices h f b c s))) := by
  refine cy_body rfl rfl (by decide) (Nat.le_of_ble_eq_true rfl) ?_
  refine wp_run [(.aload_n 0, 1)] (pc' := 1) (L' := [(0, .inr (2, some 0)), (1, .inl (.int f)), (2, .inl (.int b)), (3, .inl (.int c)), (4, .inl (.int s))]) (st' := [.inr (2, some 0)]) ⟨dX1_setPrices_0, trivial⟩ rfl rfl ?_
  refine wx_getR cls_2 (k := 0) (f := 200) (t := 24) (o := some 0) (by decide) rfl rfl fl_X1_9 (W.fr (f := 200) (by decide)) dX1_setPrices_1 ?_
  refine wp_run [(.iload_n 1, 1), (.iload_n 2, 1)] (pc' := 6) (L' := [(0, .inr (2, some 0)), (1, .inl (.int f)), (2, .inl (.int b)), (3, .inl (.int c)), (4, .inl (.int s))]) (st' := [.inl (.int b), .inl (.int f), .inr (24, some 0)]) ⟨dX1_setPrices_4, dX1_setPrices_5, trivial⟩ rfl rfl ?_
  refine wx_staticND (M := M_X1_setPrices) (uc := 0) (us := 0) (As := [.inr (24, some 0), .inl (.int f), .inl (.int b)]) (rest := []) (ok_X8_put _ _) ml_X1_24 st_X8_put (by omega) (c_X8_put (d := d - 1) (by omega) (s := 24) (i := 0) rfl (Nat.le_of_ble_eq_true rfl) f b) rfl rfl (Nat.le_of_ble_eq_true rfl) dX1_setPrices_6 ?_
  refine wp_run [(.aload_n 0, 1)] (pc' := 10) (L' := [(0, .inr (2, some 0)), (1, .inl (.int f)), (2, .inl (.int b)), (3, .inl (.int c)), (4, .inl (.int s))]) (st' := [.inr (2, some 0)]) ⟨dX1_setPrices_9, trivial⟩ rfl rfl ?_
  refine wx_getR cls_2 (k := 1) (f := 201) (t := 25) (o := some 0) (by decide) rfl rfl fl_X1_15 (W.fr (f := 201) (by decide)) dX1_setPrices_10 ?_
  refine wp_run [(.iload_n 1, 1), (.iload_n 3, 1)] (pc' := 15) (L' := [(0, .inr (2, some 0)), (1, .inl (.int f)), (2, .inl (.int b)), (3, .inl (.int c)), (4, .inl (.int s))]) (st' := [.inl (.int c), .inl (.int f), .inr (25, some 0)]) ⟨dX1_setPrices_13, dX1_setPrices_14, trivial⟩ rfl rfl ?_
  refine wx_staticND (M := M_X1_setPrices) (uc := 0) (us := 0) (As := [.inr (25, some 0), .inl (.int f), .inl (.int c)]) (rest := []) (ok_X8_put _ _) ml_X1_24 st_X8_put (by omega) (c_X8_put (d := d - 1) (by omega) (s := 25) (i := 0) rfl (Nat.le_of_ble_eq_true rfl) f c) rfl rfl (Nat.le_of_ble_eq_true rfl) dX1_setPrices_15 ?_
  refine wp_run [(.aload_n 0, 1)] (pc' := 19) (L' := [(0, .inr (2, some 0)), (1, .inl (.int f)), (2, .inl (.int b)), (3, .inl (.int c)), (4, .inl (.int s))]) (st' := [.inr (2, some 0)]) ⟨dX1_setPrices_18, trivial⟩ rfl rfl ?_
  refine wx_getR cls_2 (k := 2) (f := 202) (t := 26) (o := some 0) (by decide) rfl rfl fl_X1_18 (W.fr (f := 202) (by decide)) dX1_setPrices_19 ?_
  refine wp_run [(.iload_n 1, 1), (.iload 4, 2)] (pc' := 25) (L' := [(0, .inr (2, some 0)), (1, .inl (.int f)), (2, .inl (.int b)), (3, .inl (.int c)), (4, .inl (.int s))]) (st' := [.inl (.int s), .inl (.int f), .inr (26, some 0)]) ⟨dX1_setPrices_22, dX1_setPrices_23, trivial⟩ rfl rfl ?_
  refine wx_staticND (M := M_X1_setPrices) (uc := 0) (us := 0) (As := [.inr (26, some 0), .inl (.int f), .inl (.int s)]) (rest := []) (ok_X8_put _ _) ml_X1_24 st_X8_put (by omega) (c_X8_put (d := d - 1) (by omega) (s := 26) (i := 0) rfl (Nat.le_of_ble_eq_true rfl) f s) rfl rfl (Nat.le_of_ble_eq_true rfl) dX1_setPrices_25 ?_
  exact wx_vret rfl rfl dX1_setPrices_28 (by rw [F_X1_setPrices]; exact ⟨SR.rf, rfl, rfl⟩)
def F_X1_ticket (h : Hp) (f : Int32) (n : Int32) : Int32 := (if n ≤ 3 then ((F_at h 24 0 f) + ((F_at h 25 0 f) * n)) else (((F_at h 24 0 f) + ((F_at h 25 0 f) * n)) + (F_at h 26 0 f)))
set_option maxRecDepth 20000 in
theorem c_X1_ticket {g : GT} {d : Nat} (hd : 2 ≤ d) {h : Hp} (W : CW h) (f : Int32) (n : Int32)  : Ctr g M_X1_ticket d 0 0 [.inr (2, some 0), .inl (.int f), .inl (.int n)] h (cy_det (.inl (some (.inl (.int (F_X1_ticket h f n))))) h) := by
  refine cy_body rfl rfl (by decide) (Nat.le_of_ble_eq_true rfl) ?_
  refine wp_run [(.aload_n 0, 1)] (pc' := 1) (L' := [(0, .inr (2, some 0)), (1, .inl (.int f)), (2, .inl (.int n))]) (st' := [.inr (2, some 0)]) ⟨dX1_ticket_0, trivial⟩ rfl rfl ?_
  refine wx_getR cls_2 (k := 0) (f := 200) (t := 24) (o := some 0) (by decide) rfl rfl fl_X1_9 (W.fr (f := 200) (by decide)) dX1_ticket_1 ?_
  refine wp_run [(.iload_n 1, 1)] (pc' := 5) (L' := [(0, .inr (2, some 0)), (1, .inl (.int f)), (2, .inl (.int n))]) (st' := [.inl (.int f), .inr (24, some 0)]) ⟨dX1_ticket_4, trivial⟩ rfl rfl ?_
  refine wx_staticND (M := M_X1_ticket) (uc := 0) (us := 0) (As := [.inr (24, some 0), .inl (.int f)]) (rest := []) (ok_X8_at _ _) ml_X1_28 st_X8_at (by omega) (c_X8_at (d := d - 1) (by omega) (s := 24) (i := 0) (Or.inl rfl) (Nat.le_of_ble_eq_true rfl) f) rfl rfl (Nat.le_of_ble_eq_true rfl) dX1_ticket_5 ?_
  refine wp_run [(.aload_n 0, 1)] (pc' := 9) (L' := [(0, .inr (2, some 0)), (1, .inl (.int f)), (2, .inl (.int n))]) (st' := [.inr (2, some 0), .inl (.int (F_at h 24 0 f))]) ⟨dX1_ticket_8, trivial⟩ rfl rfl ?_
  refine wx_getR cls_2 (k := 1) (f := 201) (t := 25) (o := some 0) (by decide) rfl rfl fl_X1_15 (W.fr (f := 201) (by decide)) dX1_ticket_9 ?_
  refine wp_run [(.iload_n 1, 1)] (pc' := 13) (L' := [(0, .inr (2, some 0)), (1, .inl (.int f)), (2, .inl (.int n))]) (st' := [.inl (.int f), .inr (25, some 0), .inl (.int (F_at h 24 0 f))]) ⟨dX1_ticket_12, trivial⟩ rfl rfl ?_
  refine wx_staticND (M := M_X1_ticket) (uc := 0) (us := 0) (As := [.inr (25, some 0), .inl (.int f)]) (rest := [.inl (.int (F_at h 24 0 f))]) (ok_X8_at _ _) ml_X1_28 st_X8_at (by omega) (c_X8_at (d := d - 1) (by omega) (s := 25) (i := 0) (Or.inl rfl) (Nat.le_of_ble_eq_true rfl) f) rfl rfl (Nat.le_of_ble_eq_true rfl) dX1_ticket_13 ?_
  refine wp_run [(.iload_n 2, 1), (.imul, 1), (.iadd, 1), (.istore_n 3, 1), (.iload_n 2, 1), (.iconst 3, 1)] (pc' := 22) (L' := [(3, .inl (.int ((F_at h 24 0 f) + ((F_at h 25 0 f) * n)))), (0, .inr (2, some 0)), (1, .inl (.int f)), (2, .inl (.int n))]) (st' := [.inl (.int 3), .inl (.int n)]) ⟨dX1_ticket_16, dX1_ticket_17, dX1_ticket_18, dX1_ticket_19, dX1_ticket_20, dX1_ticket_21, trivial⟩ rfl rfl ?_
  refine wx_icmp_le (tgt := 38) dX1_ticket_22 (by decide) (fun h_1 => ?_) (fun h_1 => ?_)
  · refine wp_run [(.iload_n 3, 1)] (pc' := 39) (L' := [(3, .inl (.int ((F_at h 24 0 f) + ((F_at h 25 0 f) * n)))), (0, .inr (2, some 0)), (1, .inl (.int f)), (2, .inl (.int n))]) (st' := [.inl (.int ((F_at h 24 0 f) + ((F_at h 25 0 f) * n)))]) ⟨dX1_ticket_38, trivial⟩ rfl rfl ?_
    exact wx_iret rfl rfl dX1_ticket_39 (by rw [F_X1_ticket, if_pos h_1]; exact ⟨rfl, rfl⟩)
  · refine wp_run [(.iload_n 3, 1), (.aload_n 0, 1)] (pc' := 27) (L' := [(3, .inl (.int ((F_at h 24 0 f) + ((F_at h 25 0 f) * n)))), (0, .inr (2, some 0)), (1, .inl (.int f)), (2, .inl (.int n))]) (st' := [.inr (2, some 0), .inl (.int ((F_at h 24 0 f) + ((F_at h 25 0 f) * n)))]) ⟨dX1_ticket_25, dX1_ticket_26, trivial⟩ rfl rfl ?_
    refine wx_getR cls_2 (k := 2) (f := 202) (t := 26) (o := some 0) (by decide) rfl rfl fl_X1_18 (W.fr (f := 202) (by decide)) dX1_ticket_27 ?_
    refine wp_run [(.iload_n 1, 1)] (pc' := 31) (L' := [(3, .inl (.int ((F_at h 24 0 f) + ((F_at h 25 0 f) * n)))), (0, .inr (2, some 0)), (1, .inl (.int f)), (2, .inl (.int n))]) (st' := [.inl (.int f), .inr (26, some 0), .inl (.int ((F_at h 24 0 f) + ((F_at h 25 0 f) * n)))]) ⟨dX1_ticket_30, trivial⟩ rfl rfl ?_
    refine wx_staticND (M := M_X1_ticket) (uc := 0) (us := 0) (As := [.inr (26, some 0), .inl (.int f)]) (rest := [.inl (.int ((F_at h 24 0 f) + ((F_at h 25 0 f) * n)))]) (ok_X8_at _ _) ml_X1_28 st_X8_at (by omega) (c_X8_at (d := d - 1) (by omega) (s := 26) (i := 0) (Or.inl rfl) (Nat.le_of_ble_eq_true rfl) f) rfl rfl (Nat.le_of_ble_eq_true rfl) dX1_ticket_31 ?_
    refine wp_run [(.iadd, 1)] (pc' := 35) (L' := [(3, .inl (.int ((F_at h 24 0 f) + ((F_at h 25 0 f) * n)))), (0, .inr (2, some 0)), (1, .inl (.int f)), (2, .inl (.int n))]) (st' := [.inl (.int (((F_at h 24 0 f) + ((F_at h 25 0 f) * n)) + (F_at h 26 0 f)))]) ⟨dX1_ticket_34, trivial⟩ rfl rfl ?_
    refine wx_goto (tgt := 39) dX1_ticket_35 (by decide) ?_
    exact wx_iret rfl rfl dX1_ticket_39 (by rw [F_X1_ticket, if_neg h_1]; exact ⟨rfl, rfl⟩)
def F_X5_arrivalAt (h : Hp) (k : Int32) (s : Int32) : Int32 := (F_at h 20 0 ((k * 10) + s))
set_option maxRecDepth 20000 in
theorem c_X5_arrivalAt {g : GT} {d : Nat} (hd : 2 ≤ d) {h : Hp} (W : CW h) (k : Int32) (s : Int32)  : Ctr g M_X5_arrivalAt d 0 0 [.inr (6, some 0), .inl (.int k), .inl (.int s)] h (cy_det (.inl (some (.inl (.int (F_X5_arrivalAt h k s))))) h) := by
  refine cy_body rfl rfl (by decide) (Nat.le_of_ble_eq_true rfl) ?_
  refine wp_run [(.aload_n 0, 1)] (pc' := 1) (L' := [(0, .inr (6, some 0)), (1, .inl (.int k)), (2, .inl (.int s))]) (st' := [.inr (6, some 0)]) ⟨dX5_arrivalAt_0, trivial⟩ rfl rfl ?_
  refine wx_getR cls_6 (k := 1) (f := 601) (t := 20) (o := some 0) (by decide) rfl rfl fl_X5_9 (W.fr (f := 601) (by decide)) dX5_arrivalAt_1 ?_
  refine wp_run [(.iload_n 1, 1), (.bipush 10, 2), (.imul, 1), (.iload_n 2, 1), (.iadd, 1)] (pc' := 10) (L' := [(0, .inr (6, some 0)), (1, .inl (.int k)), (2, .inl (.int s))]) (st' := [.inl (.int ((k * 10) + s)), .inr (20, some 0)]) ⟨dX5_arrivalAt_4, dX5_arrivalAt_5, dX5_arrivalAt_7, dX5_arrivalAt_8, dX5_arrivalAt_9, trivial⟩ rfl rfl ?_
  refine wx_staticND (M := M_X5_arrivalAt) (uc := 0) (us := 0) (As := [.inr (20, some 0), .inl (.int ((k * 10) + s))]) (rest := []) (ok_X8_at _ _) ml_X5_125 st_X8_at (by omega) (c_X8_at (d := d - 1) (by omega) (s := 20) (i := 0) (Or.inl rfl) (Nat.le_of_ble_eq_true rfl) ((k * 10) + s)) rfl rfl (Nat.le_of_ble_eq_true rfl) dX5_arrivalAt_10 ?_
  exact wx_iret rfl rfl dX5_arrivalAt_13 (by rw [F_X5_arrivalAt]; exact ⟨rfl, rfl⟩)
def F_X5_readyAt (h : Hp) (k : Int32) (s : Int32) : Int32 := (F_at h 21 0 ((k * 10) + s))
set_option maxRecDepth 20000 in
theorem c_X5_readyAt {g : GT} {d : Nat} (hd : 2 ≤ d) {h : Hp} (W : CW h) (k : Int32) (s : Int32)  : Ctr g M_X5_readyAt d 0 0 [.inr (6, some 0), .inl (.int k), .inl (.int s)] h (cy_det (.inl (some (.inl (.int (F_X5_readyAt h k s))))) h) := by
  refine cy_body rfl rfl (by decide) (Nat.le_of_ble_eq_true rfl) ?_
  refine wp_run [(.aload_n 0, 1)] (pc' := 1) (L' := [(0, .inr (6, some 0)), (1, .inl (.int k)), (2, .inl (.int s))]) (st' := [.inr (6, some 0)]) ⟨dX5_readyAt_0, trivial⟩ rfl rfl ?_
  refine wx_getR cls_6 (k := 2) (f := 602) (t := 21) (o := some 0) (by decide) rfl rfl fl_X5_15 (W.fr (f := 602) (by decide)) dX5_readyAt_1 ?_
  refine wp_run [(.iload_n 1, 1), (.bipush 10, 2), (.imul, 1), (.iload_n 2, 1), (.iadd, 1)] (pc' := 10) (L' := [(0, .inr (6, some 0)), (1, .inl (.int k)), (2, .inl (.int s))]) (st' := [.inl (.int ((k * 10) + s)), .inr (21, some 0)]) ⟨dX5_readyAt_4, dX5_readyAt_5, dX5_readyAt_7, dX5_readyAt_8, dX5_readyAt_9, trivial⟩ rfl rfl ?_
  refine wx_staticND (M := M_X5_readyAt) (uc := 0) (us := 0) (As := [.inr (21, some 0), .inl (.int ((k * 10) + s))]) (rest := []) (ok_X8_at _ _) ml_X5_125 st_X8_at (by omega) (c_X8_at (d := d - 1) (by omega) (s := 21) (i := 0) (Or.inl rfl) (Nat.le_of_ble_eq_true rfl) ((k * 10) + s)) rfl rfl (Nat.le_of_ble_eq_true rfl) dX5_readyAt_10 ?_
  exact wx_iret rfl rfl dX5_readyAt_13 (by rw [F_X5_readyAt]; exact ⟨rfl, rfl⟩)
def F_X5_changing (h : Hp) (a : Int32) (s : Int32) : Int32 := (if a = s then (F_X3_transferAt h s) else (F_X3_walk h a s))
set_option maxRecDepth 20000 in
theorem c_X5_changing {g : GT} {d : Nat} (hd : 3 ≤ d) {h : Hp} (W : CW h) (a : Int32) (s : Int32)  : Ctr g M_X5_changing d 0 0 [.inr (6, some 0), .inl (.int a), .inl (.int s)] h (cy_det (.inl (some (.inl (.int (F_X5_changing h a s))))) h) := by
  refine cy_body rfl rfl (by decide) (Nat.le_of_ble_eq_true rfl) ?_
  refine wp_run [(.iload_n 1, 1), (.iload_n 2, 1)] (pc' := 2) (L' := [(0, .inr (6, some 0)), (1, .inl (.int a)), (2, .inl (.int s))]) (st' := [.inl (.int s), .inl (.int a)]) ⟨dX5_changing_0, dX5_changing_1, trivial⟩ rfl rfl ?_
  refine wx_icmp_ne (tgt := 16) dX5_changing_2 (by decide) (fun h_1 => ?_) (fun h_1 => ?_)
  · refine wp_run [(.aload_n 0, 1)] (pc' := 17) (L' := [(0, .inr (6, some 0)), (1, .inl (.int a)), (2, .inl (.int s))]) (st' := [.inr (6, some 0)]) ⟨dX5_changing_16, trivial⟩ rfl rfl ?_
    refine wx_getR cls_6 (k := 0) (f := 600) (t := 4) (o := some 0) (by decide) rfl rfl fl_X5_18 (W.fr (f := 600) (by decide)) dX5_changing_17 ?_
    refine wp_run [(.iload_n 1, 1), (.iload_n 2, 1)] (pc' := 22) (L' := [(0, .inr (6, some 0)), (1, .inl (.int a)), (2, .inl (.int s))]) (st' := [.inl (.int s), .inl (.int a), .inr (4, some 0)]) ⟨dX5_changing_20, dX5_changing_21, trivial⟩ rfl rfl ?_
    refine wx_virtualD (M := M_X5_changing) (uc := 0) (us := 0) (s := 4) (i := 0) (As := [.inl (.int a), .inl (.int s)]) (rest := []) cls_4 rfl (ok_X3_walk _ _) ml_X5_67 im_X3_walk se_X3_walk (by omega) (c_X3_walk (d := d - 1) (h := h) (by omega) W a s) rfl rfl (Nat.le_of_ble_eq_true rfl) dX5_changing_22 ?_
    exact wx_iret rfl rfl dX5_changing_25 (by rw [F_X5_changing, if_neg h_1]; exact ⟨rfl, rfl⟩)
  · refine wp_run [(.aload_n 0, 1)] (pc' := 6) (L' := [(0, .inr (6, some 0)), (1, .inl (.int a)), (2, .inl (.int s))]) (st' := [.inr (6, some 0)]) ⟨dX5_changing_5, trivial⟩ rfl rfl ?_
    refine wx_getR cls_6 (k := 0) (f := 600) (t := 4) (o := some 0) (by decide) rfl rfl fl_X5_18 (W.fr (f := 600) (by decide)) dX5_changing_6 ?_
    refine wp_run [(.iload_n 2, 1)] (pc' := 10) (L' := [(0, .inr (6, some 0)), (1, .inl (.int a)), (2, .inl (.int s))]) (st' := [.inl (.int s), .inr (4, some 0)]) ⟨dX5_changing_9, trivial⟩ rfl rfl ?_
    refine wx_virtualD (M := M_X5_changing) (uc := 0) (us := 0) (s := 4) (i := 0) (As := [.inl (.int s)]) (rest := []) cls_4 rfl (ok_X3_transferAt _ _) ml_X5_129 im_X3_transferAt se_X3_transferAt (by omega) (c_X3_transferAt (d := d - 1) (h := h) (by omega) W s) rfl rfl (Nat.le_of_ble_eq_true rfl) dX5_changing_10 ?_
    refine wx_goto (tgt := 25) dX5_changing_13 (by decide) ?_
    exact wx_iret rfl rfl dX5_changing_25 (by rw [F_X5_changing, if_pos h_1]; exact ⟨rfl, rfl⟩)
def F_X5_readyFrom (h : Hp) (a : Int32) (s : Int32) (k : Int32) : Int32 := (if (F_X5_changing h a s) = (-1) then 1000000000 else (if (F_X5_arrivalAt h k a) < 1000000000 then ((F_X5_arrivalAt h k a) + (F_X5_changing h a s)) else 1000000000))
set_option maxRecDepth 20000 in
theorem c_X5_readyFrom {g : GT} {d : Nat} (hd : 4 ≤ d) {h : Hp} (W : CW h) (a : Int32) (s : Int32) (k : Int32)  : Ctr g M_X5_readyFrom d 0 0 [.inr (6, some 0), .inl (.int a), .inl (.int s), .inl (.int k)] h (cy_det (.inl (some (.inl (.int (F_X5_readyFrom h a s k))))) h) := by
  refine cy_body rfl rfl (by decide) (Nat.le_of_ble_eq_true rfl) ?_
  refine wp_run [(.aload_n 0, 1), (.iload_n 1, 1), (.iload_n 2, 1)] (pc' := 3) (L' := [(0, .inr (6, some 0)), (1, .inl (.int a)), (2, .inl (.int s)), (3, .inl (.int k))]) (st' := [.inl (.int s), .inl (.int a), .inr (6, some 0)]) ⟨dX5_readyFrom_0, dX5_readyFrom_1, dX5_readyFrom_2, trivial⟩ rfl rfl ?_
  refine wx_virtualD (M := M_X5_readyFrom) (uc := 0) (us := 0) (s := 6) (i := 0) (As := [.inl (.int a), .inl (.int s)]) (rest := []) cls_6 rfl (ok_X5_changing _ _) ml_X5_132 im_X5_changing se_X5_changing (by omega) (c_X5_changing (d := d - 1) (h := h) (by omega) W a s) rfl rfl (Nat.le_of_ble_eq_true rfl) dX5_readyFrom_3 ?_
  refine wp_run [(.istore 4, 2), (.aload_n 0, 1), (.iload_n 3, 1), (.iload_n 1, 1)] (pc' := 11) (L' := [(4, .inl (.int (F_X5_changing h a s))), (0, .inr (6, some 0)), (1, .inl (.int a)), (2, .inl (.int s)), (3, .inl (.int k))]) (st' := [.inl (.int a), .inl (.int k), .inr (6, some 0)]) ⟨dX5_readyFrom_6, dX5_readyFrom_8, dX5_readyFrom_9, dX5_readyFrom_10, trivial⟩ rfl rfl ?_
  refine wx_virtualD (M := M_X5_readyFrom) (uc := 0) (us := 0) (s := 6) (i := 0) (As := [.inl (.int k), .inl (.int a)]) (rest := []) cls_6 rfl (ok_X5_arrivalAt _ _) ml_X5_104 im_X5_arrivalAt se_X5_arrivalAt (by omega) (c_X5_arrivalAt (d := d - 1) (h := h) (by omega) W k a) rfl rfl (Nat.le_of_ble_eq_true rfl) dX5_readyFrom_11 ?_
  refine wp_run [(.istore 5, 2), (.iload 4, 2), (.iconst (-1), 1)] (pc' := 19) (L' := [(5, .inl (.int (F_X5_arrivalAt h k a))), (4, .inl (.int (F_X5_changing h a s))), (0, .inr (6, some 0)), (1, .inl (.int a)), (2, .inl (.int s)), (3, .inl (.int k))]) (st' := [.inl (.int (-1)), .inl (.int (F_X5_changing h a s))]) ⟨dX5_readyFrom_14, dX5_readyFrom_16, dX5_readyFrom_18, trivial⟩ rfl rfl ?_
  refine wx_icmp_eq (tgt := 29) dX5_readyFrom_19 (by decide) (fun h_1 => ?_) (fun h_1 => ?_)
  · refine wx_ldc kc_X5_45 dX5_readyFrom_29 ?_
    refine wx_goto (tgt := 39) dX5_readyFrom_31 (by decide) ?_
    exact wx_iret rfl rfl dX5_readyFrom_39 (by rw [F_X5_readyFrom, if_pos h_1]; exact ⟨rfl, rfl⟩)
  · refine wp_run [(.iload 5, 2)] (pc' := 24) (L' := [(5, .inl (.int (F_X5_arrivalAt h k a))), (4, .inl (.int (F_X5_changing h a s))), (0, .inr (6, some 0)), (1, .inl (.int a)), (2, .inl (.int s)), (3, .inl (.int k))]) (st' := [.inl (.int (F_X5_arrivalAt h k a))]) ⟨dX5_readyFrom_22, trivial⟩ rfl rfl ?_
    refine wx_ldc kc_X5_45 dX5_readyFrom_24 ?_
    refine wx_icmp_lt (tgt := 34) dX5_readyFrom_26 (by decide) (fun h_2 => ?_) (fun h_2 => ?_)
    · refine wp_run [(.iload 5, 2), (.iload 4, 2), (.iadd, 1)] (pc' := 39) (L' := [(5, .inl (.int (F_X5_arrivalAt h k a))), (4, .inl (.int (F_X5_changing h a s))), (0, .inr (6, some 0)), (1, .inl (.int a)), (2, .inl (.int s)), (3, .inl (.int k))]) (st' := [.inl (.int ((F_X5_arrivalAt h k a) + (F_X5_changing h a s)))]) ⟨dX5_readyFrom_34, dX5_readyFrom_36, dX5_readyFrom_38, trivial⟩ rfl rfl ?_
      exact wx_iret rfl rfl dX5_readyFrom_39 (by rw [F_X5_readyFrom, if_neg h_1, if_pos h_2]; exact ⟨rfl, rfl⟩)
    · refine wx_ldc kc_X5_45 dX5_readyFrom_29 ?_
      refine wx_goto (tgt := 39) dX5_readyFrom_31 (by decide) ?_
      exact wx_iret rfl rfl dX5_readyFrom_39 (by rw [F_X5_readyFrom, if_neg h_1, if_neg h_2]; exact ⟨rfl, rfl⟩)
def F_X5_endFrom (h : Hp) (s : Int32) (k : Int32) : Int32 := (if s = (xFI h 604 0) then (if (F_X5_arrivalAt h k s) < 1000000000 then ((F_X5_arrivalAt h k s) + 0) else 1000000000) else (if (F_X3_walk h s (xFI h 604 0)) = (-1) then 1000000000 else (if (F_X5_arrivalAt h k s) < 1000000000 then ((F_X5_arrivalAt h k s) + (F_X3_walk h s (xFI h 604 0))) else 1000000000)))
set_option maxRecDepth 20000 in
theorem c_X5_endFrom {g : GT} {d : Nat} (hd : 3 ≤ d) {h : Hp} (W : CW h) (s : Int32) (k : Int32)  : Ctr g M_X5_endFrom d 0 0 [.inr (6, some 0), .inl (.int s), .inl (.int k)] h (cy_det (.inl (some (.inl (.int (F_X5_endFrom h s k))))) h) := by
  refine cy_body rfl rfl (by decide) (Nat.le_of_ble_eq_true rfl) ?_
  refine wp_run [(.iload_n 1, 1), (.aload_n 0, 1)] (pc' := 2) (L' := [(0, .inr (6, some 0)), (1, .inl (.int s)), (2, .inl (.int k))]) (st' := [.inr (6, some 0), .inl (.int s)]) ⟨dX5_endFrom_0, dX5_endFrom_1, trivial⟩ rfl rfl ?_
  refine wx_getI cls_6 (k := 4) (f := 604) (by decide) rfl rfl fl_X5_26 dX5_endFrom_2 ?_
  refine wx_icmp_ne (tgt := 12) dX5_endFrom_5 (by decide) (fun h_1 => ?_) (fun h_1 => ?_)
  · refine wp_run [(.aload_n 0, 1)] (pc' := 13) (L' := [(0, .inr (6, some 0)), (1, .inl (.int s)), (2, .inl (.int k))]) (st' := [.inr (6, some 0)]) ⟨dX5_endFrom_12, trivial⟩ rfl rfl ?_
    refine wx_getR cls_6 (k := 0) (f := 600) (t := 4) (o := some 0) (by decide) rfl rfl fl_X5_18 (W.fr (f := 600) (by decide)) dX5_endFrom_13 ?_
    refine wp_run [(.iload_n 1, 1), (.aload_n 0, 1)] (pc' := 18) (L' := [(0, .inr (6, some 0)), (1, .inl (.int s)), (2, .inl (.int k))]) (st' := [.inr (6, some 0), .inl (.int s), .inr (4, some 0)]) ⟨dX5_endFrom_16, dX5_endFrom_17, trivial⟩ rfl rfl ?_
    refine wx_getI cls_6 (k := 4) (f := 604) (by decide) rfl rfl fl_X5_26 dX5_endFrom_18 ?_
    refine wx_virtualD (M := M_X5_endFrom) (uc := 0) (us := 0) (s := 4) (i := 0) (As := [.inl (.int s), .inl (.int (xFI h 604 0))]) (rest := []) cls_4 rfl (ok_X3_walk _ _) ml_X5_67 im_X3_walk se_X3_walk (by omega) (c_X3_walk (d := d - 1) (h := h) (by omega) W s (xFI h 604 0)) rfl rfl (Nat.le_of_ble_eq_true rfl) dX5_endFrom_21 ?_
    refine wp_run [(.istore_n 3, 1), (.aload_n 0, 1), (.iload_n 2, 1), (.iload_n 1, 1)] (pc' := 28) (L' := [(3, .inl (.int (F_X3_walk h s (xFI h 604 0)))), (0, .inr (6, some 0)), (1, .inl (.int s)), (2, .inl (.int k))]) (st' := [.inl (.int s), .inl (.int k), .inr (6, some 0)]) ⟨dX5_endFrom_24, dX5_endFrom_25, dX5_endFrom_26, dX5_endFrom_27, trivial⟩ rfl rfl ?_
    refine wx_virtualD (M := M_X5_endFrom) (uc := 0) (us := 0) (s := 6) (i := 0) (As := [.inl (.int k), .inl (.int s)]) (rest := []) cls_6 rfl (ok_X5_arrivalAt _ _) ml_X5_104 im_X5_arrivalAt se_X5_arrivalAt (by omega) (c_X5_arrivalAt (d := d - 1) (h := h) (by omega) W k s) rfl rfl (Nat.le_of_ble_eq_true rfl) dX5_endFrom_28 ?_
    refine wp_run [(.istore 4, 2), (.iload_n 3, 1), (.iconst (-1), 1)] (pc' := 35) (L' := [(4, .inl (.int (F_X5_arrivalAt h k s))), (3, .inl (.int (F_X3_walk h s (xFI h 604 0)))), (0, .inr (6, some 0)), (1, .inl (.int s)), (2, .inl (.int k))]) (st' := [.inl (.int (-1)), .inl (.int (F_X3_walk h s (xFI h 604 0)))]) ⟨dX5_endFrom_31, dX5_endFrom_33, dX5_endFrom_34, trivial⟩ rfl rfl ?_
    refine wx_icmp_eq (tgt := 45) dX5_endFrom_35 (by decide) (fun h_2 => ?_) (fun h_2 => ?_)
    · refine wx_ldc kc_X5_45 dX5_endFrom_45 ?_
      refine wx_goto (tgt := 54) dX5_endFrom_47 (by decide) ?_
      exact wx_iret rfl rfl dX5_endFrom_54 (by rw [F_X5_endFrom, if_neg h_1, if_pos h_2]; exact ⟨rfl, rfl⟩)
    · refine wp_run [(.iload 4, 2)] (pc' := 40) (L' := [(4, .inl (.int (F_X5_arrivalAt h k s))), (3, .inl (.int (F_X3_walk h s (xFI h 604 0)))), (0, .inr (6, some 0)), (1, .inl (.int s)), (2, .inl (.int k))]) (st' := [.inl (.int (F_X5_arrivalAt h k s))]) ⟨dX5_endFrom_38, trivial⟩ rfl rfl ?_
      refine wx_ldc kc_X5_45 dX5_endFrom_40 ?_
      refine wx_icmp_lt (tgt := 50) dX5_endFrom_42 (by decide) (fun h_3 => ?_) (fun h_3 => ?_)
      · refine wp_run [(.iload 4, 2), (.iload_n 3, 1), (.iadd, 1)] (pc' := 54) (L' := [(4, .inl (.int (F_X5_arrivalAt h k s))), (3, .inl (.int (F_X3_walk h s (xFI h 604 0)))), (0, .inr (6, some 0)), (1, .inl (.int s)), (2, .inl (.int k))]) (st' := [.inl (.int ((F_X5_arrivalAt h k s) + (F_X3_walk h s (xFI h 604 0))))]) ⟨dX5_endFrom_50, dX5_endFrom_52, dX5_endFrom_53, trivial⟩ rfl rfl ?_
        exact wx_iret rfl rfl dX5_endFrom_54 (by rw [F_X5_endFrom, if_neg h_1, if_neg h_2, if_pos h_3]; exact ⟨rfl, rfl⟩)
      · refine wx_ldc kc_X5_45 dX5_endFrom_45 ?_
        refine wx_goto (tgt := 54) dX5_endFrom_47 (by decide) ?_
        exact wx_iret rfl rfl dX5_endFrom_54 (by rw [F_X5_endFrom, if_neg h_1, if_neg h_2, if_neg h_3]; exact ⟨rfl, rfl⟩)
  · refine wp_run [(.iconst 0, 1)] (pc' := 9) (L' := [(0, .inr (6, some 0)), (1, .inl (.int s)), (2, .inl (.int k))]) (st' := [.inl (.int 0)]) ⟨dX5_endFrom_8, trivial⟩ rfl rfl ?_
    refine wx_goto (tgt := 24) dX5_endFrom_9 (by decide) ?_
    refine wp_run [(.istore_n 3, 1), (.aload_n 0, 1), (.iload_n 2, 1), (.iload_n 1, 1)] (pc' := 28) (L' := [(3, .inl (.int 0)), (0, .inr (6, some 0)), (1, .inl (.int s)), (2, .inl (.int k))]) (st' := [.inl (.int s), .inl (.int k), .inr (6, some 0)]) ⟨dX5_endFrom_24, dX5_endFrom_25, dX5_endFrom_26, dX5_endFrom_27, trivial⟩ rfl rfl ?_
    refine wx_virtualD (M := M_X5_endFrom) (uc := 0) (us := 0) (s := 6) (i := 0) (As := [.inl (.int k), .inl (.int s)]) (rest := []) cls_6 rfl (ok_X5_arrivalAt _ _) ml_X5_104 im_X5_arrivalAt se_X5_arrivalAt (by omega) (c_X5_arrivalAt (d := d - 1) (h := h) (by omega) W k s) rfl rfl (Nat.le_of_ble_eq_true rfl) dX5_endFrom_28 ?_
    refine wp_run [(.istore 4, 2), (.iload_n 3, 1), (.iconst (-1), 1)] (pc' := 35) (L' := [(4, .inl (.int (F_X5_arrivalAt h k s))), (3, .inl (.int 0)), (0, .inr (6, some 0)), (1, .inl (.int s)), (2, .inl (.int k))]) (st' := [.inl (.int (-1)), .inl (.int 0)]) ⟨dX5_endFrom_31, dX5_endFrom_33, dX5_endFrom_34, trivial⟩ rfl rfl ?_
    refine wx_icmp_eq (tgt := 45) dX5_endFrom_35 (by decide) (fun h => absurd h (by decide)) (fun _ => ?_)
    refine wp_run [(.iload 4, 2)] (pc' := 40) (L' := [(4, .inl (.int (F_X5_arrivalAt h k s))), (3, .inl (.int 0)), (0, .inr (6, some 0)), (1, .inl (.int s)), (2, .inl (.int k))]) (st' := [.inl (.int (F_X5_arrivalAt h k s))]) ⟨dX5_endFrom_38, trivial⟩ rfl rfl ?_
    refine wx_ldc kc_X5_45 dX5_endFrom_40 ?_
    refine wx_icmp_lt (tgt := 50) dX5_endFrom_42 (by decide) (fun h_4 => ?_) (fun h_4 => ?_)
    · refine wp_run [(.iload 4, 2), (.iload_n 3, 1), (.iadd, 1)] (pc' := 54) (L' := [(4, .inl (.int (F_X5_arrivalAt h k s))), (3, .inl (.int 0)), (0, .inr (6, some 0)), (1, .inl (.int s)), (2, .inl (.int k))]) (st' := [.inl (.int ((F_X5_arrivalAt h k s) + 0))]) ⟨dX5_endFrom_50, dX5_endFrom_52, dX5_endFrom_53, trivial⟩ rfl rfl ?_
      exact wx_iret rfl rfl dX5_endFrom_54 (by rw [F_X5_endFrom, if_pos h_1, if_pos h_4]; exact ⟨rfl, rfl⟩)
    · refine wx_ldc kc_X5_45 dX5_endFrom_45 ?_
      refine wx_goto (tgt := 54) dX5_endFrom_47 (by decide) ?_
      exact wx_iret rfl rfl dX5_endFrom_54 (by rw [F_X5_endFrom, if_pos h_1, if_neg h_4]; exact ⟨rfl, rfl⟩)
def F_X5_minutesAhead (h : Hp) (a : Int32) (t : Nat) (r : Nat) (k : Int32) : Int32 := (if k = 1 then (if a = (F_X4_boardsAt h t r) then 0 else (F_X5_changing h a (F_X4_boardsAt h t r))) else (F_X5_changing h a (F_X4_boardsAt h t r)))
set_option maxRecDepth 20000 in
theorem c_X5_minutesAhead {g : GT} {d : Nat} (hd : 4 ≤ d) {h : Hp} (W : CW h) {t r : Nat} (hr : xFR h 500 r = some t) (ht : t < xLS h 11) (a : Int32) (k : Int32)  : Ctr g M_X5_minutesAhead d 0 0 [.inr (6, some 0), .inl (.int a), .inr (5, some r), .inl (.int k)] h (cy_det (.inl (some (.inl (.int (F_X5_minutesAhead h a t r k))))) h) := by
  refine cy_body rfl rfl (by decide) (Nat.le_of_ble_eq_true rfl) ?_
  refine wp_run [(.aload_n 2, 1)] (pc' := 1) (L' := [(0, .inr (6, some 0)), (1, .inl (.int a)), (2, .inr (5, some r)), (3, .inl (.int k))]) (st' := [.inr (5, some r)]) ⟨dX5_minutesAhead_0, trivial⟩ rfl rfl ?_
  refine wx_virtualD (M := M_X5_minutesAhead) (uc := 0) (us := 0) (s := 5) (i := r) (As := []) (rest := []) cls_5 rfl (ok_X4_boardsAt _ _) ml_X5_175 im_X4_boardsAt se_X4_boardsAt (by omega) (c_X4_boardsAt (d := d - 1) (h := h) (by omega) W hr ht) rfl rfl (Nat.le_of_ble_eq_true rfl) dX5_minutesAhead_1 ?_
  refine wp_run [(.istore 4, 2), (.iload_n 3, 1), (.iconst 1, 1)] (pc' := 8) (L' := [(4, .inl (.int (F_X4_boardsAt h t r))), (0, .inr (6, some 0)), (1, .inl (.int a)), (2, .inr (5, some r)), (3, .inl (.int k))]) (st' := [.inl (.int 1), .inl (.int k)]) ⟨dX5_minutesAhead_4, dX5_minutesAhead_6, dX5_minutesAhead_7, trivial⟩ rfl rfl ?_
  refine wx_icmp_ne (tgt := 21) dX5_minutesAhead_8 (by decide) (fun h_1 => ?_) (fun h_1 => ?_)
  · refine wp_run [(.aload_n 0, 1), (.iload_n 1, 1), (.iload 4, 2)] (pc' := 25) (L' := [(4, .inl (.int (F_X4_boardsAt h t r))), (0, .inr (6, some 0)), (1, .inl (.int a)), (2, .inr (5, some r)), (3, .inl (.int k))]) (st' := [.inl (.int (F_X4_boardsAt h t r)), .inl (.int a), .inr (6, some 0)]) ⟨dX5_minutesAhead_21, dX5_minutesAhead_22, dX5_minutesAhead_23, trivial⟩ rfl rfl ?_
    refine wx_virtualD (M := M_X5_minutesAhead) (uc := 0) (us := 0) (s := 6) (i := 0) (As := [.inl (.int a), .inl (.int (F_X4_boardsAt h t r))]) (rest := []) cls_6 rfl (ok_X5_changing _ _) ml_X5_132 im_X5_changing se_X5_changing (by omega) (c_X5_changing (d := d - 1) (h := h) (by omega) W a (F_X4_boardsAt h t r)) rfl rfl (Nat.le_of_ble_eq_true rfl) dX5_minutesAhead_25 ?_
    exact wx_iret rfl rfl dX5_minutesAhead_28 (by rw [F_X5_minutesAhead, if_neg h_1]; exact ⟨rfl, rfl⟩)
  · refine wp_run [(.iload_n 1, 1), (.iload 4, 2)] (pc' := 14) (L' := [(4, .inl (.int (F_X4_boardsAt h t r))), (0, .inr (6, some 0)), (1, .inl (.int a)), (2, .inr (5, some r)), (3, .inl (.int k))]) (st' := [.inl (.int (F_X4_boardsAt h t r)), .inl (.int a)]) ⟨dX5_minutesAhead_11, dX5_minutesAhead_12, trivial⟩ rfl rfl ?_
    refine wx_icmp_ne (tgt := 21) dX5_minutesAhead_14 (by decide) (fun h_2 => ?_) (fun h_2 => ?_)
    · refine wp_run [(.aload_n 0, 1), (.iload_n 1, 1), (.iload 4, 2)] (pc' := 25) (L' := [(4, .inl (.int (F_X4_boardsAt h t r))), (0, .inr (6, some 0)), (1, .inl (.int a)), (2, .inr (5, some r)), (3, .inl (.int k))]) (st' := [.inl (.int (F_X4_boardsAt h t r)), .inl (.int a), .inr (6, some 0)]) ⟨dX5_minutesAhead_21, dX5_minutesAhead_22, dX5_minutesAhead_23, trivial⟩ rfl rfl ?_
      refine wx_virtualD (M := M_X5_minutesAhead) (uc := 0) (us := 0) (s := 6) (i := 0) (As := [.inl (.int a), .inl (.int (F_X4_boardsAt h t r))]) (rest := []) cls_6 rfl (ok_X5_changing _ _) ml_X5_132 im_X5_changing se_X5_changing (by omega) (c_X5_changing (d := d - 1) (h := h) (by omega) W a (F_X4_boardsAt h t r)) rfl rfl (Nat.le_of_ble_eq_true rfl) dX5_minutesAhead_25 ?_
      exact wx_iret rfl rfl dX5_minutesAhead_28 (by rw [F_X5_minutesAhead, if_pos h_1, if_neg h_2]; exact ⟨rfl, rfl⟩)
    · refine wp_run [(.iconst 0, 1)] (pc' := 18) (L' := [(4, .inl (.int (F_X4_boardsAt h t r))), (0, .inr (6, some 0)), (1, .inl (.int a)), (2, .inr (5, some r)), (3, .inl (.int k))]) (st' := [.inl (.int 0)]) ⟨dX5_minutesAhead_17, trivial⟩ rfl rfl ?_
      refine wx_goto (tgt := 28) dX5_minutesAhead_18 (by decide) ?_
      exact wx_iret rfl rfl dX5_minutesAhead_28 (by rw [F_X5_minutesAhead, if_pos h_1, if_pos h_2]; exact ⟨rfl, rfl⟩)
