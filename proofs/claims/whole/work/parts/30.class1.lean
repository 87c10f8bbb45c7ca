def F_X8_firstDayFor (x : Int32) : Int32 := (if 0 < ((x / 1440) - 1) then ((x / 1440) - 1) else 0)
set_option maxRecDepth 20000 in
theorem c_X8_firstDayFor {g : GT} {d : Nat} (hd : 1 ≤ d) {h : Hp} (x : Int32)  : Ctr g M_X8_firstDayFor d 0 0 [.inl (.int x)] h (cy_det (.inl (some (.inl (.int (F_X8_firstDayFor x))))) h) := by
  refine cy_body rfl rfl (by decide) (Nat.le_of_ble_eq_true rfl) ?_
  refine wp_run [(.iconst 0, 1), (.iload_n 0, 1), (.sipush 1440, 3)] (pc' := 5) (L' := [(0, .inl (.int x))]) (st' := [.inl (.int 1440), .inl (.int x), .inl (.int 0)]) ⟨dX8_firstDayFor_0, dX8_firstDayFor_1, dX8_firstDayFor_2, trivial⟩ rfl rfl ?_
  refine wx_idiv (by decide) dX8_firstDayFor_5 ?_
  refine wp_run [(.iconst 1, 1), (.isub, 1)] (pc' := 8) (L' := [(0, .inl (.int x))]) (st' := [.inl (.int ((x / 1440) - 1)), .inl (.int 0)]) ⟨dX8_firstDayFor_6, dX8_firstDayFor_7, trivial⟩ rfl rfl ?_
  refine wx_max ml_X8_292 max_st math_ini max_code (by omega) (Nat.le_of_ble_eq_true rfl) dX8_firstDayFor_8 ?_
  exact wx_iret rfl rfl dX8_firstDayFor_11 (by exact ⟨rfl, rfl⟩)
def F_X8_lastDayFor (x : Int32) : Int32 := (if ((x / 1440) + 1) < 99 then ((x / 1440) + 1) else 99)
set_option maxRecDepth 20000 in
theorem c_X8_lastDayFor {g : GT} {d : Nat} (hd : 1 ≤ d) {h : Hp} (x : Int32)  : Ctr g M_X8_lastDayFor d 0 0 [.inl (.int x)] h (cy_det (.inl (some (.inl (.int (F_X8_lastDayFor x))))) h) := by
  refine cy_body rfl rfl (by decide) (Nat.le_of_ble_eq_true rfl) ?_
  refine wp_run [(.bipush 99, 2), (.iload_n 0, 1), (.sipush 1440, 3)] (pc' := 6) (L' := [(0, .inl (.int x))]) (st' := [.inl (.int 1440), .inl (.int x), .inl (.int 99)]) ⟨dX8_lastDayFor_0, dX8_lastDayFor_2, dX8_lastDayFor_3, trivial⟩ rfl rfl ?_
  refine wx_idiv (by decide) dX8_lastDayFor_6 ?_
  refine wp_run [(.iconst 1, 1), (.iadd, 1)] (pc' := 9) (L' := [(0, .inl (.int x))]) (st' := [.inl (.int ((x / 1440) + 1)), .inl (.int 99)]) ⟨dX8_lastDayFor_7, dX8_lastDayFor_8, trivial⟩ rfl rfl ?_
  refine wx_min ml_X8_297 min_st math_ini min_code (by omega) (Nat.le_of_ble_eq_true rfl) dX8_lastDayFor_9 ?_
  exact wx_iret rfl rfl dX8_lastDayFor_12 (by exact ⟨rfl, rfl⟩)
def F_X8_timeOrNone (x : Int32) : Int32 := (if 1000000000 ≤ x then (-1) else x)
set_option maxRecDepth 20000 in
theorem c_X8_timeOrNone {g : GT} {d : Nat} (hd : 1 ≤ d) {h : Hp} (x : Int32)  : Ctr g M_X8_timeOrNone d 0 0 [.inl (.int x)] h (cy_det (.inl (some (.inl (.int (F_X8_timeOrNone x))))) h) := by
  refine cy_body rfl rfl (by decide) (Nat.le_of_ble_eq_true rfl) ?_
  refine wp_run [(.iload_n 0, 1)] (pc' := 1) (L' := [(0, .inl (.int x))]) (st' := [.inl (.int x)]) ⟨dX8_timeOrNone_0, trivial⟩ rfl rfl ?_
  refine wx_ldc kc_X8_174 dX8_timeOrNone_1 ?_
  refine wx_icmp_ge (tgt := 10) dX8_timeOrNone_3 (by decide) (fun h_1 => ?_) (fun h_1 => ?_)
  · refine wp_run [(.iconst (-1), 1)] (pc' := 11) (L' := [(0, .inl (.int x))]) (st' := [.inl (.int (-1))]) ⟨dX8_timeOrNone_10, trivial⟩ rfl rfl ?_
    exact wx_iret rfl rfl dX8_timeOrNone_11 (by exact ⟨by unfold F_X8_timeOrNone; rw [if_pos h_1], rfl⟩)
  · refine wp_run [(.iload_n 0, 1)] (pc' := 7) (L' := [(0, .inl (.int x))]) (st' := [.inl (.int x)]) ⟨dX8_timeOrNone_6, trivial⟩ rfl rfl ?_
    refine wx_goto (tgt := 11) dX8_timeOrNone_7 (by decide) ?_
    exact wx_iret rfl rfl dX8_timeOrNone_11 (by exact ⟨by unfold F_X8_timeOrNone; rw [if_neg h_1], rfl⟩)
def F_X8_needRange (x : Int32) (lo : Int32) (hi : Int32) : Rs := (if x < lo then .inr cy_e1 else (if x ≤ hi then .inl none else .inr cy_e1))
set_option maxRecDepth 20000 in
theorem c_X8_needRange {g : GT} {d : Nat} (hd : 6 ≤ d) {h : Hp} (x : Int32) (lo : Int32) (hi : Int32)  : Ctr g M_X8_needRange d 1 6 [.inl (.int x), .inl (.int lo), .inl (.int hi)] h (cy_det (F_X8_needRange x lo hi) h) := by
  refine cy_body rfl rfl (by decide) (Nat.le_of_ble_eq_true rfl) ?_
  refine wp_run [(.iload_n 0, 1), (.iload_n 1, 1)] (pc' := 2) (L' := [(0, .inl (.int x)), (1, .inl (.int lo)), (2, .inl (.int hi))]) (st' := [.inl (.int lo), .inl (.int x)]) ⟨dX8_needRange_0, dX8_needRange_1, trivial⟩ rfl rfl ?_
  refine wx_icmp_lt (tgt := 10) dX8_needRange_2 (by decide) (fun h_1 => ?_) (fun h_1 => ?_)
  · exact wx_throwS (text := "out of range") (uc := 0) (us := 0) rfl rfl rfl (by omega) (by decide) exk_1 exi_1 (by decide) exa_1 (Nat.le_of_ble_eq_true rfl) dX8_needRange_10 dX8_needRange_13 dX8_needRange_14 dX8_needRange_16 dX8_needRange_19 (by exact ⟨by unfold F_X8_needRange; rw [if_pos h_1], rfl⟩)
  · refine wp_run [(.iload_n 0, 1), (.iload_n 2, 1)] (pc' := 7) (L' := [(0, .inl (.int x)), (1, .inl (.int lo)), (2, .inl (.int hi))]) (st' := [.inl (.int hi), .inl (.int x)]) ⟨dX8_needRange_5, dX8_needRange_6, trivial⟩ rfl rfl ?_
    refine wx_icmp_le (tgt := 20) dX8_needRange_7 (by decide) (fun h_2 => ?_) (fun h_2 => ?_)
    · exact wx_vret rfl rfl dX8_needRange_20 (by exact ⟨by unfold F_X8_needRange; rw [if_neg h_1, if_pos h_2], rfl⟩)
    · exact wx_throwS (text := "out of range") (uc := 0) (us := 0) rfl rfl rfl (by omega) (by decide) exk_1 exi_1 (by decide) exa_1 (Nat.le_of_ble_eq_true rfl) dX8_needRange_10 dX8_needRange_13 dX8_needRange_14 dX8_needRange_16 dX8_needRange_19 (by exact ⟨by unfold F_X8_needRange; rw [if_neg h_1, if_neg h_2], rfl⟩)
def F_X8_needFirm (x : Int32) : Rs := (if x < 0 then .inr cy_e3 else (if x < 3 then .inl none else .inr cy_e3))
set_option maxRecDepth 20000 in
theorem c_X8_needFirm {g : GT} {d : Nat} (hd : 6 ≤ d) {h : Hp} (x : Int32)  : Ctr g M_X8_needFirm d 1 6 [.inl (.int x)] h (cy_det (F_X8_needFirm x) h) := by
  refine cy_body rfl rfl (by decide) (Nat.le_of_ble_eq_true rfl) ?_
  refine wp_run [(.iload_n 0, 1)] (pc' := 1) (L' := [(0, .inl (.int x))]) (st' := [.inl (.int x)]) ⟨dX8_needFirm_0, trivial⟩ rfl rfl ?_
  refine wx_if_lt (tgt := 9) dX8_needFirm_1 (by decide) (fun h_1 => ?_) (fun h_1 => ?_)
  · exact wx_throwW (text := "no such firm") (uc := 0) (us := 0) rfl rfl rfl (by omega) (by decide) exk_3 exi_3 (by decide) exa_3 (Nat.le_of_ble_eq_true rfl) dX8_needFirm_9 dX8_needFirm_12 dX8_needFirm_13 dX8_needFirm_16 dX8_needFirm_19 (by exact ⟨by unfold F_X8_needFirm; rw [if_pos h_1], rfl⟩)
  · refine wp_run [(.iload_n 0, 1), (.iconst 3, 1)] (pc' := 6) (L' := [(0, .inl (.int x))]) (st' := [.inl (.int 3), .inl (.int x)]) ⟨dX8_needFirm_4, dX8_needFirm_5, trivial⟩ rfl rfl ?_
    refine wx_icmp_lt (tgt := 20) dX8_needFirm_6 (by decide) (fun h_2 => ?_) (fun h_2 => ?_)
    · exact wx_vret rfl rfl dX8_needFirm_20 (by exact ⟨by unfold F_X8_needFirm; rw [if_neg h_1, if_pos h_2], rfl⟩)
    · exact wx_throwW (text := "no such firm") (uc := 0) (us := 0) rfl rfl rfl (by omega) (by decide) exk_3 exi_3 (by decide) exa_3 (Nat.le_of_ble_eq_true rfl) dX8_needFirm_9 dX8_needFirm_12 dX8_needFirm_13 dX8_needFirm_16 dX8_needFirm_19 (by exact ⟨by unfold F_X8_needFirm; rw [if_neg h_1, if_neg h_2], rfl⟩)
def F_X8_needStop (h : Hp) (x : Int32) : Rs := (if x < 0 then .inr cy_e3 else (if x < (xFI h 403 0) then .inl none else .inr cy_e3))
set_option maxRecDepth 20000 in
theorem c_X8_needStop {g : GT} {d : Nat} (hd : 6 ≤ d) {h : Hp} (W : CW h) (x : Int32)  : Ctr g M_X8_needStop d 1 6 [.inr (9, some 0), .inl (.int x)] h (cy_det (F_X8_needStop h x) h) := by
  refine cy_body rfl rfl (by decide) (Nat.le_of_ble_eq_true rfl) ?_
  refine wp_run [(.iload_n 1, 1)] (pc' := 1) (L' := [(0, .inr (9, some 0)), (1, .inl (.int x))]) (st' := [.inl (.int x)]) ⟨dX8_needStop_0, trivial⟩ rfl rfl ?_
  refine wx_if_lt (tgt := 15) dX8_needStop_1 (by decide) (fun h_1 => ?_) (fun h_1 => ?_)
  · exact wx_throwW (text := "no such stop") (uc := 0) (us := 0) rfl rfl rfl (by omega) (by decide) exk_3 exi_3 (by decide) exa_3 (Nat.le_of_ble_eq_true rfl) dX8_needStop_15 dX8_needStop_18 dX8_needStop_19 dX8_needStop_22 dX8_needStop_25 (by exact ⟨by unfold F_X8_needStop; rw [if_pos h_1], rfl⟩)
  · refine wp_run [(.iload_n 1, 1), (.aload_n 0, 1)] (pc' := 6) (L' := [(0, .inr (9, some 0)), (1, .inl (.int x))]) (st' := [.inr (9, some 0), .inl (.int x)]) ⟨dX8_needStop_4, dX8_needStop_5, trivial⟩ rfl rfl ?_
    refine wx_getR cls_9 (k := 0) (f := 900) (t := 4) (o := some 0) (by decide) rfl rfl fl_X8_10 (W.fr (f := 900) (by decide)) dX8_needStop_6 ?_
    refine wx_getI cls_4 (k := 3) (f := 403) (by decide) rfl rfl fl_X8_54 dX8_needStop_9 ?_
    refine wx_icmp_lt (tgt := 26) dX8_needStop_12 (by decide) (fun h_2 => ?_) (fun h_2 => ?_)
    · exact wx_vret rfl rfl dX8_needStop_26 (by exact ⟨by unfold F_X8_needStop; rw [if_neg h_1, if_pos h_2], rfl⟩)
    · exact wx_throwW (text := "no such stop") (uc := 0) (us := 0) rfl rfl rfl (by omega) (by decide) exk_3 exi_3 (by decide) exa_3 (Nat.le_of_ble_eq_true rfl) dX8_needStop_15 dX8_needStop_18 dX8_needStop_19 dX8_needStop_22 dX8_needStop_25 (by exact ⟨by unfold F_X8_needStop; rw [if_neg h_1, if_neg h_2], rfl⟩)
def F_X7_stopAt (h : Hp) (t : Nat) (p : Int32) : Int32 := (F_at h 28 t p)
set_option maxRecDepth 20000 in
theorem c_X7_stopAt {g : GT} {d : Nat} (hd : 2 ≤ d) {h : Hp} (W : CW h) {t : Nat} (ht : t < xLS h 11) (p : Int32)  : Ctr g M_X7_stopAt d 0 0 [.inr (8, some t), .inl (.int p)] h (cy_det (.inl (some (.inl (.int (F_X7_stopAt h t p))))) h) := by
  refine cy_body rfl rfl (by decide) (Nat.le_of_ble_eq_true rfl) ?_
  refine wp_run [(.aload_n 0, 1)] (pc' := 1) (L' := [(0, .inr (8, some t)), (1, .inl (.int p))]) (st' := [.inr (8, some t)]) ⟨dX7_stopAt_0, trivial⟩ rfl rfl ?_
  refine wx_getR cls_8 (k := 4) (f := 804) (t := 28) (o := some t) (by decide) rfl rfl fl_X7_9 (W.tfr (f := 804) ht (by decide)) dX7_stopAt_1 ?_
  refine wp_run [(.iload_n 1, 1)] (pc' := 5) (L' := [(0, .inr (8, some t)), (1, .inl (.int p))]) (st' := [.inl (.int p), .inr (28, some t)]) ⟨dX7_stopAt_4, trivial⟩ rfl rfl ?_
  refine wx_staticND (M := M_X7_stopAt) (uc := 0) (us := 0) (As := [.inr (28, some t), .inl (.int p)]) (rest := []) (ok_X8_at _ _) ml_X7_51 st_X8_at (by omega) (c_X8_at (d := d - 1) (by omega) (s := 28) (i := t) (Or.inl rfl) (Nat.le_of_ble_eq_true rfl) p) rfl rfl (Nat.le_of_ble_eq_true rfl) dX7_stopAt_5 ?_
  exact wx_iret rfl rfl dX7_stopAt_8 (by exact ⟨rfl, rfl⟩)
def F_X7_reaches (h : Hp) (t : Nat) (dy : Int32) (p : Int32) : Int32 := (((dy * 1440) + (F_at h 29 t p)) + (F_at h 32 t dy))
set_option maxRecDepth 20000 in
theorem c_X7_reaches {g : GT} {d : Nat} (hd : 2 ≤ d) {h : Hp} (W : CW h) {t : Nat} (ht : t < xLS h 11) (dy : Int32) (p : Int32)  : Ctr g M_X7_reaches d 0 0 [.inr (8, some t), .inl (.int dy), .inl (.int p)] h (cy_det (.inl (some (.inl (.int (F_X7_reaches h t dy p))))) h) := by
  refine cy_body rfl rfl (by decide) (Nat.le_of_ble_eq_true rfl) ?_
  refine wp_run [(.iload_n 1, 1), (.sipush 1440, 3), (.imul, 1), (.aload_n 0, 1)] (pc' := 6) (L' := [(0, .inr (8, some t)), (1, .inl (.int dy)), (2, .inl (.int p))]) (st' := [.inr (8, some t), .inl (.int (dy * 1440))]) ⟨dX7_reaches_0, dX7_reaches_1, dX7_reaches_4, dX7_reaches_5, trivial⟩ rfl rfl ?_
  refine wx_getR cls_8 (k := 5) (f := 805) (t := 29) (o := some t) (by decide) rfl rfl fl_X7_15 (W.tfr (f := 805) ht (by decide)) dX7_reaches_6 ?_
  refine wp_run [(.iload_n 2, 1)] (pc' := 10) (L' := [(0, .inr (8, some t)), (1, .inl (.int dy)), (2, .inl (.int p))]) (st' := [.inl (.int p), .inr (29, some t), .inl (.int (dy * 1440))]) ⟨dX7_reaches_9, trivial⟩ rfl rfl ?_
  refine wx_staticND (M := M_X7_reaches) (uc := 0) (us := 0) (As := [.inr (29, some t), .inl (.int p)]) (rest := [.inl (.int (dy * 1440))]) (ok_X8_at _ _) ml_X7_51 st_X8_at (by omega) (c_X8_at (d := d - 1) (by omega) (s := 29) (i := t) (Or.inl rfl) (Nat.le_of_ble_eq_true rfl) p) rfl rfl (Nat.le_of_ble_eq_true rfl) dX7_reaches_10 ?_
  refine wp_run [(.iadd, 1), (.aload_n 0, 1)] (pc' := 15) (L' := [(0, .inr (8, some t)), (1, .inl (.int dy)), (2, .inl (.int p))]) (st' := [.inr (8, some t), .inl (.int ((dy * 1440) + (F_at h 29 t p)))]) ⟨dX7_reaches_13, dX7_reaches_14, trivial⟩ rfl rfl ?_
  refine wx_getR cls_8 (k := 8) (f := 808) (t := 32) (o := some t) (by decide) rfl rfl fl_X7_25 (W.tfr (f := 808) ht (by decide)) dX7_reaches_15 ?_
  refine wp_run [(.iload_n 1, 1)] (pc' := 19) (L' := [(0, .inr (8, some t)), (1, .inl (.int dy)), (2, .inl (.int p))]) (st' := [.inl (.int dy), .inr (32, some t), .inl (.int ((dy * 1440) + (F_at h 29 t p)))]) ⟨dX7_reaches_18, trivial⟩ rfl rfl ?_
  refine wx_staticND (M := M_X7_reaches) (uc := 0) (us := 0) (As := [.inr (32, some t), .inl (.int dy)]) (rest := [.inl (.int ((dy * 1440) + (F_at h 29 t p)))]) (ok_X8_at _ _) ml_X7_51 st_X8_at (by omega) (c_X8_at (d := d - 1) (by omega) (s := 32) (i := t) (Or.inl rfl) (Nat.le_of_ble_eq_true rfl) dy) rfl rfl (Nat.le_of_ble_eq_true rfl) dX7_reaches_19 ?_
  refine wp_run [(.iadd, 1)] (pc' := 23) (L' := [(0, .inr (8, some t)), (1, .inl (.int dy)), (2, .inl (.int p))]) (st' := [.inl (.int (((dy * 1440) + (F_at h 29 t p)) + (F_at h 32 t dy)))]) ⟨dX7_reaches_22, trivial⟩ rfl rfl ?_
  exact wx_iret rfl rfl dX7_reaches_23 (by exact ⟨rfl, rfl⟩)
def F_X7_leaves (h : Hp) (t : Nat) (dy : Int32) (p : Int32) : Int32 := (((dy * 1440) + (F_at h 30 t p)) + (F_at h 32 t dy))
set_option maxRecDepth 20000 in
theorem c_X7_leaves {g : GT} {d : Nat} (hd : 2 ≤ d) {h : Hp} (W : CW h) {t : Nat} (ht : t < xLS h 11) (dy : Int32) (p : Int32)  : Ctr g M_X7_leaves d 0 0 [.inr (8, some t), .inl (.int dy), .inl (.int p)] h (cy_det (.inl (some (.inl (.int (F_X7_leaves h t dy p))))) h) := by
  refine cy_body rfl rfl (by decide) (Nat.le_of_ble_eq_true rfl) ?_
  refine wp_run [(.iload_n 1, 1), (.sipush 1440, 3), (.imul, 1), (.aload_n 0, 1)] (pc' := 6) (L' := [(0, .inr (8, some t)), (1, .inl (.int dy)), (2, .inl (.int p))]) (st' := [.inr (8, some t), .inl (.int (dy * 1440))]) ⟨dX7_leaves_0, dX7_leaves_1, dX7_leaves_4, dX7_leaves_5, trivial⟩ rfl rfl ?_
  refine wx_getR cls_8 (k := 6) (f := 806) (t := 30) (o := some t) (by decide) rfl rfl fl_X7_18 (W.tfr (f := 806) ht (by decide)) dX7_leaves_6 ?_
  refine wp_run [(.iload_n 2, 1)] (pc' := 10) (L' := [(0, .inr (8, some t)), (1, .inl (.int dy)), (2, .inl (.int p))]) (st' := [.inl (.int p), .inr (30, some t), .inl (.int (dy * 1440))]) ⟨dX7_leaves_9, trivial⟩ rfl rfl ?_
  refine wx_staticND (M := M_X7_leaves) (uc := 0) (us := 0) (As := [.inr (30, some t), .inl (.int p)]) (rest := [.inl (.int (dy * 1440))]) (ok_X8_at _ _) ml_X7_51 st_X8_at (by omega) (c_X8_at (d := d - 1) (by omega) (s := 30) (i := t) (Or.inl rfl) (Nat.le_of_ble_eq_true rfl) p) rfl rfl (Nat.le_of_ble_eq_true rfl) dX7_leaves_10 ?_
  refine wp_run [(.iadd, 1), (.aload_n 0, 1)] (pc' := 15) (L' := [(0, .inr (8, some t)), (1, .inl (.int dy)), (2, .inl (.int p))]) (st' := [.inr (8, some t), .inl (.int ((dy * 1440) + (F_at h 30 t p)))]) ⟨dX7_leaves_13, dX7_leaves_14, trivial⟩ rfl rfl ?_
  refine wx_getR cls_8 (k := 8) (f := 808) (t := 32) (o := some t) (by decide) rfl rfl fl_X7_25 (W.tfr (f := 808) ht (by decide)) dX7_leaves_15 ?_
  refine wp_run [(.iload_n 1, 1)] (pc' := 19) (L' := [(0, .inr (8, some t)), (1, .inl (.int dy)), (2, .inl (.int p))]) (st' := [.inl (.int dy), .inr (32, some t), .inl (.int ((dy * 1440) + (F_at h 30 t p)))]) ⟨dX7_leaves_18, trivial⟩ rfl rfl ?_
  refine wx_staticND (M := M_X7_leaves) (uc := 0) (us := 0) (As := [.inr (32, some t), .inl (.int dy)]) (rest := [.inl (.int ((dy * 1440) + (F_at h 30 t p)))]) (ok_X8_at _ _) ml_X7_51 st_X8_at (by omega) (c_X8_at (d := d - 1) (by omega) (s := 32) (i := t) (Or.inl rfl) (Nat.le_of_ble_eq_true rfl) dy) rfl rfl (Nat.le_of_ble_eq_true rfl) dX7_leaves_19 ?_
  refine wp_run [(.iadd, 1)] (pc' := 23) (L' := [(0, .inr (8, some t)), (1, .inl (.int dy)), (2, .inl (.int p))]) (st' := [.inl (.int (((dy * 1440) + (F_at h 30 t p)) + (F_at h 32 t dy)))]) ⟨dX7_leaves_22, trivial⟩ rfl rfl ?_
  exact wx_iret rfl rfl dX7_leaves_23 (by exact ⟨rfl, rfl⟩)
