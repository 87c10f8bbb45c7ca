/-! ===== own: what the calls ask for first ===== -/
abbrev okR (x lo hi : Int32) : Prop := ¬ x < lo ∧ x ≤ hi
abbrev okF (x : Int32) : Prop := ¬ x < 0 ∧ x < 3
abbrev okS (h : Hp) (x : Int32) : Prop := ¬ x < 0 ∧ x < xFI h 403 0
abbrev okW (h : Hp) (a b ti : Int32) : Prop := (okS h a ∧ okS h b) ∧ ¬ a = b ∧ okR ti 0 140000
abbrev okT (h : Hp) (x : Int32) : Prop := ¬ x < 0 ∧ x < nI (xLS h 11)
abbrev okB (h : Hp) (x : Int32) : Prop := ¬ x < 0 ∧ x < nI (xLS h 12)
def eW (h : Hp) (a b : Int32) : String := if okS h a ∧ okS h b then cy_e1 else cy_e3
theorem fR_ok {x lo hi : Int32} (p : okR x lo hi) : F_X8_needRange x lo hi = .inl none := by unfold F_X8_needRange; rw [if_neg p.1, if_pos p.2]
theorem fR_no {x lo hi : Int32} (p : ¬ okR x lo hi) : F_X8_needRange x lo hi = .inr cy_e1 := by
  unfold F_X8_needRange
  by_cases a : x < lo
  · rw [if_pos a]
  · rw [if_neg a, if_neg (fun b => p ⟨a, b⟩)]
theorem fF_ok {x : Int32} (p : okF x) : F_X8_needFirm x = .inl none := by unfold F_X8_needFirm; rw [if_neg p.1, if_pos p.2]
theorem fF_no {x : Int32} (p : ¬ okF x) : F_X8_needFirm x = .inr cy_e3 := by
  unfold F_X8_needFirm
  by_cases a : x < 0
  · rw [if_pos a]
  · rw [if_neg a, if_neg (fun b => p ⟨a, b⟩)]
theorem fS_ok {h : Hp} {x : Int32} (p : okS h x) : F_X8_needStop h x = .inl none := by unfold F_X8_needStop; rw [if_neg p.1, if_pos p.2]
theorem fS_no {h : Hp} {x : Int32} (p : ¬ okS h x) : F_X8_needStop h x = .inr cy_e3 := by
  unfold F_X8_needStop
  by_cases a : x < 0
  · rw [if_pos a]
  · rw [if_neg a, if_neg (fun b => p ⟨a, b⟩)]
theorem okT_lt {h : Hp} (W : CW h) {x : Int32} (p : okT h x) : x.toNatClampNeg < xLS h 11 := (cy_ix p.1 (Nat.le_trans W.t20 (by decide)) p.2).2
theorem okB_lt {h : Hp} (W : CW h) {x : Int32} (p : okB h x) : x.toNatClampNeg < xLS h 12 := (cy_ix p.1 (Nat.le_trans W.b30 (by decide)) p.2).2
def F_X8_needWay (h : Hp) (a : Int32) (b : Int32) (ti : Int32) : Rs := (if okS h a then (if okS h b then (if a = b then .inr cy_e1 else (if okR ti 0 140000 then .inl none else .inr cy_e1)) else .inr cy_e3) else .inr cy_e3)
set_option maxRecDepth 20000 in
theorem c_X8_needWay {g : GT} {d : Nat} (hd : 7 ≤ d) {h : Hp} (W : CW h) (a : Int32) (b : Int32) (ti : Int32)  : Ctr g M_X8_needWay d 4 24 [.inr (9, some 0), .inl (.int a), .inl (.int b), .inl (.int ti)] h (cy_det (F_X8_needWay h a b ti) h) := by
  refine cy_body rfl rfl (by decide) (Nat.le_of_ble_eq_true rfl) ?_
  refine wp_run [(.aload_n 0, 1), (.iload_n 1, 1)] (pc' := 2) (L' := [(0, .inr (9, some 0)), (1, .inl (.int a)), (2, .inl (.int b)), (3, .inl (.int ti))]) (st' := [.inl (.int a), .inr (9, some 0)]) ⟨dX8_needWay_0, dX8_needWay_1, trivial⟩ rfl rfl ?_
  by_cases h_1 : okS h a
  · refine wx_virtualD (M := M_X8_needWay) (uc := 3) (us := 18) (s := 9) (i := 0) (As := [.inl (.int a)]) (rest := []) cls_9 rfl (ok_X8_needStop _ _) ml_X8_68 im_X8_needStop se_X8_needStop (by omega) (det_to (c_X8_needStop (d := d - 1) (h := h) (by omega) W a) (fS_ok h_1) rfl) rfl rfl (Nat.le_of_ble_eq_true rfl) dX8_needWay_2 ?_
    refine wp_run [(.aload_n 0, 1), (.iload_n 2, 1)] (pc' := 7) (L' := [(0, .inr (9, some 0)), (1, .inl (.int a)), (2, .inl (.int b)), (3, .inl (.int ti))]) (st' := [.inl (.int b), .inr (9, some 0)]) ⟨dX8_needWay_5, dX8_needWay_6, trivial⟩ rfl rfl ?_
    by_cases h_2 : okS h b
    · refine wx_virtualD (M := M_X8_needWay) (uc := 2) (us := 12) (s := 9) (i := 0) (As := [.inl (.int b)]) (rest := []) cls_9 rfl (ok_X8_needStop _ _) ml_X8_68 im_X8_needStop se_X8_needStop (by omega) (det_to (c_X8_needStop (d := d - 1) (h := h) (by omega) W b) (fS_ok h_2) rfl) rfl rfl (Nat.le_of_ble_eq_true rfl) dX8_needWay_7 ?_
      refine wp_run [(.iload_n 1, 1), (.iload_n 2, 1)] (pc' := 12) (L' := [(0, .inr (9, some 0)), (1, .inl (.int a)), (2, .inl (.int b)), (3, .inl (.int ti))]) (st' := [.inl (.int b), .inl (.int a)]) ⟨dX8_needWay_10, dX8_needWay_11, trivial⟩ rfl rfl ?_
      refine wx_icmp_ne (tgt := 26) dX8_needWay_12 (by decide) (fun h_3 => ?_) (fun h_3 => ?_)
      · refine wp_run [(.iload_n 3, 1), (.iconst 0, 1)] (pc' := 28) (L' := [(0, .inr (9, some 0)), (1, .inl (.int a)), (2, .inl (.int b)), (3, .inl (.int ti))]) (st' := [.inl (.int 0), .inl (.int ti)]) ⟨dX8_needWay_26, dX8_needWay_27, trivial⟩ rfl rfl ?_
        refine wx_ldcw kc_X8_270 dX8_needWay_28 ?_
        by_cases h_4 : okR ti 0 140000
        · refine wx_staticD (M := M_X8_needWay) (uc := 1) (us := 6) (As := [.inl (.int ti), .inl (.int 0), .inl (.int 140000)]) (rest := []) (ok_X8_needRange _ _) ml_X8_50 st_X8_needRange (by omega) (det_to (c_X8_needRange (d := d - 1) (h := h) (by omega) ti 0 140000) (fR_ok h_4) rfl) rfl rfl (Nat.le_of_ble_eq_true rfl) dX8_needWay_31 ?_
          exact wx_vret rfl rfl dX8_needWay_34 (by rw [F_X8_needWay, if_pos h_1, if_pos h_2, if_neg h_3, if_pos h_4]; exact ⟨rfl, rfl⟩)
        · exact wx_staticT (M := M_X8_needWay) (uc := 1) (us := 6) (As := [.inl (.int ti), .inl (.int 0), .inl (.int 140000)]) (rest := []) (ok_X8_needRange _ _) ml_X8_50 st_X8_needRange (by omega) (det_to (c_X8_needRange (d := d - 1) (h := h) (by omega) ti 0 140000) (fR_no h_4) rfl) rfl rfl (Nat.le_of_ble_eq_true rfl) dX8_needWay_31 (cy_out rfl rfl (by rw [F_X8_needWay, if_pos h_1, if_pos h_2, if_neg h_3, if_neg h_4]; exact ⟨rfl, rfl⟩))
      · exact wx_throwW (text := "a journey goes to another stop") (uc := 1) (us := 6) rfl rfl rfl (by omega) (by decide) exk_1 exi_1 (by decide) exa_1 (Nat.le_of_ble_eq_true rfl) dX8_needWay_15 dX8_needWay_18 dX8_needWay_19 dX8_needWay_22 dX8_needWay_25 (by rw [F_X8_needWay, if_pos h_1, if_pos h_2, if_pos h_3]; exact ⟨rfl, rfl⟩)
    · exact wx_virtualT (M := M_X8_needWay) (uc := 2) (us := 12) (s := 9) (i := 0) (As := [.inl (.int b)]) (rest := []) cls_9 rfl (ok_X8_needStop _ _) ml_X8_68 im_X8_needStop se_X8_needStop (by omega) (det_to (c_X8_needStop (d := d - 1) (h := h) (by omega) W b) (fS_no h_2) rfl) rfl rfl (Nat.le_of_ble_eq_true rfl) dX8_needWay_7 (cy_out rfl rfl (by rw [F_X8_needWay, if_pos h_1, if_neg h_2]; exact ⟨rfl, rfl⟩))
  · exact wx_virtualT (M := M_X8_needWay) (uc := 3) (us := 18) (s := 9) (i := 0) (As := [.inl (.int a)]) (rest := []) cls_9 rfl (ok_X8_needStop _ _) ml_X8_68 im_X8_needStop se_X8_needStop (by omega) (det_to (c_X8_needStop (d := d - 1) (h := h) (by omega) W a) (fS_no h_1) rfl) rfl rfl (Nat.le_of_ble_eq_true rfl) dX8_needWay_2 (cy_out rfl rfl (by rw [F_X8_needWay, if_neg h_1]; exact ⟨rfl, rfl⟩))
def F_X8_tripOf (h : Hp) (x : Int32) : Rs := (if x < 0 then .inr cy_e3 else (if x < (nI (xLS h 11)) then .inl (some (.inr (8, some (x.toNatClampNeg)))) else .inr cy_e3))
set_option maxRecDepth 20000 in
theorem c_X8_tripOf {g : GT} {d : Nat} (hd : 7 ≤ d) {h : Hp} (W : CW h) (x : Int32)  : Ctr g M_X8_tripOf d 1 6 [.inr (9, some 0), .inl (.int x)] h (cy_det (F_X8_tripOf h x) h) := by
  refine cy_body rfl rfl (by decide) (Nat.le_of_ble_eq_true rfl) ?_
  refine wp_run [(.iload_n 1, 1)] (pc' := 1) (L' := [(0, .inr (9, some 0)), (1, .inl (.int x))]) (st' := [.inl (.int x)]) ⟨dX8_tripOf_0, trivial⟩ rfl rfl ?_
  refine wx_if_lt (tgt := 18) dX8_tripOf_1 (by decide) (fun h_1 => ?_) (fun h_1 => ?_)
  · exact wx_throwW (text := "no such trip") (uc := 0) (us := 0) rfl rfl rfl (by omega) (by decide) exk_3 exi_3 (by decide) exa_3 (Nat.le_of_ble_eq_true rfl) dX8_tripOf_18 dX8_tripOf_21 dX8_tripOf_22 dX8_tripOf_25 dX8_tripOf_28 (by rw [F_X8_tripOf, if_pos h_1]; exact ⟨rfl, rfl⟩)
  · refine wp_run [(.iload_n 1, 1), (.aload_n 0, 1)] (pc' := 6) (L' := [(0, .inr (9, some 0)), (1, .inl (.int x))]) (st' := [.inr (9, some 0), .inl (.int x)]) ⟨dX8_tripOf_4, dX8_tripOf_5, trivial⟩ rfl rfl ?_
    refine wx_getR cls_9 (k := 0) (f := 900) (t := 4) (o := some 0) (by decide) rfl rfl fl_X8_10 (W.fr (f := 900) (by decide)) dX8_tripOf_6 ?_
    refine wx_getR cls_4 (k := 2) (f := 402) (t := 11) (o := some 0) (by decide) rfl rfl fl_X8_87 (W.fr (f := 402) (by decide)) dX8_tripOf_9 ?_
    refine wx_virtualL (M := M_X8_tripOf) (uc := 1) (us := 6) (s := 11) (i := 0) (As := []) (rest := [.inl (.int x)]) rfl rfl (ok_Jx4a65c_size_8abf5 _ _) ml_X8_90 im_Jx4a65c_size_8abf5 se_Jx4a65c_size_8abf5 (by omega) (c_size (d := d - 1) (by omega) (s := 11) rfl) rfl rfl (Nat.le_of_ble_eq_true rfl) dX8_tripOf_12 ?_
    refine wx_icmp_lt (tgt := 29) dX8_tripOf_15 (by decide) (fun h_2 => ?_) (fun h_2 => ?_)
    · refine wp_run [(.aload_n 0, 1)] (pc' := 30) (L' := [(0, .inr (9, some 0)), (1, .inl (.int x))]) (st' := [.inr (9, some 0)]) ⟨dX8_tripOf_29, trivial⟩ rfl rfl ?_
      refine wx_getR cls_9 (k := 0) (f := 900) (t := 4) (o := some 0) (by decide) rfl rfl fl_X8_10 (W.fr (f := 900) (by decide)) dX8_tripOf_30 ?_
      refine wx_getR cls_4 (k := 2) (f := 402) (t := 11) (o := some 0) (by decide) rfl rfl fl_X8_87 (W.fr (f := 402) (by decide)) dX8_tripOf_33 ?_
      refine wp_run [(.iload_n 1, 1)] (pc' := 37) (L' := [(0, .inr (9, some 0)), (1, .inl (.int x))]) (st' := [.inl (.int x), .inr (11, some 0)]) ⟨dX8_tripOf_36, trivial⟩ rfl rfl ?_
      obtain ⟨hl_3x, hl_3⟩ := cy_ix h_1 (Nat.le_trans W.t20 (Nat.le_of_ble_eq_true rfl)) h_2
      refine wx_virtualL (M := M_X8_tripOf) (uc := 1) (us := 6) (s := 11) (i := 0) (As := [.inl (.int x)]) (rest := []) rfl rfl (ok_Jx4a65c_get_915e3 _ _) ml_X8_235 im_Jx4a65c_get_915e3 se_Jx4a65c_get_915e3 (by omega) (det_to (c_get (d := d - 1) (by omega) (s := 11) (i := (x.toNatClampNeg)) rfl hl_3 hl_3x) (by rw [W.tle hl_3]) rfl) rfl rfl (Nat.le_of_ble_eq_true rfl) dX8_tripOf_37 ?_
      refine wx_cast cls_8 cl_X8_96 dX8_tripOf_40 ?_
      exact wx_aret rfl rfl dX8_tripOf_43 (by rw [F_X8_tripOf, if_neg h_1, if_pos h_2]; exact ⟨rfl, rfl⟩)
    · exact wx_throwW (text := "no such trip") (uc := 0) (us := 0) rfl rfl rfl (by omega) (by decide) exk_3 exi_3 (by decide) exa_3 (Nat.le_of_ble_eq_true rfl) dX8_tripOf_18 dX8_tripOf_21 dX8_tripOf_22 dX8_tripOf_25 dX8_tripOf_28 (by rw [F_X8_tripOf, if_neg h_1, if_neg h_2]; exact ⟨rfl, rfl⟩)
def F_X8_bookingOf (h : Hp) (x : Int32) : Rs := (if x < 0 then .inr cy_e3 else (if x < (nI (xLS h 12)) then .inl (some (.inr (1, some (x.toNatClampNeg)))) else .inr cy_e3))
set_option maxRecDepth 20000 in
theorem c_X8_bookingOf {g : GT} {d : Nat} (hd : 7 ≤ d) {h : Hp} (W : CW h) (x : Int32)  : Ctr g M_X8_bookingOf d 1 6 [.inr (9, some 0), .inl (.int x)] h (cy_det (F_X8_bookingOf h x) h) := by
  refine cy_body rfl rfl (by decide) (Nat.le_of_ble_eq_true rfl) ?_
  refine wp_run [(.iload_n 1, 1)] (pc' := 1) (L' := [(0, .inr (9, some 0)), (1, .inl (.int x))]) (st' := [.inl (.int x)]) ⟨dX8_bookingOf_0, trivial⟩ rfl rfl ?_
  refine wx_if_lt (tgt := 15) dX8_bookingOf_1 (by decide) (fun h_1 => ?_) (fun h_1 => ?_)
  · exact wx_throwW (text := "no such booking") (uc := 0) (us := 0) rfl rfl rfl (by omega) (by decide) exk_3 exi_3 (by decide) exa_3 (Nat.le_of_ble_eq_true rfl) dX8_bookingOf_15 dX8_bookingOf_18 dX8_bookingOf_19 dX8_bookingOf_22 dX8_bookingOf_25 (by rw [F_X8_bookingOf, if_pos h_1]; exact ⟨rfl, rfl⟩)
  · refine wp_run [(.iload_n 1, 1), (.aload_n 0, 1)] (pc' := 6) (L' := [(0, .inr (9, some 0)), (1, .inl (.int x))]) (st' := [.inr (9, some 0), .inl (.int x)]) ⟨dX8_bookingOf_4, dX8_bookingOf_5, trivial⟩ rfl rfl ?_
    refine wx_getR cls_9 (k := 4) (f := 904) (t := 12) (o := some 0) (by decide) rfl rfl fl_X8_42 (W.fr (f := 904) (by decide)) dX8_bookingOf_6 ?_
    refine wx_virtualL (M := M_X8_bookingOf) (uc := 1) (us := 6) (s := 12) (i := 0) (As := []) (rest := [.inl (.int x)]) rfl rfl (ok_Jx4a65c_size_8abf5 _ _) ml_X8_90 im_Jx4a65c_size_8abf5 se_Jx4a65c_size_8abf5 (by omega) (c_size (d := d - 1) (by omega) (s := 12) rfl) rfl rfl (Nat.le_of_ble_eq_true rfl) dX8_bookingOf_9 ?_
    refine wx_icmp_lt (tgt := 26) dX8_bookingOf_12 (by decide) (fun h_2 => ?_) (fun h_2 => ?_)
    · refine wp_run [(.aload_n 0, 1)] (pc' := 27) (L' := [(0, .inr (9, some 0)), (1, .inl (.int x))]) (st' := [.inr (9, some 0)]) ⟨dX8_bookingOf_26, trivial⟩ rfl rfl ?_
      refine wx_getR cls_9 (k := 4) (f := 904) (t := 12) (o := some 0) (by decide) rfl rfl fl_X8_42 (W.fr (f := 904) (by decide)) dX8_bookingOf_27 ?_
      refine wp_run [(.iload_n 1, 1)] (pc' := 31) (L' := [(0, .inr (9, some 0)), (1, .inl (.int x))]) (st' := [.inl (.int x), .inr (12, some 0)]) ⟨dX8_bookingOf_30, trivial⟩ rfl rfl ?_
      obtain ⟨hl_3x, hl_3⟩ := cy_ix h_1 (Nat.le_trans W.b30 (Nat.le_of_ble_eq_true rfl)) h_2
      refine wx_virtualL (M := M_X8_bookingOf) (uc := 1) (us := 6) (s := 12) (i := 0) (As := [.inl (.int x)]) (rest := []) rfl rfl (ok_Jx4a65c_get_915e3 _ _) ml_X8_235 im_Jx4a65c_get_915e3 se_Jx4a65c_get_915e3 (by omega) (det_to (c_get (d := d - 1) (by omega) (s := 12) (i := (x.toNatClampNeg)) rfl hl_3 hl_3x) (by rw [W.ble hl_3]) rfl) rfl rfl (Nat.le_of_ble_eq_true rfl) dX8_bookingOf_31 ?_
      refine wx_cast cls_1 cl_X8_213 dX8_bookingOf_34 ?_
      exact wx_aret rfl rfl dX8_bookingOf_37 (by rw [F_X8_bookingOf, if_neg h_1, if_pos h_2]; exact ⟨rfl, rfl⟩)
    · exact wx_throwW (text := "no such booking") (uc := 0) (us := 0) rfl rfl rfl (by omega) (by decide) exk_3 exi_3 (by decide) exa_3 (Nat.le_of_ble_eq_true rfl) dX8_bookingOf_15 dX8_bookingOf_18 dX8_bookingOf_19 dX8_bookingOf_22 dX8_bookingOf_25 (by rw [F_X8_bookingOf, if_neg h_1, if_neg h_2]; exact ⟨rfl, rfl⟩)
theorem fW_ok {h : Hp} {a b ti : Int32} (p : okW h a b ti) : F_X8_needWay h a b ti = .inl none := by unfold F_X8_needWay; rw [if_pos p.1.1, if_pos p.1.2, if_neg p.2.1, if_pos p.2.2]
theorem fW_no {h : Hp} {a b ti : Int32} (p : ¬ okW h a b ti) : F_X8_needWay h a b ti = .inr (eW h a b) := by
  unfold F_X8_needWay eW
  by_cases h1 : okS h a
  · by_cases h2 : okS h b
    · rw [if_pos h1, if_pos h2, if_pos (⟨h1, h2⟩ : okS h a ∧ okS h b)]
      by_cases h3 : a = b
      · rw [if_pos h3]
      · rw [if_neg h3, if_neg (fun q => p ⟨⟨h1, h2⟩, h3, q⟩)]
    · rw [if_pos h1, if_neg h2, if_neg (fun q => h2 q.2)]
  · rw [if_neg h1, if_neg (fun q => h1 q.1)]
theorem fT_ok {h : Hp} {x : Int32} (p : okT h x) : F_X8_tripOf h x = .inl (some (.inr (8, some x.toNatClampNeg))) := by unfold F_X8_tripOf; rw [if_neg p.1, if_pos p.2]
theorem fT_no {h : Hp} {x : Int32} (p : ¬ okT h x) : F_X8_tripOf h x = .inr cy_e3 := by
  unfold F_X8_tripOf
  by_cases a : x < 0
  · rw [if_pos a]
  · rw [if_neg a, if_neg (fun b => p ⟨a, b⟩)]
theorem fB_ok {h : Hp} {x : Int32} (p : okB h x) : F_X8_bookingOf h x = .inl (some (.inr (1, some x.toNatClampNeg))) := by unfold F_X8_bookingOf; rw [if_neg p.1, if_pos p.2]
theorem fB_no {h : Hp} {x : Int32} (p : ¬ okB h x) : F_X8_bookingOf h x = .inr cy_e3 := by
  unfold F_X8_bookingOf
  by_cases a : x < 0
  · rw [if_pos a]
  · rw [if_neg a, if_neg (fun b => p ⟨a, b⟩)]
theorem nb_isThere (h : Hp) (t : Nat) (dy : Int32) : narrow .boolean (.int (F_X7_isThere h t dy)) = .int (F_X7_isThere h t dy) := by
  unfold F_X7_isThere
  repeat' split
  all_goals rfl
def F_X8_stop (h : Hp) (x : Int32) : Rs × Hp := (if okR x 0 60 then (if (xFI h 403 0) < 10 then (.inl (some (.inl (.int ((F_X3_addStop h x).1)))), (F_X3_addStop h x).2) else (.inr cy_e2, h)) else (.inr cy_e1, h))
set_option maxRecDepth 20000 in
theorem c_X8_stop {g : GT} {d : Nat} (hd : 7 ≤ d) {h : Hp} (W : CW h) (x : Int32)  : Ctr g M_X8_stop d 2 12 [.inr (9, some 0), .inl (.int x)] h (cy_detP (F_X8_stop h x).1 (F_X8_stop h x).2 (SR h (F_X8_stop h x).2)) := by
  refine cy_body rfl rfl (by decide) (Nat.le_of_ble_eq_true rfl) ?_
  refine wp_run [(.iload_n 1, 1), (.iconst 0, 1), (.bipush 60, 2)] (pc' := 4) (L' := [(0, .inr (9, some 0)), (1, .inl (.int x))]) (st' := [.inl (.int 60), .inl (.int 0), .inl (.int x)]) ⟨dX8_stop_0, dX8_stop_1, dX8_stop_2, trivial⟩ rfl rfl ?_
  by_cases h_1 : okR x 0 60
  · refine wx_staticD (M := M_X8_stop) (uc := 1) (us := 6) (As := [.inl (.int x), .inl (.int 0), .inl (.int 60)]) (rest := []) (ok_X8_needRange _ _) ml_X8_50 st_X8_needRange (by omega) (det_to (c_X8_needRange (d := d - 1) (h := h) (by omega) x 0 60) (fR_ok h_1) rfl) rfl rfl (Nat.le_of_ble_eq_true rfl) dX8_stop_4 ?_
    refine wp_run [(.aload_n 0, 1)] (pc' := 8) (L' := [(0, .inr (9, some 0)), (1, .inl (.int x))]) (st' := [.inr (9, some 0)]) ⟨dX8_stop_7, trivial⟩ rfl rfl ?_
    refine wx_getR cls_9 (k := 0) (f := 900) (t := 4) (o := some 0) (by decide) rfl rfl fl_X8_10 (W.fr (f := 900) (by decide)) dX8_stop_8 ?_
    refine wx_getI cls_4 (k := 3) (f := 403) (by decide) rfl rfl fl_X8_54 dX8_stop_11 ?_
    refine wp_run [(.bipush 10, 2)] (pc' := 16) (L' := [(0, .inr (9, some 0)), (1, .inl (.int x))]) (st' := [.inl (.int 10), .inl (.int (xFI h 403 0))]) ⟨dX8_stop_14, trivial⟩ rfl rfl ?_
    refine wx_icmp_lt (tgt := 29) dX8_stop_16 (by decide) (fun h_2 => ?_) (fun h_2 => ?_)
    · refine wp_run [(.aload_n 0, 1)] (pc' := 30) (L' := [(0, .inr (9, some 0)), (1, .inl (.int x))]) (st' := [.inr (9, some 0)]) ⟨dX8_stop_29, trivial⟩ rfl rfl ?_
      refine wx_getR cls_9 (k := 0) (f := 900) (t := 4) (o := some 0) (by decide) rfl rfl fl_X8_10 (W.fr (f := 900) (by decide)) dX8_stop_30 ?_
      refine wp_run [(.iload_n 1, 1)] (pc' := 34) (L' := [(0, .inr (9, some 0)), (1, .inl (.int x))]) (st' := [.inl (.int x), .inr (4, some 0)]) ⟨dX8_stop_33, trivial⟩ rfl rfl ?_
      refine wx_virtualDP (M := M_X8_stop) (uc := 1) (us := 6) (s := 4) (i := 0) (As := [.inl (.int x)]) (rest := []) cls_4 rfl (ok_X3_addStop _ _) ml_X8_64 im_X3_addStop se_X3_addStop (by omega) (c_X3_addStop (d := d - 1) (h := h) (by omega) W x) rfl rfl (Nat.le_of_ble_eq_true rfl) dX8_stop_34 (fun hS_3 => ?_)
      exact wx_iret rfl rfl dX8_stop_37 (by rw [F_X8_stop, if_pos h_1, if_pos h_2]; dsimp only; exact ⟨hS_3, rfl, rfl⟩)
    · exact wx_throwS (text := "no more stops") (uc := 0) (us := 0) rfl rfl rfl (by omega) (by decide) exk_2 exi_2 (by decide) exa_2 (Nat.le_of_ble_eq_true rfl) dX8_stop_19 dX8_stop_22 dX8_stop_23 dX8_stop_25 dX8_stop_28 (by rw [F_X8_stop, if_pos h_1, if_neg h_2]; dsimp only; exact ⟨SR.rf, rfl, rfl⟩)
  · exact wx_staticT (M := M_X8_stop) (uc := 1) (us := 6) (As := [.inl (.int x), .inl (.int 0), .inl (.int 60)]) (rest := []) (ok_X8_needRange _ _) ml_X8_50 st_X8_needRange (by omega) (det_to (c_X8_needRange (d := d - 1) (h := h) (by omega) x 0 60) (fR_no h_1) rfl) rfl rfl (Nat.le_of_ble_eq_true rfl) dX8_stop_4 (cy_out rfl rfl (by rw [F_X8_stop, if_neg h_1]; dsimp only; exact ⟨SR.rf, rfl, rfl⟩))
def F_X8_footway (h : Hp) (a : Int32) (b : Int32) (mi : Int32) : Rs × Hp := (if okS h a then (if okS h b then (if a = b then (.inr cy_e1, h) else (if mi = 0 then (.inr cy_e1, h) else (if okR mi (-1) 120 then (.inl (some (.inl (.int (F_X3_walk h a b)))), F_X3_setWalk h a b mi) else (.inr cy_e1, h)))) else (.inr cy_e3, h)) else (.inr cy_e3, h))
set_option maxRecDepth 20000 in
theorem c_X8_footway {g : GT} {d : Nat} (hd : 7 ≤ d) {h : Hp} (W : CW h) (a : Int32) (b : Int32) (mi : Int32)  : Ctr g M_X8_footway d 4 24 [.inr (9, some 0), .inl (.int a), .inl (.int b), .inl (.int mi)] h (cy_detP (F_X8_footway h a b mi).1 (F_X8_footway h a b mi).2 (SR h (F_X8_footway h a b mi).2)) := by
  refine cy_body rfl rfl (by decide) (Nat.le_of_ble_eq_true rfl) ?_
  refine wp_run [(.aload_n 0, 1), (.iload_n 1, 1)] (pc' := 2) (L' := [(0, .inr (9, some 0)), (1, .inl (.int a)), (2, .inl (.int b)), (3, .inl (.int mi))]) (st' := [.inl (.int a), .inr (9, some 0)]) ⟨dX8_footway_0, dX8_footway_1, trivial⟩ rfl rfl ?_
  by_cases h_1 : okS h a
  · refine wx_virtualD (M := M_X8_footway) (uc := 3) (us := 18) (s := 9) (i := 0) (As := [.inl (.int a)]) (rest := []) cls_9 rfl (ok_X8_needStop _ _) ml_X8_68 im_X8_needStop se_X8_needStop (by omega) (det_to (c_X8_needStop (d := d - 1) (h := h) (by omega) W a) (fS_ok h_1) rfl) rfl rfl (Nat.le_of_ble_eq_true rfl) dX8_footway_2 ?_
    refine wp_run [(.aload_n 0, 1), (.iload_n 2, 1)] (pc' := 7) (L' := [(0, .inr (9, some 0)), (1, .inl (.int a)), (2, .inl (.int b)), (3, .inl (.int mi))]) (st' := [.inl (.int b), .inr (9, some 0)]) ⟨dX8_footway_5, dX8_footway_6, trivial⟩ rfl rfl ?_
    by_cases h_2 : okS h b
    · refine wx_virtualD (M := M_X8_footway) (uc := 2) (us := 12) (s := 9) (i := 0) (As := [.inl (.int b)]) (rest := []) cls_9 rfl (ok_X8_needStop _ _) ml_X8_68 im_X8_needStop se_X8_needStop (by omega) (det_to (c_X8_needStop (d := d - 1) (h := h) (by omega) W b) (fS_ok h_2) rfl) rfl rfl (Nat.le_of_ble_eq_true rfl) dX8_footway_7 ?_
      refine wp_run [(.iload_n 1, 1), (.iload_n 2, 1)] (pc' := 12) (L' := [(0, .inr (9, some 0)), (1, .inl (.int a)), (2, .inl (.int b)), (3, .inl (.int mi))]) (st' := [.inl (.int b), .inl (.int a)]) ⟨dX8_footway_10, dX8_footway_11, trivial⟩ rfl rfl ?_
      refine wx_icmp_eq (tgt := 19) dX8_footway_12 (by decide) (fun h_3 => ?_) (fun h_3 => ?_)
      · exact wx_throwS (text := "a footway leads to another stop, in minutes") (uc := 1) (us := 6) rfl rfl rfl (by omega) (by decide) exk_1 exi_1 (by decide) exa_1 (Nat.le_of_ble_eq_true rfl) dX8_footway_19 dX8_footway_22 dX8_footway_23 dX8_footway_25 dX8_footway_28 (by rw [F_X8_footway, if_pos h_1, if_pos h_2, if_pos h_3]; dsimp only; exact ⟨SR.rf, rfl, rfl⟩)
      · refine wp_run [(.iload_n 3, 1)] (pc' := 16) (L' := [(0, .inr (9, some 0)), (1, .inl (.int a)), (2, .inl (.int b)), (3, .inl (.int mi))]) (st' := [.inl (.int mi)]) ⟨dX8_footway_15, trivial⟩ rfl rfl ?_
        refine wx_if_ne (tgt := 29) dX8_footway_16 (by decide) (fun h_4 => ?_) (fun h_4 => ?_)
        · refine wp_run [(.iload_n 3, 1), (.iconst (-1), 1), (.bipush 120, 2)] (pc' := 33) (L' := [(0, .inr (9, some 0)), (1, .inl (.int a)), (2, .inl (.int b)), (3, .inl (.int mi))]) (st' := [.inl (.int 120), .inl (.int (-1)), .inl (.int mi)]) ⟨dX8_footway_29, dX8_footway_30, dX8_footway_31, trivial⟩ rfl rfl ?_
          by_cases h_5 : okR mi (-1) 120
          · refine wx_staticD (M := M_X8_footway) (uc := 1) (us := 6) (As := [.inl (.int mi), .inl (.int (-1)), .inl (.int 120)]) (rest := []) (ok_X8_needRange _ _) ml_X8_50 st_X8_needRange (by omega) (det_to (c_X8_needRange (d := d - 1) (h := h) (by omega) mi (-1) 120) (fR_ok h_5) rfl) rfl rfl (Nat.le_of_ble_eq_true rfl) dX8_footway_33 ?_
            refine wp_run [(.aload_n 0, 1)] (pc' := 37) (L' := [(0, .inr (9, some 0)), (1, .inl (.int a)), (2, .inl (.int b)), (3, .inl (.int mi))]) (st' := [.inr (9, some 0)]) ⟨dX8_footway_36, trivial⟩ rfl rfl ?_
            refine wx_getR cls_9 (k := 0) (f := 900) (t := 4) (o := some 0) (by decide) rfl rfl fl_X8_10 (W.fr (f := 900) (by decide)) dX8_footway_37 ?_
            refine wp_run [(.iload_n 1, 1), (.iload_n 2, 1)] (pc' := 42) (L' := [(0, .inr (9, some 0)), (1, .inl (.int a)), (2, .inl (.int b)), (3, .inl (.int mi))]) (st' := [.inl (.int b), .inl (.int a), .inr (4, some 0)]) ⟨dX8_footway_40, dX8_footway_41, trivial⟩ rfl rfl ?_
            refine wx_virtualD (M := M_X8_footway) (uc := 1) (us := 6) (s := 4) (i := 0) (As := [.inl (.int a), .inl (.int b)]) (rest := []) cls_4 rfl (ok_X3_walk _ _) ml_X8_77 im_X3_walk se_X3_walk (by omega) (c_X3_walk (d := d - 1) (h := h) (by omega) W a b) rfl rfl (Nat.le_of_ble_eq_true rfl) dX8_footway_42 ?_
            refine wp_run [(.istore 4, 2), (.aload_n 0, 1)] (pc' := 48) (L' := [(4, .inl (.int (F_X3_walk h a b))), (0, .inr (9, some 0)), (1, .inl (.int a)), (2, .inl (.int b)), (3, .inl (.int mi))]) (st' := [.inr (9, some 0)]) ⟨dX8_footway_45, dX8_footway_47, trivial⟩ rfl rfl ?_
            refine wx_getR cls_9 (k := 0) (f := 900) (t := 4) (o := some 0) (by decide) rfl rfl fl_X8_10 (W.fr (f := 900) (by decide)) dX8_footway_48 ?_
            refine wp_run [(.iload_n 1, 1), (.iload_n 2, 1), (.iload_n 3, 1)] (pc' := 54) (L' := [(4, .inl (.int (F_X3_walk h a b))), (0, .inr (9, some 0)), (1, .inl (.int a)), (2, .inl (.int b)), (3, .inl (.int mi))]) (st' := [.inl (.int mi), .inl (.int b), .inl (.int a), .inr (4, some 0)]) ⟨dX8_footway_51, dX8_footway_52, dX8_footway_53, trivial⟩ rfl rfl ?_
            refine wx_virtualDP (M := M_X8_footway) (uc := 1) (us := 6) (s := 4) (i := 0) (As := [.inl (.int a), .inl (.int b), .inl (.int mi)]) (rest := []) cls_4 rfl (ok_X3_setWalk _ _) ml_X8_81 im_X3_setWalk se_X3_setWalk (by omega) (c_X3_setWalk (d := d - 1) (h := h) (by omega) W a b mi) rfl rfl (Nat.le_of_ble_eq_true rfl) dX8_footway_54 (fun hS_6 => ?_)
            refine wp_run [(.iload 4, 2)] (pc' := 59) (L' := [(4, .inl (.int (F_X3_walk h a b))), (0, .inr (9, some 0)), (1, .inl (.int a)), (2, .inl (.int b)), (3, .inl (.int mi))]) (st' := [.inl (.int (F_X3_walk h a b))]) ⟨dX8_footway_57, trivial⟩ rfl rfl ?_
            exact wx_iret rfl rfl dX8_footway_59 (by rw [F_X8_footway, if_pos h_1, if_pos h_2, if_neg h_3, if_neg h_4, if_pos h_5]; dsimp only; exact ⟨hS_6, rfl, rfl⟩)
          · exact wx_staticT (M := M_X8_footway) (uc := 1) (us := 6) (As := [.inl (.int mi), .inl (.int (-1)), .inl (.int 120)]) (rest := []) (ok_X8_needRange _ _) ml_X8_50 st_X8_needRange (by omega) (det_to (c_X8_needRange (d := d - 1) (h := h) (by omega) mi (-1) 120) (fR_no h_5) rfl) rfl rfl (Nat.le_of_ble_eq_true rfl) dX8_footway_33 (cy_out rfl rfl (by rw [F_X8_footway, if_pos h_1, if_pos h_2, if_neg h_3, if_neg h_4, if_neg h_5]; dsimp only; exact ⟨SR.rf, rfl, rfl⟩))
        · exact wx_throwS (text := "a footway leads to another stop, in minutes") (uc := 1) (us := 6) rfl rfl rfl (by omega) (by decide) exk_1 exi_1 (by decide) exa_1 (Nat.le_of_ble_eq_true rfl) dX8_footway_19 dX8_footway_22 dX8_footway_23 dX8_footway_25 dX8_footway_28 (by rw [F_X8_footway, if_pos h_1, if_pos h_2, if_neg h_3, if_pos h_4]; dsimp only; exact ⟨SR.rf, rfl, rfl⟩)
    · exact wx_virtualT (M := M_X8_footway) (uc := 2) (us := 12) (s := 9) (i := 0) (As := [.inl (.int b)]) (rest := []) cls_9 rfl (ok_X8_needStop _ _) ml_X8_68 im_X8_needStop se_X8_needStop (by omega) (det_to (c_X8_needStop (d := d - 1) (h := h) (by omega) W b) (fS_no h_2) rfl) rfl rfl (Nat.le_of_ble_eq_true rfl) dX8_footway_7 (cy_out rfl rfl (by rw [F_X8_footway, if_pos h_1, if_neg h_2]; dsimp only; exact ⟨SR.rf, rfl, rfl⟩))
  · exact wx_virtualT (M := M_X8_footway) (uc := 3) (us := 18) (s := 9) (i := 0) (As := [.inl (.int a)]) (rest := []) cls_9 rfl (ok_X8_needStop _ _) ml_X8_68 im_X8_needStop se_X8_needStop (by omega) (det_to (c_X8_needStop (d := d - 1) (h := h) (by omega) W a) (fS_no h_1) rfl) rfl rfl (Nat.le_of_ble_eq_true rfl) dX8_footway_2 (cy_out rfl rfl (by rw [F_X8_footway, if_neg h_1]; dsimp only; exact ⟨SR.rf, rfl, rfl⟩))
def F_X8_calls (h : Hp) (t : Int32) (s : Int32) (ri : Int32) (wa : Int32) : Rs × Hp := (if okT h t then (if okS h s then (if okR ri 1 300 then (if okR wa 0 60 then (if 6 ≤ (xFI h 810 (t.toNatClampNeg)) then (.inr cy_e2, h) else (if (F_X8_isBooked h (t.toNatClampNeg)) = 0 then (.inl (some (.inl (.int (xFI (F_X7_goOn h (t.toNatClampNeg) s ri wa) 810 (t.toNatClampNeg))))), F_X7_goOn h (t.toNatClampNeg) s ri wa) else (.inr cy_e2, h))) else (.inr cy_e1, h)) else (.inr cy_e1, h)) else (.inr cy_e3, h)) else (.inr cy_e3, h))
set_option maxRecDepth 20000 in
theorem c_X8_calls {g : GT} {d : Nat} (hd : 8 ≤ d) {h : Hp} (W : CW h) (t : Int32) (s : Int32) (ri : Int32) (wa : Int32)  : Ctr g M_X8_calls d 5 30 [.inr (9, some 0), .inl (.int t), .inl (.int s), .inl (.int ri), .inl (.int wa)] h (cy_detP (F_X8_calls h t s ri wa).1 (F_X8_calls h t s ri wa).2 (SR h (F_X8_calls h t s ri wa).2)) := by
  refine cy_body rfl rfl (by decide) (Nat.le_of_ble_eq_true rfl) ?_
  refine wp_run [(.aload_n 0, 1), (.iload_n 1, 1)] (pc' := 2) (L' := [(0, .inr (9, some 0)), (1, .inl (.int t)), (2, .inl (.int s)), (3, .inl (.int ri)), (4, .inl (.int wa))]) (st' := [.inl (.int t), .inr (9, some 0)]) ⟨dX8_calls_0, dX8_calls_1, trivial⟩ rfl rfl ?_
  by_cases h_1 : okT h t
  · refine wx_virtualD (M := M_X8_calls) (uc := 4) (us := 24) (s := 9) (i := 0) (As := [.inl (.int t)]) (rest := []) cls_9 rfl (ok_X8_tripOf _ _) ml_X8_112 im_X8_tripOf se_X8_tripOf (by omega) (det_to (c_X8_tripOf (d := d - 1) (h := h) (by omega) W t) (fT_ok h_1) rfl) rfl rfl (Nat.le_of_ble_eq_true rfl) dX8_calls_2 ?_
    refine wp_run [(.astore 5, 2), (.aload_n 0, 1), (.iload_n 2, 1)] (pc' := 9) (L' := [(5, .inr (8, some (t.toNatClampNeg))), (0, .inr (9, some 0)), (1, .inl (.int t)), (2, .inl (.int s)), (3, .inl (.int ri)), (4, .inl (.int wa))]) (st' := [.inl (.int s), .inr (9, some 0)]) ⟨dX8_calls_5, dX8_calls_7, dX8_calls_8, trivial⟩ rfl rfl ?_
    by_cases h_2 : okS h s
    · refine wx_virtualD (M := M_X8_calls) (uc := 3) (us := 18) (s := 9) (i := 0) (As := [.inl (.int s)]) (rest := []) cls_9 rfl (ok_X8_needStop _ _) ml_X8_68 im_X8_needStop se_X8_needStop (by omega) (det_to (c_X8_needStop (d := d - 1) (h := h) (by omega) W s) (fS_ok h_2) rfl) rfl rfl (Nat.le_of_ble_eq_true rfl) dX8_calls_9 ?_
      refine wp_run [(.iload_n 3, 1), (.iconst 1, 1), (.sipush 300, 3)] (pc' := 17) (L' := [(5, .inr (8, some (t.toNatClampNeg))), (0, .inr (9, some 0)), (1, .inl (.int t)), (2, .inl (.int s)), (3, .inl (.int ri)), (4, .inl (.int wa))]) (st' := [.inl (.int 300), .inl (.int 1), .inl (.int ri)]) ⟨dX8_calls_12, dX8_calls_13, dX8_calls_14, trivial⟩ rfl rfl ?_
      by_cases h_3 : okR ri 1 300
      · refine wx_staticD (M := M_X8_calls) (uc := 2) (us := 12) (As := [.inl (.int ri), .inl (.int 1), .inl (.int 300)]) (rest := []) (ok_X8_needRange _ _) ml_X8_50 st_X8_needRange (by omega) (det_to (c_X8_needRange (d := d - 1) (h := h) (by omega) ri 1 300) (fR_ok h_3) rfl) rfl rfl (Nat.le_of_ble_eq_true rfl) dX8_calls_17 ?_
        refine wp_run [(.iload 4, 2), (.iconst 0, 1), (.bipush 60, 2)] (pc' := 25) (L' := [(5, .inr (8, some (t.toNatClampNeg))), (0, .inr (9, some 0)), (1, .inl (.int t)), (2, .inl (.int s)), (3, .inl (.int ri)), (4, .inl (.int wa))]) (st' := [.inl (.int 60), .inl (.int 0), .inl (.int wa)]) ⟨dX8_calls_20, dX8_calls_22, dX8_calls_23, trivial⟩ rfl rfl ?_
        by_cases h_4 : okR wa 0 60
        · refine wx_staticD (M := M_X8_calls) (uc := 1) (us := 6) (As := [.inl (.int wa), .inl (.int 0), .inl (.int 60)]) (rest := []) (ok_X8_needRange _ _) ml_X8_50 st_X8_needRange (by omega) (det_to (c_X8_needRange (d := d - 1) (h := h) (by omega) wa 0 60) (fR_ok h_4) rfl) rfl rfl (Nat.le_of_ble_eq_true rfl) dX8_calls_25 ?_
          refine wp_run [(.aload 5, 2)] (pc' := 30) (L' := [(5, .inr (8, some (t.toNatClampNeg))), (0, .inr (9, some 0)), (1, .inl (.int t)), (2, .inl (.int s)), (3, .inl (.int ri)), (4, .inl (.int wa))]) (st' := [.inr (8, some (t.toNatClampNeg))]) ⟨dX8_calls_28, trivial⟩ rfl rfl ?_
          refine wx_getI cls_8 (k := 10) (f := 810) (by decide) rfl rfl fl_X8_116 dX8_calls_30 ?_
          refine wp_run [(.bipush 6, 2)] (pc' := 35) (L' := [(5, .inr (8, some (t.toNatClampNeg))), (0, .inr (9, some 0)), (1, .inl (.int t)), (2, .inl (.int s)), (3, .inl (.int ri)), (4, .inl (.int wa))]) (st' := [.inl (.int 6), .inl (.int (xFI h 810 (t.toNatClampNeg)))]) ⟨dX8_calls_33, trivial⟩ rfl rfl ?_
          refine wx_icmp_ge (tgt := 47) dX8_calls_35 (by decide) (fun h_5 => ?_) (fun h_5 => ?_)
          · exact wx_throwS (text := "the trip does not go on") (uc := 0) (us := 0) rfl rfl rfl (by omega) (by decide) exk_2 exi_2 (by decide) exa_2 (Nat.le_of_ble_eq_true rfl) dX8_calls_47 dX8_calls_50 dX8_calls_51 dX8_calls_53 dX8_calls_56 (by rw [F_X8_calls, if_pos h_1, if_pos h_2, if_pos h_3, if_pos h_4, if_pos h_5]; dsimp only; exact ⟨SR.rf, rfl, rfl⟩)
          · refine wp_run [(.aload_n 0, 1), (.aload 5, 2)] (pc' := 41) (L' := [(5, .inr (8, some (t.toNatClampNeg))), (0, .inr (9, some 0)), (1, .inl (.int t)), (2, .inl (.int s)), (3, .inl (.int ri)), (4, .inl (.int wa))]) (st' := [.inr (8, some (t.toNatClampNeg)), .inr (9, some 0)]) ⟨dX8_calls_38, dX8_calls_39, trivial⟩ rfl rfl ?_
            refine wx_virtualD (M := M_X8_calls) (uc := 1) (us := 6) (s := 9) (i := 0) (As := [.inr (8, some (t.toNatClampNeg))]) (rest := []) cls_9 rfl (ok_X8_isBooked _ _) ml_X8_118 im_X8_isBooked se_X8_isBooked (by omega) (c_X8_isBooked (d := d - 1) (h := h) (by omega) W (okT_lt W h_1)) rfl rfl (Nat.le_of_ble_eq_true rfl) dX8_calls_41 ?_
            refine wx_if_eq (tgt := 57) dX8_calls_44 (by decide) (fun h_6 => ?_) (fun h_6 => ?_)
            · refine wp_run [(.aload 5, 2), (.iload_n 2, 1), (.iload_n 3, 1), (.iload 4, 2)] (pc' := 63) (L' := [(5, .inr (8, some (t.toNatClampNeg))), (0, .inr (9, some 0)), (1, .inl (.int t)), (2, .inl (.int s)), (3, .inl (.int ri)), (4, .inl (.int wa))]) (st' := [.inl (.int wa), .inl (.int ri), .inl (.int s), .inr (8, some (t.toNatClampNeg))]) ⟨dX8_calls_57, dX8_calls_59, dX8_calls_60, dX8_calls_61, trivial⟩ rfl rfl ?_
              refine wx_virtualDP (M := M_X8_calls) (uc := 1) (us := 6) (s := 8) (i := (t.toNatClampNeg)) (As := [.inl (.int s), .inl (.int ri), .inl (.int wa)]) (rest := []) cls_8 rfl (ok_X7_goOn _ _) ml_X8_124 im_X7_goOn se_X7_goOn (by omega) (c_X7_goOn (d := d - 1) (h := h) (by omega) W (okT_lt W h_1) s ri wa) rfl rfl (Nat.le_of_ble_eq_true rfl) dX8_calls_63 (fun hS_7 => ?_)
              refine wp_run [(.aload 5, 2)] (pc' := 68) (L' := [(5, .inr (8, some (t.toNatClampNeg))), (0, .inr (9, some 0)), (1, .inl (.int t)), (2, .inl (.int s)), (3, .inl (.int ri)), (4, .inl (.int wa))]) (st' := [.inr (8, some (t.toNatClampNeg))]) ⟨dX8_calls_66, trivial⟩ rfl rfl ?_
              refine wx_getI cls_8 (k := 10) (f := 810) (by decide) rfl rfl fl_X8_116 dX8_calls_68 ?_
              exact wx_iret rfl rfl dX8_calls_71 (by rw [F_X8_calls, if_pos h_1, if_pos h_2, if_pos h_3, if_pos h_4, if_neg h_5, if_pos h_6]; dsimp only; exact ⟨hS_7, rfl, rfl⟩)
            · exact wx_throwS (text := "the trip does not go on") (uc := 0) (us := 0) rfl rfl rfl (by omega) (by decide) exk_2 exi_2 (by decide) exa_2 (Nat.le_of_ble_eq_true rfl) dX8_calls_47 dX8_calls_50 dX8_calls_51 dX8_calls_53 dX8_calls_56 (by rw [F_X8_calls, if_pos h_1, if_pos h_2, if_pos h_3, if_pos h_4, if_neg h_5, if_neg h_6]; dsimp only; exact ⟨SR.rf, rfl, rfl⟩)
        · exact wx_staticT (M := M_X8_calls) (uc := 1) (us := 6) (As := [.inl (.int wa), .inl (.int 0), .inl (.int 60)]) (rest := []) (ok_X8_needRange _ _) ml_X8_50 st_X8_needRange (by omega) (det_to (c_X8_needRange (d := d - 1) (h := h) (by omega) wa 0 60) (fR_no h_4) rfl) rfl rfl (Nat.le_of_ble_eq_true rfl) dX8_calls_25 (cy_out rfl rfl (by rw [F_X8_calls, if_pos h_1, if_pos h_2, if_pos h_3, if_neg h_4]; dsimp only; exact ⟨SR.rf, rfl, rfl⟩))
      · exact wx_staticT (M := M_X8_calls) (uc := 2) (us := 12) (As := [.inl (.int ri), .inl (.int 1), .inl (.int 300)]) (rest := []) (ok_X8_needRange _ _) ml_X8_50 st_X8_needRange (by omega) (det_to (c_X8_needRange (d := d - 1) (h := h) (by omega) ri 1 300) (fR_no h_3) rfl) rfl rfl (Nat.le_of_ble_eq_true rfl) dX8_calls_17 (cy_out rfl rfl (by rw [F_X8_calls, if_pos h_1, if_pos h_2, if_neg h_3]; dsimp only; exact ⟨SR.rf, rfl, rfl⟩))
    · exact wx_virtualT (M := M_X8_calls) (uc := 3) (us := 18) (s := 9) (i := 0) (As := [.inl (.int s)]) (rest := []) cls_9 rfl (ok_X8_needStop _ _) ml_X8_68 im_X8_needStop se_X8_needStop (by omega) (det_to (c_X8_needStop (d := d - 1) (h := h) (by omega) W s) (fS_no h_2) rfl) rfl rfl (Nat.le_of_ble_eq_true rfl) dX8_calls_9 (cy_out rfl rfl (by rw [F_X8_calls, if_pos h_1, if_neg h_2]; dsimp only; exact ⟨SR.rf, rfl, rfl⟩))
  · exact wx_virtualT (M := M_X8_calls) (uc := 4) (us := 24) (s := 9) (i := 0) (As := [.inl (.int t)]) (rest := []) cls_9 rfl (ok_X8_tripOf _ _) ml_X8_112 im_X8_tripOf se_X8_tripOf (by omega) (det_to (c_X8_tripOf (d := d - 1) (h := h) (by omega) W t) (fT_no h_1) rfl) rfl rfl (Nat.le_of_ble_eq_true rfl) dX8_calls_2 (cy_out rfl rfl (by rw [F_X8_calls, if_neg h_1]; dsimp only; exact ⟨SR.rf, rfl, rfl⟩))
def F_X8_runs (h : Hp) (t : Int32) (dy : Int32) (v : Int32) : Rs × Hp := (if okT h t then (if okR dy 0 99 then (.inl (some (.inl (.int (F_X7_isThere h (t.toNatClampNeg) dy)))), F_X7_setThere h (t.toNatClampNeg) dy v) else (.inr cy_e1, h)) else (.inr cy_e3, h))
set_option maxRecDepth 20000 in
theorem c_X8_runs {g : GT} {d : Nat} (hd : 8 ≤ d) {h : Hp} (W : CW h) (t : Int32) (dy : Int32) (v : Int32) (hv : narrow .boolean (.int v) = .int v)  : Ctr g M_X8_runs d 2 12 [.inr (9, some 0), .inl (.int t), .inl (.int dy), .inl (.int v)] h (cy_detP (F_X8_runs h t dy v).1 (F_X8_runs h t dy v).2 (SR h (F_X8_runs h t dy v).2)) := by
  refine cy_body rfl rfl (by decide) (Nat.le_of_ble_eq_true rfl) ?_
  refine wp_run [(.aload_n 0, 1), (.iload_n 1, 1)] (pc' := 2) (L' := [(0, .inr (9, some 0)), (1, .inl (.int t)), (2, .inl (.int dy)), (3, .inl (.int v))]) (st' := [.inl (.int t), .inr (9, some 0)]) ⟨dX8_runs_0, dX8_runs_1, trivial⟩ rfl rfl ?_
  by_cases h_1 : okT h t
  · refine wx_virtualD (M := M_X8_runs) (uc := 1) (us := 6) (s := 9) (i := 0) (As := [.inl (.int t)]) (rest := []) cls_9 rfl (ok_X8_tripOf _ _) ml_X8_112 im_X8_tripOf se_X8_tripOf (by omega) (det_to (c_X8_tripOf (d := d - 1) (h := h) (by omega) W t) (fT_ok h_1) rfl) rfl rfl (Nat.le_of_ble_eq_true rfl) dX8_runs_2 ?_
    refine wp_run [(.astore 4, 2), (.iload_n 2, 1), (.iconst 0, 1), (.bipush 99, 2)] (pc' := 11) (L' := [(4, .inr (8, some (t.toNatClampNeg))), (0, .inr (9, some 0)), (1, .inl (.int t)), (2, .inl (.int dy)), (3, .inl (.int v))]) (st' := [.inl (.int 99), .inl (.int 0), .inl (.int dy)]) ⟨dX8_runs_5, dX8_runs_7, dX8_runs_8, dX8_runs_9, trivial⟩ rfl rfl ?_
    by_cases h_2 : okR dy 0 99
    · refine wx_staticD (M := M_X8_runs) (uc := 0) (us := 0) (As := [.inl (.int dy), .inl (.int 0), .inl (.int 99)]) (rest := []) (ok_X8_needRange _ _) ml_X8_50 st_X8_needRange (by omega) (det_to (c_X8_needRange (d := d - 1) (h := h) (by omega) dy 0 99) (fR_ok h_2) rfl) rfl rfl (Nat.le_of_ble_eq_true rfl) dX8_runs_11 ?_
      refine wp_run [(.aload 4, 2), (.iload_n 2, 1)] (pc' := 17) (L' := [(4, .inr (8, some (t.toNatClampNeg))), (0, .inr (9, some 0)), (1, .inl (.int t)), (2, .inl (.int dy)), (3, .inl (.int v))]) (st' := [.inl (.int dy), .inr (8, some (t.toNatClampNeg))]) ⟨dX8_runs_14, dX8_runs_16, trivial⟩ rfl rfl ?_
      refine wx_virtualD (M := M_X8_runs) (uc := 0) (us := 0) (s := 8) (i := (t.toNatClampNeg)) (As := [.inl (.int dy)]) (rest := []) cls_8 rfl (ok_X7_isThere _ _) ml_X8_127 im_X7_isThere se_X7_isThere (by omega) (c_X7_isThere (d := d - 1) (h := h) (by omega) W (okT_lt W h_1) dy) rfl rfl (Nat.le_of_ble_eq_true rfl) dX8_runs_17 ?_
      refine wp_run [(.istore 5, 2), (.aload 4, 2), (.iload_n 2, 1), (.iload_n 3, 1)] (pc' := 26) (L' := [(5, .inl (.int (F_X7_isThere h (t.toNatClampNeg) dy))), (4, .inr (8, some (t.toNatClampNeg))), (0, .inr (9, some 0)), (1, .inl (.int t)), (2, .inl (.int dy)), (3, .inl (.int v))]) (st' := [.inl (.int v), .inl (.int dy), .inr (8, some (t.toNatClampNeg))]) ⟨dX8_runs_20, dX8_runs_22, dX8_runs_24, dX8_runs_25, trivial⟩ rfl rfl ?_
      refine wx_virtualDP (M := M_X8_runs) (uc := 0) (us := 0) (s := 8) (i := (t.toNatClampNeg)) (As := [.inl (.int dy), .inl (.int v)]) (rest := []) cls_8 rfl (ok_X7_setThere _ _) ml_X8_131 im_X7_setThere se_X7_setThere (by omega) (c_X7_setThere (d := d - 1) (h := h) (by omega) W (okT_lt W h_1) dy v hv) rfl rfl (Nat.le_of_ble_eq_true rfl) dX8_runs_26 (fun hS_3 => ?_)
      refine wp_run [(.iload 5, 2)] (pc' := 31) (L' := [(5, .inl (.int (F_X7_isThere h (t.toNatClampNeg) dy))), (4, .inr (8, some (t.toNatClampNeg))), (0, .inr (9, some 0)), (1, .inl (.int t)), (2, .inl (.int dy)), (3, .inl (.int v))]) (st' := [.inl (.int (F_X7_isThere h (t.toNatClampNeg) dy))]) ⟨dX8_runs_29, trivial⟩ rfl rfl ?_
      exact wx_zret rfl rfl (nb_isThere _ _ _) dX8_runs_31 (by rw [F_X8_runs, if_pos h_1, if_pos h_2]; dsimp only; exact ⟨hS_3, rfl, rfl⟩)
    · exact wx_staticT (M := M_X8_runs) (uc := 0) (us := 0) (As := [.inl (.int dy), .inl (.int 0), .inl (.int 99)]) (rest := []) (ok_X8_needRange _ _) ml_X8_50 st_X8_needRange (by omega) (det_to (c_X8_needRange (d := d - 1) (h := h) (by omega) dy 0 99) (fR_no h_2) rfl) rfl rfl (Nat.le_of_ble_eq_true rfl) dX8_runs_11 (cy_out rfl rfl (by rw [F_X8_runs, if_pos h_1, if_neg h_2]; dsimp only; exact ⟨SR.rf, rfl, rfl⟩))
  · exact wx_virtualT (M := M_X8_runs) (uc := 1) (us := 6) (s := 9) (i := 0) (As := [.inl (.int t)]) (rest := []) cls_9 rfl (ok_X8_tripOf _ _) ml_X8_112 im_X8_tripOf se_X8_tripOf (by omega) (det_to (c_X8_tripOf (d := d - 1) (h := h) (by omega) W t) (fT_no h_1) rfl) rfl rfl (Nat.le_of_ble_eq_true rfl) dX8_runs_2 (cy_out rfl rfl (by rw [F_X8_runs, if_neg h_1]; dsimp only; exact ⟨SR.rf, rfl, rfl⟩))
def F_X8_delay (h : Hp) (t : Int32) (dy : Int32) (mi : Int32) : Rs × Hp := (if okT h t then (if okR dy 0 99 then (if okR mi (-1) 600 then (.inl (some (.inl (.int (F_at h 32 (t.toNatClampNeg) dy)))), H_put h 32 (t.toNatClampNeg) dy mi) else (.inr cy_e1, h)) else (.inr cy_e1, h)) else (.inr cy_e3, h))
set_option maxRecDepth 20000 in
theorem c_X8_delay {g : GT} {d : Nat} (hd : 8 ≤ d) {h : Hp} (W : CW h) (t : Int32) (dy : Int32) (mi : Int32)  : Ctr g M_X8_delay d 3 18 [.inr (9, some 0), .inl (.int t), .inl (.int dy), .inl (.int mi)] h (cy_detP (F_X8_delay h t dy mi).1 (F_X8_delay h t dy mi).2 (SR h (F_X8_delay h t dy mi).2)) := by
  refine cy_body rfl rfl (by decide) (Nat.le_of_ble_eq_true rfl) ?_
  refine wp_run [(.aload_n 0, 1), (.iload_n 1, 1)] (pc' := 2) (L' := [(0, .inr (9, some 0)), (1, .inl (.int t)), (2, .inl (.int dy)), (3, .inl (.int mi))]) (st' := [.inl (.int t), .inr (9, some 0)]) ⟨dX8_delay_0, dX8_delay_1, trivial⟩ rfl rfl ?_
  by_cases h_1 : okT h t
  · refine wx_virtualD (M := M_X8_delay) (uc := 2) (us := 12) (s := 9) (i := 0) (As := [.inl (.int t)]) (rest := []) cls_9 rfl (ok_X8_tripOf _ _) ml_X8_112 im_X8_tripOf se_X8_tripOf (by omega) (det_to (c_X8_tripOf (d := d - 1) (h := h) (by omega) W t) (fT_ok h_1) rfl) rfl rfl (Nat.le_of_ble_eq_true rfl) dX8_delay_2 ?_
    refine wp_run [(.astore 4, 2), (.iload_n 2, 1), (.iconst 0, 1), (.bipush 99, 2)] (pc' := 11) (L' := [(4, .inr (8, some (t.toNatClampNeg))), (0, .inr (9, some 0)), (1, .inl (.int t)), (2, .inl (.int dy)), (3, .inl (.int mi))]) (st' := [.inl (.int 99), .inl (.int 0), .inl (.int dy)]) ⟨dX8_delay_5, dX8_delay_7, dX8_delay_8, dX8_delay_9, trivial⟩ rfl rfl ?_
    by_cases h_2 : okR dy 0 99
    · refine wx_staticD (M := M_X8_delay) (uc := 1) (us := 6) (As := [.inl (.int dy), .inl (.int 0), .inl (.int 99)]) (rest := []) (ok_X8_needRange _ _) ml_X8_50 st_X8_needRange (by omega) (det_to (c_X8_needRange (d := d - 1) (h := h) (by omega) dy 0 99) (fR_ok h_2) rfl) rfl rfl (Nat.le_of_ble_eq_true rfl) dX8_delay_11 ?_
      refine wp_run [(.iload_n 3, 1), (.iconst (-1), 1), (.sipush 600, 3)] (pc' := 19) (L' := [(4, .inr (8, some (t.toNatClampNeg))), (0, .inr (9, some 0)), (1, .inl (.int t)), (2, .inl (.int dy)), (3, .inl (.int mi))]) (st' := [.inl (.int 600), .inl (.int (-1)), .inl (.int mi)]) ⟨dX8_delay_14, dX8_delay_15, dX8_delay_16, trivial⟩ rfl rfl ?_
      by_cases h_3 : okR mi (-1) 600
      · refine wx_staticD (M := M_X8_delay) (uc := 0) (us := 0) (As := [.inl (.int mi), .inl (.int (-1)), .inl (.int 600)]) (rest := []) (ok_X8_needRange _ _) ml_X8_50 st_X8_needRange (by omega) (det_to (c_X8_needRange (d := d - 1) (h := h) (by omega) mi (-1) 600) (fR_ok h_3) rfl) rfl rfl (Nat.le_of_ble_eq_true rfl) dX8_delay_19 ?_
        refine wp_run [(.aload 4, 2)] (pc' := 24) (L' := [(4, .inr (8, some (t.toNatClampNeg))), (0, .inr (9, some 0)), (1, .inl (.int t)), (2, .inl (.int dy)), (3, .inl (.int mi))]) (st' := [.inr (8, some (t.toNatClampNeg))]) ⟨dX8_delay_22, trivial⟩ rfl rfl ?_
        refine wx_getR cls_8 (k := 8) (f := 808) (t := 32) (o := some (t.toNatClampNeg)) (by decide) rfl rfl fl_X8_135 (W.tfr (f := 808) (okT_lt W h_1) (by decide)) dX8_delay_24 ?_
        refine wp_run [(.iload_n 2, 1)] (pc' := 28) (L' := [(4, .inr (8, some (t.toNatClampNeg))), (0, .inr (9, some 0)), (1, .inl (.int t)), (2, .inl (.int dy)), (3, .inl (.int mi))]) (st' := [.inl (.int dy), .inr (32, some (t.toNatClampNeg))]) ⟨dX8_delay_27, trivial⟩ rfl rfl ?_
        refine wx_staticD (M := M_X8_delay) (uc := 0) (us := 0) (As := [.inr (32, some (t.toNatClampNeg)), .inl (.int dy)]) (rest := []) (ok_X8_at _ _) ml_X8_139 st_X8_at (by omega) (c_X8_at (d := d - 1) (by omega) (s := 32) (i := (t.toNatClampNeg)) (Or.inl rfl) (Nat.le_of_ble_eq_true rfl) dy) rfl rfl (Nat.le_of_ble_eq_true rfl) dX8_delay_28 ?_
        refine wp_run [(.istore 5, 2), (.aload 4, 2)] (pc' := 35) (L' := [(5, .inl (.int (F_at h 32 (t.toNatClampNeg) dy))), (4, .inr (8, some (t.toNatClampNeg))), (0, .inr (9, some 0)), (1, .inl (.int t)), (2, .inl (.int dy)), (3, .inl (.int mi))]) (st' := [.inr (8, some (t.toNatClampNeg))]) ⟨dX8_delay_31, dX8_delay_33, trivial⟩ rfl rfl ?_
        refine wx_getR cls_8 (k := 8) (f := 808) (t := 32) (o := some (t.toNatClampNeg)) (by decide) rfl rfl fl_X8_135 (W.tfr (f := 808) (okT_lt W h_1) (by decide)) dX8_delay_35 ?_
        refine wp_run [(.iload_n 2, 1), (.iload_n 3, 1)] (pc' := 40) (L' := [(5, .inl (.int (F_at h 32 (t.toNatClampNeg) dy))), (4, .inr (8, some (t.toNatClampNeg))), (0, .inr (9, some 0)), (1, .inl (.int t)), (2, .inl (.int dy)), (3, .inl (.int mi))]) (st' := [.inl (.int mi), .inl (.int dy), .inr (32, some (t.toNatClampNeg))]) ⟨dX8_delay_38, dX8_delay_39, trivial⟩ rfl rfl ?_
        refine wx_staticD (M := M_X8_delay) (uc := 0) (us := 0) (As := [.inr (32, some (t.toNatClampNeg)), .inl (.int dy), .inl (.int mi)]) (rest := []) (ok_X8_put _ _) ml_X8_143 st_X8_put (by omega) (c_X8_put (d := d - 1) (by omega) (s := 32) (i := (t.toNatClampNeg)) rfl (Nat.le_of_ble_eq_true rfl) dy mi) rfl rfl (Nat.le_of_ble_eq_true rfl) dX8_delay_40 ?_
        refine wp_run [(.iload 5, 2)] (pc' := 45) (L' := [(5, .inl (.int (F_at h 32 (t.toNatClampNeg) dy))), (4, .inr (8, some (t.toNatClampNeg))), (0, .inr (9, some 0)), (1, .inl (.int t)), (2, .inl (.int dy)), (3, .inl (.int mi))]) (st' := [.inl (.int (F_at h 32 (t.toNatClampNeg) dy))]) ⟨dX8_delay_43, trivial⟩ rfl rfl ?_
        exact wx_iret rfl rfl dX8_delay_45 (by rw [F_X8_delay, if_pos h_1, if_pos h_2, if_pos h_3]; dsimp only; exact ⟨SR.rf, rfl, rfl⟩)
      · exact wx_staticT (M := M_X8_delay) (uc := 0) (us := 0) (As := [.inl (.int mi), .inl (.int (-1)), .inl (.int 600)]) (rest := []) (ok_X8_needRange _ _) ml_X8_50 st_X8_needRange (by omega) (det_to (c_X8_needRange (d := d - 1) (h := h) (by omega) mi (-1) 600) (fR_no h_3) rfl) rfl rfl (Nat.le_of_ble_eq_true rfl) dX8_delay_19 (cy_out rfl rfl (by rw [F_X8_delay, if_pos h_1, if_pos h_2, if_neg h_3]; dsimp only; exact ⟨SR.rf, rfl, rfl⟩))
    · exact wx_staticT (M := M_X8_delay) (uc := 1) (us := 6) (As := [.inl (.int dy), .inl (.int 0), .inl (.int 99)]) (rest := []) (ok_X8_needRange _ _) ml_X8_50 st_X8_needRange (by omega) (det_to (c_X8_needRange (d := d - 1) (h := h) (by omega) dy 0 99) (fR_no h_2) rfl) rfl rfl (Nat.le_of_ble_eq_true rfl) dX8_delay_11 (cy_out rfl rfl (by rw [F_X8_delay, if_pos h_1, if_neg h_2]; dsimp only; exact ⟨SR.rf, rfl, rfl⟩))
  · exact wx_virtualT (M := M_X8_delay) (uc := 2) (us := 12) (s := 9) (i := 0) (As := [.inl (.int t)]) (rest := []) cls_9 rfl (ok_X8_tripOf _ _) ml_X8_112 im_X8_tripOf se_X8_tripOf (by omega) (det_to (c_X8_tripOf (d := d - 1) (h := h) (by omega) W t) (fT_no h_1) rfl) rfl rfl (Nat.le_of_ble_eq_true rfl) dX8_delay_2 (cy_out rfl rfl (by rw [F_X8_delay, if_neg h_1]; dsimp only; exact ⟨SR.rf, rfl, rfl⟩))
def F_X8_note (h : Hp) (t : Int32) (mi : Int32) : Rs × Hp := (if okT h t then (if okR mi 0 600 then (if (xFI h 811 (t.toNatClampNeg)) < 30 then (.inl (some (.inl (.int (xFI (sFI (H_put h 33 (t.toNatClampNeg) (xFI h 811 (t.toNatClampNeg)) mi) 811 (t.toNatClampNeg) ((xFI (H_put h 33 (t.toNatClampNeg) (xFI h 811 (t.toNatClampNeg)) mi) 811 (t.toNatClampNeg)) + 1)) 811 (t.toNatClampNeg))))), sFI (H_put h 33 (t.toNatClampNeg) (xFI h 811 (t.toNatClampNeg)) mi) 811 (t.toNatClampNeg) ((xFI (H_put h 33 (t.toNatClampNeg) (xFI h 811 (t.toNatClampNeg)) mi) 811 (t.toNatClampNeg)) + 1)) else (.inr cy_e2, h)) else (.inr cy_e1, h)) else (.inr cy_e3, h))
set_option maxRecDepth 20000 in
theorem c_X8_note {g : GT} {d : Nat} (hd : 8 ≤ d) {h : Hp} (W : CW h) (t : Int32) (mi : Int32)  : Ctr g M_X8_note d 3 18 [.inr (9, some 0), .inl (.int t), .inl (.int mi)] h (cy_detP (F_X8_note h t mi).1 (F_X8_note h t mi).2 (SR h (F_X8_note h t mi).2)) := by
  refine cy_body rfl rfl (by decide) (Nat.le_of_ble_eq_true rfl) ?_
  refine wp_run [(.aload_n 0, 1), (.iload_n 1, 1)] (pc' := 2) (L' := [(0, .inr (9, some 0)), (1, .inl (.int t)), (2, .inl (.int mi))]) (st' := [.inl (.int t), .inr (9, some 0)]) ⟨dX8_note_0, dX8_note_1, trivial⟩ rfl rfl ?_
  by_cases h_1 : okT h t
  · refine wx_virtualD (M := M_X8_note) (uc := 2) (us := 12) (s := 9) (i := 0) (As := [.inl (.int t)]) (rest := []) cls_9 rfl (ok_X8_tripOf _ _) ml_X8_112 im_X8_tripOf se_X8_tripOf (by omega) (det_to (c_X8_tripOf (d := d - 1) (h := h) (by omega) W t) (fT_ok h_1) rfl) rfl rfl (Nat.le_of_ble_eq_true rfl) dX8_note_2 ?_
    refine wp_run [(.astore_n 3, 1), (.iload_n 2, 1), (.iconst 0, 1), (.sipush 600, 3)] (pc' := 11) (L' := [(3, .inr (8, some (t.toNatClampNeg))), (0, .inr (9, some 0)), (1, .inl (.int t)), (2, .inl (.int mi))]) (st' := [.inl (.int 600), .inl (.int 0), .inl (.int mi)]) ⟨dX8_note_5, dX8_note_6, dX8_note_7, dX8_note_8, trivial⟩ rfl rfl ?_
    by_cases h_2 : okR mi 0 600
    · refine wx_staticD (M := M_X8_note) (uc := 1) (us := 6) (As := [.inl (.int mi), .inl (.int 0), .inl (.int 600)]) (rest := []) (ok_X8_needRange _ _) ml_X8_50 st_X8_needRange (by omega) (det_to (c_X8_needRange (d := d - 1) (h := h) (by omega) mi 0 600) (fR_ok h_2) rfl) rfl rfl (Nat.le_of_ble_eq_true rfl) dX8_note_11 ?_
      refine wp_run [(.aload_n 3, 1)] (pc' := 15) (L' := [(3, .inr (8, some (t.toNatClampNeg))), (0, .inr (9, some 0)), (1, .inl (.int t)), (2, .inl (.int mi))]) (st' := [.inr (8, some (t.toNatClampNeg))]) ⟨dX8_note_14, trivial⟩ rfl rfl ?_
      refine wx_getI cls_8 (k := 11) (f := 811) (by decide) rfl rfl fl_X8_147 dX8_note_15 ?_
      refine wp_run [(.bipush 30, 2)] (pc' := 20) (L' := [(3, .inr (8, some (t.toNatClampNeg))), (0, .inr (9, some 0)), (1, .inl (.int t)), (2, .inl (.int mi))]) (st' := [.inl (.int 30), .inl (.int (xFI h 811 (t.toNatClampNeg)))]) ⟨dX8_note_18, trivial⟩ rfl rfl ?_
      refine wx_icmp_lt (tgt := 33) dX8_note_20 (by decide) (fun h_3 => ?_) (fun h_3 => ?_)
      · refine wp_run [(.aload_n 3, 1)] (pc' := 34) (L' := [(3, .inr (8, some (t.toNatClampNeg))), (0, .inr (9, some 0)), (1, .inl (.int t)), (2, .inl (.int mi))]) (st' := [.inr (8, some (t.toNatClampNeg))]) ⟨dX8_note_33, trivial⟩ rfl rfl ?_
        refine wx_getR cls_8 (k := 9) (f := 809) (t := 33) (o := some (t.toNatClampNeg)) (by decide) rfl rfl fl_X8_152 (W.tfr (f := 809) (okT_lt W h_1) (by decide)) dX8_note_34 ?_
        refine wp_run [(.aload_n 3, 1)] (pc' := 38) (L' := [(3, .inr (8, some (t.toNatClampNeg))), (0, .inr (9, some 0)), (1, .inl (.int t)), (2, .inl (.int mi))]) (st' := [.inr (8, some (t.toNatClampNeg)), .inr (33, some (t.toNatClampNeg))]) ⟨dX8_note_37, trivial⟩ rfl rfl ?_
        refine wx_getI cls_8 (k := 11) (f := 811) (by decide) rfl rfl fl_X8_147 dX8_note_38 ?_
        refine wp_run [(.iload_n 2, 1)] (pc' := 42) (L' := [(3, .inr (8, some (t.toNatClampNeg))), (0, .inr (9, some 0)), (1, .inl (.int t)), (2, .inl (.int mi))]) (st' := [.inl (.int mi), .inl (.int (xFI h 811 (t.toNatClampNeg))), .inr (33, some (t.toNatClampNeg))]) ⟨dX8_note_41, trivial⟩ rfl rfl ?_
        refine wx_staticD (M := M_X8_note) (uc := 1) (us := 6) (As := [.inr (33, some (t.toNatClampNeg)), .inl (.int (xFI h 811 (t.toNatClampNeg))), .inl (.int mi)]) (rest := []) (ok_X8_put _ _) ml_X8_143 st_X8_put (by omega) (c_X8_put (d := d - 1) (by omega) (s := 33) (i := (t.toNatClampNeg)) rfl (Nat.le_of_ble_eq_true rfl) (xFI h 811 (t.toNatClampNeg)) mi) rfl rfl (Nat.le_of_ble_eq_true rfl) dX8_note_42 ?_
        refine wp_run [(.aload_n 3, 1), (.dup, 1)] (pc' := 47) (L' := [(3, .inr (8, some (t.toNatClampNeg))), (0, .inr (9, some 0)), (1, .inl (.int t)), (2, .inl (.int mi))]) (st' := [.inr (8, some (t.toNatClampNeg)), .inr (8, some (t.toNatClampNeg))]) ⟨dX8_note_45, dX8_note_46, trivial⟩ rfl rfl ?_
        refine wx_getI cls_8 (k := 11) (f := 811) (by decide) rfl rfl fl_X8_147 dX8_note_47 ?_
        refine wp_run [(.iconst 1, 1), (.iadd, 1)] (pc' := 52) (L' := [(3, .inr (8, some (t.toNatClampNeg))), (0, .inr (9, some 0)), (1, .inl (.int t)), (2, .inl (.int mi))]) (st' := [.inl (.int ((xFI (H_put h 33 (t.toNatClampNeg) (xFI h 811 (t.toNatClampNeg)) mi) 811 (t.toNatClampNeg)) + 1)), .inr (8, some (t.toNatClampNeg))]) ⟨dX8_note_50, dX8_note_51, trivial⟩ rfl rfl ?_
        refine wx_putI cls_8 (k := 11) (f := 811) (by decide) rfl rfl rfl fl_X8_147 (Or.inl rfl) dX8_note_52 ?_
        refine wp_run [(.aload_n 3, 1)] (pc' := 56) (L' := [(3, .inr (8, some (t.toNatClampNeg))), (0, .inr (9, some 0)), (1, .inl (.int t)), (2, .inl (.int mi))]) (st' := [.inr (8, some (t.toNatClampNeg))]) ⟨dX8_note_55, trivial⟩ rfl rfl ?_
        refine wx_getI cls_8 (k := 11) (f := 811) (by decide) rfl rfl fl_X8_147 dX8_note_56 ?_
        exact wx_iret rfl rfl dX8_note_59 (by rw [F_X8_note, if_pos h_1, if_pos h_2, if_pos h_3]; dsimp only; exact ⟨SR.rf, rfl, rfl⟩)
      · exact wx_throwS (text := "no more notes") (uc := 0) (us := 0) rfl rfl rfl (by omega) (by decide) exk_2 exi_2 (by decide) exa_2 (Nat.le_of_ble_eq_true rfl) dX8_note_23 dX8_note_26 dX8_note_27 dX8_note_29 dX8_note_32 (by rw [F_X8_note, if_pos h_1, if_pos h_2, if_neg h_3]; dsimp only; exact ⟨SR.rf, rfl, rfl⟩)
    · exact wx_staticT (M := M_X8_note) (uc := 1) (us := 6) (As := [.inl (.int mi), .inl (.int 0), .inl (.int 600)]) (rest := []) (ok_X8_needRange _ _) ml_X8_50 st_X8_needRange (by omega) (det_to (c_X8_needRange (d := d - 1) (h := h) (by omega) mi 0 600) (fR_no h_2) rfl) rfl rfl (Nat.le_of_ble_eq_true rfl) dX8_note_11 (cy_out rfl rfl (by rw [F_X8_note, if_pos h_1, if_neg h_2]; dsimp only; exact ⟨SR.rf, rfl, rfl⟩))
  · exact wx_virtualT (M := M_X8_note) (uc := 2) (us := 12) (s := 9) (i := 0) (As := [.inl (.int t)]) (rest := []) cls_9 rfl (ok_X8_tripOf _ _) ml_X8_112 im_X8_tripOf se_X8_tripOf (by omega) (det_to (c_X8_tripOf (d := d - 1) (h := h) (by omega) W t) (fT_no h_1) rfl) rfl rfl (Nat.le_of_ble_eq_true rfl) dX8_note_2 (cy_out rfl rfl (by rw [F_X8_note, if_neg h_1]; dsimp only; exact ⟨SR.rf, rfl, rfl⟩))
def F_X8_prices (h : Hp) (f : Int32) (ba : Int32) (ce : Int32) (su : Int32) : Rs × Hp := (if okF f then (if okR ba 0 10000 then (if okR ce 0 1000 then (if okR su 0 10000 then (.inl none, F_X1_setPrices h f ba ce su) else (.inr cy_e1, h)) else (.inr cy_e1, h)) else (.inr cy_e1, h)) else (.inr cy_e3, h))
set_option maxRecDepth 20000 in
theorem c_X8_prices {g : GT} {d : Nat} (hd : 7 ≤ d) {h : Hp} (W : CW h) (f : Int32) (ba : Int32) (ce : Int32) (su : Int32)  : Ctr g M_X8_prices d 4 24 [.inr (9, some 0), .inl (.int f), .inl (.int ba), .inl (.int ce), .inl (.int su)] h (cy_detP (F_X8_prices h f ba ce su).1 (F_X8_prices h f ba ce su).2 (SR h (F_X8_prices h f ba ce su).2)) := by
  refine cy_body rfl rfl (by decide) (Nat.le_of_ble_eq_true rfl) ?_
  refine wp_run [(.iload_n 1, 1)] (pc' := 1) (L' := [(0, .inr (9, some 0)), (1, .inl (.int f)), (2, .inl (.int ba)), (3, .inl (.int ce)), (4, .inl (.int su))]) (st' := [.inl (.int f)]) ⟨dX8_prices_0, trivial⟩ rfl rfl ?_
  by_cases h_1 : okF f
  · refine wx_staticD (M := M_X8_prices) (uc := 3) (us := 18) (As := [.inl (.int f)]) (rest := []) (ok_X8_needFirm _ _) ml_X8_84 st_X8_needFirm (by omega) (det_to (c_X8_needFirm (d := d - 1) (h := h) (by omega) f) (fF_ok h_1) rfl) rfl rfl (Nat.le_of_ble_eq_true rfl) dX8_prices_1 ?_
    refine wp_run [(.iload_n 2, 1), (.iconst 0, 1), (.sipush 10000, 3)] (pc' := 9) (L' := [(0, .inr (9, some 0)), (1, .inl (.int f)), (2, .inl (.int ba)), (3, .inl (.int ce)), (4, .inl (.int su))]) (st' := [.inl (.int 10000), .inl (.int 0), .inl (.int ba)]) ⟨dX8_prices_4, dX8_prices_5, dX8_prices_6, trivial⟩ rfl rfl ?_
    by_cases h_2 : okR ba 0 10000
    · refine wx_staticD (M := M_X8_prices) (uc := 2) (us := 12) (As := [.inl (.int ba), .inl (.int 0), .inl (.int 10000)]) (rest := []) (ok_X8_needRange _ _) ml_X8_50 st_X8_needRange (by omega) (det_to (c_X8_needRange (d := d - 1) (h := h) (by omega) ba 0 10000) (fR_ok h_2) rfl) rfl rfl (Nat.le_of_ble_eq_true rfl) dX8_prices_9 ?_
      refine wp_run [(.iload_n 3, 1), (.iconst 0, 1), (.sipush 1000, 3)] (pc' := 17) (L' := [(0, .inr (9, some 0)), (1, .inl (.int f)), (2, .inl (.int ba)), (3, .inl (.int ce)), (4, .inl (.int su))]) (st' := [.inl (.int 1000), .inl (.int 0), .inl (.int ce)]) ⟨dX8_prices_12, dX8_prices_13, dX8_prices_14, trivial⟩ rfl rfl ?_
      by_cases h_3 : okR ce 0 1000
      · refine wx_staticD (M := M_X8_prices) (uc := 1) (us := 6) (As := [.inl (.int ce), .inl (.int 0), .inl (.int 1000)]) (rest := []) (ok_X8_needRange _ _) ml_X8_50 st_X8_needRange (by omega) (det_to (c_X8_needRange (d := d - 1) (h := h) (by omega) ce 0 1000) (fR_ok h_3) rfl) rfl rfl (Nat.le_of_ble_eq_true rfl) dX8_prices_17 ?_
        refine wp_run [(.iload 4, 2), (.iconst 0, 1), (.sipush 10000, 3)] (pc' := 26) (L' := [(0, .inr (9, some 0)), (1, .inl (.int f)), (2, .inl (.int ba)), (3, .inl (.int ce)), (4, .inl (.int su))]) (st' := [.inl (.int 10000), .inl (.int 0), .inl (.int su)]) ⟨dX8_prices_20, dX8_prices_22, dX8_prices_23, trivial⟩ rfl rfl ?_
        by_cases h_4 : okR su 0 10000
        · refine wx_staticD (M := M_X8_prices) (uc := 0) (us := 0) (As := [.inl (.int su), .inl (.int 0), .inl (.int 10000)]) (rest := []) (ok_X8_needRange _ _) ml_X8_50 st_X8_needRange (by omega) (det_to (c_X8_needRange (d := d - 1) (h := h) (by omega) su 0 10000) (fR_ok h_4) rfl) rfl rfl (Nat.le_of_ble_eq_true rfl) dX8_prices_26 ?_
          refine wp_run [(.aload_n 0, 1)] (pc' := 30) (L' := [(0, .inr (9, some 0)), (1, .inl (.int f)), (2, .inl (.int ba)), (3, .inl (.int ce)), (4, .inl (.int su))]) (st' := [.inr (9, some 0)]) ⟨dX8_prices_29, trivial⟩ rfl rfl ?_
          refine wx_getR cls_9 (k := 3) (f := 903) (t := 2) (o := some 0) (by decide) rfl rfl fl_X8_35 (W.fr (f := 903) (by decide)) dX8_prices_30 ?_
          refine wp_run [(.iload_n 1, 1), (.iload_n 2, 1), (.iload_n 3, 1), (.iload 4, 2)] (pc' := 38) (L' := [(0, .inr (9, some 0)), (1, .inl (.int f)), (2, .inl (.int ba)), (3, .inl (.int ce)), (4, .inl (.int su))]) (st' := [.inl (.int su), .inl (.int ce), .inl (.int ba), .inl (.int f), .inr (2, some 0)]) ⟨dX8_prices_33, dX8_prices_34, dX8_prices_35, dX8_prices_36, trivial⟩ rfl rfl ?_
          refine wx_virtualDP (M := M_X8_prices) (uc := 0) (us := 0) (s := 2) (i := 0) (As := [.inl (.int f), .inl (.int ba), .inl (.int ce), .inl (.int su)]) (rest := []) cls_2 rfl (ok_X1_setPrices _ _) ml_X8_155 im_X1_setPrices se_X1_setPrices (by omega) (c_X1_setPrices (d := d - 1) (h := h) (by omega) W f ba ce su) rfl rfl (Nat.le_of_ble_eq_true rfl) dX8_prices_38 (fun hS_5 => ?_)
          exact wx_vret rfl rfl dX8_prices_41 (by rw [F_X8_prices, if_pos h_1, if_pos h_2, if_pos h_3, if_pos h_4]; dsimp only; exact ⟨hS_5, rfl, rfl⟩)
        · exact wx_staticT (M := M_X8_prices) (uc := 0) (us := 0) (As := [.inl (.int su), .inl (.int 0), .inl (.int 10000)]) (rest := []) (ok_X8_needRange _ _) ml_X8_50 st_X8_needRange (by omega) (det_to (c_X8_needRange (d := d - 1) (h := h) (by omega) su 0 10000) (fR_no h_4) rfl) rfl rfl (Nat.le_of_ble_eq_true rfl) dX8_prices_26 (cy_out rfl rfl (by rw [F_X8_prices, if_pos h_1, if_pos h_2, if_pos h_3, if_neg h_4]; dsimp only; exact ⟨SR.rf, rfl, rfl⟩))
      · exact wx_staticT (M := M_X8_prices) (uc := 1) (us := 6) (As := [.inl (.int ce), .inl (.int 0), .inl (.int 1000)]) (rest := []) (ok_X8_needRange _ _) ml_X8_50 st_X8_needRange (by omega) (det_to (c_X8_needRange (d := d - 1) (h := h) (by omega) ce 0 1000) (fR_no h_3) rfl) rfl rfl (Nat.le_of_ble_eq_true rfl) dX8_prices_17 (cy_out rfl rfl (by rw [F_X8_prices, if_pos h_1, if_pos h_2, if_neg h_3]; dsimp only; exact ⟨SR.rf, rfl, rfl⟩))
    · exact wx_staticT (M := M_X8_prices) (uc := 2) (us := 12) (As := [.inl (.int ba), .inl (.int 0), .inl (.int 10000)]) (rest := []) (ok_X8_needRange _ _) ml_X8_50 st_X8_needRange (by omega) (det_to (c_X8_needRange (d := d - 1) (h := h) (by omega) ba 0 10000) (fR_no h_2) rfl) rfl rfl (Nat.le_of_ble_eq_true rfl) dX8_prices_9 (cy_out rfl rfl (by rw [F_X8_prices, if_pos h_1, if_neg h_2]; dsimp only; exact ⟨SR.rf, rfl, rfl⟩))
  · exact wx_staticT (M := M_X8_prices) (uc := 3) (us := 18) (As := [.inl (.int f)]) (rest := []) (ok_X8_needFirm _ _) ml_X8_84 st_X8_needFirm (by omega) (det_to (c_X8_needFirm (d := d - 1) (h := h) (by omega) f) (fF_no h_1) rfl) rfl rfl (Nat.le_of_ble_eq_true rfl) dX8_prices_1 (cy_out rfl rfl (by rw [F_X8_prices, if_neg h_1]; dsimp only; exact ⟨SR.rf, rfl, rfl⟩))
def F_X8_arrival (h : Hp) (a : Int32) (b : Int32) (ti : Int32) (n : Int32) : Rs × Hp := (if okW h a b ti then (if okR n 1 4 then (.inl (some (.inl (.int (F_X8_timeOrNone (F_X5_end (F_X5_seek h a b ti n) n))))), F_X5_seek h a b ti n) else (.inr cy_e1, h)) else (.inr (eW h a b), h))
set_option maxRecDepth 20000 in
theorem c_X8_arrival {g : GT} {d : Nat} (hd : 9 ≤ d) {h : Hp} (W : CW h) (a : Int32) (b : Int32) (ti : Int32) (n : Int32)  : Ctr g M_X8_arrival d 5 30 [.inr (9, some 0), .inl (.int a), .inl (.int b), .inl (.int ti), .inl (.int n)] h (cy_detP (F_X8_arrival h a b ti n).1 (F_X8_arrival h a b ti n).2 (SR h (F_X8_arrival h a b ti n).2)) := by
  refine cy_body rfl rfl (by decide) (Nat.le_of_ble_eq_true rfl) ?_
  refine wp_run [(.aload_n 0, 1), (.iload_n 1, 1), (.iload_n 2, 1), (.iload_n 3, 1)] (pc' := 4) (L' := [(0, .inr (9, some 0)), (1, .inl (.int a)), (2, .inl (.int b)), (3, .inl (.int ti)), (4, .inl (.int n))]) (st' := [.inl (.int ti), .inl (.int b), .inl (.int a), .inr (9, some 0)]) ⟨dX8_arrival_0, dX8_arrival_1, dX8_arrival_2, dX8_arrival_3, trivial⟩ rfl rfl ?_
  by_cases h_1 : okW h a b ti
  · refine wx_virtualD (M := M_X8_arrival) (uc := 1) (us := 6) (s := 9) (i := 0) (As := [.inl (.int a), .inl (.int b), .inl (.int ti)]) (rest := []) cls_9 rfl (ok_X8_needWay _ _) ml_X8_158 im_X8_needWay se_X8_needWay (by omega) (det_to (c_X8_needWay (d := d - 1) (h := h) (by omega) W a b ti) (fW_ok h_1) rfl) rfl rfl (Nat.le_of_ble_eq_true rfl) dX8_arrival_4 ?_
    refine wp_run [(.iload 4, 2), (.iconst 1, 1), (.iconst 4, 1)] (pc' := 11) (L' := [(0, .inr (9, some 0)), (1, .inl (.int a)), (2, .inl (.int b)), (3, .inl (.int ti)), (4, .inl (.int n))]) (st' := [.inl (.int 4), .inl (.int 1), .inl (.int n)]) ⟨dX8_arrival_7, dX8_arrival_9, dX8_arrival_10, trivial⟩ rfl rfl ?_
    by_cases h_2 : okR n 1 4
    · refine wx_staticD (M := M_X8_arrival) (uc := 0) (us := 0) (As := [.inl (.int n), .inl (.int 1), .inl (.int 4)]) (rest := []) (ok_X8_needRange _ _) ml_X8_50 st_X8_needRange (by omega) (det_to (c_X8_needRange (d := d - 1) (h := h) (by omega) n 1 4) (fR_ok h_2) rfl) rfl rfl (Nat.le_of_ble_eq_true rfl) dX8_arrival_11 ?_
      refine wp_run [(.aload_n 0, 1)] (pc' := 15) (L' := [(0, .inr (9, some 0)), (1, .inl (.int a)), (2, .inl (.int b)), (3, .inl (.int ti)), (4, .inl (.int n))]) (st' := [.inr (9, some 0)]) ⟨dX8_arrival_14, trivial⟩ rfl rfl ?_
      refine wx_getR cls_9 (k := 1) (f := 901) (t := 6) (o := some 0) (by decide) rfl rfl fl_X8_21 (W.fr (f := 901) (by decide)) dX8_arrival_15 ?_
      refine wp_run [(.iload_n 1, 1), (.iload_n 2, 1), (.iload_n 3, 1), (.iload 4, 2)] (pc' := 23) (L' := [(0, .inr (9, some 0)), (1, .inl (.int a)), (2, .inl (.int b)), (3, .inl (.int ti)), (4, .inl (.int n))]) (st' := [.inl (.int n), .inl (.int ti), .inl (.int b), .inl (.int a), .inr (6, some 0)]) ⟨dX8_arrival_18, dX8_arrival_19, dX8_arrival_20, dX8_arrival_21, trivial⟩ rfl rfl ?_
      refine wx_virtualDP (M := M_X8_arrival) (uc := 0) (us := 0) (s := 6) (i := 0) (As := [.inl (.int a), .inl (.int b), .inl (.int ti), .inl (.int n)]) (rest := []) cls_6 rfl (ok_X5_seek _ _) ml_X8_161 im_X5_seek se_X5_seek (by omega) (c_X5_seek (d := d - 1) (h := h) (by omega) W a b ti n) rfl rfl (Nat.le_of_ble_eq_true rfl) dX8_arrival_23 (fun hS_3 => ?_)
      refine wp_run [(.aload_n 0, 1)] (pc' := 27) (L' := [(0, .inr (9, some 0)), (1, .inl (.int a)), (2, .inl (.int b)), (3, .inl (.int ti)), (4, .inl (.int n))]) (st' := [.inr (9, some 0)]) ⟨dX8_arrival_26, trivial⟩ rfl rfl ?_
      refine wx_getR cls_9 (k := 1) (f := 901) (t := 6) (o := some 0) (by decide) rfl rfl fl_X8_21 ((W.sr hS_3).fr (f := 901) (by decide)) dX8_arrival_27 ?_
      refine wp_run [(.iload 4, 2)] (pc' := 32) (L' := [(0, .inr (9, some 0)), (1, .inl (.int a)), (2, .inl (.int b)), (3, .inl (.int ti)), (4, .inl (.int n))]) (st' := [.inl (.int n), .inr (6, some 0)]) ⟨dX8_arrival_30, trivial⟩ rfl rfl ?_
      refine wx_virtualD (M := M_X8_arrival) (uc := 0) (us := 0) (s := 6) (i := 0) (As := [.inl (.int n)]) (rest := []) cls_6 rfl (ok_X5_end _ _) ml_X8_164 im_X5_end se_X5_end (by omega) (c_X5_end (d := d - 1) (h := (F_X5_seek h a b ti n)) (by omega) (W.sr hS_3) n) rfl rfl (Nat.le_of_ble_eq_true rfl) dX8_arrival_32 ?_
      refine wx_staticD (M := M_X8_arrival) (uc := 0) (us := 0) (As := [.inl (.int (F_X5_end (F_X5_seek h a b ti n) n))]) (rest := []) (ok_X8_timeOrNone _ _) ml_X8_167 st_X8_timeOrNone (by omega) (c_X8_timeOrNone (d := d - 1) (h := (F_X5_seek h a b ti n)) (by omega) (F_X5_end (F_X5_seek h a b ti n) n)) rfl rfl (Nat.le_of_ble_eq_true rfl) dX8_arrival_35 ?_
      exact wx_iret rfl rfl dX8_arrival_38 (by rw [F_X8_arrival, if_pos h_1, if_pos h_2]; dsimp only; exact ⟨hS_3, rfl, rfl⟩)
    · exact wx_staticT (M := M_X8_arrival) (uc := 0) (us := 0) (As := [.inl (.int n), .inl (.int 1), .inl (.int 4)]) (rest := []) (ok_X8_needRange _ _) ml_X8_50 st_X8_needRange (by omega) (det_to (c_X8_needRange (d := d - 1) (h := h) (by omega) n 1 4) (fR_no h_2) rfl) rfl rfl (Nat.le_of_ble_eq_true rfl) dX8_arrival_11 (cy_out rfl rfl (by rw [F_X8_arrival, if_pos h_1, if_neg h_2]; dsimp only; exact ⟨SR.rf, rfl, rfl⟩))
  · exact wx_virtualT (M := M_X8_arrival) (uc := 1) (us := 6) (s := 9) (i := 0) (As := [.inl (.int a), .inl (.int b), .inl (.int ti)]) (rest := []) cls_9 rfl (ok_X8_needWay _ _) ml_X8_158 im_X8_needWay se_X8_needWay (by omega) (det_to (c_X8_needWay (d := d - 1) (h := h) (by omega) W a b ti) (fW_no h_1) rfl) rfl rfl (Nat.le_of_ble_eq_true rfl) dX8_arrival_4 (cy_out rfl rfl (by rw [F_X8_arrival, if_neg h_1]; dsimp only; exact ⟨SR.rf, rfl, rfl⟩))
def B_X8_front_28 (h : Hp) (a : Int32) (b : Int32) (ti : Int32) (rec28 : Int32 → Int32 → Nat → (Rs × Hp)) (le : Int32) (su : Int32) (k : Nat) : Rs × Hp := (if 4 < (nI k) then (.inl (some (.inl (.int su))), F_X5_seek h a b ti 4) else (if le ≤ (F_X5_end (F_X5_seek h a b ti 4) (nI k)) then (rec28 le su (k + 1)) else (rec28 (F_X5_end (F_X5_seek h a b ti 4) (nI k)) (su + (1 <<< ((nI k) &&& 31))) (k + 1))))
def L_X8_front_28 (h : Hp) (a : Int32) (b : Int32) (ti : Int32) : Nat → Int32 → Int32 → Nat → (Rs × Hp)
  | 0 => fun le su k => (.inl none, h)
  | fu + 1 => B_X8_front_28 h a b ti (L_X8_front_28 h a b ti fu)
theorem L_X8_front_28_s (h : Hp) (a : Int32) (b : Int32) (ti : Int32) (fu : Nat) (le : Int32) (su : Int32) (k : Nat) : L_X8_front_28 h a b ti (fu + 1) le su k = B_X8_front_28 h a b ti (L_X8_front_28 h a b ti fu) le su k := rfl
def F_X8_front (h : Hp) (a : Int32) (b : Int32) (ti : Int32) : Rs × Hp := (if okW h a b ti then L_X8_front_28 h a b ti (2147483648 - 1 + 1) 1000000000 0 1 else (.inr (eW h a b), h))
set_option maxRecDepth 20000 in
theorem c_X8_front {g : GT} {d : Nat} (hd : 9 ≤ d) {h : Hp} (W : CW h) (a : Int32) (b : Int32) (ti : Int32)  : Ctr g M_X8_front d 4 24 [.inr (9, some 0), .inl (.int a), .inl (.int b), .inl (.int ti)] h (cy_detP (F_X8_front h a b ti).1 (F_X8_front h a b ti).2 (SR h (F_X8_front h a b ti).2)) := by
  refine cy_body rfl rfl (by decide) (Nat.le_of_ble_eq_true rfl) ?_
  refine wp_run [(.aload_n 0, 1), (.iload_n 1, 1), (.iload_n 2, 1), (.iload_n 3, 1)] (pc' := 4) (L' := [(0, .inr (9, some 0)), (1, .inl (.int a)), (2, .inl (.int b)), (3, .inl (.int ti))]) (st' := [.inl (.int ti), .inl (.int b), .inl (.int a), .inr (9, some 0)]) ⟨dX8_front_0, dX8_front_1, dX8_front_2, dX8_front_3, trivial⟩ rfl rfl ?_
  by_cases h_1 : okW h a b ti
  · refine wx_virtualD (M := M_X8_front) (uc := 0) (us := 0) (s := 9) (i := 0) (As := [.inl (.int a), .inl (.int b), .inl (.int ti)]) (rest := []) cls_9 rfl (ok_X8_needWay _ _) ml_X8_158 im_X8_needWay se_X8_needWay (by omega) (det_to (c_X8_needWay (d := d - 1) (h := h) (by omega) W a b ti) (fW_ok h_1) rfl) rfl rfl (Nat.le_of_ble_eq_true rfl) dX8_front_4 ?_
    refine wp_run [(.aload_n 0, 1)] (pc' := 8) (L' := [(0, .inr (9, some 0)), (1, .inl (.int a)), (2, .inl (.int b)), (3, .inl (.int ti))]) (st' := [.inr (9, some 0)]) ⟨dX8_front_7, trivial⟩ rfl rfl ?_
    refine wx_getR cls_9 (k := 1) (f := 901) (t := 6) (o := some 0) (by decide) rfl rfl fl_X8_21 (W.fr (f := 901) (by decide)) dX8_front_8 ?_
    refine wp_run [(.iload_n 1, 1), (.iload_n 2, 1), (.iload_n 3, 1), (.iconst 4, 1)] (pc' := 15) (L' := [(0, .inr (9, some 0)), (1, .inl (.int a)), (2, .inl (.int b)), (3, .inl (.int ti))]) (st' := [.inl (.int 4), .inl (.int ti), .inl (.int b), .inl (.int a), .inr (6, some 0)]) ⟨dX8_front_11, dX8_front_12, dX8_front_13, dX8_front_14, trivial⟩ rfl rfl ?_
    refine wx_virtualDP (M := M_X8_front) (uc := 0) (us := 0) (s := 6) (i := 0) (As := [.inl (.int a), .inl (.int b), .inl (.int ti), .inl (.int 4)]) (rest := []) cls_6 rfl (ok_X5_seek _ _) ml_X8_161 im_X5_seek se_X5_seek (by omega) (c_X5_seek (d := d - 1) (h := h) (by omega) W a b ti 4) rfl rfl (Nat.le_of_ble_eq_true rfl) dX8_front_15 (fun hS_2 => ?_)
    refine wx_ldc kc_X8_174 dX8_front_18 ?_
    refine wp_run [(.istore 4, 2), (.iconst 0, 1), (.istore 5, 2), (.iconst 1, 1), (.istore 6, 2)] (pc' := 28) (L' := [(6, .inl (.int 1)), (5, .inl (.int 0)), (4, .inl (.int 1000000000)), (0, .inr (9, some 0)), (1, .inl (.int a)), (2, .inl (.int b)), (3, .inl (.int ti))]) (st' := []) ⟨dX8_front_20, dX8_front_22, dX8_front_23, dX8_front_25, dX8_front_26, trivial⟩ rfl rfl ?_
    rw [F_X8_front, if_pos h_1]
    refine wp_sub [0, 1, 2, 3] (L' := [(6, .inl (.int 1)), (5, .inl (.int 0)), (4, .inl (.int 1000000000)), (0, .inr (9, some 0))]) rfl ?_
    suffices Y28 : ∀ (n28 : Nat) (le : Int32) (su : Int32) (k : Nat) (hik : k < 2147483648) (hm28 : 2147483648 - k < n28), WP g M_X8_front d 0 0 28 [(6, .inl (.int (nI k))), (5, .inl (.int su)), (4, .inl (.int le)), (0, .inr (9, some 0))] [] (F_X5_seek h a b ti 4) (cy_detP (L_X8_front_28 h a b ti n28 le su k).1 (L_X8_front_28 h a b ti n28 le su k).2 (SR h (L_X8_front_28 h a b ti n28 le su k).2)) from
      Y28 (2147483648 - 1 + 1) 1000000000 0 1 (by decide) (Nat.lt_succ_self _)
    intro n28
    induction n28 with
    | zero => intro le su k hik hm28; exact absurd hm28 (Nat.not_lt_zero _)
    | succ n28 ih28 =>
      intro le su k hik hm28
      rw [L_X8_front_28_s]
      generalize L_X8_front_28 h a b ti n28 = rec28 at ih28 ⊢
      refine wp_run [(.iload 6, 2), (.iconst 4, 1)] (pc' := 31) (L' := [(6, .inl (.int (nI k))), (5, .inl (.int su)), (4, .inl (.int le)), (0, .inr (9, some 0))]) (st' := [.inl (.int 4), .inl (.int (nI k))]) ⟨dX8_front_28, dX8_front_30, trivial⟩ rfl rfl ?_
      refine wx_icmp_gt (tgt := 71) dX8_front_31 (by decide) (fun h_3 => ?_) (fun h_3 => ?_)
      · refine wp_run [(.iload 5, 2)] (pc' := 73) (L' := [(6, .inl (.int (nI k))), (5, .inl (.int su)), (4, .inl (.int le)), (0, .inr (9, some 0))]) (st' := [.inl (.int su)]) ⟨dX8_front_71, trivial⟩ rfl rfl ?_
        exact wx_iret rfl rfl dX8_front_73 (by rw [B_X8_front_28, if_pos h_3]; dsimp only; exact ⟨hS_2, rfl, rfl⟩)
      · refine wp_run [(.aload_n 0, 1)] (pc' := 35) (L' := [(6, .inl (.int (nI k))), (5, .inl (.int su)), (4, .inl (.int le)), (0, .inr (9, some 0))]) (st' := [.inr (9, some 0)]) ⟨dX8_front_34, trivial⟩ rfl rfl ?_
        refine wx_getR cls_9 (k := 1) (f := 901) (t := 6) (o := some 0) (by decide) rfl rfl fl_X8_21 ((W.sr hS_2).fr (f := 901) (by decide)) dX8_front_35 ?_
        refine wp_run [(.iload 6, 2)] (pc' := 40) (L' := [(6, .inl (.int (nI k))), (5, .inl (.int su)), (4, .inl (.int le)), (0, .inr (9, some 0))]) (st' := [.inl (.int (nI k)), .inr (6, some 0)]) ⟨dX8_front_38, trivial⟩ rfl rfl ?_
        refine wx_virtualD (M := M_X8_front) (uc := 0) (us := 0) (s := 6) (i := 0) (As := [.inl (.int (nI k))]) (rest := []) cls_6 rfl (ok_X5_end _ _) ml_X8_164 im_X5_end se_X5_end (by omega) (c_X5_end (d := d - 1) (h := (F_X5_seek h a b ti 4)) (by omega) (W.sr hS_2) (nI k)) rfl rfl (Nat.le_of_ble_eq_true rfl) dX8_front_40 ?_
        refine wp_run [(.istore 7, 2), (.iload 7, 2), (.iload 4, 2)] (pc' := 49) (L' := [(7, .inl (.int (F_X5_end (F_X5_seek h a b ti 4) (nI k)))), (6, .inl (.int (nI k))), (5, .inl (.int su)), (4, .inl (.int le)), (0, .inr (9, some 0))]) (st' := [.inl (.int le), .inl (.int (F_X5_end (F_X5_seek h a b ti 4) (nI k)))]) ⟨dX8_front_43, dX8_front_45, dX8_front_47, trivial⟩ rfl rfl ?_
        refine wx_icmp_ge (tgt := 65) dX8_front_49 (by decide) (fun h_4 => ?_) (fun h_4 => ?_)
        · refine wp_run [(.iinc 6 1, 3)] (pc' := 68) (L' := [(6, .inl (.int ((nI k) + 1))), (7, .inl (.int (F_X5_end (F_X5_seek h a b ti 4) (nI k)))), (5, .inl (.int su)), (4, .inl (.int le)), (0, .inr (9, some 0))]) (st' := []) ⟨dX8_front_65, trivial⟩ rfl rfl ?_
          refine wx_goto (tgt := 28) dX8_front_68 (by decide) ?_
          rw [B_X8_front_28, if_neg h_3, if_pos h_4]
          rw [nI_1 k]
          refine wp_sub [0, 2, 3, 4] (L' := [(6, .inl (.int (nI (k + 1)))), (5, .inl (.int su)), (4, .inl (.int le)), (0, .inr (9, some 0))]) rfl ?_
          exact ih28 _ _ _ (cy_nle hik (Int32.not_lt.mp h_3) (by decide)).2 (by have := (cy_nle hik (Int32.not_lt.mp h_3) (by decide)).2; omega)
        · refine wp_run [(.iload 7, 2), (.istore 4, 2), (.iload 5, 2), (.iconst 1, 1), (.iload 6, 2), (.ishl, 1), (.iadd, 1), (.istore 5, 2), (.iinc 6 1, 3)] (pc' := 68) (L' := [(6, .inl (.int ((nI k) + 1))), (5, .inl (.int (su + (1 <<< ((nI k) &&& 31))))), (4, .inl (.int (F_X5_end (F_X5_seek h a b ti 4) (nI k)))), (7, .inl (.int (F_X5_end (F_X5_seek h a b ti 4) (nI k)))), (0, .inr (9, some 0))]) (st' := []) ⟨dX8_front_52, dX8_front_54, dX8_front_56, dX8_front_58, dX8_front_59, dX8_front_61, dX8_front_62, dX8_front_63, dX8_front_65, trivial⟩ rfl rfl ?_
          refine wx_goto (tgt := 28) dX8_front_68 (by decide) ?_
          rw [B_X8_front_28, if_neg h_3, if_neg h_4]
          rw [nI_1 k]
          refine wp_sub [0, 1, 2, 4] (L' := [(6, .inl (.int (nI (k + 1)))), (5, .inl (.int (su + (1 <<< ((nI k) &&& 31))))), (4, .inl (.int (F_X5_end (F_X5_seek h a b ti 4) (nI k)))), (0, .inr (9, some 0))]) rfl ?_
          exact ih28 _ _ _ (cy_nle hik (Int32.not_lt.mp h_3) (by decide)).2 (by have := (cy_nle hik (Int32.not_lt.mp h_3) (by decide)).2; omega)
  · exact wx_virtualT (M := M_X8_front) (uc := 0) (us := 0) (s := 9) (i := 0) (As := [.inl (.int a), .inl (.int b), .inl (.int ti)]) (rest := []) cls_9 rfl (ok_X8_needWay _ _) ml_X8_158 im_X8_needWay se_X8_needWay (by omega) (det_to (c_X8_needWay (d := d - 1) (h := h) (by omega) W a b ti) (fW_no h_1) rfl) rfl rfl (Nat.le_of_ble_eq_true rfl) dX8_front_4 (cy_out rfl rfl (by rw [F_X8_front, if_neg h_1]; dsimp only; exact ⟨SR.rf, rfl, rfl⟩))
def F_X8_buy (h : Hp) (x : Int32) : Rs × Hp := (if okB h x then (if (xFI h 103 (x.toNatClampNeg)) = 0 then (.inl (some (.inl (.int (xFI (sFI h 103 (x.toNatClampNeg) 1) 101 (x.toNatClampNeg))))), sFI h 103 (x.toNatClampNeg) 1) else (.inr cy_e2, h)) else (.inr cy_e3, h))
set_option maxRecDepth 20000 in
theorem c_X8_buy {g : GT} {d : Nat} (hd : 8 ≤ d) {h : Hp} (W : CW h) (x : Int32)  : Ctr g M_X8_buy d 2 12 [.inr (9, some 0), .inl (.int x)] h (cy_detP (F_X8_buy h x).1 (F_X8_buy h x).2 (SR h (F_X8_buy h x).2)) := by
  refine cy_body rfl rfl (by decide) (Nat.le_of_ble_eq_true rfl) ?_
  refine wp_run [(.aload_n 0, 1), (.iload_n 1, 1)] (pc' := 2) (L' := [(0, .inr (9, some 0)), (1, .inl (.int x))]) (st' := [.inl (.int x), .inr (9, some 0)]) ⟨dX8_buy_0, dX8_buy_1, trivial⟩ rfl rfl ?_
  by_cases h_1 : okB h x
  · refine wx_virtualD (M := M_X8_buy) (uc := 1) (us := 6) (s := 9) (i := 0) (As := [.inl (.int x)]) (rest := []) cls_9 rfl (ok_X8_bookingOf _ _) ml_X8_218 im_X8_bookingOf se_X8_bookingOf (by omega) (det_to (c_X8_bookingOf (d := d - 1) (h := h) (by omega) W x) (fB_ok h_1) rfl) rfl rfl (Nat.le_of_ble_eq_true rfl) dX8_buy_2 ?_
    refine wp_run [(.astore_n 2, 1), (.aload_n 2, 1)] (pc' := 7) (L' := [(2, .inr (1, some (x.toNatClampNeg))), (0, .inr (9, some 0)), (1, .inl (.int x))]) (st' := [.inr (1, some (x.toNatClampNeg))]) ⟨dX8_buy_5, dX8_buy_6, trivial⟩ rfl rfl ?_
    refine wx_getI cls_1 (k := 3) (f := 103) (by decide) rfl rfl fl_X8_222 dX8_buy_7 ?_
    refine wx_if_eq (tgt := 23) dX8_buy_10 (by decide) (fun h_2 => ?_) (fun h_2 => ?_)
    · refine wp_run [(.aload_n 2, 1), (.iconst 1, 1)] (pc' := 25) (L' := [(2, .inr (1, some (x.toNatClampNeg))), (0, .inr (9, some 0)), (1, .inl (.int x))]) (st' := [.inl (.int 1), .inr (1, some (x.toNatClampNeg))]) ⟨dX8_buy_23, dX8_buy_24, trivial⟩ rfl rfl ?_
      refine wx_putI cls_1 (k := 3) (f := 103) (by decide) rfl rfl rfl fl_X8_222 (Or.inl rfl) dX8_buy_25 ?_
      refine wp_run [(.aload_n 2, 1)] (pc' := 29) (L' := [(2, .inr (1, some (x.toNatClampNeg))), (0, .inr (9, some 0)), (1, .inl (.int x))]) (st' := [.inr (1, some (x.toNatClampNeg))]) ⟨dX8_buy_28, trivial⟩ rfl rfl ?_
      refine wx_getI cls_1 (k := 1) (f := 101) (by decide) rfl rfl fl_X8_227 dX8_buy_29 ?_
      exact wx_iret rfl rfl dX8_buy_32 (by rw [F_X8_buy, if_pos h_1, if_pos h_2]; dsimp only; exact ⟨SR.rf, rfl, rfl⟩)
    · exact wx_throwS (text := "the booking is not held") (uc := 0) (us := 0) rfl rfl rfl (by omega) (by decide) exk_2 exi_2 (by decide) exa_2 (Nat.le_of_ble_eq_true rfl) dX8_buy_13 dX8_buy_16 dX8_buy_17 dX8_buy_19 dX8_buy_22 (by rw [F_X8_buy, if_pos h_1, if_neg h_2]; dsimp only; exact ⟨SR.rf, rfl, rfl⟩)
  · exact wx_virtualT (M := M_X8_buy) (uc := 1) (us := 6) (s := 9) (i := 0) (As := [.inl (.int x)]) (rest := []) cls_9 rfl (ok_X8_bookingOf _ _) ml_X8_218 im_X8_bookingOf se_X8_bookingOf (by omega) (det_to (c_X8_bookingOf (d := d - 1) (h := h) (by omega) W x) (fB_no h_1) rfl) rfl rfl (Nat.le_of_ble_eq_true rfl) dX8_buy_2 (cy_out rfl rfl (by rw [F_X8_buy, if_neg h_1]; dsimp only; exact ⟨SR.rf, rfl, rfl⟩))
def F_X8_right (h : Hp) (x : Int32) : Rs := (if okB h x then .inl (some (.inl (.int (F_X0_amount h (x.toNatClampNeg))))) else .inr cy_e3)
set_option maxRecDepth 20000 in
theorem c_X8_right {g : GT} {d : Nat} (hd : 8 ≤ d) {h : Hp} (W : CW h) (x : Int32)  : Ctr g M_X8_right d 1 6 [.inr (9, some 0), .inl (.int x)] h (cy_det (F_X8_right h x) h) := by
  refine cy_body rfl rfl (by decide) (Nat.le_of_ble_eq_true rfl) ?_
  refine wp_run [(.aload_n 0, 1), (.iload_n 1, 1)] (pc' := 2) (L' := [(0, .inr (9, some 0)), (1, .inl (.int x))]) (st' := [.inl (.int x), .inr (9, some 0)]) ⟨dX8_right_0, dX8_right_1, trivial⟩ rfl rfl ?_
  by_cases h_1 : okB h x
  · refine wx_virtualD (M := M_X8_right) (uc := 0) (us := 0) (s := 9) (i := 0) (As := [.inl (.int x)]) (rest := []) cls_9 rfl (ok_X8_bookingOf _ _) ml_X8_218 im_X8_bookingOf se_X8_bookingOf (by omega) (det_to (c_X8_bookingOf (d := d - 1) (h := h) (by omega) W x) (fB_ok h_1) rfl) rfl rfl (Nat.le_of_ble_eq_true rfl) dX8_right_2 ?_
    refine wx_virtualD (M := M_X8_right) (uc := 0) (us := 0) (s := 1) (i := (x.toNatClampNeg)) (As := []) (rest := []) cls_1 rfl (ok_X0_amount _ _) ml_X8_230 im_X0_amount se_X0_amount (by omega) (c_X0_amount (d := d - 1) (h := h) (by omega) W (okB_lt W h_1)) rfl rfl (Nat.le_of_ble_eq_true rfl) dX8_right_5 ?_
    exact wx_iret rfl rfl dX8_right_8 (by rw [F_X8_right, if_pos h_1]; exact ⟨rfl, rfl⟩)
  · exact wx_virtualT (M := M_X8_right) (uc := 0) (us := 0) (s := 9) (i := 0) (As := [.inl (.int x)]) (rest := []) cls_9 rfl (ok_X8_bookingOf _ _) ml_X8_218 im_X8_bookingOf se_X8_bookingOf (by omega) (det_to (c_X8_bookingOf (d := d - 1) (h := h) (by omega) W x) (fB_no h_1) rfl) rfl rfl (Nat.le_of_ble_eq_true rfl) dX8_right_2 (cy_out rfl rfl (by rw [F_X8_right, if_neg h_1]; exact ⟨rfl, rfl⟩))
def F_X8_claim (h : Hp) (x : Int32) : Rs × Hp := (if okB h x then (if (F_X0_amount h (x.toNatClampNeg)) = 0 then (.inr cy_e2, h) else (.inl (some (.inl (.int (F_X0_amount h (x.toNatClampNeg))))), sFI h 103 (x.toNatClampNeg) 3)) else (.inr cy_e3, h))
set_option maxRecDepth 20000 in
theorem c_X8_claim {g : GT} {d : Nat} (hd : 8 ≤ d) {h : Hp} (W : CW h) (x : Int32)  : Ctr g M_X8_claim d 2 12 [.inr (9, some 0), .inl (.int x)] h (cy_detP (F_X8_claim h x).1 (F_X8_claim h x).2 (SR h (F_X8_claim h x).2)) := by
  refine cy_body rfl rfl (by decide) (Nat.le_of_ble_eq_true rfl) ?_
  refine wp_run [(.aload_n 0, 1), (.iload_n 1, 1)] (pc' := 2) (L' := [(0, .inr (9, some 0)), (1, .inl (.int x))]) (st' := [.inl (.int x), .inr (9, some 0)]) ⟨dX8_claim_0, dX8_claim_1, trivial⟩ rfl rfl ?_
  by_cases h_1 : okB h x
  · refine wx_virtualD (M := M_X8_claim) (uc := 1) (us := 6) (s := 9) (i := 0) (As := [.inl (.int x)]) (rest := []) cls_9 rfl (ok_X8_bookingOf _ _) ml_X8_218 im_X8_bookingOf se_X8_bookingOf (by omega) (det_to (c_X8_bookingOf (d := d - 1) (h := h) (by omega) W x) (fB_ok h_1) rfl) rfl rfl (Nat.le_of_ble_eq_true rfl) dX8_claim_2 ?_
    refine wp_run [(.astore_n 2, 1), (.aload_n 2, 1)] (pc' := 7) (L' := [(2, .inr (1, some (x.toNatClampNeg))), (0, .inr (9, some 0)), (1, .inl (.int x))]) (st' := [.inr (1, some (x.toNatClampNeg))]) ⟨dX8_claim_5, dX8_claim_6, trivial⟩ rfl rfl ?_
    refine wx_virtualD (M := M_X8_claim) (uc := 1) (us := 6) (s := 1) (i := (x.toNatClampNeg)) (As := []) (rest := []) cls_1 rfl (ok_X0_amount _ _) ml_X8_230 im_X0_amount se_X0_amount (by omega) (c_X0_amount (d := d - 1) (h := h) (by omega) W (okB_lt W h_1)) rfl rfl (Nat.le_of_ble_eq_true rfl) dX8_claim_7 ?_
    refine wp_run [(.istore_n 3, 1), (.iload_n 3, 1)] (pc' := 12) (L' := [(3, .inl (.int (F_X0_amount h (x.toNatClampNeg)))), (2, .inr (1, some (x.toNatClampNeg))), (0, .inr (9, some 0)), (1, .inl (.int x))]) (st' := [.inl (.int (F_X0_amount h (x.toNatClampNeg)))]) ⟨dX8_claim_10, dX8_claim_11, trivial⟩ rfl rfl ?_
    refine wx_if_ne (tgt := 25) dX8_claim_12 (by decide) (fun h_2 => ?_) (fun h_2 => ?_)
    · refine wp_run [(.aload_n 2, 1), (.iconst 3, 1)] (pc' := 27) (L' := [(3, .inl (.int (F_X0_amount h (x.toNatClampNeg)))), (2, .inr (1, some (x.toNatClampNeg))), (0, .inr (9, some 0)), (1, .inl (.int x))]) (st' := [.inl (.int 3), .inr (1, some (x.toNatClampNeg))]) ⟨dX8_claim_25, dX8_claim_26, trivial⟩ rfl rfl ?_
      refine wx_putI cls_1 (k := 3) (f := 103) (by decide) rfl rfl rfl fl_X8_222 (Or.inl rfl) dX8_claim_27 ?_
      refine wp_run [(.iload_n 3, 1)] (pc' := 31) (L' := [(3, .inl (.int (F_X0_amount h (x.toNatClampNeg)))), (2, .inr (1, some (x.toNatClampNeg))), (0, .inr (9, some 0)), (1, .inl (.int x))]) (st' := [.inl (.int (F_X0_amount h (x.toNatClampNeg)))]) ⟨dX8_claim_30, trivial⟩ rfl rfl ?_
      exact wx_iret rfl rfl dX8_claim_31 (by rw [F_X8_claim, if_pos h_1, if_neg h_2]; dsimp only; exact ⟨SR.rf, rfl, rfl⟩)
    · exact wx_throwS (text := "there is no right") (uc := 0) (us := 0) rfl rfl rfl (by omega) (by decide) exk_2 exi_2 (by decide) exa_2 (Nat.le_of_ble_eq_true rfl) dX8_claim_15 dX8_claim_18 dX8_claim_19 dX8_claim_21 dX8_claim_24 (by rw [F_X8_claim, if_pos h_1, if_pos h_2]; dsimp only; exact ⟨SR.rf, rfl, rfl⟩)
  · exact wx_virtualT (M := M_X8_claim) (uc := 1) (us := 6) (s := 9) (i := 0) (As := [.inl (.int x)]) (rest := []) cls_9 rfl (ok_X8_bookingOf _ _) ml_X8_218 im_X8_bookingOf se_X8_bookingOf (by omega) (det_to (c_X8_bookingOf (d := d - 1) (h := h) (by omega) W x) (fB_no h_1) rfl) rfl rfl (Nat.le_of_ble_eq_true rfl) dX8_claim_2 (cy_out rfl rfl (by rw [F_X8_claim, if_neg h_1]; dsimp only; exact ⟨SR.rf, rfl, rfl⟩))
def B_X8_concerned_19 (h : Hp) (t : Int32) (dy : Int32) (rec19 : Int32 → Nat → Rs) (su : Int32) (i : Nat) : Rs := (if (nI (xLS h 12)) ≤ (nI i) then .inl (some (.inl (.int su))) else (if (F_X0_isOpen h i) = 0 then (rec19 su (i + 1)) else (if (F_X2_goesBy h (bj h i) (rls h (bj h i)) (t.toNatClampNeg) dy) = 0 then (rec19 su (i + 1)) else (rec19 (su + (1 <<< ((nI i) &&& 31))) (i + 1)))))
def L_X8_concerned_19 (h : Hp) (t : Int32) (dy : Int32) : Nat → Int32 → Nat → Rs
  | 0 => fun su i => .inl none
  | fu + 1 => B_X8_concerned_19 h t dy (L_X8_concerned_19 h t dy fu)
theorem L_X8_concerned_19_s (h : Hp) (t : Int32) (dy : Int32) (fu : Nat) (su : Int32) (i : Nat) : L_X8_concerned_19 h t dy (fu + 1) su i = B_X8_concerned_19 h t dy (L_X8_concerned_19 h t dy fu) su i := rfl
def F_X8_concerned (h : Hp) (t : Int32) (dy : Int32) : Rs := (if okT h t then (if okR dy 0 99 then L_X8_concerned_19 h t dy (2147483648 - 0 + 1) 0 0 else .inr cy_e1) else .inr cy_e3)
set_option maxRecDepth 20000 in
theorem c_X8_concerned {g : GT} {d : Nat} (hd : 8 ≤ d) {h : Hp} (W : CW h) (t : Int32) (dy : Int32)  : Ctr g M_X8_concerned d 2 12 [.inr (9, some 0), .inl (.int t), .inl (.int dy)] h (cy_det (F_X8_concerned h t dy) h) := by
  refine cy_body rfl rfl (by decide) (Nat.le_of_ble_eq_true rfl) ?_
  refine wp_run [(.aload_n 0, 1), (.iload_n 1, 1)] (pc' := 2) (L' := [(0, .inr (9, some 0)), (1, .inl (.int t)), (2, .inl (.int dy))]) (st' := [.inl (.int t), .inr (9, some 0)]) ⟨dX8_concerned_0, dX8_concerned_1, trivial⟩ rfl rfl ?_
  by_cases h_1 : okT h t
  · refine wx_virtualD (M := M_X8_concerned) (uc := 1) (us := 6) (s := 9) (i := 0) (As := [.inl (.int t)]) (rest := []) cls_9 rfl (ok_X8_tripOf _ _) ml_X8_112 im_X8_tripOf se_X8_tripOf (by omega) (det_to (c_X8_tripOf (d := d - 1) (h := h) (by omega) W t) (fT_ok h_1) rfl) rfl rfl (Nat.le_of_ble_eq_true rfl) dX8_concerned_2 ?_
    refine wp_run [(.astore_n 3, 1), (.iload_n 2, 1), (.iconst 0, 1), (.bipush 99, 2)] (pc' := 10) (L' := [(3, .inr (8, some (t.toNatClampNeg))), (0, .inr (9, some 0)), (1, .inl (.int t)), (2, .inl (.int dy))]) (st' := [.inl (.int 99), .inl (.int 0), .inl (.int dy)]) ⟨dX8_concerned_5, dX8_concerned_6, dX8_concerned_7, dX8_concerned_8, trivial⟩ rfl rfl ?_
    by_cases h_2 : okR dy 0 99
    · refine wx_staticD (M := M_X8_concerned) (uc := 0) (us := 0) (As := [.inl (.int dy), .inl (.int 0), .inl (.int 99)]) (rest := []) (ok_X8_needRange _ _) ml_X8_50 st_X8_needRange (by omega) (det_to (c_X8_needRange (d := d - 1) (h := h) (by omega) dy 0 99) (fR_ok h_2) rfl) rfl rfl (Nat.le_of_ble_eq_true rfl) dX8_concerned_10 ?_
      refine wp_run [(.iconst 0, 1), (.istore 4, 2), (.iconst 0, 1), (.istore 5, 2)] (pc' := 19) (L' := [(5, .inl (.int 0)), (4, .inl (.int 0)), (3, .inr (8, some (t.toNatClampNeg))), (0, .inr (9, some 0)), (1, .inl (.int t)), (2, .inl (.int dy))]) (st' := []) ⟨dX8_concerned_13, dX8_concerned_14, dX8_concerned_16, dX8_concerned_17, trivial⟩ rfl rfl ?_
      rw [F_X8_concerned, if_pos h_1, if_pos h_2]
      refine wp_sub [0, 1, 2, 3, 5] (L' := [(5, .inl (.int 0)), (4, .inl (.int 0)), (3, .inr (8, some (t.toNatClampNeg))), (0, .inr (9, some 0)), (2, .inl (.int dy))]) rfl ?_
      suffices Y19 : ∀ (n19 : Nat) (su : Int32) (i : Nat) (hii : i < 2147483648) (hm19 : 2147483648 - i < n19), WP g M_X8_concerned d 0 0 19 [(5, .inl (.int (nI i))), (4, .inl (.int su)), (3, .inr (8, some (t.toNatClampNeg))), (0, .inr (9, some 0)), (2, .inl (.int dy))] [] h (cy_det (L_X8_concerned_19 h t dy n19 su i) h) from
        Y19 (2147483648 - 0 + 1) 0 0 (by decide) (Nat.lt_succ_self _)
      intro n19
      induction n19 with
      | zero => intro su i hii hm19; exact absurd hm19 (Nat.not_lt_zero _)
      | succ n19 ih19 =>
        intro su i hii hm19
        rw [L_X8_concerned_19_s]
        generalize L_X8_concerned_19 h t dy n19 = rec19 at ih19 ⊢
        refine wp_run [(.iload 5, 2), (.aload_n 0, 1)] (pc' := 22) (L' := [(5, .inl (.int (nI i))), (4, .inl (.int su)), (3, .inr (8, some (t.toNatClampNeg))), (0, .inr (9, some 0)), (2, .inl (.int dy))]) (st' := [.inr (9, some 0), .inl (.int (nI i))]) ⟨dX8_concerned_19, dX8_concerned_21, trivial⟩ rfl rfl ?_
        refine wx_getR cls_9 (k := 4) (f := 904) (t := 12) (o := some 0) (by decide) rfl rfl fl_X8_42 (W.fr (f := 904) (by decide)) dX8_concerned_22 ?_
        refine wx_virtualL (M := M_X8_concerned) (uc := 0) (us := 0) (s := 12) (i := 0) (As := []) (rest := [.inl (.int (nI i))]) rfl rfl (ok_Jx4a65c_size_8abf5 _ _) ml_X8_90 im_Jx4a65c_size_8abf5 se_Jx4a65c_size_8abf5 (by omega) (c_size (d := d - 1) (by omega) (s := 12) rfl) rfl rfl (Nat.le_of_ble_eq_true rfl) dX8_concerned_25 ?_
        refine wx_icmp_ge (tgt := 81) dX8_concerned_28 (by decide) (fun h_3 => ?_) (fun h_3 => ?_)
        · refine wp_run [(.iload 4, 2)] (pc' := 83) (L' := [(5, .inl (.int (nI i))), (4, .inl (.int su)), (3, .inr (8, some (t.toNatClampNeg))), (0, .inr (9, some 0)), (2, .inl (.int dy))]) (st' := [.inl (.int su)]) ⟨dX8_concerned_81, trivial⟩ rfl rfl ?_
          exact wx_iret rfl rfl dX8_concerned_83 (by rw [B_X8_concerned_19, if_pos h_3]; exact ⟨rfl, rfl⟩)
        · refine wp_run [(.aload_n 0, 1)] (pc' := 32) (L' := [(5, .inl (.int (nI i))), (4, .inl (.int su)), (3, .inr (8, some (t.toNatClampNeg))), (0, .inr (9, some 0)), (2, .inl (.int dy))]) (st' := [.inr (9, some 0)]) ⟨dX8_concerned_31, trivial⟩ rfl rfl ?_
          refine wx_getR cls_9 (k := 4) (f := 904) (t := 12) (o := some 0) (by decide) rfl rfl fl_X8_42 (W.fr (f := 904) (by decide)) dX8_concerned_32 ?_
          refine wp_run [(.iload 5, 2)] (pc' := 37) (L' := [(5, .inl (.int (nI i))), (4, .inl (.int su)), (3, .inr (8, some (t.toNatClampNeg))), (0, .inr (9, some 0)), (2, .inl (.int dy))]) (st' := [.inl (.int (nI i)), .inr (12, some 0)]) ⟨dX8_concerned_35, trivial⟩ rfl rfl ?_
          have hl_4 := cy_get hii (Nat.le_trans W.b30 (Nat.le_of_ble_eq_true rfl)) h_3
          refine wx_virtualL (M := M_X8_concerned) (uc := 0) (us := 0) (s := 12) (i := 0) (As := [.inl (.int (nI i))]) (rest := []) rfl rfl (ok_Jx4a65c_get_915e3 _ _) ml_X8_235 im_Jx4a65c_get_915e3 se_Jx4a65c_get_915e3 (by omega) (det_to (c_get (d := d - 1) (by omega) (s := 12) (i := i) rfl hl_4 rfl) (by rw [W.ble hl_4]) rfl) rfl rfl (Nat.le_of_ble_eq_true rfl) dX8_concerned_37 ?_
          refine wx_cast cls_1 cl_X8_213 dX8_concerned_40 ?_
          refine wp_run [(.astore 6, 2), (.aload 6, 2)] (pc' := 47) (L' := [(6, .inr (1, some i)), (5, .inl (.int (nI i))), (4, .inl (.int su)), (3, .inr (8, some (t.toNatClampNeg))), (0, .inr (9, some 0)), (2, .inl (.int dy))]) (st' := [.inr (1, some i)]) ⟨dX8_concerned_43, dX8_concerned_45, trivial⟩ rfl rfl ?_
          refine wx_virtualD (M := M_X8_concerned) (uc := 0) (us := 0) (s := 1) (i := i) (As := []) (rest := []) cls_1 rfl (ok_X0_isOpen _ _) ml_X8_239 im_X0_isOpen se_X0_isOpen (by omega) (c_X0_isOpen (d := d - 1) (h := h) (by omega) ) rfl rfl (Nat.le_of_ble_eq_true rfl) dX8_concerned_47 ?_
          refine wx_if_eq (tgt := 75) dX8_concerned_50 (by decide) (fun h_5 => ?_) (fun h_5 => ?_)
          · refine wp_run [(.iinc 5 1, 3)] (pc' := 78) (L' := [(5, .inl (.int ((nI i) + 1))), (6, .inr (1, some i)), (4, .inl (.int su)), (3, .inr (8, some (t.toNatClampNeg))), (0, .inr (9, some 0)), (2, .inl (.int dy))]) (st' := []) ⟨dX8_concerned_75, trivial⟩ rfl rfl ?_
            refine wx_goto (tgt := 19) dX8_concerned_78 (by decide) ?_
            rw [B_X8_concerned_19, if_neg h_3, if_pos h_5]
            rw [nI_1 i]
            refine wp_sub [0, 2, 3, 4, 5] (L' := [(5, .inl (.int (nI (i + 1)))), (4, .inl (.int su)), (3, .inr (8, some (t.toNatClampNeg))), (0, .inr (9, some 0)), (2, .inl (.int dy))]) rfl ?_
            exact ih19 _ _ (cy_nlt hii h_3).2 (by have := (cy_nlt hii h_3).2; omega)
          · refine wp_run [(.aload 6, 2)] (pc' := 55) (L' := [(6, .inr (1, some i)), (5, .inl (.int (nI i))), (4, .inl (.int su)), (3, .inr (8, some (t.toNatClampNeg))), (0, .inr (9, some 0)), (2, .inl (.int dy))]) (st' := [.inr (1, some i)]) ⟨dX8_concerned_53, trivial⟩ rfl rfl ?_
            refine wx_getR cls_1 (k := 0) (f := 100) (t := 3) (o := some (bj h i)) (by decide) rfl rfl fl_X8_243 (W.jb hl_4) dX8_concerned_55 ?_
            refine wp_run [(.aload_n 3, 1), (.iload_n 2, 1)] (pc' := 60) (L' := [(6, .inr (1, some i)), (5, .inl (.int (nI i))), (4, .inl (.int su)), (3, .inr (8, some (t.toNatClampNeg))), (0, .inr (9, some 0)), (2, .inl (.int dy))]) (st' := [.inl (.int dy), .inr (8, some (t.toNatClampNeg)), .inr (3, some (bj h i))]) ⟨dX8_concerned_58, dX8_concerned_59, trivial⟩ rfl rfl ?_
            refine wx_virtualD (M := M_X8_concerned) (uc := 0) (us := 0) (s := 3) (i := (bj h i)) (As := [.inr (8, some (t.toNatClampNeg)), .inl (.int dy)]) (rest := []) cls_3 rfl (ok_X2_goesBy _ _) ml_X8_247 im_X2_goesBy se_X2_goesBy (by omega) (c_X2_goesBy (d := d - 1) (h := h) (by omega) W (W.jc hl_4) (okT_lt W h_1) dy) rfl rfl (Nat.le_of_ble_eq_true rfl) dX8_concerned_60 ?_
            refine wx_if_eq (tgt := 75) dX8_concerned_63 (by decide) (fun h_6 => ?_) (fun h_6 => ?_)
            · refine wp_run [(.iinc 5 1, 3)] (pc' := 78) (L' := [(5, .inl (.int ((nI i) + 1))), (6, .inr (1, some i)), (4, .inl (.int su)), (3, .inr (8, some (t.toNatClampNeg))), (0, .inr (9, some 0)), (2, .inl (.int dy))]) (st' := []) ⟨dX8_concerned_75, trivial⟩ rfl rfl ?_
              refine wx_goto (tgt := 19) dX8_concerned_78 (by decide) ?_
              rw [B_X8_concerned_19, if_neg h_3, if_neg h_5, if_pos h_6]
              rw [nI_1 i]
              refine wp_sub [0, 2, 3, 4, 5] (L' := [(5, .inl (.int (nI (i + 1)))), (4, .inl (.int su)), (3, .inr (8, some (t.toNatClampNeg))), (0, .inr (9, some 0)), (2, .inl (.int dy))]) rfl ?_
              exact ih19 _ _ (cy_nlt hii h_3).2 (by have := (cy_nlt hii h_3).2; omega)
            · refine wp_run [(.iload 4, 2), (.iconst 1, 1), (.iload 5, 2), (.ishl, 1), (.iadd, 1), (.istore 4, 2), (.iinc 5 1, 3)] (pc' := 78) (L' := [(5, .inl (.int ((nI i) + 1))), (4, .inl (.int (su + (1 <<< ((nI i) &&& 31))))), (6, .inr (1, some i)), (3, .inr (8, some (t.toNatClampNeg))), (0, .inr (9, some 0)), (2, .inl (.int dy))]) (st' := []) ⟨dX8_concerned_66, dX8_concerned_68, dX8_concerned_69, dX8_concerned_71, dX8_concerned_72, dX8_concerned_73, dX8_concerned_75, trivial⟩ rfl rfl ?_
              refine wx_goto (tgt := 19) dX8_concerned_78 (by decide) ?_
              rw [B_X8_concerned_19, if_neg h_3, if_neg h_5, if_neg h_6]
              rw [nI_1 i]
              refine wp_sub [0, 1, 3, 4, 5] (L' := [(5, .inl (.int (nI (i + 1)))), (4, .inl (.int (su + (1 <<< ((nI i) &&& 31))))), (3, .inr (8, some (t.toNatClampNeg))), (0, .inr (9, some 0)), (2, .inl (.int dy))]) rfl ?_
              exact ih19 _ _ (cy_nlt hii h_3).2 (by have := (cy_nlt hii h_3).2; omega)
    · exact wx_staticT (M := M_X8_concerned) (uc := 0) (us := 0) (As := [.inl (.int dy), .inl (.int 0), .inl (.int 99)]) (rest := []) (ok_X8_needRange _ _) ml_X8_50 st_X8_needRange (by omega) (det_to (c_X8_needRange (d := d - 1) (h := h) (by omega) dy 0 99) (fR_no h_2) rfl) rfl rfl (Nat.le_of_ble_eq_true rfl) dX8_concerned_10 (cy_out rfl rfl (by rw [F_X8_concerned, if_pos h_1, if_neg h_2]; exact ⟨rfl, rfl⟩))
  · exact wx_virtualT (M := M_X8_concerned) (uc := 1) (us := 6) (s := 9) (i := 0) (As := [.inl (.int t)]) (rest := []) cls_9 rfl (ok_X8_tripOf _ _) ml_X8_112 im_X8_tripOf se_X8_tripOf (by omega) (det_to (c_X8_tripOf (d := d - 1) (h := h) (by omega) W t) (fT_no h_1) rfl) rfl rfl (Nat.le_of_ble_eq_true rfl) dX8_concerned_2 (cy_out rfl rfl (by rw [F_X8_concerned, if_neg h_1]; exact ⟨rfl, rfl⟩))
def F_X8_seats (h : Hp) (t : Int32) (dy : Int32) : Rs := (if okT h t then (if okR dy 0 99 then .inl (some (.inl (.int (F_X8_freeSeats h (t.toNatClampNeg) dy)))) else .inr cy_e1) else .inr cy_e3)
set_option maxRecDepth 20000 in
theorem c_X8_seats {g : GT} {d : Nat} (hd : 8 ≤ d) {h : Hp} (W : CW h) (t : Int32) (dy : Int32)  : Ctr g M_X8_seats d 2 12 [.inr (9, some 0), .inl (.int t), .inl (.int dy)] h (cy_det (F_X8_seats h t dy) h) := by
  refine cy_body rfl rfl (by decide) (Nat.le_of_ble_eq_true rfl) ?_
  refine wp_run [(.aload_n 0, 1), (.iload_n 1, 1)] (pc' := 2) (L' := [(0, .inr (9, some 0)), (1, .inl (.int t)), (2, .inl (.int dy))]) (st' := [.inl (.int t), .inr (9, some 0)]) ⟨dX8_seats_0, dX8_seats_1, trivial⟩ rfl rfl ?_
  by_cases h_1 : okT h t
  · refine wx_virtualD (M := M_X8_seats) (uc := 1) (us := 6) (s := 9) (i := 0) (As := [.inl (.int t)]) (rest := []) cls_9 rfl (ok_X8_tripOf _ _) ml_X8_112 im_X8_tripOf se_X8_tripOf (by omega) (det_to (c_X8_tripOf (d := d - 1) (h := h) (by omega) W t) (fT_ok h_1) rfl) rfl rfl (Nat.le_of_ble_eq_true rfl) dX8_seats_2 ?_
    refine wp_run [(.astore_n 3, 1), (.iload_n 2, 1), (.iconst 0, 1), (.bipush 99, 2)] (pc' := 10) (L' := [(3, .inr (8, some (t.toNatClampNeg))), (0, .inr (9, some 0)), (1, .inl (.int t)), (2, .inl (.int dy))]) (st' := [.inl (.int 99), .inl (.int 0), .inl (.int dy)]) ⟨dX8_seats_5, dX8_seats_6, dX8_seats_7, dX8_seats_8, trivial⟩ rfl rfl ?_
    by_cases h_2 : okR dy 0 99
    · refine wx_staticD (M := M_X8_seats) (uc := 0) (us := 0) (As := [.inl (.int dy), .inl (.int 0), .inl (.int 99)]) (rest := []) (ok_X8_needRange _ _) ml_X8_50 st_X8_needRange (by omega) (det_to (c_X8_needRange (d := d - 1) (h := h) (by omega) dy 0 99) (fR_ok h_2) rfl) rfl rfl (Nat.le_of_ble_eq_true rfl) dX8_seats_10 ?_
      refine wp_run [(.aload_n 0, 1), (.aload_n 3, 1), (.iload_n 2, 1)] (pc' := 16) (L' := [(3, .inr (8, some (t.toNatClampNeg))), (0, .inr (9, some 0)), (1, .inl (.int t)), (2, .inl (.int dy))]) (st' := [.inl (.int dy), .inr (8, some (t.toNatClampNeg)), .inr (9, some 0)]) ⟨dX8_seats_13, dX8_seats_14, dX8_seats_15, trivial⟩ rfl rfl ?_
      refine wx_virtualD (M := M_X8_seats) (uc := 0) (us := 0) (s := 9) (i := 0) (As := [.inr (8, some (t.toNatClampNeg)), .inl (.int dy)]) (rest := []) cls_9 rfl (ok_X8_freeSeats _ _) ml_X8_251 im_X8_freeSeats se_X8_freeSeats (by omega) (c_X8_freeSeats (d := d - 1) (h := h) (by omega) W (okT_lt W h_1) dy) rfl rfl (Nat.le_of_ble_eq_true rfl) dX8_seats_16 ?_
      exact wx_iret rfl rfl dX8_seats_19 (by rw [F_X8_seats, if_pos h_1, if_pos h_2]; exact ⟨rfl, rfl⟩)
    · exact wx_staticT (M := M_X8_seats) (uc := 0) (us := 0) (As := [.inl (.int dy), .inl (.int 0), .inl (.int 99)]) (rest := []) (ok_X8_needRange _ _) ml_X8_50 st_X8_needRange (by omega) (det_to (c_X8_needRange (d := d - 1) (h := h) (by omega) dy 0 99) (fR_no h_2) rfl) rfl rfl (Nat.le_of_ble_eq_true rfl) dX8_seats_10 (cy_out rfl rfl (by rw [F_X8_seats, if_pos h_1, if_neg h_2]; exact ⟨rfl, rfl⟩))
  · exact wx_virtualT (M := M_X8_seats) (uc := 1) (us := 6) (s := 9) (i := 0) (As := [.inl (.int t)]) (rest := []) cls_9 rfl (ok_X8_tripOf _ _) ml_X8_112 im_X8_tripOf se_X8_tripOf (by omega) (det_to (c_X8_tripOf (d := d - 1) (h := h) (by omega) W t) (fT_no h_1) rfl) rfl rfl (Nat.le_of_ble_eq_true rfl) dX8_seats_2 (cy_out rfl rfl (by rw [F_X8_seats, if_neg h_1]; exact ⟨rfl, rfl⟩))
def B_X8_pass_22 (h : Hp) (x : Int32) (rec22 : Hp → Int32 → Nat → (Rs × Hp)) (h22 : Hp) (dr : Int32) (i : Nat) : Rs × Hp := (if (nI (xLS h22 12)) ≤ (nI i) then (.inl (some (.inl (.int dr))), h22) else (if (xFI h22 103 i) = 0 then (if ((xFI h22 905 0) - (xFI h22 102 i)) ≤ 30 then (rec22 h22 dr (i + 1)) else (rec22 (sFI h22 103 i 2) (dr + 1) (i + 1))) else (rec22 h22 dr (i + 1))))
def L_X8_pass_22 (h : Hp) (x : Int32) : Nat → Hp → Int32 → Nat → (Rs × Hp)
  | 0 => fun h22 dr i => (.inl none, h22)
  | fu + 1 => B_X8_pass_22 h x (L_X8_pass_22 h x fu)
theorem L_X8_pass_22_s (h : Hp) (x : Int32) (fu : Nat) (h22 : Hp) (dr : Int32) (i : Nat) : L_X8_pass_22 h x (fu + 1) h22 dr i = B_X8_pass_22 h x (L_X8_pass_22 h x fu) h22 dr i := rfl
def F_X8_pass (h : Hp) (x : Int32) : Rs × Hp := (if okR x 1 1440 then L_X8_pass_22 h x (2147483648 - 0 + 1) (sFI h 905 0 ((xFI h 905 0) + x)) 0 0 else (.inr cy_e1, h))
set_option maxRecDepth 20000 in
theorem c_X8_pass {g : GT} {d : Nat} (hd : 7 ≤ d) {h : Hp} (W : CW h) (x : Int32)  : Ctr g M_X8_pass d 1 6 [.inr (9, some 0), .inl (.int x)] h (cy_detP (F_X8_pass h x).1 (F_X8_pass h x).2 (SR h (F_X8_pass h x).2)) := by
  refine cy_body rfl rfl (by decide) (Nat.le_of_ble_eq_true rfl) ?_
  refine wp_run [(.iload_n 1, 1), (.iconst 1, 1), (.sipush 1440, 3)] (pc' := 5) (L' := [(0, .inr (9, some 0)), (1, .inl (.int x))]) (st' := [.inl (.int 1440), .inl (.int 1), .inl (.int x)]) ⟨dX8_pass_0, dX8_pass_1, dX8_pass_2, trivial⟩ rfl rfl ?_
  by_cases h_1 : okR x 1 1440
  · refine wx_staticD (M := M_X8_pass) (uc := 0) (us := 0) (As := [.inl (.int x), .inl (.int 1), .inl (.int 1440)]) (rest := []) (ok_X8_needRange _ _) ml_X8_50 st_X8_needRange (by omega) (det_to (c_X8_needRange (d := d - 1) (h := h) (by omega) x 1 1440) (fR_ok h_1) rfl) rfl rfl (Nat.le_of_ble_eq_true rfl) dX8_pass_5 ?_
    refine wp_run [(.aload_n 0, 1), (.dup, 1)] (pc' := 10) (L' := [(0, .inr (9, some 0)), (1, .inl (.int x))]) (st' := [.inr (9, some 0), .inr (9, some 0)]) ⟨dX8_pass_8, dX8_pass_9, trivial⟩ rfl rfl ?_
    refine wx_getI cls_9 (k := 5) (f := 905) (by decide) rfl rfl fl_X8_46 dX8_pass_10 ?_
    refine wp_run [(.iload_n 1, 1), (.iadd, 1)] (pc' := 15) (L' := [(0, .inr (9, some 0)), (1, .inl (.int x))]) (st' := [.inl (.int ((xFI h 905 0) + x)), .inr (9, some 0)]) ⟨dX8_pass_13, dX8_pass_14, trivial⟩ rfl rfl ?_
    refine wx_putI cls_9 (k := 5) (f := 905) (by decide) rfl rfl rfl fl_X8_46 (Or.inl rfl) dX8_pass_15 ?_
    refine wp_run [(.iconst 0, 1), (.istore_n 2, 1), (.iconst 0, 1), (.istore_n 3, 1)] (pc' := 22) (L' := [(3, .inl (.int 0)), (2, .inl (.int 0)), (0, .inr (9, some 0)), (1, .inl (.int x))]) (st' := []) ⟨dX8_pass_18, dX8_pass_19, dX8_pass_20, dX8_pass_21, trivial⟩ rfl rfl ?_
    rw [F_X8_pass, if_pos h_1]
    refine wp_sub [0, 1, 2] (L' := [(3, .inl (.int 0)), (2, .inl (.int 0)), (0, .inr (9, some 0))]) rfl ?_
    suffices Y22 : ∀ (n22 : Nat) (h22 : Hp) (dr : Int32) (i : Nat) (Sr22 : SR h h22) (hii : i < 2147483648) (hm22 : 2147483648 - i < n22), WP g M_X8_pass d 0 0 22 [(3, .inl (.int (nI i))), (2, .inl (.int dr)), (0, .inr (9, some 0))] [] h22 (cy_detP (L_X8_pass_22 h x n22 h22 dr i).1 (L_X8_pass_22 h x n22 h22 dr i).2 (SR h (L_X8_pass_22 h x n22 h22 dr i).2)) from
      Y22 (2147483648 - 0 + 1) (sFI h 905 0 ((xFI h 905 0) + x)) 0 0 SR.rf (by decide) (Nat.lt_succ_self _)
    intro n22
    induction n22 with
    | zero => intro h22 dr i Sr22 hii hm22; exact absurd hm22 (Nat.not_lt_zero _)
    | succ n22 ih22 =>
      intro h22 dr i Sr22 hii hm22
      rw [L_X8_pass_22_s]
      generalize L_X8_pass_22 h x n22 = rec22 at ih22 ⊢
      refine wp_run [(.iload_n 3, 1), (.aload_n 0, 1)] (pc' := 24) (L' := [(3, .inl (.int (nI i))), (2, .inl (.int dr)), (0, .inr (9, some 0))]) (st' := [.inr (9, some 0), .inl (.int (nI i))]) ⟨dX8_pass_22, dX8_pass_23, trivial⟩ rfl rfl ?_
      refine wx_getR cls_9 (k := 4) (f := 904) (t := 12) (o := some 0) (by decide) rfl rfl fl_X8_42 ((W.sr Sr22).fr (f := 904) (by decide)) dX8_pass_24 ?_
      refine wx_virtualL (M := M_X8_pass) (uc := 0) (us := 0) (s := 12) (i := 0) (As := []) (rest := [.inl (.int (nI i))]) rfl rfl (ok_Jx4a65c_size_8abf5 _ _) ml_X8_90 im_Jx4a65c_size_8abf5 se_Jx4a65c_size_8abf5 (by omega) (c_size (d := d - 1) (by omega) (s := 12) rfl) rfl rfl (Nat.le_of_ble_eq_true rfl) dX8_pass_27 ?_
      refine wx_icmp_ge (tgt := 84) dX8_pass_30 (by decide) (fun h_2 => ?_) (fun h_2 => ?_)
      · refine wp_run [(.iload_n 2, 1)] (pc' := 85) (L' := [(3, .inl (.int (nI i))), (2, .inl (.int dr)), (0, .inr (9, some 0))]) (st' := [.inl (.int dr)]) ⟨dX8_pass_84, trivial⟩ rfl rfl ?_
        exact wx_iret rfl rfl dX8_pass_85 (by rw [B_X8_pass_22, if_pos h_2]; dsimp only; exact ⟨Sr22, rfl, rfl⟩)
      · refine wp_run [(.aload_n 0, 1)] (pc' := 34) (L' := [(3, .inl (.int (nI i))), (2, .inl (.int dr)), (0, .inr (9, some 0))]) (st' := [.inr (9, some 0)]) ⟨dX8_pass_33, trivial⟩ rfl rfl ?_
        refine wx_getR cls_9 (k := 4) (f := 904) (t := 12) (o := some 0) (by decide) rfl rfl fl_X8_42 ((W.sr Sr22).fr (f := 904) (by decide)) dX8_pass_34 ?_
        refine wp_run [(.iload_n 3, 1)] (pc' := 38) (L' := [(3, .inl (.int (nI i))), (2, .inl (.int dr)), (0, .inr (9, some 0))]) (st' := [.inl (.int (nI i)), .inr (12, some 0)]) ⟨dX8_pass_37, trivial⟩ rfl rfl ?_
        have hl_3 := cy_get hii (Nat.le_trans (W.sr Sr22).b30 (Nat.le_of_ble_eq_true rfl)) h_2
        refine wx_virtualL (M := M_X8_pass) (uc := 0) (us := 0) (s := 12) (i := 0) (As := [.inl (.int (nI i))]) (rest := []) rfl rfl (ok_Jx4a65c_get_915e3 _ _) ml_X8_235 im_Jx4a65c_get_915e3 se_Jx4a65c_get_915e3 (by omega) (det_to (c_get (d := d - 1) (by omega) (s := 12) (i := i) rfl hl_3 rfl) (by rw [(W.sr Sr22).ble hl_3]) rfl) rfl rfl (Nat.le_of_ble_eq_true rfl) dX8_pass_38 ?_
        refine wx_cast cls_1 cl_X8_213 dX8_pass_41 ?_
        refine wp_run [(.astore 4, 2), (.aload 4, 2)] (pc' := 48) (L' := [(4, .inr (1, some i)), (3, .inl (.int (nI i))), (2, .inl (.int dr)), (0, .inr (9, some 0))]) (st' := [.inr (1, some i)]) ⟨dX8_pass_44, dX8_pass_46, trivial⟩ rfl rfl ?_
        refine wx_getI cls_1 (k := 3) (f := 103) (by decide) rfl rfl fl_X8_222 dX8_pass_48 ?_
        refine wx_if_ne (tgt := 78) dX8_pass_51 (by decide) (fun h_4 => ?_) (fun h_4 => ?_)
        · refine wp_run [(.iinc 3 1, 3)] (pc' := 81) (L' := [(3, .inl (.int ((nI i) + 1))), (4, .inr (1, some i)), (2, .inl (.int dr)), (0, .inr (9, some 0))]) (st' := []) ⟨dX8_pass_78, trivial⟩ rfl rfl ?_
          refine wx_goto (tgt := 22) dX8_pass_81 (by decide) ?_
          rw [B_X8_pass_22, if_neg h_2, if_neg h_4]
          rw [nI_1 i]
          refine wp_sub [0, 2, 3] (L' := [(3, .inl (.int (nI (i + 1)))), (2, .inl (.int dr)), (0, .inr (9, some 0))]) rfl ?_
          exact ih22 _ _ _ Sr22 (cy_nlt hii h_2).2 (by have := (cy_nlt hii h_2).2; omega)
        · refine wp_run [(.aload_n 0, 1)] (pc' := 55) (L' := [(4, .inr (1, some i)), (3, .inl (.int (nI i))), (2, .inl (.int dr)), (0, .inr (9, some 0))]) (st' := [.inr (9, some 0)]) ⟨dX8_pass_54, trivial⟩ rfl rfl ?_
          refine wx_getI cls_9 (k := 5) (f := 905) (by decide) rfl rfl fl_X8_46 dX8_pass_55 ?_
          refine wp_run [(.aload 4, 2)] (pc' := 60) (L' := [(4, .inr (1, some i)), (3, .inl (.int (nI i))), (2, .inl (.int dr)), (0, .inr (9, some 0))]) (st' := [.inr (1, some i), .inl (.int (xFI h22 905 0))]) ⟨dX8_pass_58, trivial⟩ rfl rfl ?_
          refine wx_getI cls_1 (k := 2) (f := 102) (by decide) rfl rfl fl_X8_255 dX8_pass_60 ?_
          refine wp_run [(.isub, 1), (.bipush 30, 2)] (pc' := 66) (L' := [(4, .inr (1, some i)), (3, .inl (.int (nI i))), (2, .inl (.int dr)), (0, .inr (9, some 0))]) (st' := [.inl (.int 30), .inl (.int ((xFI h22 905 0) - (xFI h22 102 i)))]) ⟨dX8_pass_63, dX8_pass_64, trivial⟩ rfl rfl ?_
          refine wx_icmp_le (tgt := 78) dX8_pass_66 (by decide) (fun h_5 => ?_) (fun h_5 => ?_)
          · refine wp_run [(.iinc 3 1, 3)] (pc' := 81) (L' := [(3, .inl (.int ((nI i) + 1))), (4, .inr (1, some i)), (2, .inl (.int dr)), (0, .inr (9, some 0))]) (st' := []) ⟨dX8_pass_78, trivial⟩ rfl rfl ?_
            refine wx_goto (tgt := 22) dX8_pass_81 (by decide) ?_
            rw [B_X8_pass_22, if_neg h_2, if_pos h_4, if_pos h_5]
            rw [nI_1 i]
            refine wp_sub [0, 2, 3] (L' := [(3, .inl (.int (nI (i + 1)))), (2, .inl (.int dr)), (0, .inr (9, some 0))]) rfl ?_
            exact ih22 _ _ _ Sr22 (cy_nlt hii h_2).2 (by have := (cy_nlt hii h_2).2; omega)
          · refine wp_run [(.aload 4, 2), (.iconst 2, 1)] (pc' := 72) (L' := [(4, .inr (1, some i)), (3, .inl (.int (nI i))), (2, .inl (.int dr)), (0, .inr (9, some 0))]) (st' := [.inl (.int 2), .inr (1, some i)]) ⟨dX8_pass_69, dX8_pass_71, trivial⟩ rfl rfl ?_
            refine wx_putI cls_1 (k := 3) (f := 103) (by decide) rfl rfl rfl fl_X8_222 (Or.inl rfl) dX8_pass_72 ?_
            refine wp_run [(.iinc 2 1, 3), (.iinc 3 1, 3)] (pc' := 81) (L' := [(3, .inl (.int ((nI i) + 1))), (2, .inl (.int (dr + 1))), (4, .inr (1, some i)), (0, .inr (9, some 0))]) (st' := []) ⟨dX8_pass_75, dX8_pass_78, trivial⟩ rfl rfl ?_
            refine wx_goto (tgt := 22) dX8_pass_81 (by decide) ?_
            rw [B_X8_pass_22, if_neg h_2, if_pos h_4, if_neg h_5]
            rw [nI_1 i]
            refine wp_sub [0, 1, 3] (L' := [(3, .inl (.int (nI (i + 1)))), (2, .inl (.int (dr + 1))), (0, .inr (9, some 0))]) rfl ?_
            exact ih22 _ _ _ Sr22 (cy_nlt hii h_2).2 (by have := (cy_nlt hii h_2).2; omega)
  · exact wx_staticT (M := M_X8_pass) (uc := 0) (us := 0) (As := [.inl (.int x), .inl (.int 1), .inl (.int 1440)]) (rest := []) (ok_X8_needRange _ _) ml_X8_50 st_X8_needRange (by omega) (det_to (c_X8_needRange (d := d - 1) (h := h) (by omega) x 1 1440) (fR_no h_1) rfl) rfl rfl (Nat.le_of_ble_eq_true rfl) dX8_pass_5 (cy_out rfl rfl (by rw [F_X8_pass, if_neg h_1]; dsimp only; exact ⟨SR.rf, rfl, rfl⟩))
def F_X8_ofBooking (h : Hp) (x : Int32) (wh : Int32) : Rs := (if okB h x then (if okR wh 0 3 then (if wh = 0 then .inl (some (.inl (.int (xFI h 103 (x.toNatClampNeg))))) else (if wh = 1 then .inl (some (.inl (.int (xFI h 101 (x.toNatClampNeg))))) else (if wh = 2 then .inl (some (.inl (.int (xFI h 302 (bj h (x.toNatClampNeg)))))) else .inl (some (.inl (.int (xFI h 304 (bj h (x.toNatClampNeg))))))))) else .inr cy_e1) else .inr cy_e3)
set_option maxRecDepth 20000 in
theorem c_X8_ofBooking {g : GT} {d : Nat} (hd : 8 ≤ d) {h : Hp} (W : CW h) (x : Int32) (wh : Int32)  : Ctr g M_X8_ofBooking d 2 12 [.inr (9, some 0), .inl (.int x), .inl (.int wh)] h (cy_det (F_X8_ofBooking h x wh) h) := by
  refine cy_body rfl rfl (by decide) (Nat.le_of_ble_eq_true rfl) ?_
  refine wp_run [(.aload_n 0, 1), (.iload_n 1, 1)] (pc' := 2) (L' := [(0, .inr (9, some 0)), (1, .inl (.int x)), (2, .inl (.int wh))]) (st' := [.inl (.int x), .inr (9, some 0)]) ⟨dX8_ofBooking_0, dX8_ofBooking_1, trivial⟩ rfl rfl ?_
  by_cases h_1 : okB h x
  · refine wx_virtualD (M := M_X8_ofBooking) (uc := 1) (us := 6) (s := 9) (i := 0) (As := [.inl (.int x)]) (rest := []) cls_9 rfl (ok_X8_bookingOf _ _) ml_X8_218 im_X8_bookingOf se_X8_bookingOf (by omega) (det_to (c_X8_bookingOf (d := d - 1) (h := h) (by omega) W x) (fB_ok h_1) rfl) rfl rfl (Nat.le_of_ble_eq_true rfl) dX8_ofBooking_2 ?_
    refine wp_run [(.astore_n 3, 1), (.iload_n 2, 1), (.iconst 0, 1), (.iconst 3, 1)] (pc' := 9) (L' := [(3, .inr (1, some (x.toNatClampNeg))), (0, .inr (9, some 0)), (1, .inl (.int x)), (2, .inl (.int wh))]) (st' := [.inl (.int 3), .inl (.int 0), .inl (.int wh)]) ⟨dX8_ofBooking_5, dX8_ofBooking_6, dX8_ofBooking_7, dX8_ofBooking_8, trivial⟩ rfl rfl ?_
    by_cases h_2 : okR wh 0 3
    · refine wx_staticD (M := M_X8_ofBooking) (uc := 0) (us := 0) (As := [.inl (.int wh), .inl (.int 0), .inl (.int 3)]) (rest := []) (ok_X8_needRange _ _) ml_X8_50 st_X8_needRange (by omega) (det_to (c_X8_needRange (d := d - 1) (h := h) (by omega) wh 0 3) (fR_ok h_2) rfl) rfl rfl (Nat.le_of_ble_eq_true rfl) dX8_ofBooking_9 ?_
      refine wp_run [(.iload_n 2, 1)] (pc' := 13) (L' := [(3, .inr (1, some (x.toNatClampNeg))), (0, .inr (9, some 0)), (1, .inl (.int x)), (2, .inl (.int wh))]) (st' := [.inl (.int wh)]) ⟨dX8_ofBooking_12, trivial⟩ rfl rfl ?_
      by_cases h_3 : wh = 0
      · refine wx_tableIn (tgt := 40) (off := 27) dX8_ofBooking_13 (by rw [h_3]; decide) (by rw [h_3]; decide) (by rw [h_3]; rfl) (by decide) ?_
        refine wp_run [(.aload_n 3, 1)] (pc' := 41) (L' := [(3, .inr (1, some (x.toNatClampNeg))), (0, .inr (9, some 0)), (1, .inl (.int x)), (2, .inl (.int wh))]) (st' := [.inr (1, some (x.toNatClampNeg))]) ⟨dX8_ofBooking_40, trivial⟩ rfl rfl ?_
        refine wx_getI cls_1 (k := 3) (f := 103) (by decide) rfl rfl fl_X8_222 dX8_ofBooking_41 ?_
        exact wx_iret rfl rfl dX8_ofBooking_44 (by rw [F_X8_ofBooking, if_pos h_1, if_pos h_2, if_pos h_3]; exact ⟨rfl, rfl⟩)
      by_cases h_4 : wh = 1
      · refine wx_tableIn (tgt := 45) (off := 32) dX8_ofBooking_13 (by rw [h_4]; decide) (by rw [h_4]; decide) (by rw [h_4]; rfl) (by decide) ?_
        refine wp_run [(.aload_n 3, 1)] (pc' := 46) (L' := [(3, .inr (1, some (x.toNatClampNeg))), (0, .inr (9, some 0)), (1, .inl (.int x)), (2, .inl (.int wh))]) (st' := [.inr (1, some (x.toNatClampNeg))]) ⟨dX8_ofBooking_45, trivial⟩ rfl rfl ?_
        refine wx_getI cls_1 (k := 1) (f := 101) (by decide) rfl rfl fl_X8_227 dX8_ofBooking_46 ?_
        exact wx_iret rfl rfl dX8_ofBooking_49 (by rw [F_X8_ofBooking, if_pos h_1, if_pos h_2, if_neg h_3, if_pos h_4]; exact ⟨rfl, rfl⟩)
      by_cases h_5 : wh = 2
      · refine wx_tableIn (tgt := 50) (off := 37) dX8_ofBooking_13 (by rw [h_5]; decide) (by rw [h_5]; decide) (by rw [h_5]; rfl) (by decide) ?_
        refine wp_run [(.aload_n 3, 1)] (pc' := 51) (L' := [(3, .inr (1, some (x.toNatClampNeg))), (0, .inr (9, some 0)), (1, .inl (.int x)), (2, .inl (.int wh))]) (st' := [.inr (1, some (x.toNatClampNeg))]) ⟨dX8_ofBooking_50, trivial⟩ rfl rfl ?_
        refine wx_getR cls_1 (k := 0) (f := 100) (t := 3) (o := some (bj h (x.toNatClampNeg))) (by decide) rfl rfl fl_X8_243 (W.jb (okB_lt W h_1)) dX8_ofBooking_51 ?_
        refine wx_getI cls_3 (k := 2) (f := 302) (by decide) rfl rfl fl_X8_258 dX8_ofBooking_54 ?_
        exact wx_iret rfl rfl dX8_ofBooking_57 (by rw [F_X8_ofBooking, if_pos h_1, if_pos h_2, if_neg h_3, if_neg h_4, if_pos h_5]; exact ⟨rfl, rfl⟩)
      refine wx_tableOut (tgt := 58) dX8_ofBooking_13 (cy_o2 h_3 h_4 h_5) (by decide) ?_
      refine wp_run [(.aload_n 3, 1)] (pc' := 59) (L' := [(3, .inr (1, some (x.toNatClampNeg))), (0, .inr (9, some 0)), (1, .inl (.int x)), (2, .inl (.int wh))]) (st' := [.inr (1, some (x.toNatClampNeg))]) ⟨dX8_ofBooking_58, trivial⟩ rfl rfl ?_
      refine wx_getR cls_1 (k := 0) (f := 100) (t := 3) (o := some (bj h (x.toNatClampNeg))) (by decide) rfl rfl fl_X8_243 (W.jb (okB_lt W h_1)) dX8_ofBooking_59 ?_
      refine wx_getI cls_3 (k := 4) (f := 304) (by decide) rfl rfl fl_X8_259 dX8_ofBooking_62 ?_
      exact wx_iret rfl rfl dX8_ofBooking_65 (by rw [F_X8_ofBooking, if_pos h_1, if_pos h_2, if_neg h_3, if_neg h_4, if_neg h_5]; exact ⟨rfl, rfl⟩)
    · exact wx_staticT (M := M_X8_ofBooking) (uc := 0) (us := 0) (As := [.inl (.int wh), .inl (.int 0), .inl (.int 3)]) (rest := []) (ok_X8_needRange _ _) ml_X8_50 st_X8_needRange (by omega) (det_to (c_X8_needRange (d := d - 1) (h := h) (by omega) wh 0 3) (fR_no h_2) rfl) rfl rfl (Nat.le_of_ble_eq_true rfl) dX8_ofBooking_9 (cy_out rfl rfl (by rw [F_X8_ofBooking, if_pos h_1, if_neg h_2]; exact ⟨rfl, rfl⟩))
  · exact wx_virtualT (M := M_X8_ofBooking) (uc := 1) (us := 6) (s := 9) (i := 0) (As := [.inl (.int x)]) (rest := []) cls_9 rfl (ok_X8_bookingOf _ _) ml_X8_218 im_X8_bookingOf se_X8_bookingOf (by omega) (det_to (c_X8_bookingOf (d := d - 1) (h := h) (by omega) W x) (fB_no h_1) rfl) rfl rfl (Nat.le_of_ble_eq_true rfl) dX8_ofBooking_2 (cy_out rfl rfl (by rw [F_X8_ofBooking, if_neg h_1]; exact ⟨rfl, rfl⟩))
