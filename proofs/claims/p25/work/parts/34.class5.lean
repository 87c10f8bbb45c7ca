def F_X6_leaveAt0 (h : Hp) (s : Int32) (ti : Int32) : Hp := (if (if s = (xFI h 701 0) then 0 else (F_X3_walk h s (xFI h 701 0))) = (-1) then h else sFI h 704 0 (if (ti + (if s = (xFI h 701 0) then 0 else (F_X3_walk h s (xFI h 701 0)))) < (xFI h 704 0) then (ti + (if s = (xFI h 701 0) then 0 else (F_X3_walk h s (xFI h 701 0)))) else (xFI h 704 0)))
set_option maxRecDepth 20000 in
theorem c_X6_leaveAt0 {g : GT} {d : Nat} (hd : 3 ≤ d) {h : Hp} (W : CW h) (s : Int32) (ti : Int32)  : Ctr g M_X6_leaveAt d 0 0 [.inr (7, some 0), .inl (.int s), .inl (.int ti), .inl (.int 0)] h (cy_detP (.inl none) (F_X6_leaveAt0 h s ti) (SR h (F_X6_leaveAt0 h s ti))) := by
  refine cy_body rfl rfl (by decide) (Nat.le_of_ble_eq_true rfl) ?_
  refine wp_run [(.iload_n 3, 1)] (pc' := 1) (L' := [(0, .inr (7, some 0)), (1, .inl (.int s)), (2, .inl (.int ti)), (3, .inl (.int 0))]) (st' := [.inl (.int 0)]) ⟨dX6_leaveAt_0, trivial⟩ rfl rfl ?_
  refine wx_if_le (tgt := 28) dX6_leaveAt_1 (by decide) (fun _ => ?_) (fun h => absurd h (by decide))
  refine wp_run [(.iload_n 1, 1), (.aload_n 0, 1)] (pc' := 30) (L' := [(0, .inr (7, some 0)), (1, .inl (.int s)), (2, .inl (.int ti)), (3, .inl (.int 0))]) (st' := [.inr (7, some 0), .inl (.int s)]) ⟨dX6_leaveAt_28, dX6_leaveAt_29, trivial⟩ rfl rfl ?_
  refine wx_getI cls_7 (k := 1) (f := 701) (by decide) rfl rfl fl_X6_15 dX6_leaveAt_30 ?_
  refine wp_by (uc' := 0) (us' := 0) (pc' := 52) (L' := [(0, .inr (7, some 0)), (1, .inl (.int s)), (2, .inl (.int ti)), (3, .inl (.int 0))]) (st' := [.inl (.int (if s = (xFI h 701 0) then 0 else (F_X3_walk h s (xFI h 701 0))))]) (h' := h) (fun J_1 => ?_) ?_
  · refine wx_icmp_ne (tgt := 40) dX6_leaveAt_33 (by decide) (fun h_2 => ?_) (fun h_2 => ?_)
    · refine wp_run [(.aload_n 0, 1)] (pc' := 41) (L' := [(0, .inr (7, some 0)), (1, .inl (.int s)), (2, .inl (.int ti)), (3, .inl (.int 0))]) (st' := [.inr (7, some 0)]) ⟨dX6_leaveAt_40, trivial⟩ rfl rfl ?_
      refine wx_getR cls_7 (k := 0) (f := 700) (t := 4) (o := some 0) (by decide) rfl rfl fl_X6_9 (W.fr (f := 700) (by decide)) dX6_leaveAt_41 ?_
      refine wp_run [(.iload_n 1, 1), (.aload_n 0, 1)] (pc' := 46) (L' := [(0, .inr (7, some 0)), (1, .inl (.int s)), (2, .inl (.int ti)), (3, .inl (.int 0))]) (st' := [.inr (7, some 0), .inl (.int s), .inr (4, some 0)]) ⟨dX6_leaveAt_44, dX6_leaveAt_45, trivial⟩ rfl rfl ?_
      refine wx_getI cls_7 (k := 1) (f := 701) (by decide) rfl rfl fl_X6_15 dX6_leaveAt_46 ?_
      refine wx_virtualD (M := M_X6_leaveAt) (uc := 0) (us := 0) (s := 4) (i := 0) (As := [.inl (.int s), .inl (.int (xFI h 701 0))]) (rest := []) cls_4 rfl (ok_X3_walk _ _) ml_X6_82 im_X3_walk se_X3_walk (by omega) (c_X3_walk (d := d - 1) (h := h) (by omega) W s (xFI h 701 0)) rfl rfl (Nat.le_of_ble_eq_true rfl) dX6_leaveAt_49 ?_
      refine wp_sub [0, 1, 2, 3] (L' := [(0, .inr (7, some 0)), (1, .inl (.int s)), (2, .inl (.int ti)), (3, .inl (.int 0))]) rfl ?_
      simp only [if_neg h_2] at J_1
      exact J_1
    · refine wp_run [(.iconst 0, 1)] (pc' := 37) (L' := [(0, .inr (7, some 0)), (1, .inl (.int s)), (2, .inl (.int ti)), (3, .inl (.int 0))]) (st' := [.inl (.int 0)]) ⟨dX6_leaveAt_36, trivial⟩ rfl rfl ?_
      refine wx_goto (tgt := 52) dX6_leaveAt_37 (by decide) ?_
      refine wp_sub [0, 1, 2, 3] (L' := [(0, .inr (7, some 0)), (1, .inl (.int s)), (2, .inl (.int ti)), (3, .inl (.int 0))]) rfl ?_
      simp only [if_pos h_2] at J_1
      exact J_1
  refine wp_run [(.istore 4, 2), (.iload 4, 2), (.iconst (-1), 1)] (pc' := 57) (L' := [(4, .inl (.int (if s = (xFI h 701 0) then 0 else (F_X3_walk h s (xFI h 701 0))))), (0, .inr (7, some 0)), (1, .inl (.int s)), (2, .inl (.int ti)), (3, .inl (.int 0))]) (st' := [.inl (.int (-1)), .inl (.int (if s = (xFI h 701 0) then 0 else (F_X3_walk h s (xFI h 701 0))))]) ⟨dX6_leaveAt_52, dX6_leaveAt_54, dX6_leaveAt_56, trivial⟩ rfl rfl ?_
  refine wx_icmp_eq (tgt := 75) dX6_leaveAt_57 (by decide) (fun h_3 => ?_) (fun h_3 => ?_)
  · exact wx_vret rfl rfl dX6_leaveAt_75 (by rw [F_X6_leaveAt0, if_pos h_3]; exact ⟨SR.rf, rfl, rfl⟩)
  · refine wp_run [(.aload_n 0, 1), (.aload_n 0, 1)] (pc' := 62) (L' := [(4, .inl (.int (if s = (xFI h 701 0) then 0 else (F_X3_walk h s (xFI h 701 0))))), (0, .inr (7, some 0)), (1, .inl (.int s)), (2, .inl (.int ti)), (3, .inl (.int 0))]) (st' := [.inr (7, some 0), .inr (7, some 0)]) ⟨dX6_leaveAt_60, dX6_leaveAt_61, trivial⟩ rfl rfl ?_
    refine wx_getI cls_7 (k := 4) (f := 704) (by decide) rfl rfl fl_X6_33 dX6_leaveAt_62 ?_
    refine wp_run [(.iload_n 2, 1), (.iload 4, 2), (.iadd, 1)] (pc' := 69) (L' := [(4, .inl (.int (if s = (xFI h 701 0) then 0 else (F_X3_walk h s (xFI h 701 0))))), (0, .inr (7, some 0)), (1, .inl (.int s)), (2, .inl (.int ti)), (3, .inl (.int 0))]) (st' := [.inl (.int (ti + (if s = (xFI h 701 0) then 0 else (F_X3_walk h s (xFI h 701 0))))), .inl (.int (xFI h 704 0)), .inr (7, some 0)]) ⟨dX6_leaveAt_65, dX6_leaveAt_66, dX6_leaveAt_68, trivial⟩ rfl rfl ?_
    refine wx_min ml_X6_88 min_st math_ini min_code (by omega) (Nat.le_of_ble_eq_true rfl) dX6_leaveAt_69 ?_
    refine wx_putI cls_7 (k := 4) (f := 704) (by decide) rfl rfl rfl fl_X6_33 (Or.inl rfl) dX6_leaveAt_72 ?_
    exact wx_vret rfl rfl dX6_leaveAt_75 (by rw [F_X6_leaveAt0, if_neg h_3]; exact ⟨SR.rf, rfl, rfl⟩)
def B_X6_tryRun1_6 (h : Hp) (t : Nat) (dy : Int32) (s : Int32) (ti : Int32) (tf : Int32) (rec6 : Hp → Int32 → Nat → Hp) (h6 : Hp) (ab : Int32) (p : Nat) : Hp := (if (xFI h6 810 t) ≤ (nI p) then h6 else (if ab = 0 then (rec6 h6 (if (if (F_X7_stopAt h6 t (nI p)) = s then tf else (F_X3_walk h6 s (F_X7_stopAt h6 t (nI p)))) = (-1) then 0 else (if (F_X7_leaves h6 t dy (nI p)) < (ti + (if (F_X7_stopAt h6 t (nI p)) = s then tf else (F_X3_walk h6 s (F_X7_stopAt h6 t (nI p))))) then 0 else 1)) (p + 1)) else (rec6 (F_X6_leaveAt0 h6 (F_X7_stopAt h6 t (nI p)) (F_X7_reaches h6 t dy (nI p))) ab (p + 1))))
def L_X6_tryRun1_6 (h : Hp) (t : Nat) (dy : Int32) (s : Int32) (ti : Int32) (tf : Int32) : Nat → Hp → Int32 → Nat → Hp
  | 0 => fun h6 ab p => h6
  | fu + 1 => B_X6_tryRun1_6 h t dy s ti tf (L_X6_tryRun1_6 h t dy s ti tf fu)
theorem L_X6_tryRun1_6_s (h : Hp) (t : Nat) (dy : Int32) (s : Int32) (ti : Int32) (tf : Int32) (fu : Nat) (h6 : Hp) (ab : Int32) (p : Nat) : L_X6_tryRun1_6 h t dy s ti tf (fu + 1) h6 ab p = B_X6_tryRun1_6 h t dy s ti tf (L_X6_tryRun1_6 h t dy s ti tf fu) h6 ab p := rfl
def F_X6_tryRun1 (h : Hp) (t : Nat) (dy : Int32) (s : Int32) (ti : Int32) (tf : Int32) : Hp := L_X6_tryRun1_6 h t dy s ti tf (2147483648 - 0 + 1) h 0 0
set_option maxRecDepth 20000 in
theorem c_X6_tryRun1 {g : GT} {d : Nat} (hd : 4 ≤ d) {h : Hp} (W : CW h) {t : Nat} (ht : t < xLS h 11) (dy : Int32) (s : Int32) (ti : Int32) (tf : Int32)  : Ctr g M_X6_tryRun d 0 0 [.inr (7, some 0), .inr (8, some t), .inl (.int dy), .inl (.int s), .inl (.int ti), .inl (.int tf), .inl (.int 1)] h (cy_detP (.inl none) (F_X6_tryRun1 h t dy s ti tf) (SR h (F_X6_tryRun1 h t dy s ti tf))) := by
  refine cy_body rfl rfl (by decide) (Nat.le_of_ble_eq_true rfl) ?_
  refine wp_run [(.iconst 0, 1), (.istore 7, 2), (.iconst 0, 1), (.istore 8, 2)] (pc' := 6) (L' := [(8, .inl (.int 0)), (7, .inl (.int 0)), (0, .inr (7, some 0)), (1, .inr (8, some t)), (2, .inl (.int dy)), (3, .inl (.int s)), (4, .inl (.int ti)), (5, .inl (.int tf)), (6, .inl (.int 1))]) (st' := []) ⟨dX6_tryRun_0, dX6_tryRun_1, dX6_tryRun_3, dX6_tryRun_4, trivial⟩ rfl rfl ?_
  rw [F_X6_tryRun1]
  refine wp_sub [0, 1, 2, 3, 4, 5, 6, 7, 8] (L' := [(8, .inl (.int 0)), (7, .inl (.int 0)), (0, .inr (7, some 0)), (1, .inr (8, some t)), (2, .inl (.int dy)), (3, .inl (.int s)), (4, .inl (.int ti)), (5, .inl (.int tf)), (6, .inl (.int 1))]) rfl ?_
  suffices Y6 : ∀ (n6 : Nat) (h6 : Hp) (ab : Int32) (p : Nat) (Sr6 : SR h h6) (hip : p < 2147483648) (hm6 : 2147483648 - p < n6), WP g M_X6_tryRun d 0 0 6 [(8, .inl (.int (nI p))), (7, .inl (.int ab)), (0, .inr (7, some 0)), (1, .inr (8, some t)), (2, .inl (.int dy)), (3, .inl (.int s)), (4, .inl (.int ti)), (5, .inl (.int tf)), (6, .inl (.int 1))] [] h6 (cy_detP (.inl none) (L_X6_tryRun1_6 h t dy s ti tf n6 h6 ab p) (SR h (L_X6_tryRun1_6 h t dy s ti tf n6 h6 ab p))) from
    Y6 (2147483648 - 0 + 1) h 0 0 SR.rf (by decide) (Nat.lt_succ_self _)
  intro n6
  induction n6 with
  | zero => intro h6 ab p Sr6 hip hm6; exact absurd hm6 (Nat.not_lt_zero _)
  | succ n6 ih6 =>
    intro h6 ab p Sr6 hip hm6
    rw [L_X6_tryRun1_6_s]
    generalize L_X6_tryRun1_6 h t dy s ti tf n6 = rec6 at ih6 ⊢
    refine wp_run [(.iload 8, 2), (.aload_n 1, 1)] (pc' := 9) (L' := [(8, .inl (.int (nI p))), (7, .inl (.int ab)), (0, .inr (7, some 0)), (1, .inr (8, some t)), (2, .inl (.int dy)), (3, .inl (.int s)), (4, .inl (.int ti)), (5, .inl (.int tf)), (6, .inl (.int 1))]) (st' := [.inr (8, some t), .inl (.int (nI p))]) ⟨dX6_tryRun_6, dX6_tryRun_8, trivial⟩ rfl rfl ?_
    refine wx_getI cls_8 (k := 10) (f := 810) (by decide) rfl rfl fl_X6_66 dX6_tryRun_9 ?_
    refine wx_icmp_ge (tgt := 105) dX6_tryRun_12 (by decide) (fun h_1 => ?_) (fun h_1 => ?_)
    · exact wx_vret rfl rfl dX6_tryRun_105 (by rw [B_X6_tryRun1_6, if_pos h_1]; exact ⟨Sr6, rfl, rfl⟩)
    · refine wp_run [(.aload_n 1, 1), (.iload 8, 2)] (pc' := 18) (L' := [(8, .inl (.int (nI p))), (7, .inl (.int ab)), (0, .inr (7, some 0)), (1, .inr (8, some t)), (2, .inl (.int dy)), (3, .inl (.int s)), (4, .inl (.int ti)), (5, .inl (.int tf)), (6, .inl (.int 1))]) (st' := [.inl (.int (nI p)), .inr (8, some t)]) ⟨dX6_tryRun_15, dX6_tryRun_16, trivial⟩ rfl rfl ?_
      refine wx_virtualD (M := M_X6_tryRun) (uc := 0) (us := 0) (s := 8) (i := t) (As := [.inl (.int (nI p))]) (rest := []) cls_8 rfl (ok_X7_stopAt _ _) ml_X6_75 im_X7_stopAt se_X7_stopAt (by omega) (c_X7_stopAt (d := d - 1) (h := h6) (by omega) (W.sr Sr6) (Sr6.lt ht) (nI p)) rfl rfl (Nat.le_of_ble_eq_true rfl) dX6_tryRun_18 ?_
      refine wp_run [(.istore 9, 2), (.iload 7, 2)] (pc' := 25) (L' := [(9, .inl (.int (F_X7_stopAt h6 t (nI p)))), (8, .inl (.int (nI p))), (7, .inl (.int ab)), (0, .inr (7, some 0)), (1, .inr (8, some t)), (2, .inl (.int dy)), (3, .inl (.int s)), (4, .inl (.int ti)), (5, .inl (.int tf)), (6, .inl (.int 1))]) (st' := [.inl (.int ab)]) ⟨dX6_tryRun_21, dX6_tryRun_23, trivial⟩ rfl rfl ?_
      refine wx_if_eq (tgt := 48) dX6_tryRun_25 (by decide) (fun h_2 => ?_) (fun h_2 => ?_)
      · refine wp_run [(.iload 9, 2), (.iload_n 3, 1)] (pc' := 51) (L' := [(9, .inl (.int (F_X7_stopAt h6 t (nI p)))), (8, .inl (.int (nI p))), (7, .inl (.int ab)), (0, .inr (7, some 0)), (1, .inr (8, some t)), (2, .inl (.int dy)), (3, .inl (.int s)), (4, .inl (.int ti)), (5, .inl (.int tf)), (6, .inl (.int 1))]) (st' := [.inl (.int s), .inl (.int (F_X7_stopAt h6 t (nI p)))]) ⟨dX6_tryRun_48, dX6_tryRun_50, trivial⟩ rfl rfl ?_
        refine wp_by (uc' := 0) (us' := 0) (pc' := 69) (L' := [(9, .inl (.int (F_X7_stopAt h6 t (nI p)))), (8, .inl (.int (nI p))), (7, .inl (.int ab)), (0, .inr (7, some 0)), (1, .inr (8, some t)), (2, .inl (.int dy)), (3, .inl (.int s)), (4, .inl (.int ti)), (5, .inl (.int tf)), (6, .inl (.int 1))]) (st' := [.inl (.int (if (F_X7_stopAt h6 t (nI p)) = s then tf else (F_X3_walk h6 s (F_X7_stopAt h6 t (nI p)))))]) (h' := h6) (fun J_3 => ?_) ?_
        · refine wx_icmp_ne (tgt := 59) dX6_tryRun_51 (by decide) (fun h_4 => ?_) (fun h_4 => ?_)
          · refine wp_run [(.aload_n 0, 1)] (pc' := 60) (L' := [(9, .inl (.int (F_X7_stopAt h6 t (nI p)))), (8, .inl (.int (nI p))), (7, .inl (.int ab)), (0, .inr (7, some 0)), (1, .inr (8, some t)), (2, .inl (.int dy)), (3, .inl (.int s)), (4, .inl (.int ti)), (5, .inl (.int tf)), (6, .inl (.int 1))]) (st' := [.inr (7, some 0)]) ⟨dX6_tryRun_59, trivial⟩ rfl rfl ?_
            refine wx_getR cls_7 (k := 0) (f := 700) (t := 4) (o := some 0) (by decide) rfl rfl fl_X6_9 ((W.sr Sr6).fr (f := 700) (by decide)) dX6_tryRun_60 ?_
            refine wp_run [(.iload_n 3, 1), (.iload 9, 2)] (pc' := 66) (L' := [(9, .inl (.int (F_X7_stopAt h6 t (nI p)))), (8, .inl (.int (nI p))), (7, .inl (.int ab)), (0, .inr (7, some 0)), (1, .inr (8, some t)), (2, .inl (.int dy)), (3, .inl (.int s)), (4, .inl (.int ti)), (5, .inl (.int tf)), (6, .inl (.int 1))]) (st' := [.inl (.int (F_X7_stopAt h6 t (nI p))), .inl (.int s), .inr (4, some 0)]) ⟨dX6_tryRun_63, dX6_tryRun_64, trivial⟩ rfl rfl ?_
            refine wx_virtualD (M := M_X6_tryRun) (uc := 0) (us := 0) (s := 4) (i := 0) (As := [.inl (.int s), .inl (.int (F_X7_stopAt h6 t (nI p)))]) (rest := []) cls_4 rfl (ok_X3_walk _ _) ml_X6_82 im_X3_walk se_X3_walk (by omega) (c_X3_walk (d := d - 1) (h := h6) (by omega) (W.sr Sr6) s (F_X7_stopAt h6 t (nI p))) rfl rfl (Nat.le_of_ble_eq_true rfl) dX6_tryRun_66 ?_
            refine wp_sub [0, 1, 2, 3, 4, 5, 6, 7, 8, 9] (L' := [(9, .inl (.int (F_X7_stopAt h6 t (nI p)))), (8, .inl (.int (nI p))), (7, .inl (.int ab)), (0, .inr (7, some 0)), (1, .inr (8, some t)), (2, .inl (.int dy)), (3, .inl (.int s)), (4, .inl (.int ti)), (5, .inl (.int tf)), (6, .inl (.int 1))]) rfl ?_
            simp only [if_neg h_4] at J_3
            exact J_3
          · refine wp_run [(.iload 5, 2)] (pc' := 56) (L' := [(9, .inl (.int (F_X7_stopAt h6 t (nI p)))), (8, .inl (.int (nI p))), (7, .inl (.int ab)), (0, .inr (7, some 0)), (1, .inr (8, some t)), (2, .inl (.int dy)), (3, .inl (.int s)), (4, .inl (.int ti)), (5, .inl (.int tf)), (6, .inl (.int 1))]) (st' := [.inl (.int tf)]) ⟨dX6_tryRun_54, trivial⟩ rfl rfl ?_
            refine wx_goto (tgt := 69) dX6_tryRun_56 (by decide) ?_
            refine wp_sub [0, 1, 2, 3, 4, 5, 6, 7, 8, 9] (L' := [(9, .inl (.int (F_X7_stopAt h6 t (nI p)))), (8, .inl (.int (nI p))), (7, .inl (.int ab)), (0, .inr (7, some 0)), (1, .inr (8, some t)), (2, .inl (.int dy)), (3, .inl (.int s)), (4, .inl (.int ti)), (5, .inl (.int tf)), (6, .inl (.int 1))]) rfl ?_
            simp only [if_pos h_4] at J_3
            exact J_3
        refine wp_run [(.istore 10, 2), (.iload 10, 2), (.iconst (-1), 1)] (pc' := 74) (L' := [(10, .inl (.int (if (F_X7_stopAt h6 t (nI p)) = s then tf else (F_X3_walk h6 s (F_X7_stopAt h6 t (nI p)))))), (9, .inl (.int (F_X7_stopAt h6 t (nI p)))), (8, .inl (.int (nI p))), (7, .inl (.int ab)), (0, .inr (7, some 0)), (1, .inr (8, some t)), (2, .inl (.int dy)), (3, .inl (.int s)), (4, .inl (.int ti)), (5, .inl (.int tf)), (6, .inl (.int 1))]) (st' := [.inl (.int (-1)), .inl (.int (if (F_X7_stopAt h6 t (nI p)) = s then tf else (F_X3_walk h6 s (F_X7_stopAt h6 t (nI p)))))]) ⟨dX6_tryRun_69, dX6_tryRun_71, dX6_tryRun_73, trivial⟩ rfl rfl ?_
        refine wp_by (uc' := 0) (us' := 0) (pc' := 97) (L' := [(10, .inl (.int (if (F_X7_stopAt h6 t (nI p)) = s then tf else (F_X3_walk h6 s (F_X7_stopAt h6 t (nI p)))))), (9, .inl (.int (F_X7_stopAt h6 t (nI p)))), (8, .inl (.int (nI p))), (7, .inl (.int ab)), (0, .inr (7, some 0)), (1, .inr (8, some t)), (2, .inl (.int dy)), (3, .inl (.int s)), (4, .inl (.int ti)), (5, .inl (.int tf)), (6, .inl (.int 1))]) (st' := [.inl (.int (if (if (F_X7_stopAt h6 t (nI p)) = s then tf else (F_X3_walk h6 s (F_X7_stopAt h6 t (nI p)))) = (-1) then 0 else (if (F_X7_leaves h6 t dy (nI p)) < (ti + (if (F_X7_stopAt h6 t (nI p)) = s then tf else (F_X3_walk h6 s (F_X7_stopAt h6 t (nI p))))) then 0 else 1)))]) (h' := h6) (fun J_5 => ?_) ?_
        · refine wx_icmp_eq (tgt := 96) dX6_tryRun_74 (by decide) (fun h_6 => ?_) (fun h_6 => ?_)
          · refine wp_run [(.iconst 0, 1)] (pc' := 97) (L' := [(10, .inl (.int (if (F_X7_stopAt h6 t (nI p)) = s then tf else (F_X3_walk h6 s (F_X7_stopAt h6 t (nI p)))))), (9, .inl (.int (F_X7_stopAt h6 t (nI p)))), (8, .inl (.int (nI p))), (7, .inl (.int ab)), (0, .inr (7, some 0)), (1, .inr (8, some t)), (2, .inl (.int dy)), (3, .inl (.int s)), (4, .inl (.int ti)), (5, .inl (.int tf)), (6, .inl (.int 1))]) (st' := [.inl (.int 0)]) ⟨dX6_tryRun_96, trivial⟩ rfl rfl ?_
            refine wp_sub [0, 1, 2, 3, 4, 5, 6, 7, 8, 9, 10] (L' := [(10, .inl (.int (if (F_X7_stopAt h6 t (nI p)) = s then tf else (F_X3_walk h6 s (F_X7_stopAt h6 t (nI p)))))), (9, .inl (.int (F_X7_stopAt h6 t (nI p)))), (8, .inl (.int (nI p))), (7, .inl (.int ab)), (0, .inr (7, some 0)), (1, .inr (8, some t)), (2, .inl (.int dy)), (3, .inl (.int s)), (4, .inl (.int ti)), (5, .inl (.int tf)), (6, .inl (.int 1))]) rfl ?_
            simp only [if_pos h_6] at J_5
            exact J_5
          · refine wp_run [(.aload_n 1, 1), (.iload_n 2, 1), (.iload 8, 2)] (pc' := 81) (L' := [(10, .inl (.int (if (F_X7_stopAt h6 t (nI p)) = s then tf else (F_X3_walk h6 s (F_X7_stopAt h6 t (nI p)))))), (9, .inl (.int (F_X7_stopAt h6 t (nI p)))), (8, .inl (.int (nI p))), (7, .inl (.int ab)), (0, .inr (7, some 0)), (1, .inr (8, some t)), (2, .inl (.int dy)), (3, .inl (.int s)), (4, .inl (.int ti)), (5, .inl (.int tf)), (6, .inl (.int 1))]) (st' := [.inl (.int (nI p)), .inl (.int dy), .inr (8, some t)]) ⟨dX6_tryRun_77, dX6_tryRun_78, dX6_tryRun_79, trivial⟩ rfl rfl ?_
            refine wx_virtualD (M := M_X6_tryRun) (uc := 0) (us := 0) (s := 8) (i := t) (As := [.inl (.int dy), .inl (.int (nI p))]) (rest := []) cls_8 rfl (ok_X7_leaves _ _) ml_X6_62 im_X7_leaves se_X7_leaves (by omega) (c_X7_leaves (d := d - 1) (h := h6) (by omega) (W.sr Sr6) (Sr6.lt ht) dy (nI p)) rfl rfl (Nat.le_of_ble_eq_true rfl) dX6_tryRun_81 ?_
            refine wp_run [(.iload 4, 2), (.iload 10, 2), (.iadd, 1)] (pc' := 89) (L' := [(10, .inl (.int (if (F_X7_stopAt h6 t (nI p)) = s then tf else (F_X3_walk h6 s (F_X7_stopAt h6 t (nI p)))))), (9, .inl (.int (F_X7_stopAt h6 t (nI p)))), (8, .inl (.int (nI p))), (7, .inl (.int ab)), (0, .inr (7, some 0)), (1, .inr (8, some t)), (2, .inl (.int dy)), (3, .inl (.int s)), (4, .inl (.int ti)), (5, .inl (.int tf)), (6, .inl (.int 1))]) (st' := [.inl (.int (ti + (if (F_X7_stopAt h6 t (nI p)) = s then tf else (F_X3_walk h6 s (F_X7_stopAt h6 t (nI p)))))), .inl (.int (F_X7_leaves h6 t dy (nI p)))]) ⟨dX6_tryRun_84, dX6_tryRun_86, dX6_tryRun_88, trivial⟩ rfl rfl ?_
            refine wx_icmp_lt (tgt := 96) dX6_tryRun_89 (by decide) (fun h_7 => ?_) (fun h_7 => ?_)
            · refine wp_run [(.iconst 0, 1)] (pc' := 97) (L' := [(10, .inl (.int (if (F_X7_stopAt h6 t (nI p)) = s then tf else (F_X3_walk h6 s (F_X7_stopAt h6 t (nI p)))))), (9, .inl (.int (F_X7_stopAt h6 t (nI p)))), (8, .inl (.int (nI p))), (7, .inl (.int ab)), (0, .inr (7, some 0)), (1, .inr (8, some t)), (2, .inl (.int dy)), (3, .inl (.int s)), (4, .inl (.int ti)), (5, .inl (.int tf)), (6, .inl (.int 1))]) (st' := [.inl (.int 0)]) ⟨dX6_tryRun_96, trivial⟩ rfl rfl ?_
              refine wp_sub [0, 1, 2, 3, 4, 5, 6, 7, 8, 9, 10] (L' := [(10, .inl (.int (if (F_X7_stopAt h6 t (nI p)) = s then tf else (F_X3_walk h6 s (F_X7_stopAt h6 t (nI p)))))), (9, .inl (.int (F_X7_stopAt h6 t (nI p)))), (8, .inl (.int (nI p))), (7, .inl (.int ab)), (0, .inr (7, some 0)), (1, .inr (8, some t)), (2, .inl (.int dy)), (3, .inl (.int s)), (4, .inl (.int ti)), (5, .inl (.int tf)), (6, .inl (.int 1))]) rfl ?_
              simp only [if_neg h_6] at J_5
              simp only [if_pos h_7] at J_5
              exact J_5
            · refine wp_run [(.iconst 1, 1)] (pc' := 93) (L' := [(10, .inl (.int (if (F_X7_stopAt h6 t (nI p)) = s then tf else (F_X3_walk h6 s (F_X7_stopAt h6 t (nI p)))))), (9, .inl (.int (F_X7_stopAt h6 t (nI p)))), (8, .inl (.int (nI p))), (7, .inl (.int ab)), (0, .inr (7, some 0)), (1, .inr (8, some t)), (2, .inl (.int dy)), (3, .inl (.int s)), (4, .inl (.int ti)), (5, .inl (.int tf)), (6, .inl (.int 1))]) (st' := [.inl (.int 1)]) ⟨dX6_tryRun_92, trivial⟩ rfl rfl ?_
              refine wx_goto (tgt := 97) dX6_tryRun_93 (by decide) ?_
              refine wp_sub [0, 1, 2, 3, 4, 5, 6, 7, 8, 9, 10] (L' := [(10, .inl (.int (if (F_X7_stopAt h6 t (nI p)) = s then tf else (F_X3_walk h6 s (F_X7_stopAt h6 t (nI p)))))), (9, .inl (.int (F_X7_stopAt h6 t (nI p)))), (8, .inl (.int (nI p))), (7, .inl (.int ab)), (0, .inr (7, some 0)), (1, .inr (8, some t)), (2, .inl (.int dy)), (3, .inl (.int s)), (4, .inl (.int ti)), (5, .inl (.int tf)), (6, .inl (.int 1))]) rfl ?_
              simp only [if_neg h_6] at J_5
              simp only [if_neg h_7] at J_5
              exact J_5
        refine wp_run [(.istore 7, 2), (.iinc 8 1, 3)] (pc' := 102) (L' := [(8, .inl (.int ((nI p) + 1))), (7, .inl (.int (if (if (F_X7_stopAt h6 t (nI p)) = s then tf else (F_X3_walk h6 s (F_X7_stopAt h6 t (nI p)))) = (-1) then 0 else (if (F_X7_leaves h6 t dy (nI p)) < (ti + (if (F_X7_stopAt h6 t (nI p)) = s then tf else (F_X3_walk h6 s (F_X7_stopAt h6 t (nI p))))) then 0 else 1)))), (10, .inl (.int (if (F_X7_stopAt h6 t (nI p)) = s then tf else (F_X3_walk h6 s (F_X7_stopAt h6 t (nI p)))))), (9, .inl (.int (F_X7_stopAt h6 t (nI p)))), (0, .inr (7, some 0)), (1, .inr (8, some t)), (2, .inl (.int dy)), (3, .inl (.int s)), (4, .inl (.int ti)), (5, .inl (.int tf)), (6, .inl (.int 1))]) (st' := []) ⟨dX6_tryRun_97, dX6_tryRun_99, trivial⟩ rfl rfl ?_
        refine wx_goto (tgt := 6) dX6_tryRun_102 (by decide) ?_
        rw [B_X6_tryRun1_6, if_neg h_1, if_pos h_2]
        rw [nI_1 p]
        refine wp_sub [0, 1, 4, 5, 6, 7, 8, 9, 10] (L' := [(8, .inl (.int (nI (p + 1)))), (7, .inl (.int (if (if (F_X7_stopAt h6 t (nI p)) = s then tf else (F_X3_walk h6 s (F_X7_stopAt h6 t (nI p)))) = (-1) then 0 else (if (F_X7_leaves h6 t dy (nI p)) < (ti + (if (F_X7_stopAt h6 t (nI p)) = s then tf else (F_X3_walk h6 s (F_X7_stopAt h6 t (nI p))))) then 0 else 1)))), (0, .inr (7, some 0)), (1, .inr (8, some t)), (2, .inl (.int dy)), (3, .inl (.int s)), (4, .inl (.int ti)), (5, .inl (.int tf)), (6, .inl (.int 1))]) rfl ?_
        exact ih6 _ _ _ Sr6 (cy_nlt hip h_1).2 (by have := (cy_nlt hip h_1).2; omega)
      · refine wp_run [(.aload_n 0, 1), (.iload 9, 2), (.aload_n 1, 1), (.iload_n 2, 1), (.iload 8, 2)] (pc' := 35) (L' := [(9, .inl (.int (F_X7_stopAt h6 t (nI p)))), (8, .inl (.int (nI p))), (7, .inl (.int ab)), (0, .inr (7, some 0)), (1, .inr (8, some t)), (2, .inl (.int dy)), (3, .inl (.int s)), (4, .inl (.int ti)), (5, .inl (.int tf)), (6, .inl (.int 1))]) (st' := [.inl (.int (nI p)), .inl (.int dy), .inr (8, some t), .inl (.int (F_X7_stopAt h6 t (nI p))), .inr (7, some 0)]) ⟨dX6_tryRun_28, dX6_tryRun_29, dX6_tryRun_31, dX6_tryRun_32, dX6_tryRun_33, trivial⟩ rfl rfl ?_
        refine wx_virtualD (M := M_X6_tryRun) (uc := 0) (us := 0) (s := 8) (i := t) (As := [.inl (.int dy), .inl (.int (nI p))]) (rest := [.inl (.int (F_X7_stopAt h6 t (nI p))), .inr (7, some 0)]) cls_8 rfl (ok_X7_reaches _ _) ml_X6_68 im_X7_reaches se_X7_reaches (by omega) (c_X7_reaches (d := d - 1) (h := h6) (by omega) (W.sr Sr6) (Sr6.lt ht) dy (nI p)) rfl rfl (Nat.le_of_ble_eq_true rfl) dX6_tryRun_35 ?_
        refine wp_run [(.iload 6, 2), (.iconst 1, 1), (.isub, 1)] (pc' := 42) (L' := [(9, .inl (.int (F_X7_stopAt h6 t (nI p)))), (8, .inl (.int (nI p))), (7, .inl (.int ab)), (0, .inr (7, some 0)), (1, .inr (8, some t)), (2, .inl (.int dy)), (3, .inl (.int s)), (4, .inl (.int ti)), (5, .inl (.int tf)), (6, .inl (.int 1))]) (st' := [.inl (.int 0), .inl (.int (F_X7_reaches h6 t dy (nI p))), .inl (.int (F_X7_stopAt h6 t (nI p))), .inr (7, some 0)]) ⟨dX6_tryRun_38, dX6_tryRun_40, dX6_tryRun_41, trivial⟩ rfl rfl ?_
        refine wx_virtualDP (M := M_X6_tryRun) (uc := 0) (us := 0) (s := 7) (i := 0) (As := [.inl (.int (F_X7_stopAt h6 t (nI p))), .inl (.int (F_X7_reaches h6 t dy (nI p))), .inl (.int 0)]) (rest := []) cls_7 rfl (ok_X6_leaveAt _ _) ml_X6_78 im_X6_leaveAt se_X6_leaveAt (by omega) (c_X6_leaveAt0 (d := d - 1) (h := h6) (by omega) (W.sr Sr6) (F_X7_stopAt h6 t (nI p)) (F_X7_reaches h6 t dy (nI p))) rfl rfl (Nat.le_of_ble_eq_true rfl) dX6_tryRun_42 (fun hS_8 => ?_)
        refine wx_goto (tgt := 99) dX6_tryRun_45 (by decide) ?_
        refine wp_run [(.iinc 8 1, 3)] (pc' := 102) (L' := [(8, .inl (.int ((nI p) + 1))), (9, .inl (.int (F_X7_stopAt h6 t (nI p)))), (7, .inl (.int ab)), (0, .inr (7, some 0)), (1, .inr (8, some t)), (2, .inl (.int dy)), (3, .inl (.int s)), (4, .inl (.int ti)), (5, .inl (.int tf)), (6, .inl (.int 1))]) (st' := []) ⟨dX6_tryRun_99, trivial⟩ rfl rfl ?_
        refine wx_goto (tgt := 6) dX6_tryRun_102 (by decide) ?_
        rw [B_X6_tryRun1_6, if_neg h_1, if_neg h_2]
        rw [nI_1 p]
        refine wp_sub [0, 2, 3, 4, 5, 6, 7, 8, 9] (L' := [(8, .inl (.int (nI (p + 1)))), (7, .inl (.int ab)), (0, .inr (7, some 0)), (1, .inr (8, some t)), (2, .inl (.int dy)), (3, .inl (.int s)), (4, .inl (.int ti)), (5, .inl (.int tf)), (6, .inl (.int 1))]) rfl ?_
        exact ih6 _ _ _ (Sr6.trans hS_8) (cy_nlt hip h_1).2 (by have := (cy_nlt hip h_1).2; omega)
def K_X6_goOn1_38 (h : Hp) (s : Int32) (ti : Int32) (tf : Int32) (h19 : Hp) (dy : Int32) (rec19 : Hp → Int32 → Hp) (h38 : Hp) (i : Nat) : Hp := (rec19 h38 (dy + 1))
def B_X6_goOn1_38 (h : Hp) (s : Int32) (ti : Int32) (tf : Int32) (h19 : Hp) (dy : Int32) (rec19 : Hp → Int32 → Hp) (kx : Hp → Nat → Hp) (rec38 : Hp → Nat → Hp) (h38 : Hp) (i : Nat) : Hp := (if (nI (xLS h38 11)) ≤ (nI i) then (kx h38 i) else (if (F_X7_goes h38 i dy) = 0 then (rec38 h38 (i + 1)) else (if (xFI h38 704 0) ≤ (F_X7_leaves h38 i dy 0) then (rec38 h38 (i + 1)) else (if (F_X7_reaches h38 i dy ((xFI h38 810 i) - 1)) ≤ ti then (rec38 h38 (i + 1)) else (rec38 (F_X6_tryRun1 h38 i dy s ti tf) (i + 1))))))
def L_X6_goOn1_38 (h : Hp) (s : Int32) (ti : Int32) (tf : Int32) (h19 : Hp) (dy : Int32) (rec19 : Hp → Int32 → Hp) (kx : Hp → Nat → Hp) : Nat → Hp → Nat → Hp
  | 0 => fun h38 i => h38
  | fu + 1 => B_X6_goOn1_38 h s ti tf h19 dy rec19 kx (L_X6_goOn1_38 h s ti tf h19 dy rec19 kx fu)
theorem L_X6_goOn1_38_s (h : Hp) (s : Int32) (ti : Int32) (tf : Int32) (h19 : Hp) (dy : Int32) (rec19 : Hp → Int32 → Hp) (kx : Hp → Nat → Hp) (fu : Nat) (h38 : Hp) (i : Nat) : L_X6_goOn1_38 h s ti tf h19 dy rec19 kx (fu + 1) h38 i = B_X6_goOn1_38 h s ti tf h19 dy rec19 kx (L_X6_goOn1_38 h s ti tf h19 dy rec19 kx fu) h38 i := rfl
def B_X6_goOn1_19 (h : Hp) (s : Int32) (ti : Int32) (tf : Int32) (rec19 : Hp → Int32 → Hp) (h19 : Hp) (dy : Int32) : Hp := (if (xFI h19 703 0) < dy then h19 else (if 100 ≤ dy then h19 else L_X6_goOn1_38 h s ti tf h19 dy rec19 (K_X6_goOn1_38 h s ti tf h19 dy rec19) (2147483648 - 0 + 1) h19 0))
def L_X6_goOn1_19 (h : Hp) (s : Int32) (ti : Int32) (tf : Int32) : Nat → Hp → Int32 → Hp
  | 0 => fun h19 dy => h19
  | fu + 1 => B_X6_goOn1_19 h s ti tf (L_X6_goOn1_19 h s ti tf fu)
theorem L_X6_goOn1_19_s (h : Hp) (s : Int32) (ti : Int32) (tf : Int32) (fu : Nat) (h19 : Hp) (dy : Int32) : L_X6_goOn1_19 h s ti tf (fu + 1) h19 dy = B_X6_goOn1_19 h s ti tf (L_X6_goOn1_19 h s ti tf fu) h19 dy := rfl
def F_X6_goOn1 (h : Hp) (s : Int32) (ti : Int32) (tf : Int32) : Hp := L_X6_goOn1_19 h s ti tf ((2147483647 - (xFI h 702 0).toInt).toNat + 1) h (xFI h 702 0)
set_option maxRecDepth 20000 in
theorem c_X6_goOn1 {g : GT} {d : Nat} (hd : 7 ≤ d) {h : Hp} (W : CW h) (s : Int32) (ti : Int32) (tf : Int32)  : Ctr g M_X6_goOn d 0 0 [.inr (7, some 0), .inl (.int s), .inl (.int ti), .inl (.int tf), .inl (.int 1)] h (cy_detP (.inl none) (F_X6_goOn1 h s ti tf) (SR h (F_X6_goOn1 h s ti tf))) := by
  refine cy_body rfl rfl (by decide) (Nat.le_of_ble_eq_true rfl) ?_
  refine wp_run [(.iload 4, 2), (.iconst 1, 1)] (pc' := 3) (L' := [(0, .inr (7, some 0)), (1, .inl (.int s)), (2, .inl (.int ti)), (3, .inl (.int tf)), (4, .inl (.int 1))]) (st' := [.inl (.int 1), .inl (.int 1)]) ⟨dX6_goOn_0, dX6_goOn_2, trivial⟩ rfl rfl ?_
  refine wx_icmp_lt (tgt := 12) dX6_goOn_3 (by decide) (fun h => absurd h (by decide)) (fun _ => ?_)
  refine wp_run [(.iload 4, 2), (.iconst 4, 1)] (pc' := 9) (L' := [(0, .inr (7, some 0)), (1, .inl (.int s)), (2, .inl (.int ti)), (3, .inl (.int tf)), (4, .inl (.int 1))]) (st' := [.inl (.int 4), .inl (.int 1)]) ⟨dX6_goOn_6, dX6_goOn_8, trivial⟩ rfl rfl ?_
  refine wx_icmp_le (tgt := 13) dX6_goOn_9 (by decide) (fun _ => ?_) (fun h => absurd h (by decide))
  refine wp_run [(.aload_n 0, 1)] (pc' := 14) (L' := [(0, .inr (7, some 0)), (1, .inl (.int s)), (2, .inl (.int ti)), (3, .inl (.int tf)), (4, .inl (.int 1))]) (st' := [.inr (7, some 0)]) ⟨dX6_goOn_13, trivial⟩ rfl rfl ?_
  refine wx_getI cls_7 (k := 2) (f := 702) (by decide) rfl rfl fl_X6_23 dX6_goOn_14 ?_
  refine wp_run [(.istore 5, 2)] (pc' := 19) (L' := [(5, .inl (.int (xFI h 702 0))), (0, .inr (7, some 0)), (1, .inl (.int s)), (2, .inl (.int ti)), (3, .inl (.int tf)), (4, .inl (.int 1))]) (st' := []) ⟨dX6_goOn_17, trivial⟩ rfl rfl ?_
  rw [F_X6_goOn1]
  refine wp_sub [0, 1, 2, 3, 4, 5] (L' := [(5, .inl (.int (xFI h 702 0))), (0, .inr (7, some 0)), (1, .inl (.int s)), (2, .inl (.int ti)), (3, .inl (.int tf)), (4, .inl (.int 1))]) rfl ?_
  suffices Y19 : ∀ (n19 : Nat) (h19 : Hp) (dy : Int32) (Sr19 : SR h h19) (hm19 : (2147483647 - dy.toInt).toNat < n19), WP g M_X6_goOn d 0 0 19 [(5, .inl (.int dy)), (0, .inr (7, some 0)), (1, .inl (.int s)), (2, .inl (.int ti)), (3, .inl (.int tf)), (4, .inl (.int 1))] [] h19 (cy_detP (.inl none) (L_X6_goOn1_19 h s ti tf n19 h19 dy) (SR h (L_X6_goOn1_19 h s ti tf n19 h19 dy))) from
    Y19 ((2147483647 - (xFI h 702 0).toInt).toNat + 1) h (xFI h 702 0) SR.rf (Nat.lt_succ_self _)
  intro n19
  induction n19 with
  | zero => intro h19 dy Sr19 hm19; exact absurd hm19 (Nat.not_lt_zero _)
  | succ n19 ih19 =>
    intro h19 dy Sr19 hm19
    rw [L_X6_goOn1_19_s]
    generalize L_X6_goOn1_19 h s ti tf n19 = rec19 at ih19 ⊢
    refine wp_run [(.iload 5, 2), (.aload_n 0, 1)] (pc' := 22) (L' := [(5, .inl (.int dy)), (0, .inr (7, some 0)), (1, .inl (.int s)), (2, .inl (.int ti)), (3, .inl (.int tf)), (4, .inl (.int 1))]) (st' := [.inr (7, some 0), .inl (.int dy)]) ⟨dX6_goOn_19, dX6_goOn_21, trivial⟩ rfl rfl ?_
    refine wx_getI cls_7 (k := 3) (f := 703) (by decide) rfl rfl fl_X6_29 dX6_goOn_22 ?_
    refine wx_icmp_gt (tgt := 138) dX6_goOn_25 (by decide) (fun h_1 => ?_) (fun h_1 => ?_)
    · exact wx_vret rfl rfl dX6_goOn_138 (by rw [B_X6_goOn1_19, if_pos h_1]; exact ⟨Sr19, rfl, rfl⟩)
    · refine wp_run [(.iload 5, 2), (.bipush 100, 2)] (pc' := 32) (L' := [(5, .inl (.int dy)), (0, .inr (7, some 0)), (1, .inl (.int s)), (2, .inl (.int ti)), (3, .inl (.int tf)), (4, .inl (.int 1))]) (st' := [.inl (.int 100), .inl (.int dy)]) ⟨dX6_goOn_28, dX6_goOn_30, trivial⟩ rfl rfl ?_
      refine wx_icmp_ge (tgt := 138) dX6_goOn_32 (by decide) (fun h_2 => ?_) (fun h_2 => ?_)
      · exact wx_vret rfl rfl dX6_goOn_138 (by rw [B_X6_goOn1_19, if_neg h_1, if_pos h_2]; exact ⟨Sr19, rfl, rfl⟩)
      · refine wp_run [(.iconst 0, 1), (.istore 6, 2)] (pc' := 38) (L' := [(6, .inl (.int 0)), (5, .inl (.int dy)), (0, .inr (7, some 0)), (1, .inl (.int s)), (2, .inl (.int ti)), (3, .inl (.int tf)), (4, .inl (.int 1))]) (st' := []) ⟨dX6_goOn_35, dX6_goOn_36, trivial⟩ rfl rfl ?_
        rw [B_X6_goOn1_19, if_neg h_1, if_neg h_2]
        refine wp_sub [0, 1, 2, 3, 4, 5, 6] (L' := [(6, .inl (.int 0)), (5, .inl (.int dy)), (0, .inr (7, some 0)), (1, .inl (.int s)), (2, .inl (.int ti)), (3, .inl (.int tf)), (4, .inl (.int 1))]) rfl ?_
        have X38 : ∀ (h38 : Hp) (i : Nat) (Sr38 : SR h h38) (hii : i < 2147483648) , WP g M_X6_goOn d 0 0 132 [(5, .inl (.int dy)), (0, .inr (7, some 0)), (1, .inl (.int s)), (2, .inl (.int ti)), (3, .inl (.int tf)), (4, .inl (.int 1))] [] h38 (cy_detP (.inl none) (K_X6_goOn1_38 h s ti tf h19 dy rec19 h38 i) (SR h (K_X6_goOn1_38 h s ti tf h19 dy rec19 h38 i))) := by
          intro h38 i Sr38 hii
          refine wp_run [(.iinc 5 1, 3)] (pc' := 135) (L' := [(5, .inl (.int (dy + 1))), (0, .inr (7, some 0)), (1, .inl (.int s)), (2, .inl (.int ti)), (3, .inl (.int tf)), (4, .inl (.int 1))]) (st' := []) ⟨dX6_goOn_132, trivial⟩ rfl rfl ?_
          refine wx_goto (tgt := 19) dX6_goOn_135 (by decide) ?_
          rw [K_X6_goOn1_38]
          refine wp_sub [0, 1, 2, 3, 4, 5] (L' := [(5, .inl (.int (dy + 1))), (0, .inr (7, some 0)), (1, .inl (.int s)), (2, .inl (.int ti)), (3, .inl (.int tf)), (4, .inl (.int 1))]) rfl ?_
          exact ih19 _ _ Sr38 (Nat.lt_of_lt_of_le (cy_up h_2) (Nat.le_of_lt_succ hm19))
        suffices Y38 : ∀ (n38 : Nat) (h38 : Hp) (i : Nat) (Sr38 : SR h h38) (hii : i < 2147483648) (hm38 : 2147483648 - i < n38), WP g M_X6_goOn d 0 0 38 [(6, .inl (.int (nI i))), (5, .inl (.int dy)), (0, .inr (7, some 0)), (1, .inl (.int s)), (2, .inl (.int ti)), (3, .inl (.int tf)), (4, .inl (.int 1))] [] h38 (cy_detP (.inl none) (L_X6_goOn1_38 h s ti tf h19 dy rec19 (K_X6_goOn1_38 h s ti tf h19 dy rec19) n38 h38 i) (SR h (L_X6_goOn1_38 h s ti tf h19 dy rec19 (K_X6_goOn1_38 h s ti tf h19 dy rec19) n38 h38 i))) from
          Y38 (2147483648 - 0 + 1) h19 0 Sr19 (by decide) (Nat.lt_succ_self _)
        intro n38
        induction n38 with
        | zero => intro h38 i Sr38 hii hm38; exact absurd hm38 (Nat.not_lt_zero _)
        | succ n38 ih38 =>
          intro h38 i Sr38 hii hm38
          rw [L_X6_goOn1_38_s]
          generalize L_X6_goOn1_38 h s ti tf h19 dy rec19 (K_X6_goOn1_38 h s ti tf h19 dy rec19) n38 = rec38 at ih38 ⊢
          refine wp_run [(.iload 6, 2), (.aload_n 0, 1)] (pc' := 41) (L' := [(6, .inl (.int (nI i))), (5, .inl (.int dy)), (0, .inr (7, some 0)), (1, .inl (.int s)), (2, .inl (.int ti)), (3, .inl (.int tf)), (4, .inl (.int 1))]) (st' := [.inr (7, some 0), .inl (.int (nI i))]) ⟨dX6_goOn_38, dX6_goOn_40, trivial⟩ rfl rfl ?_
          refine wx_getR cls_7 (k := 0) (f := 700) (t := 4) (o := some 0) (by decide) rfl rfl fl_X6_9 ((W.sr Sr38).fr (f := 700) (by decide)) dX6_goOn_41 ?_
          refine wx_getR cls_4 (k := 2) (f := 402) (t := 11) (o := some 0) (by decide) rfl rfl fl_X6_40 ((W.sr Sr38).fr (f := 402) (by decide)) dX6_goOn_44 ?_
          refine wx_virtualL (M := M_X6_goOn) (uc := 0) (us := 0) (s := 11) (i := 0) (As := []) (rest := [.inl (.int (nI i))]) rfl rfl (ok_Jx4a65c_size_8abf5 _ _) ml_X6_46 im_Jx4a65c_size_8abf5 se_Jx4a65c_size_8abf5 (by omega) (c_size (d := d - 1) (by omega) (s := 11) rfl) rfl rfl (Nat.le_of_ble_eq_true rfl) dX6_goOn_47 ?_
          refine wx_icmp_ge (tgt := 132) dX6_goOn_50 (by decide) (fun h_3 => ?_) (fun h_3 => ?_)
          · rw [B_X6_goOn1_38, if_pos h_3]
            refine wp_sub [1, 2, 3, 4, 5, 6] (L' := [(5, .inl (.int dy)), (0, .inr (7, some 0)), (1, .inl (.int s)), (2, .inl (.int ti)), (3, .inl (.int tf)), (4, .inl (.int 1))]) rfl ?_
            exact X38 _ _ Sr38 hii
          · refine wp_run [(.aload_n 0, 1)] (pc' := 54) (L' := [(6, .inl (.int (nI i))), (5, .inl (.int dy)), (0, .inr (7, some 0)), (1, .inl (.int s)), (2, .inl (.int ti)), (3, .inl (.int tf)), (4, .inl (.int 1))]) (st' := [.inr (7, some 0)]) ⟨dX6_goOn_53, trivial⟩ rfl rfl ?_
            refine wx_getR cls_7 (k := 0) (f := 700) (t := 4) (o := some 0) (by decide) rfl rfl fl_X6_9 ((W.sr Sr38).fr (f := 700) (by decide)) dX6_goOn_54 ?_
            refine wx_getR cls_4 (k := 2) (f := 402) (t := 11) (o := some 0) (by decide) rfl rfl fl_X6_40 ((W.sr Sr38).fr (f := 402) (by decide)) dX6_goOn_57 ?_
            refine wp_run [(.iload 6, 2)] (pc' := 62) (L' := [(6, .inl (.int (nI i))), (5, .inl (.int dy)), (0, .inr (7, some 0)), (1, .inl (.int s)), (2, .inl (.int ti)), (3, .inl (.int tf)), (4, .inl (.int 1))]) (st' := [.inl (.int (nI i)), .inr (11, some 0)]) ⟨dX6_goOn_60, trivial⟩ rfl rfl ?_
            have hl_4 := cy_get hii (Nat.le_trans (W.sr Sr38).t20 (Nat.le_of_ble_eq_true rfl)) h_3
            refine wx_virtualL (M := M_X6_goOn) (uc := 0) (us := 0) (s := 11) (i := 0) (As := [.inl (.int (nI i))]) (rest := []) rfl rfl (ok_Jx4a65c_get_915e3 _ _) ml_X6_52 im_Jx4a65c_get_915e3 se_Jx4a65c_get_915e3 (by omega) (det_to (c_get (d := d - 1) (by omega) (s := 11) (i := i) rfl hl_4 rfl) (by rw [(W.sr Sr38).tle hl_4]) rfl) rfl rfl (Nat.le_of_ble_eq_true rfl) dX6_goOn_62 ?_
            refine wx_cast cls_8 cl_X6_56 dX6_goOn_65 ?_
            refine wp_run [(.astore 7, 2), (.aload 7, 2), (.iload 5, 2)] (pc' := 74) (L' := [(7, .inr (8, some i)), (6, .inl (.int (nI i))), (5, .inl (.int dy)), (0, .inr (7, some 0)), (1, .inl (.int s)), (2, .inl (.int ti)), (3, .inl (.int tf)), (4, .inl (.int 1))]) (st' := [.inl (.int dy), .inr (8, some i)]) ⟨dX6_goOn_68, dX6_goOn_70, dX6_goOn_72, trivial⟩ rfl rfl ?_
            refine wx_virtualD (M := M_X6_goOn) (uc := 0) (us := 0) (s := 8) (i := i) (As := [.inl (.int dy)]) (rest := []) cls_8 rfl (ok_X7_goes _ _) ml_X6_58 im_X7_goes se_X7_goes (by omega) (c_X7_goes (d := d - 1) (h := h38) (by omega) (W.sr Sr38) (Sr38.lt (Sr38.tl hl_4)) dy) rfl rfl (Nat.le_of_ble_eq_true rfl) dX6_goOn_74 ?_
            refine wx_if_eq (tgt := 126) dX6_goOn_77 (by decide) (fun h_5 => ?_) (fun h_5 => ?_)
            · refine wp_run [(.iinc 6 1, 3)] (pc' := 129) (L' := [(6, .inl (.int ((nI i) + 1))), (7, .inr (8, some i)), (5, .inl (.int dy)), (0, .inr (7, some 0)), (1, .inl (.int s)), (2, .inl (.int ti)), (3, .inl (.int tf)), (4, .inl (.int 1))]) (st' := []) ⟨dX6_goOn_126, trivial⟩ rfl rfl ?_
              refine wx_goto (tgt := 38) dX6_goOn_129 (by decide) ?_
              rw [B_X6_goOn1_38, if_neg h_3, if_pos h_5]
              rw [nI_1 i]
              refine wp_sub [0, 2, 3, 4, 5, 6, 7] (L' := [(6, .inl (.int (nI (i + 1)))), (5, .inl (.int dy)), (0, .inr (7, some 0)), (1, .inl (.int s)), (2, .inl (.int ti)), (3, .inl (.int tf)), (4, .inl (.int 1))]) rfl ?_
              exact ih38 _ _ Sr38 (cy_nlt hii h_3).2 (by have := (cy_nlt hii h_3).2; omega)
            · refine wp_run [(.aload 7, 2), (.iload 5, 2), (.iconst 0, 1)] (pc' := 85) (L' := [(7, .inr (8, some i)), (6, .inl (.int (nI i))), (5, .inl (.int dy)), (0, .inr (7, some 0)), (1, .inl (.int s)), (2, .inl (.int ti)), (3, .inl (.int tf)), (4, .inl (.int 1))]) (st' := [.inl (.int 0), .inl (.int dy), .inr (8, some i)]) ⟨dX6_goOn_80, dX6_goOn_82, dX6_goOn_84, trivial⟩ rfl rfl ?_
              refine wx_virtualD (M := M_X6_goOn) (uc := 0) (us := 0) (s := 8) (i := i) (As := [.inl (.int dy), .inl (.int 0)]) (rest := []) cls_8 rfl (ok_X7_leaves _ _) ml_X6_62 im_X7_leaves se_X7_leaves (by omega) (c_X7_leaves (d := d - 1) (h := h38) (by omega) (W.sr Sr38) (Sr38.lt (Sr38.tl hl_4)) dy 0) rfl rfl (Nat.le_of_ble_eq_true rfl) dX6_goOn_85 ?_
              refine wp_run [(.aload_n 0, 1)] (pc' := 89) (L' := [(7, .inr (8, some i)), (6, .inl (.int (nI i))), (5, .inl (.int dy)), (0, .inr (7, some 0)), (1, .inl (.int s)), (2, .inl (.int ti)), (3, .inl (.int tf)), (4, .inl (.int 1))]) (st' := [.inr (7, some 0), .inl (.int (F_X7_leaves h38 i dy 0))]) ⟨dX6_goOn_88, trivial⟩ rfl rfl ?_
              refine wx_getI cls_7 (k := 4) (f := 704) (by decide) rfl rfl fl_X6_33 dX6_goOn_89 ?_
              refine wx_icmp_ge (tgt := 126) dX6_goOn_92 (by decide) (fun h_6 => ?_) (fun h_6 => ?_)
              · refine wp_run [(.iinc 6 1, 3)] (pc' := 129) (L' := [(6, .inl (.int ((nI i) + 1))), (7, .inr (8, some i)), (5, .inl (.int dy)), (0, .inr (7, some 0)), (1, .inl (.int s)), (2, .inl (.int ti)), (3, .inl (.int tf)), (4, .inl (.int 1))]) (st' := []) ⟨dX6_goOn_126, trivial⟩ rfl rfl ?_
                refine wx_goto (tgt := 38) dX6_goOn_129 (by decide) ?_
                rw [B_X6_goOn1_38, if_neg h_3, if_neg h_5, if_pos h_6]
                rw [nI_1 i]
                refine wp_sub [0, 2, 3, 4, 5, 6, 7] (L' := [(6, .inl (.int (nI (i + 1)))), (5, .inl (.int dy)), (0, .inr (7, some 0)), (1, .inl (.int s)), (2, .inl (.int ti)), (3, .inl (.int tf)), (4, .inl (.int 1))]) rfl ?_
                exact ih38 _ _ Sr38 (cy_nlt hii h_3).2 (by have := (cy_nlt hii h_3).2; omega)
              · refine wp_run [(.aload 7, 2), (.iload 5, 2), (.aload 7, 2)] (pc' := 101) (L' := [(7, .inr (8, some i)), (6, .inl (.int (nI i))), (5, .inl (.int dy)), (0, .inr (7, some 0)), (1, .inl (.int s)), (2, .inl (.int ti)), (3, .inl (.int tf)), (4, .inl (.int 1))]) (st' := [.inr (8, some i), .inl (.int dy), .inr (8, some i)]) ⟨dX6_goOn_95, dX6_goOn_97, dX6_goOn_99, trivial⟩ rfl rfl ?_
                refine wx_getI cls_8 (k := 10) (f := 810) (by decide) rfl rfl fl_X6_66 dX6_goOn_101 ?_
                refine wp_run [(.iconst 1, 1), (.isub, 1)] (pc' := 106) (L' := [(7, .inr (8, some i)), (6, .inl (.int (nI i))), (5, .inl (.int dy)), (0, .inr (7, some 0)), (1, .inl (.int s)), (2, .inl (.int ti)), (3, .inl (.int tf)), (4, .inl (.int 1))]) (st' := [.inl (.int ((xFI h38 810 i) - 1)), .inl (.int dy), .inr (8, some i)]) ⟨dX6_goOn_104, dX6_goOn_105, trivial⟩ rfl rfl ?_
                refine wx_virtualD (M := M_X6_goOn) (uc := 0) (us := 0) (s := 8) (i := i) (As := [.inl (.int dy), .inl (.int ((xFI h38 810 i) - 1))]) (rest := []) cls_8 rfl (ok_X7_reaches _ _) ml_X6_68 im_X7_reaches se_X7_reaches (by omega) (c_X7_reaches (d := d - 1) (h := h38) (by omega) (W.sr Sr38) (Sr38.lt (Sr38.tl hl_4)) dy ((xFI h38 810 i) - 1)) rfl rfl (Nat.le_of_ble_eq_true rfl) dX6_goOn_106 ?_
                refine wp_run [(.iload_n 2, 1)] (pc' := 110) (L' := [(7, .inr (8, some i)), (6, .inl (.int (nI i))), (5, .inl (.int dy)), (0, .inr (7, some 0)), (1, .inl (.int s)), (2, .inl (.int ti)), (3, .inl (.int tf)), (4, .inl (.int 1))]) (st' := [.inl (.int ti), .inl (.int (F_X7_reaches h38 i dy ((xFI h38 810 i) - 1)))]) ⟨dX6_goOn_109, trivial⟩ rfl rfl ?_
                refine wx_icmp_le (tgt := 126) dX6_goOn_110 (by decide) (fun h_7 => ?_) (fun h_7 => ?_)
                · refine wp_run [(.iinc 6 1, 3)] (pc' := 129) (L' := [(6, .inl (.int ((nI i) + 1))), (7, .inr (8, some i)), (5, .inl (.int dy)), (0, .inr (7, some 0)), (1, .inl (.int s)), (2, .inl (.int ti)), (3, .inl (.int tf)), (4, .inl (.int 1))]) (st' := []) ⟨dX6_goOn_126, trivial⟩ rfl rfl ?_
                  refine wx_goto (tgt := 38) dX6_goOn_129 (by decide) ?_
                  rw [B_X6_goOn1_38, if_neg h_3, if_neg h_5, if_neg h_6, if_pos h_7]
                  rw [nI_1 i]
                  refine wp_sub [0, 2, 3, 4, 5, 6, 7] (L' := [(6, .inl (.int (nI (i + 1)))), (5, .inl (.int dy)), (0, .inr (7, some 0)), (1, .inl (.int s)), (2, .inl (.int ti)), (3, .inl (.int tf)), (4, .inl (.int 1))]) rfl ?_
                  exact ih38 _ _ Sr38 (cy_nlt hii h_3).2 (by have := (cy_nlt hii h_3).2; omega)
                · refine wp_run [(.aload_n 0, 1), (.aload 7, 2), (.iload 5, 2), (.iload_n 1, 1), (.iload_n 2, 1), (.iload_n 3, 1), (.iload 4, 2)] (pc' := 123) (L' := [(7, .inr (8, some i)), (6, .inl (.int (nI i))), (5, .inl (.int dy)), (0, .inr (7, some 0)), (1, .inl (.int s)), (2, .inl (.int ti)), (3, .inl (.int tf)), (4, .inl (.int 1))]) (st' := [.inl (.int 1), .inl (.int tf), .inl (.int ti), .inl (.int s), .inl (.int dy), .inr (8, some i), .inr (7, some 0)]) ⟨dX6_goOn_113, dX6_goOn_114, dX6_goOn_116, dX6_goOn_118, dX6_goOn_119, dX6_goOn_120, dX6_goOn_121, trivial⟩ rfl rfl ?_
                  refine wx_virtualDP (M := M_X6_goOn) (uc := 0) (us := 0) (s := 7) (i := 0) (As := [.inr (8, some i), .inl (.int dy), .inl (.int s), .inl (.int ti), .inl (.int tf), .inl (.int 1)]) (rest := []) cls_7 rfl (ok_X6_tryRun _ _) ml_X6_71 im_X6_tryRun se_X6_tryRun (by omega) (c_X6_tryRun1 (d := d - 1) (h := h38) (by omega) (W.sr Sr38) (Sr38.lt (Sr38.tl hl_4)) dy s ti tf) rfl rfl (Nat.le_of_ble_eq_true rfl) dX6_goOn_123 (fun hS_8 => ?_)
                  refine wp_run [(.iinc 6 1, 3)] (pc' := 129) (L' := [(6, .inl (.int ((nI i) + 1))), (7, .inr (8, some i)), (5, .inl (.int dy)), (0, .inr (7, some 0)), (1, .inl (.int s)), (2, .inl (.int ti)), (3, .inl (.int tf)), (4, .inl (.int 1))]) (st' := []) ⟨dX6_goOn_126, trivial⟩ rfl rfl ?_
                  refine wx_goto (tgt := 38) dX6_goOn_129 (by decide) ?_
                  rw [B_X6_goOn1_38, if_neg h_3, if_neg h_5, if_neg h_6, if_neg h_7]
                  rw [nI_1 i]
                  refine wp_sub [0, 2, 3, 4, 5, 6, 7] (L' := [(6, .inl (.int (nI (i + 1)))), (5, .inl (.int dy)), (0, .inr (7, some 0)), (1, .inl (.int s)), (2, .inl (.int ti)), (3, .inl (.int tf)), (4, .inl (.int 1))]) rfl ?_
                  exact ih38 _ _ (Sr38.trans hS_8) (cy_nlt hii h_3).2 (by have := (cy_nlt hii h_3).2; omega)
def F_X6_leaveAt1 (h : Hp) (s : Int32) (ti : Int32) : Hp := (if (xFI h 704 0) ≤ ti then h else F_X6_goOn1 h s ti (F_X3_transferAt h s))
set_option maxRecDepth 20000 in
theorem c_X6_leaveAt1 {g : GT} {d : Nat} (hd : 8 ≤ d) {h : Hp} (W : CW h) (s : Int32) (ti : Int32)  : Ctr g M_X6_leaveAt d 0 0 [.inr (7, some 0), .inl (.int s), .inl (.int ti), .inl (.int 1)] h (cy_detP (.inl none) (F_X6_leaveAt1 h s ti) (SR h (F_X6_leaveAt1 h s ti))) := by
  refine cy_body rfl rfl (by decide) (Nat.le_of_ble_eq_true rfl) ?_
  refine wp_run [(.iload_n 3, 1)] (pc' := 1) (L' := [(0, .inr (7, some 0)), (1, .inl (.int s)), (2, .inl (.int ti)), (3, .inl (.int 1))]) (st' := [.inl (.int 1)]) ⟨dX6_leaveAt_0, trivial⟩ rfl rfl ?_
  refine wx_if_le (tgt := 28) dX6_leaveAt_1 (by decide) (fun h => absurd h (by decide)) (fun _ => ?_)
  refine wp_run [(.iload_n 2, 1), (.aload_n 0, 1)] (pc' := 6) (L' := [(0, .inr (7, some 0)), (1, .inl (.int s)), (2, .inl (.int ti)), (3, .inl (.int 1))]) (st' := [.inr (7, some 0), .inl (.int ti)]) ⟨dX6_leaveAt_4, dX6_leaveAt_5, trivial⟩ rfl rfl ?_
  refine wx_getI cls_7 (k := 4) (f := 704) (by decide) rfl rfl fl_X6_33 dX6_leaveAt_6 ?_
  refine wx_icmp_ge (tgt := 27) dX6_leaveAt_9 (by decide) (fun h_1 => ?_) (fun h_1 => ?_)
  · exact wx_vret rfl rfl dX6_leaveAt_27 (by rw [F_X6_leaveAt1, if_pos h_1]; exact ⟨SR.rf, rfl, rfl⟩)
  · refine wp_run [(.aload_n 0, 1), (.iload_n 1, 1), (.iload_n 2, 1), (.aload_n 0, 1)] (pc' := 16) (L' := [(0, .inr (7, some 0)), (1, .inl (.int s)), (2, .inl (.int ti)), (3, .inl (.int 1))]) (st' := [.inr (7, some 0), .inl (.int ti), .inl (.int s), .inr (7, some 0)]) ⟨dX6_leaveAt_12, dX6_leaveAt_13, dX6_leaveAt_14, dX6_leaveAt_15, trivial⟩ rfl rfl ?_
    refine wx_getR cls_7 (k := 0) (f := 700) (t := 4) (o := some 0) (by decide) rfl rfl fl_X6_9 (W.fr (f := 700) (by decide)) dX6_leaveAt_16 ?_
    refine wp_run [(.iload_n 1, 1)] (pc' := 20) (L' := [(0, .inr (7, some 0)), (1, .inl (.int s)), (2, .inl (.int ti)), (3, .inl (.int 1))]) (st' := [.inl (.int s), .inr (4, some 0), .inl (.int ti), .inl (.int s), .inr (7, some 0)]) ⟨dX6_leaveAt_19, trivial⟩ rfl rfl ?_
    refine wx_virtualD (M := M_X6_leaveAt) (uc := 0) (us := 0) (s := 4) (i := 0) (As := [.inl (.int s)]) (rest := [.inl (.int ti), .inl (.int s), .inr (7, some 0)]) cls_4 rfl (ok_X3_transferAt _ _) ml_X6_85 im_X3_transferAt se_X3_transferAt (by omega) (c_X3_transferAt (d := d - 1) (h := h) (by omega) W s) rfl rfl (Nat.le_of_ble_eq_true rfl) dX6_leaveAt_20 ?_
    refine wp_run [(.iload_n 3, 1)] (pc' := 24) (L' := [(0, .inr (7, some 0)), (1, .inl (.int s)), (2, .inl (.int ti)), (3, .inl (.int 1))]) (st' := [.inl (.int 1), .inl (.int (F_X3_transferAt h s)), .inl (.int ti), .inl (.int s), .inr (7, some 0)]) ⟨dX6_leaveAt_23, trivial⟩ rfl rfl ?_
    refine wx_virtualDP (M := M_X6_leaveAt) (uc := 0) (us := 0) (s := 7) (i := 0) (As := [.inl (.int s), .inl (.int ti), .inl (.int (F_X3_transferAt h s)), .inl (.int 1)]) (rest := []) cls_7 rfl (ok_X6_goOn _ _) ml_X6_36 im_X6_goOn se_X6_goOn (by omega) (c_X6_goOn1 (d := d - 1) (h := h) (by omega) W s ti (F_X3_transferAt h s)) rfl rfl (Nat.le_of_ble_eq_true rfl) dX6_leaveAt_24 (fun hS_2 => ?_)
    exact wx_vret rfl rfl dX6_leaveAt_27 (by rw [F_X6_leaveAt1, if_neg h_1]; exact ⟨hS_2, rfl, rfl⟩)
def B_X6_tryRun2_6 (h : Hp) (t : Nat) (dy : Int32) (s : Int32) (ti : Int32) (tf : Int32) (rec6 : Hp → Int32 → Nat → Hp) (h6 : Hp) (ab : Int32) (p : Nat) : Hp := (if (xFI h6 810 t) ≤ (nI p) then h6 else (if ab = 0 then (rec6 h6 (if (if (F_X7_stopAt h6 t (nI p)) = s then tf else (F_X3_walk h6 s (F_X7_stopAt h6 t (nI p)))) = (-1) then 0 else (if (F_X7_leaves h6 t dy (nI p)) < (ti + (if (F_X7_stopAt h6 t (nI p)) = s then tf else (F_X3_walk h6 s (F_X7_stopAt h6 t (nI p))))) then 0 else 1)) (p + 1)) else (rec6 (F_X6_leaveAt1 h6 (F_X7_stopAt h6 t (nI p)) (F_X7_reaches h6 t dy (nI p))) ab (p + 1))))
def L_X6_tryRun2_6 (h : Hp) (t : Nat) (dy : Int32) (s : Int32) (ti : Int32) (tf : Int32) : Nat → Hp → Int32 → Nat → Hp
  | 0 => fun h6 ab p => h6
  | fu + 1 => B_X6_tryRun2_6 h t dy s ti tf (L_X6_tryRun2_6 h t dy s ti tf fu)
theorem L_X6_tryRun2_6_s (h : Hp) (t : Nat) (dy : Int32) (s : Int32) (ti : Int32) (tf : Int32) (fu : Nat) (h6 : Hp) (ab : Int32) (p : Nat) : L_X6_tryRun2_6 h t dy s ti tf (fu + 1) h6 ab p = B_X6_tryRun2_6 h t dy s ti tf (L_X6_tryRun2_6 h t dy s ti tf fu) h6 ab p := rfl
def F_X6_tryRun2 (h : Hp) (t : Nat) (dy : Int32) (s : Int32) (ti : Int32) (tf : Int32) : Hp := L_X6_tryRun2_6 h t dy s ti tf (2147483648 - 0 + 1) h 0 0
set_option maxRecDepth 20000 in
theorem c_X6_tryRun2 {g : GT} {d : Nat} (hd : 9 ≤ d) {h : Hp} (W : CW h) {t : Nat} (ht : t < xLS h 11) (dy : Int32) (s : Int32) (ti : Int32) (tf : Int32)  : Ctr g M_X6_tryRun d 0 0 [.inr (7, some 0), .inr (8, some t), .inl (.int dy), .inl (.int s), .inl (.int ti), .inl (.int tf), .inl (.int 2)] h (cy_detP (.inl none) (F_X6_tryRun2 h t dy s ti tf) (SR h (F_X6_tryRun2 h t dy s ti tf))) := by
  refine cy_body rfl rfl (by decide) (Nat.le_of_ble_eq_true rfl) ?_
  refine wp_run [(.iconst 0, 1), (.istore 7, 2), (.iconst 0, 1), (.istore 8, 2)] (pc' := 6) (L' := [(8, .inl (.int 0)), (7, .inl (.int 0)), (0, .inr (7, some 0)), (1, .inr (8, some t)), (2, .inl (.int dy)), (3, .inl (.int s)), (4, .inl (.int ti)), (5, .inl (.int tf)), (6, .inl (.int 2))]) (st' := []) ⟨dX6_tryRun_0, dX6_tryRun_1, dX6_tryRun_3, dX6_tryRun_4, trivial⟩ rfl rfl ?_
  rw [F_X6_tryRun2]
  refine wp_sub [0, 1, 2, 3, 4, 5, 6, 7, 8] (L' := [(8, .inl (.int 0)), (7, .inl (.int 0)), (0, .inr (7, some 0)), (1, .inr (8, some t)), (2, .inl (.int dy)), (3, .inl (.int s)), (4, .inl (.int ti)), (5, .inl (.int tf)), (6, .inl (.int 2))]) rfl ?_
  suffices Y6 : ∀ (n6 : Nat) (h6 : Hp) (ab : Int32) (p : Nat) (Sr6 : SR h h6) (hip : p < 2147483648) (hm6 : 2147483648 - p < n6), WP g M_X6_tryRun d 0 0 6 [(8, .inl (.int (nI p))), (7, .inl (.int ab)), (0, .inr (7, some 0)), (1, .inr (8, some t)), (2, .inl (.int dy)), (3, .inl (.int s)), (4, .inl (.int ti)), (5, .inl (.int tf)), (6, .inl (.int 2))] [] h6 (cy_detP (.inl none) (L_X6_tryRun2_6 h t dy s ti tf n6 h6 ab p) (SR h (L_X6_tryRun2_6 h t dy s ti tf n6 h6 ab p))) from
    Y6 (2147483648 - 0 + 1) h 0 0 SR.rf (by decide) (Nat.lt_succ_self _)
  intro n6
  induction n6 with
  | zero => intro h6 ab p Sr6 hip hm6; exact absurd hm6 (Nat.not_lt_zero _)
  | succ n6 ih6 =>
    intro h6 ab p Sr6 hip hm6
    rw [L_X6_tryRun2_6_s]
    generalize L_X6_tryRun2_6 h t dy s ti tf n6 = rec6 at ih6 ⊢
    refine wp_run [(.iload 8, 2), (.aload_n 1, 1)] (pc' := 9) (L' := [(8, .inl (.int (nI p))), (7, .inl (.int ab)), (0, .inr (7, some 0)), (1, .inr (8, some t)), (2, .inl (.int dy)), (3, .inl (.int s)), (4, .inl (.int ti)), (5, .inl (.int tf)), (6, .inl (.int 2))]) (st' := [.inr (8, some t), .inl (.int (nI p))]) ⟨dX6_tryRun_6, dX6_tryRun_8, trivial⟩ rfl rfl ?_
    refine wx_getI cls_8 (k := 10) (f := 810) (by decide) rfl rfl fl_X6_66 dX6_tryRun_9 ?_
    refine wx_icmp_ge (tgt := 105) dX6_tryRun_12 (by decide) (fun h_1 => ?_) (fun h_1 => ?_)
    · exact wx_vret rfl rfl dX6_tryRun_105 (by rw [B_X6_tryRun2_6, if_pos h_1]; exact ⟨Sr6, rfl, rfl⟩)
    · refine wp_run [(.aload_n 1, 1), (.iload 8, 2)] (pc' := 18) (L' := [(8, .inl (.int (nI p))), (7, .inl (.int ab)), (0, .inr (7, some 0)), (1, .inr (8, some t)), (2, .inl (.int dy)), (3, .inl (.int s)), (4, .inl (.int ti)), (5, .inl (.int tf)), (6, .inl (.int 2))]) (st' := [.inl (.int (nI p)), .inr (8, some t)]) ⟨dX6_tryRun_15, dX6_tryRun_16, trivial⟩ rfl rfl ?_
      refine wx_virtualD (M := M_X6_tryRun) (uc := 0) (us := 0) (s := 8) (i := t) (As := [.inl (.int (nI p))]) (rest := []) cls_8 rfl (ok_X7_stopAt _ _) ml_X6_75 im_X7_stopAt se_X7_stopAt (by omega) (c_X7_stopAt (d := d - 1) (h := h6) (by omega) (W.sr Sr6) (Sr6.lt ht) (nI p)) rfl rfl (Nat.le_of_ble_eq_true rfl) dX6_tryRun_18 ?_
      refine wp_run [(.istore 9, 2), (.iload 7, 2)] (pc' := 25) (L' := [(9, .inl (.int (F_X7_stopAt h6 t (nI p)))), (8, .inl (.int (nI p))), (7, .inl (.int ab)), (0, .inr (7, some 0)), (1, .inr (8, some t)), (2, .inl (.int dy)), (3, .inl (.int s)), (4, .inl (.int ti)), (5, .inl (.int tf)), (6, .inl (.int 2))]) (st' := [.inl (.int ab)]) ⟨dX6_tryRun_21, dX6_tryRun_23, trivial⟩ rfl rfl ?_
      refine wx_if_eq (tgt := 48) dX6_tryRun_25 (by decide) (fun h_2 => ?_) (fun h_2 => ?_)
      · refine wp_run [(.iload 9, 2), (.iload_n 3, 1)] (pc' := 51) (L' := [(9, .inl (.int (F_X7_stopAt h6 t (nI p)))), (8, .inl (.int (nI p))), (7, .inl (.int ab)), (0, .inr (7, some 0)), (1, .inr (8, some t)), (2, .inl (.int dy)), (3, .inl (.int s)), (4, .inl (.int ti)), (5, .inl (.int tf)), (6, .inl (.int 2))]) (st' := [.inl (.int s), .inl (.int (F_X7_stopAt h6 t (nI p)))]) ⟨dX6_tryRun_48, dX6_tryRun_50, trivial⟩ rfl rfl ?_
        refine wp_by (uc' := 0) (us' := 0) (pc' := 69) (L' := [(9, .inl (.int (F_X7_stopAt h6 t (nI p)))), (8, .inl (.int (nI p))), (7, .inl (.int ab)), (0, .inr (7, some 0)), (1, .inr (8, some t)), (2, .inl (.int dy)), (3, .inl (.int s)), (4, .inl (.int ti)), (5, .inl (.int tf)), (6, .inl (.int 2))]) (st' := [.inl (.int (if (F_X7_stopAt h6 t (nI p)) = s then tf else (F_X3_walk h6 s (F_X7_stopAt h6 t (nI p)))))]) (h' := h6) (fun J_3 => ?_) ?_
        · refine wx_icmp_ne (tgt := 59) dX6_tryRun_51 (by decide) (fun h_4 => ?_) (fun h_4 => ?_)
          · refine wp_run [(.aload_n 0, 1)] (pc' := 60) (L' := [(9, .inl (.int (F_X7_stopAt h6 t (nI p)))), (8, .inl (.int (nI p))), (7, .inl (.int ab)), (0, .inr (7, some 0)), (1, .inr (8, some t)), (2, .inl (.int dy)), (3, .inl (.int s)), (4, .inl (.int ti)), (5, .inl (.int tf)), (6, .inl (.int 2))]) (st' := [.inr (7, some 0)]) ⟨dX6_tryRun_59, trivial⟩ rfl rfl ?_
            refine wx_getR cls_7 (k := 0) (f := 700) (t := 4) (o := some 0) (by decide) rfl rfl fl_X6_9 ((W.sr Sr6).fr (f := 700) (by decide)) dX6_tryRun_60 ?_
            refine wp_run [(.iload_n 3, 1), (.iload 9, 2)] (pc' := 66) (L' := [(9, .inl (.int (F_X7_stopAt h6 t (nI p)))), (8, .inl (.int (nI p))), (7, .inl (.int ab)), (0, .inr (7, some 0)), (1, .inr (8, some t)), (2, .inl (.int dy)), (3, .inl (.int s)), (4, .inl (.int ti)), (5, .inl (.int tf)), (6, .inl (.int 2))]) (st' := [.inl (.int (F_X7_stopAt h6 t (nI p))), .inl (.int s), .inr (4, some 0)]) ⟨dX6_tryRun_63, dX6_tryRun_64, trivial⟩ rfl rfl ?_
            refine wx_virtualD (M := M_X6_tryRun) (uc := 0) (us := 0) (s := 4) (i := 0) (As := [.inl (.int s), .inl (.int (F_X7_stopAt h6 t (nI p)))]) (rest := []) cls_4 rfl (ok_X3_walk _ _) ml_X6_82 im_X3_walk se_X3_walk (by omega) (c_X3_walk (d := d - 1) (h := h6) (by omega) (W.sr Sr6) s (F_X7_stopAt h6 t (nI p))) rfl rfl (Nat.le_of_ble_eq_true rfl) dX6_tryRun_66 ?_
            refine wp_sub [0, 1, 2, 3, 4, 5, 6, 7, 8, 9] (L' := [(9, .inl (.int (F_X7_stopAt h6 t (nI p)))), (8, .inl (.int (nI p))), (7, .inl (.int ab)), (0, .inr (7, some 0)), (1, .inr (8, some t)), (2, .inl (.int dy)), (3, .inl (.int s)), (4, .inl (.int ti)), (5, .inl (.int tf)), (6, .inl (.int 2))]) rfl ?_
            simp only [if_neg h_4] at J_3
            exact J_3
          · refine wp_run [(.iload 5, 2)] (pc' := 56) (L' := [(9, .inl (.int (F_X7_stopAt h6 t (nI p)))), (8, .inl (.int (nI p))), (7, .inl (.int ab)), (0, .inr (7, some 0)), (1, .inr (8, some t)), (2, .inl (.int dy)), (3, .inl (.int s)), (4, .inl (.int ti)), (5, .inl (.int tf)), (6, .inl (.int 2))]) (st' := [.inl (.int tf)]) ⟨dX6_tryRun_54, trivial⟩ rfl rfl ?_
            refine wx_goto (tgt := 69) dX6_tryRun_56 (by decide) ?_
            refine wp_sub [0, 1, 2, 3, 4, 5, 6, 7, 8, 9] (L' := [(9, .inl (.int (F_X7_stopAt h6 t (nI p)))), (8, .inl (.int (nI p))), (7, .inl (.int ab)), (0, .inr (7, some 0)), (1, .inr (8, some t)), (2, .inl (.int dy)), (3, .inl (.int s)), (4, .inl (.int ti)), (5, .inl (.int tf)), (6, .inl (.int 2))]) rfl ?_
            simp only [if_pos h_4] at J_3
            exact J_3
        refine wp_run [(.istore 10, 2), (.iload 10, 2), (.iconst (-1), 1)] (pc' := 74) (L' := [(10, .inl (.int (if (F_X7_stopAt h6 t (nI p)) = s then tf else (F_X3_walk h6 s (F_X7_stopAt h6 t (nI p)))))), (9, .inl (.int (F_X7_stopAt h6 t (nI p)))), (8, .inl (.int (nI p))), (7, .inl (.int ab)), (0, .inr (7, some 0)), (1, .inr (8, some t)), (2, .inl (.int dy)), (3, .inl (.int s)), (4, .inl (.int ti)), (5, .inl (.int tf)), (6, .inl (.int 2))]) (st' := [.inl (.int (-1)), .inl (.int (if (F_X7_stopAt h6 t (nI p)) = s then tf else (F_X3_walk h6 s (F_X7_stopAt h6 t (nI p)))))]) ⟨dX6_tryRun_69, dX6_tryRun_71, dX6_tryRun_73, trivial⟩ rfl rfl ?_
        refine wp_by (uc' := 0) (us' := 0) (pc' := 97) (L' := [(10, .inl (.int (if (F_X7_stopAt h6 t (nI p)) = s then tf else (F_X3_walk h6 s (F_X7_stopAt h6 t (nI p)))))), (9, .inl (.int (F_X7_stopAt h6 t (nI p)))), (8, .inl (.int (nI p))), (7, .inl (.int ab)), (0, .inr (7, some 0)), (1, .inr (8, some t)), (2, .inl (.int dy)), (3, .inl (.int s)), (4, .inl (.int ti)), (5, .inl (.int tf)), (6, .inl (.int 2))]) (st' := [.inl (.int (if (if (F_X7_stopAt h6 t (nI p)) = s then tf else (F_X3_walk h6 s (F_X7_stopAt h6 t (nI p)))) = (-1) then 0 else (if (F_X7_leaves h6 t dy (nI p)) < (ti + (if (F_X7_stopAt h6 t (nI p)) = s then tf else (F_X3_walk h6 s (F_X7_stopAt h6 t (nI p))))) then 0 else 1)))]) (h' := h6) (fun J_5 => ?_) ?_
        · refine wx_icmp_eq (tgt := 96) dX6_tryRun_74 (by decide) (fun h_6 => ?_) (fun h_6 => ?_)
          · refine wp_run [(.iconst 0, 1)] (pc' := 97) (L' := [(10, .inl (.int (if (F_X7_stopAt h6 t (nI p)) = s then tf else (F_X3_walk h6 s (F_X7_stopAt h6 t (nI p)))))), (9, .inl (.int (F_X7_stopAt h6 t (nI p)))), (8, .inl (.int (nI p))), (7, .inl (.int ab)), (0, .inr (7, some 0)), (1, .inr (8, some t)), (2, .inl (.int dy)), (3, .inl (.int s)), (4, .inl (.int ti)), (5, .inl (.int tf)), (6, .inl (.int 2))]) (st' := [.inl (.int 0)]) ⟨dX6_tryRun_96, trivial⟩ rfl rfl ?_
            refine wp_sub [0, 1, 2, 3, 4, 5, 6, 7, 8, 9, 10] (L' := [(10, .inl (.int (if (F_X7_stopAt h6 t (nI p)) = s then tf else (F_X3_walk h6 s (F_X7_stopAt h6 t (nI p)))))), (9, .inl (.int (F_X7_stopAt h6 t (nI p)))), (8, .inl (.int (nI p))), (7, .inl (.int ab)), (0, .inr (7, some 0)), (1, .inr (8, some t)), (2, .inl (.int dy)), (3, .inl (.int s)), (4, .inl (.int ti)), (5, .inl (.int tf)), (6, .inl (.int 2))]) rfl ?_
            simp only [if_pos h_6] at J_5
            exact J_5
          · refine wp_run [(.aload_n 1, 1), (.iload_n 2, 1), (.iload 8, 2)] (pc' := 81) (L' := [(10, .inl (.int (if (F_X7_stopAt h6 t (nI p)) = s then tf else (F_X3_walk h6 s (F_X7_stopAt h6 t (nI p)))))), (9, .inl (.int (F_X7_stopAt h6 t (nI p)))), (8, .inl (.int (nI p))), (7, .inl (.int ab)), (0, .inr (7, some 0)), (1, .inr (8, some t)), (2, .inl (.int dy)), (3, .inl (.int s)), (4, .inl (.int ti)), (5, .inl (.int tf)), (6, .inl (.int 2))]) (st' := [.inl (.int (nI p)), .inl (.int dy), .inr (8, some t)]) ⟨dX6_tryRun_77, dX6_tryRun_78, dX6_tryRun_79, trivial⟩ rfl rfl ?_
            refine wx_virtualD (M := M_X6_tryRun) (uc := 0) (us := 0) (s := 8) (i := t) (As := [.inl (.int dy), .inl (.int (nI p))]) (rest := []) cls_8 rfl (ok_X7_leaves _ _) ml_X6_62 im_X7_leaves se_X7_leaves (by omega) (c_X7_leaves (d := d - 1) (h := h6) (by omega) (W.sr Sr6) (Sr6.lt ht) dy (nI p)) rfl rfl (Nat.le_of_ble_eq_true rfl) dX6_tryRun_81 ?_
            refine wp_run [(.iload 4, 2), (.iload 10, 2), (.iadd, 1)] (pc' := 89) (L' := [(10, .inl (.int (if (F_X7_stopAt h6 t (nI p)) = s then tf else (F_X3_walk h6 s (F_X7_stopAt h6 t (nI p)))))), (9, .inl (.int (F_X7_stopAt h6 t (nI p)))), (8, .inl (.int (nI p))), (7, .inl (.int ab)), (0, .inr (7, some 0)), (1, .inr (8, some t)), (2, .inl (.int dy)), (3, .inl (.int s)), (4, .inl (.int ti)), (5, .inl (.int tf)), (6, .inl (.int 2))]) (st' := [.inl (.int (ti + (if (F_X7_stopAt h6 t (nI p)) = s then tf else (F_X3_walk h6 s (F_X7_stopAt h6 t (nI p)))))), .inl (.int (F_X7_leaves h6 t dy (nI p)))]) ⟨dX6_tryRun_84, dX6_tryRun_86, dX6_tryRun_88, trivial⟩ rfl rfl ?_
            refine wx_icmp_lt (tgt := 96) dX6_tryRun_89 (by decide) (fun h_7 => ?_) (fun h_7 => ?_)
            · refine wp_run [(.iconst 0, 1)] (pc' := 97) (L' := [(10, .inl (.int (if (F_X7_stopAt h6 t (nI p)) = s then tf else (F_X3_walk h6 s (F_X7_stopAt h6 t (nI p)))))), (9, .inl (.int (F_X7_stopAt h6 t (nI p)))), (8, .inl (.int (nI p))), (7, .inl (.int ab)), (0, .inr (7, some 0)), (1, .inr (8, some t)), (2, .inl (.int dy)), (3, .inl (.int s)), (4, .inl (.int ti)), (5, .inl (.int tf)), (6, .inl (.int 2))]) (st' := [.inl (.int 0)]) ⟨dX6_tryRun_96, trivial⟩ rfl rfl ?_
              refine wp_sub [0, 1, 2, 3, 4, 5, 6, 7, 8, 9, 10] (L' := [(10, .inl (.int (if (F_X7_stopAt h6 t (nI p)) = s then tf else (F_X3_walk h6 s (F_X7_stopAt h6 t (nI p)))))), (9, .inl (.int (F_X7_stopAt h6 t (nI p)))), (8, .inl (.int (nI p))), (7, .inl (.int ab)), (0, .inr (7, some 0)), (1, .inr (8, some t)), (2, .inl (.int dy)), (3, .inl (.int s)), (4, .inl (.int ti)), (5, .inl (.int tf)), (6, .inl (.int 2))]) rfl ?_
              simp only [if_neg h_6] at J_5
              simp only [if_pos h_7] at J_5
              exact J_5
            · refine wp_run [(.iconst 1, 1)] (pc' := 93) (L' := [(10, .inl (.int (if (F_X7_stopAt h6 t (nI p)) = s then tf else (F_X3_walk h6 s (F_X7_stopAt h6 t (nI p)))))), (9, .inl (.int (F_X7_stopAt h6 t (nI p)))), (8, .inl (.int (nI p))), (7, .inl (.int ab)), (0, .inr (7, some 0)), (1, .inr (8, some t)), (2, .inl (.int dy)), (3, .inl (.int s)), (4, .inl (.int ti)), (5, .inl (.int tf)), (6, .inl (.int 2))]) (st' := [.inl (.int 1)]) ⟨dX6_tryRun_92, trivial⟩ rfl rfl ?_
              refine wx_goto (tgt := 97) dX6_tryRun_93 (by decide) ?_
              refine wp_sub [0, 1, 2, 3, 4, 5, 6, 7, 8, 9, 10] (L' := [(10, .inl (.int (if (F_X7_stopAt h6 t (nI p)) = s then tf else (F_X3_walk h6 s (F_X7_stopAt h6 t (nI p)))))), (9, .inl (.int (F_X7_stopAt h6 t (nI p)))), (8, .inl (.int (nI p))), (7, .inl (.int ab)), (0, .inr (7, some 0)), (1, .inr (8, some t)), (2, .inl (.int dy)), (3, .inl (.int s)), (4, .inl (.int ti)), (5, .inl (.int tf)), (6, .inl (.int 2))]) rfl ?_
              simp only [if_neg h_6] at J_5
              simp only [if_neg h_7] at J_5
              exact J_5
        refine wp_run [(.istore 7, 2), (.iinc 8 1, 3)] (pc' := 102) (L' := [(8, .inl (.int ((nI p) + 1))), (7, .inl (.int (if (if (F_X7_stopAt h6 t (nI p)) = s then tf else (F_X3_walk h6 s (F_X7_stopAt h6 t (nI p)))) = (-1) then 0 else (if (F_X7_leaves h6 t dy (nI p)) < (ti + (if (F_X7_stopAt h6 t (nI p)) = s then tf else (F_X3_walk h6 s (F_X7_stopAt h6 t (nI p))))) then 0 else 1)))), (10, .inl (.int (if (F_X7_stopAt h6 t (nI p)) = s then tf else (F_X3_walk h6 s (F_X7_stopAt h6 t (nI p)))))), (9, .inl (.int (F_X7_stopAt h6 t (nI p)))), (0, .inr (7, some 0)), (1, .inr (8, some t)), (2, .inl (.int dy)), (3, .inl (.int s)), (4, .inl (.int ti)), (5, .inl (.int tf)), (6, .inl (.int 2))]) (st' := []) ⟨dX6_tryRun_97, dX6_tryRun_99, trivial⟩ rfl rfl ?_
        refine wx_goto (tgt := 6) dX6_tryRun_102 (by decide) ?_
        rw [B_X6_tryRun2_6, if_neg h_1, if_pos h_2]
        rw [nI_1 p]
        refine wp_sub [0, 1, 4, 5, 6, 7, 8, 9, 10] (L' := [(8, .inl (.int (nI (p + 1)))), (7, .inl (.int (if (if (F_X7_stopAt h6 t (nI p)) = s then tf else (F_X3_walk h6 s (F_X7_stopAt h6 t (nI p)))) = (-1) then 0 else (if (F_X7_leaves h6 t dy (nI p)) < (ti + (if (F_X7_stopAt h6 t (nI p)) = s then tf else (F_X3_walk h6 s (F_X7_stopAt h6 t (nI p))))) then 0 else 1)))), (0, .inr (7, some 0)), (1, .inr (8, some t)), (2, .inl (.int dy)), (3, .inl (.int s)), (4, .inl (.int ti)), (5, .inl (.int tf)), (6, .inl (.int 2))]) rfl ?_
        exact ih6 _ _ _ Sr6 (cy_nlt hip h_1).2 (by have := (cy_nlt hip h_1).2; omega)
      · refine wp_run [(.aload_n 0, 1), (.iload 9, 2), (.aload_n 1, 1), (.iload_n 2, 1), (.iload 8, 2)] (pc' := 35) (L' := [(9, .inl (.int (F_X7_stopAt h6 t (nI p)))), (8, .inl (.int (nI p))), (7, .inl (.int ab)), (0, .inr (7, some 0)), (1, .inr (8, some t)), (2, .inl (.int dy)), (3, .inl (.int s)), (4, .inl (.int ti)), (5, .inl (.int tf)), (6, .inl (.int 2))]) (st' := [.inl (.int (nI p)), .inl (.int dy), .inr (8, some t), .inl (.int (F_X7_stopAt h6 t (nI p))), .inr (7, some 0)]) ⟨dX6_tryRun_28, dX6_tryRun_29, dX6_tryRun_31, dX6_tryRun_32, dX6_tryRun_33, trivial⟩ rfl rfl ?_
        refine wx_virtualD (M := M_X6_tryRun) (uc := 0) (us := 0) (s := 8) (i := t) (As := [.inl (.int dy), .inl (.int (nI p))]) (rest := [.inl (.int (F_X7_stopAt h6 t (nI p))), .inr (7, some 0)]) cls_8 rfl (ok_X7_reaches _ _) ml_X6_68 im_X7_reaches se_X7_reaches (by omega) (c_X7_reaches (d := d - 1) (h := h6) (by omega) (W.sr Sr6) (Sr6.lt ht) dy (nI p)) rfl rfl (Nat.le_of_ble_eq_true rfl) dX6_tryRun_35 ?_
        refine wp_run [(.iload 6, 2), (.iconst 1, 1), (.isub, 1)] (pc' := 42) (L' := [(9, .inl (.int (F_X7_stopAt h6 t (nI p)))), (8, .inl (.int (nI p))), (7, .inl (.int ab)), (0, .inr (7, some 0)), (1, .inr (8, some t)), (2, .inl (.int dy)), (3, .inl (.int s)), (4, .inl (.int ti)), (5, .inl (.int tf)), (6, .inl (.int 2))]) (st' := [.inl (.int 1), .inl (.int (F_X7_reaches h6 t dy (nI p))), .inl (.int (F_X7_stopAt h6 t (nI p))), .inr (7, some 0)]) ⟨dX6_tryRun_38, dX6_tryRun_40, dX6_tryRun_41, trivial⟩ rfl rfl ?_
        refine wx_virtualDP (M := M_X6_tryRun) (uc := 0) (us := 0) (s := 7) (i := 0) (As := [.inl (.int (F_X7_stopAt h6 t (nI p))), .inl (.int (F_X7_reaches h6 t dy (nI p))), .inl (.int 1)]) (rest := []) cls_7 rfl (ok_X6_leaveAt _ _) ml_X6_78 im_X6_leaveAt se_X6_leaveAt (by omega) (c_X6_leaveAt1 (d := d - 1) (h := h6) (by omega) (W.sr Sr6) (F_X7_stopAt h6 t (nI p)) (F_X7_reaches h6 t dy (nI p))) rfl rfl (Nat.le_of_ble_eq_true rfl) dX6_tryRun_42 (fun hS_8 => ?_)
        refine wx_goto (tgt := 99) dX6_tryRun_45 (by decide) ?_
        refine wp_run [(.iinc 8 1, 3)] (pc' := 102) (L' := [(8, .inl (.int ((nI p) + 1))), (9, .inl (.int (F_X7_stopAt h6 t (nI p)))), (7, .inl (.int ab)), (0, .inr (7, some 0)), (1, .inr (8, some t)), (2, .inl (.int dy)), (3, .inl (.int s)), (4, .inl (.int ti)), (5, .inl (.int tf)), (6, .inl (.int 2))]) (st' := []) ⟨dX6_tryRun_99, trivial⟩ rfl rfl ?_
        refine wx_goto (tgt := 6) dX6_tryRun_102 (by decide) ?_
        rw [B_X6_tryRun2_6, if_neg h_1, if_neg h_2]
        rw [nI_1 p]
        refine wp_sub [0, 2, 3, 4, 5, 6, 7, 8, 9] (L' := [(8, .inl (.int (nI (p + 1)))), (7, .inl (.int ab)), (0, .inr (7, some 0)), (1, .inr (8, some t)), (2, .inl (.int dy)), (3, .inl (.int s)), (4, .inl (.int ti)), (5, .inl (.int tf)), (6, .inl (.int 2))]) rfl ?_
        exact ih6 _ _ _ (Sr6.trans hS_8) (cy_nlt hip h_1).2 (by have := (cy_nlt hip h_1).2; omega)
def K_X6_goOn2_38 (h : Hp) (s : Int32) (ti : Int32) (tf : Int32) (h19 : Hp) (dy : Int32) (rec19 : Hp → Int32 → Hp) (h38 : Hp) (i : Nat) : Hp := (rec19 h38 (dy + 1))
def B_X6_goOn2_38 (h : Hp) (s : Int32) (ti : Int32) (tf : Int32) (h19 : Hp) (dy : Int32) (rec19 : Hp → Int32 → Hp) (kx : Hp → Nat → Hp) (rec38 : Hp → Nat → Hp) (h38 : Hp) (i : Nat) : Hp := (if (nI (xLS h38 11)) ≤ (nI i) then (kx h38 i) else (if (F_X7_goes h38 i dy) = 0 then (rec38 h38 (i + 1)) else (if (xFI h38 704 0) ≤ (F_X7_leaves h38 i dy 0) then (rec38 h38 (i + 1)) else (if (F_X7_reaches h38 i dy ((xFI h38 810 i) - 1)) ≤ ti then (rec38 h38 (i + 1)) else (rec38 (F_X6_tryRun2 h38 i dy s ti tf) (i + 1))))))
def L_X6_goOn2_38 (h : Hp) (s : Int32) (ti : Int32) (tf : Int32) (h19 : Hp) (dy : Int32) (rec19 : Hp → Int32 → Hp) (kx : Hp → Nat → Hp) : Nat → Hp → Nat → Hp
  | 0 => fun h38 i => h38
  | fu + 1 => B_X6_goOn2_38 h s ti tf h19 dy rec19 kx (L_X6_goOn2_38 h s ti tf h19 dy rec19 kx fu)
theorem L_X6_goOn2_38_s (h : Hp) (s : Int32) (ti : Int32) (tf : Int32) (h19 : Hp) (dy : Int32) (rec19 : Hp → Int32 → Hp) (kx : Hp → Nat → Hp) (fu : Nat) (h38 : Hp) (i : Nat) : L_X6_goOn2_38 h s ti tf h19 dy rec19 kx (fu + 1) h38 i = B_X6_goOn2_38 h s ti tf h19 dy rec19 kx (L_X6_goOn2_38 h s ti tf h19 dy rec19 kx fu) h38 i := rfl
def B_X6_goOn2_19 (h : Hp) (s : Int32) (ti : Int32) (tf : Int32) (rec19 : Hp → Int32 → Hp) (h19 : Hp) (dy : Int32) : Hp := (if (xFI h19 703 0) < dy then h19 else (if 100 ≤ dy then h19 else L_X6_goOn2_38 h s ti tf h19 dy rec19 (K_X6_goOn2_38 h s ti tf h19 dy rec19) (2147483648 - 0 + 1) h19 0))
def L_X6_goOn2_19 (h : Hp) (s : Int32) (ti : Int32) (tf : Int32) : Nat → Hp → Int32 → Hp
  | 0 => fun h19 dy => h19
  | fu + 1 => B_X6_goOn2_19 h s ti tf (L_X6_goOn2_19 h s ti tf fu)
theorem L_X6_goOn2_19_s (h : Hp) (s : Int32) (ti : Int32) (tf : Int32) (fu : Nat) (h19 : Hp) (dy : Int32) : L_X6_goOn2_19 h s ti tf (fu + 1) h19 dy = B_X6_goOn2_19 h s ti tf (L_X6_goOn2_19 h s ti tf fu) h19 dy := rfl
def F_X6_goOn2 (h : Hp) (s : Int32) (ti : Int32) (tf : Int32) : Hp := L_X6_goOn2_19 h s ti tf ((2147483647 - (xFI h 702 0).toInt).toNat + 1) h (xFI h 702 0)
set_option maxRecDepth 20000 in
theorem c_X6_goOn2 {g : GT} {d : Nat} (hd : 10 ≤ d) {h : Hp} (W : CW h) (s : Int32) (ti : Int32) (tf : Int32)  : Ctr g M_X6_goOn d 0 0 [.inr (7, some 0), .inl (.int s), .inl (.int ti), .inl (.int tf), .inl (.int 2)] h (cy_detP (.inl none) (F_X6_goOn2 h s ti tf) (SR h (F_X6_goOn2 h s ti tf))) := by
  refine cy_body rfl rfl (by decide) (Nat.le_of_ble_eq_true rfl) ?_
  refine wp_run [(.iload 4, 2), (.iconst 1, 1)] (pc' := 3) (L' := [(0, .inr (7, some 0)), (1, .inl (.int s)), (2, .inl (.int ti)), (3, .inl (.int tf)), (4, .inl (.int 2))]) (st' := [.inl (.int 1), .inl (.int 2)]) ⟨dX6_goOn_0, dX6_goOn_2, trivial⟩ rfl rfl ?_
  refine wx_icmp_lt (tgt := 12) dX6_goOn_3 (by decide) (fun h => absurd h (by decide)) (fun _ => ?_)
  refine wp_run [(.iload 4, 2), (.iconst 4, 1)] (pc' := 9) (L' := [(0, .inr (7, some 0)), (1, .inl (.int s)), (2, .inl (.int ti)), (3, .inl (.int tf)), (4, .inl (.int 2))]) (st' := [.inl (.int 4), .inl (.int 2)]) ⟨dX6_goOn_6, dX6_goOn_8, trivial⟩ rfl rfl ?_
  refine wx_icmp_le (tgt := 13) dX6_goOn_9 (by decide) (fun _ => ?_) (fun h => absurd h (by decide))
  refine wp_run [(.aload_n 0, 1)] (pc' := 14) (L' := [(0, .inr (7, some 0)), (1, .inl (.int s)), (2, .inl (.int ti)), (3, .inl (.int tf)), (4, .inl (.int 2))]) (st' := [.inr (7, some 0)]) ⟨dX6_goOn_13, trivial⟩ rfl rfl ?_
  refine wx_getI cls_7 (k := 2) (f := 702) (by decide) rfl rfl fl_X6_23 dX6_goOn_14 ?_
  refine wp_run [(.istore 5, 2)] (pc' := 19) (L' := [(5, .inl (.int (xFI h 702 0))), (0, .inr (7, some 0)), (1, .inl (.int s)), (2, .inl (.int ti)), (3, .inl (.int tf)), (4, .inl (.int 2))]) (st' := []) ⟨dX6_goOn_17, trivial⟩ rfl rfl ?_
  rw [F_X6_goOn2]
  refine wp_sub [0, 1, 2, 3, 4, 5] (L' := [(5, .inl (.int (xFI h 702 0))), (0, .inr (7, some 0)), (1, .inl (.int s)), (2, .inl (.int ti)), (3, .inl (.int tf)), (4, .inl (.int 2))]) rfl ?_
  suffices Y19 : ∀ (n19 : Nat) (h19 : Hp) (dy : Int32) (Sr19 : SR h h19) (hm19 : (2147483647 - dy.toInt).toNat < n19), WP g M_X6_goOn d 0 0 19 [(5, .inl (.int dy)), (0, .inr (7, some 0)), (1, .inl (.int s)), (2, .inl (.int ti)), (3, .inl (.int tf)), (4, .inl (.int 2))] [] h19 (cy_detP (.inl none) (L_X6_goOn2_19 h s ti tf n19 h19 dy) (SR h (L_X6_goOn2_19 h s ti tf n19 h19 dy))) from
    Y19 ((2147483647 - (xFI h 702 0).toInt).toNat + 1) h (xFI h 702 0) SR.rf (Nat.lt_succ_self _)
  intro n19
  induction n19 with
  | zero => intro h19 dy Sr19 hm19; exact absurd hm19 (Nat.not_lt_zero _)
  | succ n19 ih19 =>
    intro h19 dy Sr19 hm19
    rw [L_X6_goOn2_19_s]
    generalize L_X6_goOn2_19 h s ti tf n19 = rec19 at ih19 ⊢
    refine wp_run [(.iload 5, 2), (.aload_n 0, 1)] (pc' := 22) (L' := [(5, .inl (.int dy)), (0, .inr (7, some 0)), (1, .inl (.int s)), (2, .inl (.int ti)), (3, .inl (.int tf)), (4, .inl (.int 2))]) (st' := [.inr (7, some 0), .inl (.int dy)]) ⟨dX6_goOn_19, dX6_goOn_21, trivial⟩ rfl rfl ?_
    refine wx_getI cls_7 (k := 3) (f := 703) (by decide) rfl rfl fl_X6_29 dX6_goOn_22 ?_
    refine wx_icmp_gt (tgt := 138) dX6_goOn_25 (by decide) (fun h_1 => ?_) (fun h_1 => ?_)
    · exact wx_vret rfl rfl dX6_goOn_138 (by rw [B_X6_goOn2_19, if_pos h_1]; exact ⟨Sr19, rfl, rfl⟩)
    · refine wp_run [(.iload 5, 2), (.bipush 100, 2)] (pc' := 32) (L' := [(5, .inl (.int dy)), (0, .inr (7, some 0)), (1, .inl (.int s)), (2, .inl (.int ti)), (3, .inl (.int tf)), (4, .inl (.int 2))]) (st' := [.inl (.int 100), .inl (.int dy)]) ⟨dX6_goOn_28, dX6_goOn_30, trivial⟩ rfl rfl ?_
      refine wx_icmp_ge (tgt := 138) dX6_goOn_32 (by decide) (fun h_2 => ?_) (fun h_2 => ?_)
      · exact wx_vret rfl rfl dX6_goOn_138 (by rw [B_X6_goOn2_19, if_neg h_1, if_pos h_2]; exact ⟨Sr19, rfl, rfl⟩)
      · refine wp_run [(.iconst 0, 1), (.istore 6, 2)] (pc' := 38) (L' := [(6, .inl (.int 0)), (5, .inl (.int dy)), (0, .inr (7, some 0)), (1, .inl (.int s)), (2, .inl (.int ti)), (3, .inl (.int tf)), (4, .inl (.int 2))]) (st' := []) ⟨dX6_goOn_35, dX6_goOn_36, trivial⟩ rfl rfl ?_
        rw [B_X6_goOn2_19, if_neg h_1, if_neg h_2]
        refine wp_sub [0, 1, 2, 3, 4, 5, 6] (L' := [(6, .inl (.int 0)), (5, .inl (.int dy)), (0, .inr (7, some 0)), (1, .inl (.int s)), (2, .inl (.int ti)), (3, .inl (.int tf)), (4, .inl (.int 2))]) rfl ?_
        have X38 : ∀ (h38 : Hp) (i : Nat) (Sr38 : SR h h38) (hii : i < 2147483648) , WP g M_X6_goOn d 0 0 132 [(5, .inl (.int dy)), (0, .inr (7, some 0)), (1, .inl (.int s)), (2, .inl (.int ti)), (3, .inl (.int tf)), (4, .inl (.int 2))] [] h38 (cy_detP (.inl none) (K_X6_goOn2_38 h s ti tf h19 dy rec19 h38 i) (SR h (K_X6_goOn2_38 h s ti tf h19 dy rec19 h38 i))) := by
          intro h38 i Sr38 hii
          refine wp_run [(.iinc 5 1, 3)] (pc' := 135) (L' := [(5, .inl (.int (dy + 1))), (0, .inr (7, some 0)), (1, .inl (.int s)), (2, .inl (.int ti)), (3, .inl (.int tf)), (4, .inl (.int 2))]) (st' := []) ⟨dX6_goOn_132, trivial⟩ rfl rfl ?_
          refine wx_goto (tgt := 19) dX6_goOn_135 (by decide) ?_
          rw [K_X6_goOn2_38]
          refine wp_sub [0, 1, 2, 3, 4, 5] (L' := [(5, .inl (.int (dy + 1))), (0, .inr (7, some 0)), (1, .inl (.int s)), (2, .inl (.int ti)), (3, .inl (.int tf)), (4, .inl (.int 2))]) rfl ?_
          exact ih19 _ _ Sr38 (Nat.lt_of_lt_of_le (cy_up h_2) (Nat.le_of_lt_succ hm19))
        suffices Y38 : ∀ (n38 : Nat) (h38 : Hp) (i : Nat) (Sr38 : SR h h38) (hii : i < 2147483648) (hm38 : 2147483648 - i < n38), WP g M_X6_goOn d 0 0 38 [(6, .inl (.int (nI i))), (5, .inl (.int dy)), (0, .inr (7, some 0)), (1, .inl (.int s)), (2, .inl (.int ti)), (3, .inl (.int tf)), (4, .inl (.int 2))] [] h38 (cy_detP (.inl none) (L_X6_goOn2_38 h s ti tf h19 dy rec19 (K_X6_goOn2_38 h s ti tf h19 dy rec19) n38 h38 i) (SR h (L_X6_goOn2_38 h s ti tf h19 dy rec19 (K_X6_goOn2_38 h s ti tf h19 dy rec19) n38 h38 i))) from
          Y38 (2147483648 - 0 + 1) h19 0 Sr19 (by decide) (Nat.lt_succ_self _)
        intro n38
        induction n38 with
        | zero => intro h38 i Sr38 hii hm38; exact absurd hm38 (Nat.not_lt_zero _)
        | succ n38 ih38 =>
          intro h38 i Sr38 hii hm38
          rw [L_X6_goOn2_38_s]
          generalize L_X6_goOn2_38 h s ti tf h19 dy rec19 (K_X6_goOn2_38 h s ti tf h19 dy rec19) n38 = rec38 at ih38 ⊢
          refine wp_run [(.iload 6, 2), (.aload_n 0, 1)] (pc' := 41) (L' := [(6, .inl (.int (nI i))), (5, .inl (.int dy)), (0, .inr (7, some 0)), (1, .inl (.int s)), (2, .inl (.int ti)), (3, .inl (.int tf)), (4, .inl (.int 2))]) (st' := [.inr (7, some 0), .inl (.int (nI i))]) ⟨dX6_goOn_38, dX6_goOn_40, trivial⟩ rfl rfl ?_
          refine wx_getR cls_7 (k := 0) (f := 700) (t := 4) (o := some 0) (by decide) rfl rfl fl_X6_9 ((W.sr Sr38).fr (f := 700) (by decide)) dX6_goOn_41 ?_
          refine wx_getR cls_4 (k := 2) (f := 402) (t := 11) (o := some 0) (by decide) rfl rfl fl_X6_40 ((W.sr Sr38).fr (f := 402) (by decide)) dX6_goOn_44 ?_
          refine wx_virtualL (M := M_X6_goOn) (uc := 0) (us := 0) (s := 11) (i := 0) (As := []) (rest := [.inl (.int (nI i))]) rfl rfl (ok_Jx4a65c_size_8abf5 _ _) ml_X6_46 im_Jx4a65c_size_8abf5 se_Jx4a65c_size_8abf5 (by omega) (c_size (d := d - 1) (by omega) (s := 11) rfl) rfl rfl (Nat.le_of_ble_eq_true rfl) dX6_goOn_47 ?_
          refine wx_icmp_ge (tgt := 132) dX6_goOn_50 (by decide) (fun h_3 => ?_) (fun h_3 => ?_)
          · rw [B_X6_goOn2_38, if_pos h_3]
            refine wp_sub [1, 2, 3, 4, 5, 6] (L' := [(5, .inl (.int dy)), (0, .inr (7, some 0)), (1, .inl (.int s)), (2, .inl (.int ti)), (3, .inl (.int tf)), (4, .inl (.int 2))]) rfl ?_
            exact X38 _ _ Sr38 hii
          · refine wp_run [(.aload_n 0, 1)] (pc' := 54) (L' := [(6, .inl (.int (nI i))), (5, .inl (.int dy)), (0, .inr (7, some 0)), (1, .inl (.int s)), (2, .inl (.int ti)), (3, .inl (.int tf)), (4, .inl (.int 2))]) (st' := [.inr (7, some 0)]) ⟨dX6_goOn_53, trivial⟩ rfl rfl ?_
            refine wx_getR cls_7 (k := 0) (f := 700) (t := 4) (o := some 0) (by decide) rfl rfl fl_X6_9 ((W.sr Sr38).fr (f := 700) (by decide)) dX6_goOn_54 ?_
            refine wx_getR cls_4 (k := 2) (f := 402) (t := 11) (o := some 0) (by decide) rfl rfl fl_X6_40 ((W.sr Sr38).fr (f := 402) (by decide)) dX6_goOn_57 ?_
            refine wp_run [(.iload 6, 2)] (pc' := 62) (L' := [(6, .inl (.int (nI i))), (5, .inl (.int dy)), (0, .inr (7, some 0)), (1, .inl (.int s)), (2, .inl (.int ti)), (3, .inl (.int tf)), (4, .inl (.int 2))]) (st' := [.inl (.int (nI i)), .inr (11, some 0)]) ⟨dX6_goOn_60, trivial⟩ rfl rfl ?_
            have hl_4 := cy_get hii (Nat.le_trans (W.sr Sr38).t20 (Nat.le_of_ble_eq_true rfl)) h_3
            refine wx_virtualL (M := M_X6_goOn) (uc := 0) (us := 0) (s := 11) (i := 0) (As := [.inl (.int (nI i))]) (rest := []) rfl rfl (ok_Jx4a65c_get_915e3 _ _) ml_X6_52 im_Jx4a65c_get_915e3 se_Jx4a65c_get_915e3 (by omega) (det_to (c_get (d := d - 1) (by omega) (s := 11) (i := i) rfl hl_4 rfl) (by rw [(W.sr Sr38).tle hl_4]) rfl) rfl rfl (Nat.le_of_ble_eq_true rfl) dX6_goOn_62 ?_
            refine wx_cast cls_8 cl_X6_56 dX6_goOn_65 ?_
            refine wp_run [(.astore 7, 2), (.aload 7, 2), (.iload 5, 2)] (pc' := 74) (L' := [(7, .inr (8, some i)), (6, .inl (.int (nI i))), (5, .inl (.int dy)), (0, .inr (7, some 0)), (1, .inl (.int s)), (2, .inl (.int ti)), (3, .inl (.int tf)), (4, .inl (.int 2))]) (st' := [.inl (.int dy), .inr (8, some i)]) ⟨dX6_goOn_68, dX6_goOn_70, dX6_goOn_72, trivial⟩ rfl rfl ?_
            refine wx_virtualD (M := M_X6_goOn) (uc := 0) (us := 0) (s := 8) (i := i) (As := [.inl (.int dy)]) (rest := []) cls_8 rfl (ok_X7_goes _ _) ml_X6_58 im_X7_goes se_X7_goes (by omega) (c_X7_goes (d := d - 1) (h := h38) (by omega) (W.sr Sr38) (Sr38.lt (Sr38.tl hl_4)) dy) rfl rfl (Nat.le_of_ble_eq_true rfl) dX6_goOn_74 ?_
            refine wx_if_eq (tgt := 126) dX6_goOn_77 (by decide) (fun h_5 => ?_) (fun h_5 => ?_)
            · refine wp_run [(.iinc 6 1, 3)] (pc' := 129) (L' := [(6, .inl (.int ((nI i) + 1))), (7, .inr (8, some i)), (5, .inl (.int dy)), (0, .inr (7, some 0)), (1, .inl (.int s)), (2, .inl (.int ti)), (3, .inl (.int tf)), (4, .inl (.int 2))]) (st' := []) ⟨dX6_goOn_126, trivial⟩ rfl rfl ?_
              refine wx_goto (tgt := 38) dX6_goOn_129 (by decide) ?_
              rw [B_X6_goOn2_38, if_neg h_3, if_pos h_5]
              rw [nI_1 i]
              refine wp_sub [0, 2, 3, 4, 5, 6, 7] (L' := [(6, .inl (.int (nI (i + 1)))), (5, .inl (.int dy)), (0, .inr (7, some 0)), (1, .inl (.int s)), (2, .inl (.int ti)), (3, .inl (.int tf)), (4, .inl (.int 2))]) rfl ?_
              exact ih38 _ _ Sr38 (cy_nlt hii h_3).2 (by have := (cy_nlt hii h_3).2; omega)
            · refine wp_run [(.aload 7, 2), (.iload 5, 2), (.iconst 0, 1)] (pc' := 85) (L' := [(7, .inr (8, some i)), (6, .inl (.int (nI i))), (5, .inl (.int dy)), (0, .inr (7, some 0)), (1, .inl (.int s)), (2, .inl (.int ti)), (3, .inl (.int tf)), (4, .inl (.int 2))]) (st' := [.inl (.int 0), .inl (.int dy), .inr (8, some i)]) ⟨dX6_goOn_80, dX6_goOn_82, dX6_goOn_84, trivial⟩ rfl rfl ?_
              refine wx_virtualD (M := M_X6_goOn) (uc := 0) (us := 0) (s := 8) (i := i) (As := [.inl (.int dy), .inl (.int 0)]) (rest := []) cls_8 rfl (ok_X7_leaves _ _) ml_X6_62 im_X7_leaves se_X7_leaves (by omega) (c_X7_leaves (d := d - 1) (h := h38) (by omega) (W.sr Sr38) (Sr38.lt (Sr38.tl hl_4)) dy 0) rfl rfl (Nat.le_of_ble_eq_true rfl) dX6_goOn_85 ?_
              refine wp_run [(.aload_n 0, 1)] (pc' := 89) (L' := [(7, .inr (8, some i)), (6, .inl (.int (nI i))), (5, .inl (.int dy)), (0, .inr (7, some 0)), (1, .inl (.int s)), (2, .inl (.int ti)), (3, .inl (.int tf)), (4, .inl (.int 2))]) (st' := [.inr (7, some 0), .inl (.int (F_X7_leaves h38 i dy 0))]) ⟨dX6_goOn_88, trivial⟩ rfl rfl ?_
              refine wx_getI cls_7 (k := 4) (f := 704) (by decide) rfl rfl fl_X6_33 dX6_goOn_89 ?_
              refine wx_icmp_ge (tgt := 126) dX6_goOn_92 (by decide) (fun h_6 => ?_) (fun h_6 => ?_)
              · refine wp_run [(.iinc 6 1, 3)] (pc' := 129) (L' := [(6, .inl (.int ((nI i) + 1))), (7, .inr (8, some i)), (5, .inl (.int dy)), (0, .inr (7, some 0)), (1, .inl (.int s)), (2, .inl (.int ti)), (3, .inl (.int tf)), (4, .inl (.int 2))]) (st' := []) ⟨dX6_goOn_126, trivial⟩ rfl rfl ?_
                refine wx_goto (tgt := 38) dX6_goOn_129 (by decide) ?_
                rw [B_X6_goOn2_38, if_neg h_3, if_neg h_5, if_pos h_6]
                rw [nI_1 i]
                refine wp_sub [0, 2, 3, 4, 5, 6, 7] (L' := [(6, .inl (.int (nI (i + 1)))), (5, .inl (.int dy)), (0, .inr (7, some 0)), (1, .inl (.int s)), (2, .inl (.int ti)), (3, .inl (.int tf)), (4, .inl (.int 2))]) rfl ?_
                exact ih38 _ _ Sr38 (cy_nlt hii h_3).2 (by have := (cy_nlt hii h_3).2; omega)
              · refine wp_run [(.aload 7, 2), (.iload 5, 2), (.aload 7, 2)] (pc' := 101) (L' := [(7, .inr (8, some i)), (6, .inl (.int (nI i))), (5, .inl (.int dy)), (0, .inr (7, some 0)), (1, .inl (.int s)), (2, .inl (.int ti)), (3, .inl (.int tf)), (4, .inl (.int 2))]) (st' := [.inr (8, some i), .inl (.int dy), .inr (8, some i)]) ⟨dX6_goOn_95, dX6_goOn_97, dX6_goOn_99, trivial⟩ rfl rfl ?_
                refine wx_getI cls_8 (k := 10) (f := 810) (by decide) rfl rfl fl_X6_66 dX6_goOn_101 ?_
                refine wp_run [(.iconst 1, 1), (.isub, 1)] (pc' := 106) (L' := [(7, .inr (8, some i)), (6, .inl (.int (nI i))), (5, .inl (.int dy)), (0, .inr (7, some 0)), (1, .inl (.int s)), (2, .inl (.int ti)), (3, .inl (.int tf)), (4, .inl (.int 2))]) (st' := [.inl (.int ((xFI h38 810 i) - 1)), .inl (.int dy), .inr (8, some i)]) ⟨dX6_goOn_104, dX6_goOn_105, trivial⟩ rfl rfl ?_
                refine wx_virtualD (M := M_X6_goOn) (uc := 0) (us := 0) (s := 8) (i := i) (As := [.inl (.int dy), .inl (.int ((xFI h38 810 i) - 1))]) (rest := []) cls_8 rfl (ok_X7_reaches _ _) ml_X6_68 im_X7_reaches se_X7_reaches (by omega) (c_X7_reaches (d := d - 1) (h := h38) (by omega) (W.sr Sr38) (Sr38.lt (Sr38.tl hl_4)) dy ((xFI h38 810 i) - 1)) rfl rfl (Nat.le_of_ble_eq_true rfl) dX6_goOn_106 ?_
                refine wp_run [(.iload_n 2, 1)] (pc' := 110) (L' := [(7, .inr (8, some i)), (6, .inl (.int (nI i))), (5, .inl (.int dy)), (0, .inr (7, some 0)), (1, .inl (.int s)), (2, .inl (.int ti)), (3, .inl (.int tf)), (4, .inl (.int 2))]) (st' := [.inl (.int ti), .inl (.int (F_X7_reaches h38 i dy ((xFI h38 810 i) - 1)))]) ⟨dX6_goOn_109, trivial⟩ rfl rfl ?_
                refine wx_icmp_le (tgt := 126) dX6_goOn_110 (by decide) (fun h_7 => ?_) (fun h_7 => ?_)
                · refine wp_run [(.iinc 6 1, 3)] (pc' := 129) (L' := [(6, .inl (.int ((nI i) + 1))), (7, .inr (8, some i)), (5, .inl (.int dy)), (0, .inr (7, some 0)), (1, .inl (.int s)), (2, .inl (.int ti)), (3, .inl (.int tf)), (4, .inl (.int 2))]) (st' := []) ⟨dX6_goOn_126, trivial⟩ rfl rfl ?_
                  refine wx_goto (tgt := 38) dX6_goOn_129 (by decide) ?_
                  rw [B_X6_goOn2_38, if_neg h_3, if_neg h_5, if_neg h_6, if_pos h_7]
                  rw [nI_1 i]
                  refine wp_sub [0, 2, 3, 4, 5, 6, 7] (L' := [(6, .inl (.int (nI (i + 1)))), (5, .inl (.int dy)), (0, .inr (7, some 0)), (1, .inl (.int s)), (2, .inl (.int ti)), (3, .inl (.int tf)), (4, .inl (.int 2))]) rfl ?_
                  exact ih38 _ _ Sr38 (cy_nlt hii h_3).2 (by have := (cy_nlt hii h_3).2; omega)
                · refine wp_run [(.aload_n 0, 1), (.aload 7, 2), (.iload 5, 2), (.iload_n 1, 1), (.iload_n 2, 1), (.iload_n 3, 1), (.iload 4, 2)] (pc' := 123) (L' := [(7, .inr (8, some i)), (6, .inl (.int (nI i))), (5, .inl (.int dy)), (0, .inr (7, some 0)), (1, .inl (.int s)), (2, .inl (.int ti)), (3, .inl (.int tf)), (4, .inl (.int 2))]) (st' := [.inl (.int 2), .inl (.int tf), .inl (.int ti), .inl (.int s), .inl (.int dy), .inr (8, some i), .inr (7, some 0)]) ⟨dX6_goOn_113, dX6_goOn_114, dX6_goOn_116, dX6_goOn_118, dX6_goOn_119, dX6_goOn_120, dX6_goOn_121, trivial⟩ rfl rfl ?_
                  refine wx_virtualDP (M := M_X6_goOn) (uc := 0) (us := 0) (s := 7) (i := 0) (As := [.inr (8, some i), .inl (.int dy), .inl (.int s), .inl (.int ti), .inl (.int tf), .inl (.int 2)]) (rest := []) cls_7 rfl (ok_X6_tryRun _ _) ml_X6_71 im_X6_tryRun se_X6_tryRun (by omega) (c_X6_tryRun2 (d := d - 1) (h := h38) (by omega) (W.sr Sr38) (Sr38.lt (Sr38.tl hl_4)) dy s ti tf) rfl rfl (Nat.le_of_ble_eq_true rfl) dX6_goOn_123 (fun hS_8 => ?_)
                  refine wp_run [(.iinc 6 1, 3)] (pc' := 129) (L' := [(6, .inl (.int ((nI i) + 1))), (7, .inr (8, some i)), (5, .inl (.int dy)), (0, .inr (7, some 0)), (1, .inl (.int s)), (2, .inl (.int ti)), (3, .inl (.int tf)), (4, .inl (.int 2))]) (st' := []) ⟨dX6_goOn_126, trivial⟩ rfl rfl ?_
                  refine wx_goto (tgt := 38) dX6_goOn_129 (by decide) ?_
                  rw [B_X6_goOn2_38, if_neg h_3, if_neg h_5, if_neg h_6, if_neg h_7]
                  rw [nI_1 i]
                  refine wp_sub [0, 2, 3, 4, 5, 6, 7] (L' := [(6, .inl (.int (nI (i + 1)))), (5, .inl (.int dy)), (0, .inr (7, some 0)), (1, .inl (.int s)), (2, .inl (.int ti)), (3, .inl (.int tf)), (4, .inl (.int 2))]) rfl ?_
                  exact ih38 _ _ (Sr38.trans hS_8) (cy_nlt hii h_3).2 (by have := (cy_nlt hii h_3).2; omega)
def F_X6_tryAll1 (h : Hp) (a : Int32) (b : Int32) (ti : Int32) : Int32 × Hp := ((xFI (F_X6_goOn1 (sFI (sFI (sFI (sFI h 701 0 b) 702 0 (F_X8_firstDayFor ti)) 703 0 (F_X8_lastDayFor ti)) 704 0 1000000000) a ti 0) 704 0), F_X6_goOn1 (sFI (sFI (sFI (sFI h 701 0 b) 702 0 (F_X8_firstDayFor ti)) 703 0 (F_X8_lastDayFor ti)) 704 0 1000000000) a ti 0)
set_option maxRecDepth 20000 in
theorem c_X6_tryAll1 {g : GT} {d : Nat} (hd : 8 ≤ d) {h : Hp} (W : CW h) (a : Int32) (b : Int32) (ti : Int32)  : Ctr g M_X6_tryAll d 0 0 [.inr (7, some 0), .inl (.int a), .inl (.int b), .inl (.int ti), .inl (.int 1)] h (cy_detP (.inl (some (.inl (.int (F_X6_tryAll1 h a b ti).1)))) (F_X6_tryAll1 h a b ti).2 (SR h (F_X6_tryAll1 h a b ti).2)) := by
  refine cy_body rfl rfl (by decide) (Nat.le_of_ble_eq_true rfl) ?_
  refine wp_run [(.aload_n 0, 1), (.iload_n 2, 1)] (pc' := 2) (L' := [(0, .inr (7, some 0)), (1, .inl (.int a)), (2, .inl (.int b)), (3, .inl (.int ti)), (4, .inl (.int 1))]) (st' := [.inl (.int b), .inr (7, some 0)]) ⟨dX6_tryAll_0, dX6_tryAll_1, trivial⟩ rfl rfl ?_
  refine wx_putI cls_7 (k := 1) (f := 701) (by decide) rfl rfl rfl fl_X6_15 (Or.inl rfl) dX6_tryAll_2 ?_
  refine wp_run [(.aload_n 0, 1), (.iload_n 3, 1)] (pc' := 7) (L' := [(0, .inr (7, some 0)), (1, .inl (.int a)), (2, .inl (.int b)), (3, .inl (.int ti)), (4, .inl (.int 1))]) (st' := [.inl (.int ti), .inr (7, some 0)]) ⟨dX6_tryAll_5, dX6_tryAll_6, trivial⟩ rfl rfl ?_
  refine wx_staticND (M := M_X6_tryAll) (uc := 0) (us := 0) (As := [.inl (.int ti)]) (rest := [.inr (7, some 0)]) (ok_X8_firstDayFor _ _) ml_X6_19 st_X8_firstDayFor (by omega) (c_X8_firstDayFor (d := d - 1) (h := (sFI h 701 0 b)) (by omega) ti) rfl rfl (Nat.le_of_ble_eq_true rfl) dX6_tryAll_7 ?_
  refine wx_putI cls_7 (k := 2) (f := 702) (by decide) rfl rfl rfl fl_X6_23 (Or.inl rfl) dX6_tryAll_10 ?_
  refine wp_run [(.aload_n 0, 1), (.iload_n 3, 1)] (pc' := 15) (L' := [(0, .inr (7, some 0)), (1, .inl (.int a)), (2, .inl (.int b)), (3, .inl (.int ti)), (4, .inl (.int 1))]) (st' := [.inl (.int ti), .inr (7, some 0)]) ⟨dX6_tryAll_13, dX6_tryAll_14, trivial⟩ rfl rfl ?_
  refine wx_staticND (M := M_X6_tryAll) (uc := 0) (us := 0) (As := [.inl (.int ti)]) (rest := [.inr (7, some 0)]) (ok_X8_lastDayFor _ _) ml_X6_26 st_X8_lastDayFor (by omega) (c_X8_lastDayFor (d := d - 1) (h := (sFI (sFI h 701 0 b) 702 0 (F_X8_firstDayFor ti))) (by omega) ti) rfl rfl (Nat.le_of_ble_eq_true rfl) dX6_tryAll_15 ?_
  refine wx_putI cls_7 (k := 3) (f := 703) (by decide) rfl rfl rfl fl_X6_29 (Or.inl rfl) dX6_tryAll_18 ?_
  refine wp_run [(.aload_n 0, 1)] (pc' := 22) (L' := [(0, .inr (7, some 0)), (1, .inl (.int a)), (2, .inl (.int b)), (3, .inl (.int ti)), (4, .inl (.int 1))]) (st' := [.inr (7, some 0)]) ⟨dX6_tryAll_21, trivial⟩ rfl rfl ?_
  refine wx_ldc kc_X6_32 dX6_tryAll_22 ?_
  refine wx_putI cls_7 (k := 4) (f := 704) (by decide) rfl rfl rfl fl_X6_33 (Or.inl rfl) dX6_tryAll_24 ?_
  refine wp_run [(.aload_n 0, 1), (.iload_n 1, 1), (.iload_n 3, 1), (.iconst 0, 1), (.iload 4, 2)] (pc' := 33) (L' := [(0, .inr (7, some 0)), (1, .inl (.int a)), (2, .inl (.int b)), (3, .inl (.int ti)), (4, .inl (.int 1))]) (st' := [.inl (.int 1), .inl (.int 0), .inl (.int ti), .inl (.int a), .inr (7, some 0)]) ⟨dX6_tryAll_27, dX6_tryAll_28, dX6_tryAll_29, dX6_tryAll_30, dX6_tryAll_31, trivial⟩ rfl rfl ?_
  refine wx_virtualDP (M := M_X6_tryAll) (uc := 0) (us := 0) (s := 7) (i := 0) (As := [.inl (.int a), .inl (.int ti), .inl (.int 0), .inl (.int 1)]) (rest := []) cls_7 rfl (ok_X6_goOn _ _) ml_X6_36 im_X6_goOn se_X6_goOn (by omega) (c_X6_goOn1 (d := d - 1) (h := (sFI (sFI (sFI (sFI h 701 0 b) 702 0 (F_X8_firstDayFor ti)) 703 0 (F_X8_lastDayFor ti)) 704 0 1000000000)) (by omega) W a ti 0) rfl rfl (Nat.le_of_ble_eq_true rfl) dX6_tryAll_33 (fun hS_1 => ?_)
  refine wp_run [(.aload_n 0, 1)] (pc' := 37) (L' := [(0, .inr (7, some 0)), (1, .inl (.int a)), (2, .inl (.int b)), (3, .inl (.int ti)), (4, .inl (.int 1))]) (st' := [.inr (7, some 0)]) ⟨dX6_tryAll_36, trivial⟩ rfl rfl ?_
  refine wx_getI cls_7 (k := 4) (f := 704) (by decide) rfl rfl fl_X6_33 dX6_tryAll_37 ?_
  exact wx_iret rfl rfl dX6_tryAll_40 (by rw [F_X6_tryAll1]; dsimp only; exact ⟨hS_1, rfl, rfl⟩)
def F_X6_tryAll2 (h : Hp) (a : Int32) (b : Int32) (ti : Int32) : Int32 × Hp := ((xFI (F_X6_goOn2 (sFI (sFI (sFI (sFI h 701 0 b) 702 0 (F_X8_firstDayFor ti)) 703 0 (F_X8_lastDayFor ti)) 704 0 1000000000) a ti 0) 704 0), F_X6_goOn2 (sFI (sFI (sFI (sFI h 701 0 b) 702 0 (F_X8_firstDayFor ti)) 703 0 (F_X8_lastDayFor ti)) 704 0 1000000000) a ti 0)
set_option maxRecDepth 20000 in
theorem c_X6_tryAll2 {g : GT} {d : Nat} (hd : 11 ≤ d) {h : Hp} (W : CW h) (a : Int32) (b : Int32) (ti : Int32)  : Ctr g M_X6_tryAll d 0 0 [.inr (7, some 0), .inl (.int a), .inl (.int b), .inl (.int ti), .inl (.int 2)] h (cy_detP (.inl (some (.inl (.int (F_X6_tryAll2 h a b ti).1)))) (F_X6_tryAll2 h a b ti).2 (SR h (F_X6_tryAll2 h a b ti).2)) := by
  refine cy_body rfl rfl (by decide) (Nat.le_of_ble_eq_true rfl) ?_
  refine wp_run [(.aload_n 0, 1), (.iload_n 2, 1)] (pc' := 2) (L' := [(0, .inr (7, some 0)), (1, .inl (.int a)), (2, .inl (.int b)), (3, .inl (.int ti)), (4, .inl (.int 2))]) (st' := [.inl (.int b), .inr (7, some 0)]) ⟨dX6_tryAll_0, dX6_tryAll_1, trivial⟩ rfl rfl ?_
  refine wx_putI cls_7 (k := 1) (f := 701) (by decide) rfl rfl rfl fl_X6_15 (Or.inl rfl) dX6_tryAll_2 ?_
  refine wp_run [(.aload_n 0, 1), (.iload_n 3, 1)] (pc' := 7) (L' := [(0, .inr (7, some 0)), (1, .inl (.int a)), (2, .inl (.int b)), (3, .inl (.int ti)), (4, .inl (.int 2))]) (st' := [.inl (.int ti), .inr (7, some 0)]) ⟨dX6_tryAll_5, dX6_tryAll_6, trivial⟩ rfl rfl ?_
  refine wx_staticND (M := M_X6_tryAll) (uc := 0) (us := 0) (As := [.inl (.int ti)]) (rest := [.inr (7, some 0)]) (ok_X8_firstDayFor _ _) ml_X6_19 st_X8_firstDayFor (by omega) (c_X8_firstDayFor (d := d - 1) (h := (sFI h 701 0 b)) (by omega) ti) rfl rfl (Nat.le_of_ble_eq_true rfl) dX6_tryAll_7 ?_
  refine wx_putI cls_7 (k := 2) (f := 702) (by decide) rfl rfl rfl fl_X6_23 (Or.inl rfl) dX6_tryAll_10 ?_
  refine wp_run [(.aload_n 0, 1), (.iload_n 3, 1)] (pc' := 15) (L' := [(0, .inr (7, some 0)), (1, .inl (.int a)), (2, .inl (.int b)), (3, .inl (.int ti)), (4, .inl (.int 2))]) (st' := [.inl (.int ti), .inr (7, some 0)]) ⟨dX6_tryAll_13, dX6_tryAll_14, trivial⟩ rfl rfl ?_
  refine wx_staticND (M := M_X6_tryAll) (uc := 0) (us := 0) (As := [.inl (.int ti)]) (rest := [.inr (7, some 0)]) (ok_X8_lastDayFor _ _) ml_X6_26 st_X8_lastDayFor (by omega) (c_X8_lastDayFor (d := d - 1) (h := (sFI (sFI h 701 0 b) 702 0 (F_X8_firstDayFor ti))) (by omega) ti) rfl rfl (Nat.le_of_ble_eq_true rfl) dX6_tryAll_15 ?_
  refine wx_putI cls_7 (k := 3) (f := 703) (by decide) rfl rfl rfl fl_X6_29 (Or.inl rfl) dX6_tryAll_18 ?_
  refine wp_run [(.aload_n 0, 1)] (pc' := 22) (L' := [(0, .inr (7, some 0)), (1, .inl (.int a)), (2, .inl (.int b)), (3, .inl (.int ti)), (4, .inl (.int 2))]) (st' := [.inr (7, some 0)]) ⟨dX6_tryAll_21, trivial⟩ rfl rfl ?_
  refine wx_ldc kc_X6_32 dX6_tryAll_22 ?_
  refine wx_putI cls_7 (k := 4) (f := 704) (by decide) rfl rfl rfl fl_X6_33 (Or.inl rfl) dX6_tryAll_24 ?_
  refine wp_run [(.aload_n 0, 1), (.iload_n 1, 1), (.iload_n 3, 1), (.iconst 0, 1), (.iload 4, 2)] (pc' := 33) (L' := [(0, .inr (7, some 0)), (1, .inl (.int a)), (2, .inl (.int b)), (3, .inl (.int ti)), (4, .inl (.int 2))]) (st' := [.inl (.int 2), .inl (.int 0), .inl (.int ti), .inl (.int a), .inr (7, some 0)]) ⟨dX6_tryAll_27, dX6_tryAll_28, dX6_tryAll_29, dX6_tryAll_30, dX6_tryAll_31, trivial⟩ rfl rfl ?_
  refine wx_virtualDP (M := M_X6_tryAll) (uc := 0) (us := 0) (s := 7) (i := 0) (As := [.inl (.int a), .inl (.int ti), .inl (.int 0), .inl (.int 2)]) (rest := []) cls_7 rfl (ok_X6_goOn _ _) ml_X6_36 im_X6_goOn se_X6_goOn (by omega) (c_X6_goOn2 (d := d - 1) (h := (sFI (sFI (sFI (sFI h 701 0 b) 702 0 (F_X8_firstDayFor ti)) 703 0 (F_X8_lastDayFor ti)) 704 0 1000000000)) (by omega) W a ti 0) rfl rfl (Nat.le_of_ble_eq_true rfl) dX6_tryAll_33 (fun hS_1 => ?_)
  refine wp_run [(.aload_n 0, 1)] (pc' := 37) (L' := [(0, .inr (7, some 0)), (1, .inl (.int a)), (2, .inl (.int b)), (3, .inl (.int ti)), (4, .inl (.int 2))]) (st' := [.inr (7, some 0)]) ⟨dX6_tryAll_36, trivial⟩ rfl rfl ?_
  refine wx_getI cls_7 (k := 4) (f := 704) (by decide) rfl rfl fl_X6_33 dX6_tryAll_37 ?_
  exact wx_iret rfl rfl dX6_tryAll_40 (by rw [F_X6_tryAll2]; dsimp only; exact ⟨hS_1, rfl, rfl⟩)
