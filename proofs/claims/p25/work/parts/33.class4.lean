def K_X5_setOut_2 (h : Hp) (h2 : Hp) (s : Nat) : Hp := H_put h2 21 0 (xFI h2 603 0) (xFI h2 605 0)
def B_X5_setOut_2 (h : Hp) (kx : Hp → Nat → Hp) (rec2 : Hp → Nat → Hp) (h2 : Hp) (s : Nat) : Hp := (if (xFI h2 403 0) ≤ (nI s) then (kx h2 s) else (if (F_X3_walk h2 (xFI h2 603 0) (nI s)) = (-1) then (rec2 h2 (s + 1)) else (rec2 (H_put h2 21 0 (nI s) ((xFI h2 605 0) + (F_X3_walk h2 (xFI h2 603 0) (nI s)))) (s + 1))))
def L_X5_setOut_2 (h : Hp) (kx : Hp → Nat → Hp) : Nat → Hp → Nat → Hp
  | 0 => fun h2 s => h2
  | fu + 1 => B_X5_setOut_2 h kx (L_X5_setOut_2 h kx fu)
theorem L_X5_setOut_2_s (h : Hp) (kx : Hp → Nat → Hp) (fu : Nat) (h2 : Hp) (s : Nat) : L_X5_setOut_2 h kx (fu + 1) h2 s = B_X5_setOut_2 h kx (L_X5_setOut_2 h kx fu) h2 s := rfl
def F_X5_setOut (h : Hp) : Hp := L_X5_setOut_2 h (K_X5_setOut_2 h) (2147483648 - 0 + 1) h 0
set_option maxRecDepth 20000 in
theorem c_X5_setOut {g : GT} {d : Nat} (hd : 3 ≤ d) {h : Hp} (W : CW h)  : Ctr g M_X5_setOut d 0 0 [.inr (6, some 0)] h (cy_detP (.inl none) (F_X5_setOut h) (SR h (F_X5_setOut h))) := by
  refine cy_body rfl rfl (by decide) (Nat.le_of_ble_eq_true rfl) ?_
  refine wp_run [(.iconst 0, 1), (.istore_n 1, 1)] (pc' := 2) (L' := [(1, .inl (.int 0)), (0, .inr (6, some 0))]) (st' := []) ⟨dX5_setOut_0, dX5_setOut_1, trivial⟩ rfl rfl ?_
  rw [F_X5_setOut]
  refine wp_sub [0, 1] (L' := [(1, .inl (.int 0)), (0, .inr (6, some 0))]) rfl ?_
  have X2 : ∀ (h2 : Hp) (s : Nat) (Sr2 : SR h h2) (his : s < 2147483648) , WP g M_X5_setOut d 0 0 51 [(0, .inr (6, some 0))] [] h2 (cy_detP (.inl none) (K_X5_setOut_2 h h2 s) (SR h (K_X5_setOut_2 h h2 s))) := by
    intro h2 s Sr2 his
    refine wp_run [(.aload_n 0, 1)] (pc' := 52) (L' := [(0, .inr (6, some 0))]) (st' := [.inr (6, some 0)]) ⟨dX5_setOut_51, trivial⟩ rfl rfl ?_
    refine wx_getR cls_6 (k := 2) (f := 602) (t := 21) (o := some 0) (by decide) rfl rfl fl_X5_15 ((W.sr Sr2).fr (f := 602) (by decide)) dX5_setOut_52 ?_
    refine wp_run [(.aload_n 0, 1)] (pc' := 56) (L' := [(0, .inr (6, some 0))]) (st' := [.inr (6, some 0), .inr (21, some 0)]) ⟨dX5_setOut_55, trivial⟩ rfl rfl ?_
    refine wx_getI cls_6 (k := 3) (f := 603) (by decide) rfl rfl fl_X5_22 dX5_setOut_56 ?_
    refine wp_run [(.aload_n 0, 1)] (pc' := 60) (L' := [(0, .inr (6, some 0))]) (st' := [.inr (6, some 0), .inl (.int (xFI h2 603 0)), .inr (21, some 0)]) ⟨dX5_setOut_59, trivial⟩ rfl rfl ?_
    refine wx_getI cls_6 (k := 5) (f := 605) (by decide) rfl rfl fl_X5_29 dX5_setOut_60 ?_
    refine wx_staticND (M := M_X5_setOut) (uc := 0) (us := 0) (As := [.inr (21, some 0), .inl (.int (xFI h2 603 0)), .inl (.int (xFI h2 605 0))]) (rest := []) (ok_X8_put _ _) ml_X5_71 st_X8_put (by omega) (c_X8_put (d := d - 1) (by omega) (s := 21) (i := 0) rfl (Nat.le_of_ble_eq_true rfl) (xFI h2 603 0) (xFI h2 605 0)) rfl rfl (Nat.le_of_ble_eq_true rfl) dX5_setOut_63 ?_
    exact wx_vret rfl rfl dX5_setOut_66 (by rw [K_X5_setOut_2]; exact ⟨Sr2, rfl, rfl⟩)
  suffices Y2 : ∀ (n2 : Nat) (h2 : Hp) (s : Nat) (Sr2 : SR h h2) (his : s < 2147483648) (hm2 : 2147483648 - s < n2), WP g M_X5_setOut d 0 0 2 [(1, .inl (.int (nI s))), (0, .inr (6, some 0))] [] h2 (cy_detP (.inl none) (L_X5_setOut_2 h (K_X5_setOut_2 h) n2 h2 s) (SR h (L_X5_setOut_2 h (K_X5_setOut_2 h) n2 h2 s))) from
    Y2 (2147483648 - 0 + 1) h 0 SR.rf (by decide) (Nat.lt_succ_self _)
  intro n2
  induction n2 with
  | zero => intro h2 s Sr2 his hm2; exact absurd hm2 (Nat.not_lt_zero _)
  | succ n2 ih2 =>
    intro h2 s Sr2 his hm2
    rw [L_X5_setOut_2_s]
    generalize L_X5_setOut_2 h (K_X5_setOut_2 h) n2 = rec2 at ih2 ⊢
    refine wp_run [(.iload_n 1, 1), (.aload_n 0, 1)] (pc' := 4) (L' := [(1, .inl (.int (nI s))), (0, .inr (6, some 0))]) (st' := [.inr (6, some 0), .inl (.int (nI s))]) ⟨dX5_setOut_2, dX5_setOut_3, trivial⟩ rfl rfl ?_
    refine wx_getR cls_6 (k := 0) (f := 600) (t := 4) (o := some 0) (by decide) rfl rfl fl_X5_18 ((W.sr Sr2).fr (f := 600) (by decide)) dX5_setOut_4 ?_
    refine wx_getI cls_4 (k := 3) (f := 403) (by decide) rfl rfl fl_X5_62 dX5_setOut_7 ?_
    refine wx_icmp_ge (tgt := 51) dX5_setOut_10 (by decide) (fun h_1 => ?_) (fun h_1 => ?_)
    · rw [B_X5_setOut_2, if_pos h_1]
      refine wp_sub [1] (L' := [(0, .inr (6, some 0))]) rfl ?_
      exact X2 _ _ Sr2 his
    · refine wp_run [(.aload_n 0, 1)] (pc' := 14) (L' := [(1, .inl (.int (nI s))), (0, .inr (6, some 0))]) (st' := [.inr (6, some 0)]) ⟨dX5_setOut_13, trivial⟩ rfl rfl ?_
      refine wx_getR cls_6 (k := 0) (f := 600) (t := 4) (o := some 0) (by decide) rfl rfl fl_X5_18 ((W.sr Sr2).fr (f := 600) (by decide)) dX5_setOut_14 ?_
      refine wp_run [(.aload_n 0, 1)] (pc' := 18) (L' := [(1, .inl (.int (nI s))), (0, .inr (6, some 0))]) (st' := [.inr (6, some 0), .inr (4, some 0)]) ⟨dX5_setOut_17, trivial⟩ rfl rfl ?_
      refine wx_getI cls_6 (k := 3) (f := 603) (by decide) rfl rfl fl_X5_22 dX5_setOut_18 ?_
      refine wp_run [(.iload_n 1, 1)] (pc' := 22) (L' := [(1, .inl (.int (nI s))), (0, .inr (6, some 0))]) (st' := [.inl (.int (nI s)), .inl (.int (xFI h2 603 0)), .inr (4, some 0)]) ⟨dX5_setOut_21, trivial⟩ rfl rfl ?_
      refine wx_virtualD (M := M_X5_setOut) (uc := 0) (us := 0) (s := 4) (i := 0) (As := [.inl (.int (xFI h2 603 0)), .inl (.int (nI s))]) (rest := []) cls_4 rfl (ok_X3_walk _ _) ml_X5_67 im_X3_walk se_X3_walk (by omega) (c_X3_walk (d := d - 1) (h := h2) (by omega) (W.sr Sr2) (xFI h2 603 0) (nI s)) rfl rfl (Nat.le_of_ble_eq_true rfl) dX5_setOut_22 ?_
      refine wp_run [(.istore_n 2, 1), (.iload_n 2, 1), (.iconst (-1), 1)] (pc' := 28) (L' := [(2, .inl (.int (F_X3_walk h2 (xFI h2 603 0) (nI s)))), (1, .inl (.int (nI s))), (0, .inr (6, some 0))]) (st' := [.inl (.int (-1)), .inl (.int (F_X3_walk h2 (xFI h2 603 0) (nI s)))]) ⟨dX5_setOut_25, dX5_setOut_26, dX5_setOut_27, trivial⟩ rfl rfl ?_
      refine wx_icmp_eq (tgt := 45) dX5_setOut_28 (by decide) (fun h_2 => ?_) (fun h_2 => ?_)
      · refine wp_run [(.iinc 1 1, 3)] (pc' := 48) (L' := [(1, .inl (.int ((nI s) + 1))), (2, .inl (.int (F_X3_walk h2 (xFI h2 603 0) (nI s)))), (0, .inr (6, some 0))]) (st' := []) ⟨dX5_setOut_45, trivial⟩ rfl rfl ?_
        refine wx_goto (tgt := 2) dX5_setOut_48 (by decide) ?_
        rw [B_X5_setOut_2, if_neg h_1, if_pos h_2]
        rw [nI_1 s]
        refine wp_sub [0, 2] (L' := [(1, .inl (.int (nI (s + 1)))), (0, .inr (6, some 0))]) rfl ?_
        exact ih2 _ _ Sr2 (cy_nlt his h_1).2 (by have := (cy_nlt his h_1).2; omega)
      · refine wp_run [(.aload_n 0, 1)] (pc' := 32) (L' := [(2, .inl (.int (F_X3_walk h2 (xFI h2 603 0) (nI s)))), (1, .inl (.int (nI s))), (0, .inr (6, some 0))]) (st' := [.inr (6, some 0)]) ⟨dX5_setOut_31, trivial⟩ rfl rfl ?_
        refine wx_getR cls_6 (k := 2) (f := 602) (t := 21) (o := some 0) (by decide) rfl rfl fl_X5_15 ((W.sr Sr2).fr (f := 602) (by decide)) dX5_setOut_32 ?_
        refine wp_run [(.iload_n 1, 1), (.aload_n 0, 1)] (pc' := 37) (L' := [(2, .inl (.int (F_X3_walk h2 (xFI h2 603 0) (nI s)))), (1, .inl (.int (nI s))), (0, .inr (6, some 0))]) (st' := [.inr (6, some 0), .inl (.int (nI s)), .inr (21, some 0)]) ⟨dX5_setOut_35, dX5_setOut_36, trivial⟩ rfl rfl ?_
        refine wx_getI cls_6 (k := 5) (f := 605) (by decide) rfl rfl fl_X5_29 dX5_setOut_37 ?_
        refine wp_run [(.iload_n 2, 1), (.iadd, 1)] (pc' := 42) (L' := [(2, .inl (.int (F_X3_walk h2 (xFI h2 603 0) (nI s)))), (1, .inl (.int (nI s))), (0, .inr (6, some 0))]) (st' := [.inl (.int ((xFI h2 605 0) + (F_X3_walk h2 (xFI h2 603 0) (nI s)))), .inl (.int (nI s)), .inr (21, some 0)]) ⟨dX5_setOut_40, dX5_setOut_41, trivial⟩ rfl rfl ?_
        refine wx_staticND (M := M_X5_setOut) (uc := 0) (us := 0) (As := [.inr (21, some 0), .inl (.int (nI s)), .inl (.int ((xFI h2 605 0) + (F_X3_walk h2 (xFI h2 603 0) (nI s))))]) (rest := []) (ok_X8_put _ _) ml_X5_71 st_X8_put (by omega) (c_X8_put (d := d - 1) (by omega) (s := 21) (i := 0) rfl (Nat.le_of_ble_eq_true rfl) (nI s) ((xFI h2 605 0) + (F_X3_walk h2 (xFI h2 603 0) (nI s)))) rfl rfl (Nat.le_of_ble_eq_true rfl) dX5_setOut_42 ?_
        refine wp_run [(.iinc 1 1, 3)] (pc' := 48) (L' := [(1, .inl (.int ((nI s) + 1))), (2, .inl (.int (F_X3_walk h2 (xFI h2 603 0) (nI s)))), (0, .inr (6, some 0))]) (st' := []) ⟨dX5_setOut_45, trivial⟩ rfl rfl ?_
        refine wx_goto (tgt := 2) dX5_setOut_48 (by decide) ?_
        rw [B_X5_setOut_2, if_neg h_1, if_neg h_2]
        rw [nI_1 s]
        refine wp_sub [0, 2] (L' := [(1, .inl (.int (nI (s + 1)))), (0, .inr (6, some 0))]) rfl ?_
        exact ih2 _ _ Sr2 (cy_nlt his h_1).2 (by have := (cy_nlt his h_1).2; omega)
def B_X5_rideRun_6 (h : Hp) (t : Nat) (dy : Int32) (k : Int32) (rec6 : Hp → Int32 → Nat → Hp) (h6 : Hp) (ab : Int32) (p : Nat) : Hp := (if (xFI h6 810 t) ≤ (nI p) then h6 else (if ab = 0 then (rec6 h6 (if (F_X7_leaves h6 t dy (nI p)) < (F_X5_readyAt h6 (k - 1) (F_X7_stopAt h6 t (nI p))) then 0 else 1) (p + 1)) else (rec6 (H_put h6 20 0 ((k * 10) + (F_X7_stopAt h6 t (nI p))) (if (F_X7_reaches h6 t dy (nI p)) < (F_X5_arrivalAt h6 k (F_X7_stopAt h6 t (nI p))) then (F_X7_reaches h6 t dy (nI p)) else (F_X5_arrivalAt h6 k (F_X7_stopAt h6 t (nI p))))) ab (p + 1))))
def L_X5_rideRun_6 (h : Hp) (t : Nat) (dy : Int32) (k : Int32) : Nat → Hp → Int32 → Nat → Hp
  | 0 => fun h6 ab p => h6
  | fu + 1 => B_X5_rideRun_6 h t dy k (L_X5_rideRun_6 h t dy k fu)
theorem L_X5_rideRun_6_s (h : Hp) (t : Nat) (dy : Int32) (k : Int32) (fu : Nat) (h6 : Hp) (ab : Int32) (p : Nat) : L_X5_rideRun_6 h t dy k (fu + 1) h6 ab p = B_X5_rideRun_6 h t dy k (L_X5_rideRun_6 h t dy k fu) h6 ab p := rfl
def F_X5_rideRun (h : Hp) (t : Nat) (dy : Int32) (k : Int32) : Hp := L_X5_rideRun_6 h t dy k (2147483648 - 0 + 1) h 0 0
set_option maxRecDepth 20000 in
theorem c_X5_rideRun {g : GT} {d : Nat} (hd : 3 ≤ d) {h : Hp} (W : CW h) {t : Nat} (ht : t < xLS h 11) (dy : Int32) (k : Int32)  : Ctr g M_X5_rideRun d 0 0 [.inr (6, some 0), .inr (8, some t), .inl (.int dy), .inl (.int k)] h (cy_detP (.inl none) (F_X5_rideRun h t dy k) (SR h (F_X5_rideRun h t dy k))) := by
  refine cy_body rfl rfl (by decide) (Nat.le_of_ble_eq_true rfl) ?_
  refine wp_run [(.iconst 0, 1), (.istore 4, 2), (.iconst 0, 1), (.istore 5, 2)] (pc' := 6) (L' := [(5, .inl (.int 0)), (4, .inl (.int 0)), (0, .inr (6, some 0)), (1, .inr (8, some t)), (2, .inl (.int dy)), (3, .inl (.int k))]) (st' := []) ⟨dX5_rideRun_0, dX5_rideRun_1, dX5_rideRun_3, dX5_rideRun_4, trivial⟩ rfl rfl ?_
  rw [F_X5_rideRun]
  refine wp_sub [0, 1, 2, 3, 4, 5] (L' := [(5, .inl (.int 0)), (4, .inl (.int 0)), (0, .inr (6, some 0)), (1, .inr (8, some t)), (2, .inl (.int dy)), (3, .inl (.int k))]) rfl ?_
  suffices Y6 : ∀ (n6 : Nat) (h6 : Hp) (ab : Int32) (p : Nat) (Sr6 : SR h h6) (hip : p < 2147483648) (hm6 : 2147483648 - p < n6), WP g M_X5_rideRun d 0 0 6 [(5, .inl (.int (nI p))), (4, .inl (.int ab)), (0, .inr (6, some 0)), (1, .inr (8, some t)), (2, .inl (.int dy)), (3, .inl (.int k))] [] h6 (cy_detP (.inl none) (L_X5_rideRun_6 h t dy k n6 h6 ab p) (SR h (L_X5_rideRun_6 h t dy k n6 h6 ab p))) from
    Y6 (2147483648 - 0 + 1) h 0 0 SR.rf (by decide) (Nat.lt_succ_self _)
  intro n6
  induction n6 with
  | zero => intro h6 ab p Sr6 hip hm6; exact absurd hm6 (Nat.not_lt_zero _)
  | succ n6 ih6 =>
    intro h6 ab p Sr6 hip hm6
    rw [L_X5_rideRun_6_s]
    generalize L_X5_rideRun_6 h t dy k n6 = rec6 at ih6 ⊢
    refine wp_run [(.iload 5, 2), (.aload_n 1, 1)] (pc' := 9) (L' := [(5, .inl (.int (nI p))), (4, .inl (.int ab)), (0, .inr (6, some 0)), (1, .inr (8, some t)), (2, .inl (.int dy)), (3, .inl (.int k))]) (st' := [.inr (8, some t), .inl (.int (nI p))]) ⟨dX5_rideRun_6, dX5_rideRun_8, trivial⟩ rfl rfl ?_
    refine wx_getI cls_8 (k := 10) (f := 810) (by decide) rfl rfl fl_X5_99 dX5_rideRun_9 ?_
    refine wx_icmp_ge (tgt := 94) dX5_rideRun_12 (by decide) (fun h_1 => ?_) (fun h_1 => ?_)
    · exact wx_vret rfl rfl dX5_rideRun_94 (by rw [B_X5_rideRun_6, if_pos h_1]; exact ⟨Sr6, rfl, rfl⟩)
    · refine wp_run [(.aload_n 1, 1), (.iload 5, 2)] (pc' := 18) (L' := [(5, .inl (.int (nI p))), (4, .inl (.int ab)), (0, .inr (6, some 0)), (1, .inr (8, some t)), (2, .inl (.int dy)), (3, .inl (.int k))]) (st' := [.inl (.int (nI p)), .inr (8, some t)]) ⟨dX5_rideRun_15, dX5_rideRun_16, trivial⟩ rfl rfl ?_
      refine wx_virtualD (M := M_X5_rideRun) (uc := 0) (us := 0) (s := 8) (i := t) (As := [.inl (.int (nI p))]) (rest := []) cls_8 rfl (ok_X7_stopAt _ _) ml_X5_101 im_X7_stopAt se_X7_stopAt (by omega) (c_X7_stopAt (d := d - 1) (h := h6) (by omega) (W.sr Sr6) (Sr6.lt ht) (nI p)) rfl rfl (Nat.le_of_ble_eq_true rfl) dX5_rideRun_18 ?_
      refine wp_run [(.istore 6, 2), (.iload 4, 2)] (pc' := 25) (L' := [(6, .inl (.int (F_X7_stopAt h6 t (nI p)))), (5, .inl (.int (nI p))), (4, .inl (.int ab)), (0, .inr (6, some 0)), (1, .inr (8, some t)), (2, .inl (.int dy)), (3, .inl (.int k))]) (st' := [.inl (.int ab)]) ⟨dX5_rideRun_21, dX5_rideRun_23, trivial⟩ rfl rfl ?_
      refine wx_if_eq (tgt := 62) dX5_rideRun_25 (by decide) (fun h_2 => ?_) (fun h_2 => ?_)
      · refine wp_run [(.aload_n 1, 1), (.iload_n 2, 1), (.iload 5, 2)] (pc' := 66) (L' := [(6, .inl (.int (F_X7_stopAt h6 t (nI p)))), (5, .inl (.int (nI p))), (4, .inl (.int ab)), (0, .inr (6, some 0)), (1, .inr (8, some t)), (2, .inl (.int dy)), (3, .inl (.int k))]) (st' := [.inl (.int (nI p)), .inl (.int dy), .inr (8, some t)]) ⟨dX5_rideRun_62, dX5_rideRun_63, dX5_rideRun_64, trivial⟩ rfl rfl ?_
        refine wx_virtualD (M := M_X5_rideRun) (uc := 0) (us := 0) (s := 8) (i := t) (As := [.inl (.int dy), .inl (.int (nI p))]) (rest := []) cls_8 rfl (ok_X7_leaves _ _) ml_X5_115 im_X7_leaves se_X7_leaves (by omega) (c_X7_leaves (d := d - 1) (h := h6) (by omega) (W.sr Sr6) (Sr6.lt ht) dy (nI p)) rfl rfl (Nat.le_of_ble_eq_true rfl) dX5_rideRun_66 ?_
        refine wp_run [(.aload_n 0, 1), (.iload_n 3, 1), (.iconst 1, 1), (.isub, 1), (.iload 6, 2)] (pc' := 75) (L' := [(6, .inl (.int (F_X7_stopAt h6 t (nI p)))), (5, .inl (.int (nI p))), (4, .inl (.int ab)), (0, .inr (6, some 0)), (1, .inr (8, some t)), (2, .inl (.int dy)), (3, .inl (.int k))]) (st' := [.inl (.int (F_X7_stopAt h6 t (nI p))), .inl (.int (k - 1)), .inr (6, some 0), .inl (.int (F_X7_leaves h6 t dy (nI p)))]) ⟨dX5_rideRun_69, dX5_rideRun_70, dX5_rideRun_71, dX5_rideRun_72, dX5_rideRun_73, trivial⟩ rfl rfl ?_
        refine wx_virtualD (M := M_X5_rideRun) (uc := 0) (us := 0) (s := 6) (i := 0) (As := [.inl (.int (k - 1)), .inl (.int (F_X7_stopAt h6 t (nI p)))]) (rest := [.inl (.int (F_X7_leaves h6 t dy (nI p)))]) cls_6 rfl (ok_X5_readyAt _ _) ml_X5_118 im_X5_readyAt se_X5_readyAt (by omega) (c_X5_readyAt (d := d - 1) (h := h6) (by omega) (W.sr Sr6) (k - 1) (F_X7_stopAt h6 t (nI p))) rfl rfl (Nat.le_of_ble_eq_true rfl) dX5_rideRun_75 ?_
        refine wp_by (uc' := 0) (us' := 0) (pc' := 86) (L' := [(6, .inl (.int (F_X7_stopAt h6 t (nI p)))), (5, .inl (.int (nI p))), (4, .inl (.int ab)), (0, .inr (6, some 0)), (1, .inr (8, some t)), (2, .inl (.int dy)), (3, .inl (.int k))]) (st' := [.inl (.int (if (F_X7_leaves h6 t dy (nI p)) < (F_X5_readyAt h6 (k - 1) (F_X7_stopAt h6 t (nI p))) then 0 else 1))]) (h' := h6) (fun J_3 => ?_) ?_
        · refine wx_icmp_lt (tgt := 85) dX5_rideRun_78 (by decide) (fun h_4 => ?_) (fun h_4 => ?_)
          · refine wp_run [(.iconst 0, 1)] (pc' := 86) (L' := [(6, .inl (.int (F_X7_stopAt h6 t (nI p)))), (5, .inl (.int (nI p))), (4, .inl (.int ab)), (0, .inr (6, some 0)), (1, .inr (8, some t)), (2, .inl (.int dy)), (3, .inl (.int k))]) (st' := [.inl (.int 0)]) ⟨dX5_rideRun_85, trivial⟩ rfl rfl ?_
            refine wp_sub [0, 1, 2, 3, 4, 5, 6] (L' := [(6, .inl (.int (F_X7_stopAt h6 t (nI p)))), (5, .inl (.int (nI p))), (4, .inl (.int ab)), (0, .inr (6, some 0)), (1, .inr (8, some t)), (2, .inl (.int dy)), (3, .inl (.int k))]) rfl ?_
            simp only [if_pos h_4] at J_3
            exact J_3
          · refine wp_run [(.iconst 1, 1)] (pc' := 82) (L' := [(6, .inl (.int (F_X7_stopAt h6 t (nI p)))), (5, .inl (.int (nI p))), (4, .inl (.int ab)), (0, .inr (6, some 0)), (1, .inr (8, some t)), (2, .inl (.int dy)), (3, .inl (.int k))]) (st' := [.inl (.int 1)]) ⟨dX5_rideRun_81, trivial⟩ rfl rfl ?_
            refine wx_goto (tgt := 86) dX5_rideRun_82 (by decide) ?_
            refine wp_sub [0, 1, 2, 3, 4, 5, 6] (L' := [(6, .inl (.int (F_X7_stopAt h6 t (nI p)))), (5, .inl (.int (nI p))), (4, .inl (.int ab)), (0, .inr (6, some 0)), (1, .inr (8, some t)), (2, .inl (.int dy)), (3, .inl (.int k))]) rfl ?_
            simp only [if_neg h_4] at J_3
            exact J_3
        refine wp_run [(.istore 4, 2), (.iinc 5 1, 3)] (pc' := 91) (L' := [(5, .inl (.int ((nI p) + 1))), (4, .inl (.int (if (F_X7_leaves h6 t dy (nI p)) < (F_X5_readyAt h6 (k - 1) (F_X7_stopAt h6 t (nI p))) then 0 else 1))), (6, .inl (.int (F_X7_stopAt h6 t (nI p)))), (0, .inr (6, some 0)), (1, .inr (8, some t)), (2, .inl (.int dy)), (3, .inl (.int k))]) (st' := []) ⟨dX5_rideRun_86, dX5_rideRun_88, trivial⟩ rfl rfl ?_
        refine wx_goto (tgt := 6) dX5_rideRun_91 (by decide) ?_
        rw [B_X5_rideRun_6, if_neg h_1, if_pos h_2]
        rw [nI_1 p]
        refine wp_sub [0, 1, 3, 4, 5, 6] (L' := [(5, .inl (.int (nI (p + 1)))), (4, .inl (.int (if (F_X7_leaves h6 t dy (nI p)) < (F_X5_readyAt h6 (k - 1) (F_X7_stopAt h6 t (nI p))) then 0 else 1))), (0, .inr (6, some 0)), (1, .inr (8, some t)), (2, .inl (.int dy)), (3, .inl (.int k))]) rfl ?_
        exact ih6 _ _ _ Sr6 (cy_nlt hip h_1).2 (by have := (cy_nlt hip h_1).2; omega)
      · refine wp_run [(.aload_n 0, 1)] (pc' := 29) (L' := [(6, .inl (.int (F_X7_stopAt h6 t (nI p)))), (5, .inl (.int (nI p))), (4, .inl (.int ab)), (0, .inr (6, some 0)), (1, .inr (8, some t)), (2, .inl (.int dy)), (3, .inl (.int k))]) (st' := [.inr (6, some 0)]) ⟨dX5_rideRun_28, trivial⟩ rfl rfl ?_
        refine wx_getR cls_6 (k := 1) (f := 601) (t := 20) (o := some 0) (by decide) rfl rfl fl_X5_9 ((W.sr Sr6).fr (f := 601) (by decide)) dX5_rideRun_29 ?_
        refine wp_run [(.iload_n 3, 1), (.bipush 10, 2), (.imul, 1), (.iload 6, 2), (.iadd, 1), (.aload_n 0, 1), (.iload_n 3, 1), (.iload 6, 2)] (pc' := 43) (L' := [(6, .inl (.int (F_X7_stopAt h6 t (nI p)))), (5, .inl (.int (nI p))), (4, .inl (.int ab)), (0, .inr (6, some 0)), (1, .inr (8, some t)), (2, .inl (.int dy)), (3, .inl (.int k))]) (st' := [.inl (.int (F_X7_stopAt h6 t (nI p))), .inl (.int k), .inr (6, some 0), .inl (.int ((k * 10) + (F_X7_stopAt h6 t (nI p)))), .inr (20, some 0)]) ⟨dX5_rideRun_32, dX5_rideRun_33, dX5_rideRun_35, dX5_rideRun_36, dX5_rideRun_38, dX5_rideRun_39, dX5_rideRun_40, dX5_rideRun_41, trivial⟩ rfl rfl ?_
        refine wx_virtualD (M := M_X5_rideRun) (uc := 0) (us := 0) (s := 6) (i := 0) (As := [.inl (.int k), .inl (.int (F_X7_stopAt h6 t (nI p)))]) (rest := [.inl (.int ((k * 10) + (F_X7_stopAt h6 t (nI p)))), .inr (20, some 0)]) cls_6 rfl (ok_X5_arrivalAt _ _) ml_X5_104 im_X5_arrivalAt se_X5_arrivalAt (by omega) (c_X5_arrivalAt (d := d - 1) (h := h6) (by omega) (W.sr Sr6) k (F_X7_stopAt h6 t (nI p))) rfl rfl (Nat.le_of_ble_eq_true rfl) dX5_rideRun_43 ?_
        refine wp_run [(.aload_n 1, 1), (.iload_n 2, 1), (.iload 5, 2)] (pc' := 50) (L' := [(6, .inl (.int (F_X7_stopAt h6 t (nI p)))), (5, .inl (.int (nI p))), (4, .inl (.int ab)), (0, .inr (6, some 0)), (1, .inr (8, some t)), (2, .inl (.int dy)), (3, .inl (.int k))]) (st' := [.inl (.int (nI p)), .inl (.int dy), .inr (8, some t), .inl (.int (F_X5_arrivalAt h6 k (F_X7_stopAt h6 t (nI p)))), .inl (.int ((k * 10) + (F_X7_stopAt h6 t (nI p)))), .inr (20, some 0)]) ⟨dX5_rideRun_46, dX5_rideRun_47, dX5_rideRun_48, trivial⟩ rfl rfl ?_
        refine wx_virtualD (M := M_X5_rideRun) (uc := 0) (us := 0) (s := 8) (i := t) (As := [.inl (.int dy), .inl (.int (nI p))]) (rest := [.inl (.int (F_X5_arrivalAt h6 k (F_X7_stopAt h6 t (nI p)))), .inl (.int ((k * 10) + (F_X7_stopAt h6 t (nI p)))), .inr (20, some 0)]) cls_8 rfl (ok_X7_reaches _ _) ml_X5_107 im_X7_reaches se_X7_reaches (by omega) (c_X7_reaches (d := d - 1) (h := h6) (by omega) (W.sr Sr6) (Sr6.lt ht) dy (nI p)) rfl rfl (Nat.le_of_ble_eq_true rfl) dX5_rideRun_50 ?_
        refine wx_min ml_X5_110 min_st math_ini min_code (by omega) (Nat.le_of_ble_eq_true rfl) dX5_rideRun_53 ?_
        refine wx_staticND (M := M_X5_rideRun) (uc := 0) (us := 0) (As := [.inr (20, some 0), .inl (.int ((k * 10) + (F_X7_stopAt h6 t (nI p)))), .inl (.int (if (F_X7_reaches h6 t dy (nI p)) < (F_X5_arrivalAt h6 k (F_X7_stopAt h6 t (nI p))) then (F_X7_reaches h6 t dy (nI p)) else (F_X5_arrivalAt h6 k (F_X7_stopAt h6 t (nI p)))))]) (rest := []) (ok_X8_put _ _) ml_X5_71 st_X8_put (by omega) (c_X8_put (d := d - 1) (by omega) (s := 20) (i := 0) rfl (Nat.le_of_ble_eq_true rfl) ((k * 10) + (F_X7_stopAt h6 t (nI p))) (if (F_X7_reaches h6 t dy (nI p)) < (F_X5_arrivalAt h6 k (F_X7_stopAt h6 t (nI p))) then (F_X7_reaches h6 t dy (nI p)) else (F_X5_arrivalAt h6 k (F_X7_stopAt h6 t (nI p))))) rfl rfl (Nat.le_of_ble_eq_true rfl) dX5_rideRun_56 ?_
        refine wx_goto (tgt := 88) dX5_rideRun_59 (by decide) ?_
        refine wp_run [(.iinc 5 1, 3)] (pc' := 91) (L' := [(5, .inl (.int ((nI p) + 1))), (6, .inl (.int (F_X7_stopAt h6 t (nI p)))), (4, .inl (.int ab)), (0, .inr (6, some 0)), (1, .inr (8, some t)), (2, .inl (.int dy)), (3, .inl (.int k))]) (st' := []) ⟨dX5_rideRun_88, trivial⟩ rfl rfl ?_
        refine wx_goto (tgt := 6) dX5_rideRun_91 (by decide) ?_
        rw [B_X5_rideRun_6, if_neg h_1, if_neg h_2]
        rw [nI_1 p]
        refine wp_sub [0, 2, 3, 4, 5, 6] (L' := [(5, .inl (.int (nI (p + 1)))), (4, .inl (.int ab)), (0, .inr (6, some 0)), (1, .inr (8, some t)), (2, .inl (.int dy)), (3, .inl (.int k))]) rfl ?_
        exact ih6 _ _ _ Sr6 (cy_nlt hip h_1).2 (by have := (cy_nlt hip h_1).2; omega)
def K_X5_rideOn_37 (h : Hp) (k : Int32) (h2 : Hp) (i : Nat) (rec2 : Hp → Nat → Hp) (h37 : Hp) (dy : Int32) : Hp := (rec2 h37 (i + 1))
def B_X5_rideOn_37 (h : Hp) (k : Int32) (h2 : Hp) (i : Nat) (rec2 : Hp → Nat → Hp) (kx : Hp → Int32 → Hp) (rec37 : Hp → Int32 → Hp) (h37 : Hp) (dy : Int32) : Hp := (if (xFI h37 607 0) < dy then (kx h37 dy) else (if 100 ≤ dy then (kx h37 dy) else (if (F_X7_goes h37 i dy) = 0 then (rec37 h37 (dy + 1)) else (rec37 (F_X5_rideRun h37 i dy k) (dy + 1)))))
def L_X5_rideOn_37 (h : Hp) (k : Int32) (h2 : Hp) (i : Nat) (rec2 : Hp → Nat → Hp) (kx : Hp → Int32 → Hp) : Nat → Hp → Int32 → Hp
  | 0 => fun h37 dy => h37
  | fu + 1 => B_X5_rideOn_37 h k h2 i rec2 kx (L_X5_rideOn_37 h k h2 i rec2 kx fu)
theorem L_X5_rideOn_37_s (h : Hp) (k : Int32) (h2 : Hp) (i : Nat) (rec2 : Hp → Nat → Hp) (kx : Hp → Int32 → Hp) (fu : Nat) (h37 : Hp) (dy : Int32) : L_X5_rideOn_37 h k h2 i rec2 kx (fu + 1) h37 dy = B_X5_rideOn_37 h k h2 i rec2 kx (L_X5_rideOn_37 h k h2 i rec2 kx fu) h37 dy := rfl
def B_X5_rideOn_2 (h : Hp) (k : Int32) (rec2 : Hp → Nat → Hp) (h2 : Hp) (i : Nat) : Hp := (if (nI (xLS h2 11)) ≤ (nI i) then h2 else L_X5_rideOn_37 h k h2 i rec2 (K_X5_rideOn_37 h k h2 i rec2) ((2147483647 - (xFI h2 606 0).toInt).toNat + 1) h2 (xFI h2 606 0))
def L_X5_rideOn_2 (h : Hp) (k : Int32) : Nat → Hp → Nat → Hp
  | 0 => fun h2 i => h2
  | fu + 1 => B_X5_rideOn_2 h k (L_X5_rideOn_2 h k fu)
theorem L_X5_rideOn_2_s (h : Hp) (k : Int32) (fu : Nat) (h2 : Hp) (i : Nat) : L_X5_rideOn_2 h k (fu + 1) h2 i = B_X5_rideOn_2 h k (L_X5_rideOn_2 h k fu) h2 i := rfl
def F_X5_rideOn (h : Hp) (k : Int32) : Hp := L_X5_rideOn_2 h k (2147483648 - 0 + 1) h 0
set_option maxRecDepth 20000 in
theorem c_X5_rideOn {g : GT} {d : Nat} (hd : 7 ≤ d) {h : Hp} (W : CW h) (k : Int32)  : Ctr g M_X5_rideOn d 0 0 [.inr (6, some 0), .inl (.int k)] h (cy_detP (.inl none) (F_X5_rideOn h k) (SR h (F_X5_rideOn h k))) := by
  refine cy_body rfl rfl (by decide) (Nat.le_of_ble_eq_true rfl) ?_
  refine wp_run [(.iconst 0, 1), (.istore_n 2, 1)] (pc' := 2) (L' := [(2, .inl (.int 0)), (0, .inr (6, some 0)), (1, .inl (.int k))]) (st' := []) ⟨dX5_rideOn_0, dX5_rideOn_1, trivial⟩ rfl rfl ?_
  rw [F_X5_rideOn]
  refine wp_sub [0, 1, 2] (L' := [(2, .inl (.int 0)), (0, .inr (6, some 0)), (1, .inl (.int k))]) rfl ?_
  suffices Y2 : ∀ (n2 : Nat) (h2 : Hp) (i : Nat) (Sr2 : SR h h2) (hii : i < 2147483648) (hm2 : 2147483648 - i < n2), WP g M_X5_rideOn d 0 0 2 [(2, .inl (.int (nI i))), (0, .inr (6, some 0)), (1, .inl (.int k))] [] h2 (cy_detP (.inl none) (L_X5_rideOn_2 h k n2 h2 i) (SR h (L_X5_rideOn_2 h k n2 h2 i))) from
    Y2 (2147483648 - 0 + 1) h 0 SR.rf (by decide) (Nat.lt_succ_self _)
  intro n2
  induction n2 with
  | zero => intro h2 i Sr2 hii hm2; exact absurd hm2 (Nat.not_lt_zero _)
  | succ n2 ih2 =>
    intro h2 i Sr2 hii hm2
    rw [L_X5_rideOn_2_s]
    generalize L_X5_rideOn_2 h k n2 = rec2 at ih2 ⊢
    refine wp_run [(.iload_n 2, 1), (.aload_n 0, 1)] (pc' := 4) (L' := [(2, .inl (.int (nI i))), (0, .inr (6, some 0)), (1, .inl (.int k))]) (st' := [.inr (6, some 0), .inl (.int (nI i))]) ⟨dX5_rideOn_2, dX5_rideOn_3, trivial⟩ rfl rfl ?_
    refine wx_getR cls_6 (k := 0) (f := 600) (t := 4) (o := some 0) (by decide) rfl rfl fl_X5_18 ((W.sr Sr2).fr (f := 600) (by decide)) dX5_rideOn_4 ?_
    refine wx_getR cls_4 (k := 2) (f := 402) (t := 11) (o := some 0) (by decide) rfl rfl fl_X5_75 ((W.sr Sr2).fr (f := 402) (by decide)) dX5_rideOn_7 ?_
    refine wx_virtualL (M := M_X5_rideOn) (uc := 0) (us := 0) (s := 11) (i := 0) (As := []) (rest := [.inl (.int (nI i))]) rfl rfl (ok_Jx4a65c_size_8abf5 _ _) ml_X5_79 im_Jx4a65c_size_8abf5 se_Jx4a65c_size_8abf5 (by omega) (c_size (d := d - 1) (by omega) (s := 11) rfl) rfl rfl (Nat.le_of_ble_eq_true rfl) dX5_rideOn_10 ?_
    refine wx_icmp_ge (tgt := 82) dX5_rideOn_13 (by decide) (fun h_1 => ?_) (fun h_1 => ?_)
    · exact wx_vret rfl rfl dX5_rideOn_82 (by rw [B_X5_rideOn_2, if_pos h_1]; exact ⟨Sr2, rfl, rfl⟩)
    · refine wp_run [(.aload_n 0, 1)] (pc' := 17) (L' := [(2, .inl (.int (nI i))), (0, .inr (6, some 0)), (1, .inl (.int k))]) (st' := [.inr (6, some 0)]) ⟨dX5_rideOn_16, trivial⟩ rfl rfl ?_
      refine wx_getR cls_6 (k := 0) (f := 600) (t := 4) (o := some 0) (by decide) rfl rfl fl_X5_18 ((W.sr Sr2).fr (f := 600) (by decide)) dX5_rideOn_17 ?_
      refine wx_getR cls_4 (k := 2) (f := 402) (t := 11) (o := some 0) (by decide) rfl rfl fl_X5_75 ((W.sr Sr2).fr (f := 402) (by decide)) dX5_rideOn_20 ?_
      refine wp_run [(.iload_n 2, 1)] (pc' := 24) (L' := [(2, .inl (.int (nI i))), (0, .inr (6, some 0)), (1, .inl (.int k))]) (st' := [.inl (.int (nI i)), .inr (11, some 0)]) ⟨dX5_rideOn_23, trivial⟩ rfl rfl ?_
      have hl_2 := cy_get hii (Nat.le_trans (W.sr Sr2).t20 (Nat.le_of_ble_eq_true rfl)) h_1
      refine wx_virtualL (M := M_X5_rideOn) (uc := 0) (us := 0) (s := 11) (i := 0) (As := [.inl (.int (nI i))]) (rest := []) rfl rfl (ok_Jx4a65c_get_915e3 _ _) ml_X5_85 im_Jx4a65c_get_915e3 se_Jx4a65c_get_915e3 (by omega) (det_to (c_get (d := d - 1) (by omega) (s := 11) (i := i) rfl hl_2 rfl) (by rw [(W.sr Sr2).tle hl_2]) rfl) rfl rfl (Nat.le_of_ble_eq_true rfl) dX5_rideOn_24 ?_
      refine wx_cast cls_8 cl_X5_89 dX5_rideOn_27 ?_
      refine wp_run [(.astore_n 3, 1), (.aload_n 0, 1)] (pc' := 32) (L' := [(3, .inr (8, some i)), (2, .inl (.int (nI i))), (0, .inr (6, some 0)), (1, .inl (.int k))]) (st' := [.inr (6, some 0)]) ⟨dX5_rideOn_30, dX5_rideOn_31, trivial⟩ rfl rfl ?_
      refine wx_getI cls_6 (k := 6) (f := 606) (by decide) rfl rfl fl_X5_36 dX5_rideOn_32 ?_
      refine wp_run [(.istore 4, 2)] (pc' := 37) (L' := [(4, .inl (.int (xFI h2 606 0))), (3, .inr (8, some i)), (2, .inl (.int (nI i))), (0, .inr (6, some 0)), (1, .inl (.int k))]) (st' := []) ⟨dX5_rideOn_35, trivial⟩ rfl rfl ?_
      rw [B_X5_rideOn_2, if_neg h_1]
      refine wp_sub [0, 1, 2, 3, 4] (L' := [(4, .inl (.int (xFI h2 606 0))), (3, .inr (8, some i)), (2, .inl (.int (nI i))), (0, .inr (6, some 0)), (1, .inl (.int k))]) rfl ?_
      have X37 : ∀ (h37 : Hp) (dy : Int32) (Sr37 : SR h h37) , WP g M_X5_rideOn d 0 0 76 [(2, .inl (.int (nI i))), (0, .inr (6, some 0)), (1, .inl (.int k))] [] h37 (cy_detP (.inl none) (K_X5_rideOn_37 h k h2 i rec2 h37 dy) (SR h (K_X5_rideOn_37 h k h2 i rec2 h37 dy))) := by
        intro h37 dy Sr37
        refine wp_run [(.iinc 2 1, 3)] (pc' := 79) (L' := [(2, .inl (.int ((nI i) + 1))), (0, .inr (6, some 0)), (1, .inl (.int k))]) (st' := []) ⟨dX5_rideOn_76, trivial⟩ rfl rfl ?_
        refine wx_goto (tgt := 2) dX5_rideOn_79 (by decide) ?_
        rw [K_X5_rideOn_37]
        rw [nI_1 i]
        refine wp_sub [0, 1, 2] (L' := [(2, .inl (.int (nI (i + 1)))), (0, .inr (6, some 0)), (1, .inl (.int k))]) rfl ?_
        exact ih2 _ _ Sr37 (cy_nlt hii h_1).2 (by have := (cy_nlt hii h_1).2; omega)
      suffices Y37 : ∀ (n37 : Nat) (h37 : Hp) (dy : Int32) (Sr37 : SR h h37) (hm37 : (2147483647 - dy.toInt).toNat < n37), WP g M_X5_rideOn d 0 0 37 [(4, .inl (.int dy)), (3, .inr (8, some i)), (2, .inl (.int (nI i))), (0, .inr (6, some 0)), (1, .inl (.int k))] [] h37 (cy_detP (.inl none) (L_X5_rideOn_37 h k h2 i rec2 (K_X5_rideOn_37 h k h2 i rec2) n37 h37 dy) (SR h (L_X5_rideOn_37 h k h2 i rec2 (K_X5_rideOn_37 h k h2 i rec2) n37 h37 dy))) from
        Y37 ((2147483647 - (xFI h2 606 0).toInt).toNat + 1) h2 (xFI h2 606 0) Sr2 (Nat.lt_succ_self _)
      intro n37
      induction n37 with
      | zero => intro h37 dy Sr37 hm37; exact absurd hm37 (Nat.not_lt_zero _)
      | succ n37 ih37 =>
        intro h37 dy Sr37 hm37
        rw [L_X5_rideOn_37_s]
        generalize L_X5_rideOn_37 h k h2 i rec2 (K_X5_rideOn_37 h k h2 i rec2) n37 = rec37 at ih37 ⊢
        refine wp_run [(.iload 4, 2), (.aload_n 0, 1)] (pc' := 40) (L' := [(4, .inl (.int dy)), (3, .inr (8, some i)), (2, .inl (.int (nI i))), (0, .inr (6, some 0)), (1, .inl (.int k))]) (st' := [.inr (6, some 0), .inl (.int dy)]) ⟨dX5_rideOn_37, dX5_rideOn_39, trivial⟩ rfl rfl ?_
        refine wx_getI cls_6 (k := 7) (f := 607) (by decide) rfl rfl fl_X5_42 dX5_rideOn_40 ?_
        refine wx_icmp_gt (tgt := 76) dX5_rideOn_43 (by decide) (fun h_3 => ?_) (fun h_3 => ?_)
        · rw [B_X5_rideOn_37, if_pos h_3]
          refine wp_sub [2, 3, 4] (L' := [(2, .inl (.int (nI i))), (0, .inr (6, some 0)), (1, .inl (.int k))]) rfl ?_
          exact X37 _ _ Sr37
        · refine wp_run [(.iload 4, 2), (.bipush 100, 2)] (pc' := 50) (L' := [(4, .inl (.int dy)), (3, .inr (8, some i)), (2, .inl (.int (nI i))), (0, .inr (6, some 0)), (1, .inl (.int k))]) (st' := [.inl (.int 100), .inl (.int dy)]) ⟨dX5_rideOn_46, dX5_rideOn_48, trivial⟩ rfl rfl ?_
          refine wx_icmp_ge (tgt := 76) dX5_rideOn_50 (by decide) (fun h_4 => ?_) (fun h_4 => ?_)
          · rw [B_X5_rideOn_37, if_neg h_3, if_pos h_4]
            refine wp_sub [2, 3, 4] (L' := [(2, .inl (.int (nI i))), (0, .inr (6, some 0)), (1, .inl (.int k))]) rfl ?_
            exact X37 _ _ Sr37
          · refine wp_run [(.aload_n 3, 1), (.iload 4, 2)] (pc' := 56) (L' := [(4, .inl (.int dy)), (3, .inr (8, some i)), (2, .inl (.int (nI i))), (0, .inr (6, some 0)), (1, .inl (.int k))]) (st' := [.inl (.int dy), .inr (8, some i)]) ⟨dX5_rideOn_53, dX5_rideOn_54, trivial⟩ rfl rfl ?_
            refine wx_virtualD (M := M_X5_rideOn) (uc := 0) (us := 0) (s := 8) (i := i) (As := [.inl (.int dy)]) (rest := []) cls_8 rfl (ok_X7_goes _ _) ml_X5_91 im_X7_goes se_X7_goes (by omega) (c_X7_goes (d := d - 1) (h := h37) (by omega) (W.sr Sr37) (Sr37.lt (Sr2.tl hl_2)) dy) rfl rfl (Nat.le_of_ble_eq_true rfl) dX5_rideOn_56 ?_
            refine wx_if_eq (tgt := 70) dX5_rideOn_59 (by decide) (fun h_5 => ?_) (fun h_5 => ?_)
            · refine wp_run [(.iinc 4 1, 3)] (pc' := 73) (L' := [(4, .inl (.int (dy + 1))), (3, .inr (8, some i)), (2, .inl (.int (nI i))), (0, .inr (6, some 0)), (1, .inl (.int k))]) (st' := []) ⟨dX5_rideOn_70, trivial⟩ rfl rfl ?_
              refine wx_goto (tgt := 37) dX5_rideOn_73 (by decide) ?_
              rw [B_X5_rideOn_37, if_neg h_3, if_neg h_4, if_pos h_5]
              refine wp_sub [0, 1, 2, 3, 4] (L' := [(4, .inl (.int (dy + 1))), (3, .inr (8, some i)), (2, .inl (.int (nI i))), (0, .inr (6, some 0)), (1, .inl (.int k))]) rfl ?_
              exact ih37 _ _ Sr37 (Nat.lt_of_lt_of_le (cy_up h_4) (Nat.le_of_lt_succ hm37))
            · refine wp_run [(.aload_n 0, 1), (.aload_n 3, 1), (.iload 4, 2), (.iload_n 1, 1)] (pc' := 67) (L' := [(4, .inl (.int dy)), (3, .inr (8, some i)), (2, .inl (.int (nI i))), (0, .inr (6, some 0)), (1, .inl (.int k))]) (st' := [.inl (.int k), .inl (.int dy), .inr (8, some i), .inr (6, some 0)]) ⟨dX5_rideOn_62, dX5_rideOn_63, dX5_rideOn_64, dX5_rideOn_66, trivial⟩ rfl rfl ?_
              refine wx_virtualDP (M := M_X5_rideOn) (uc := 0) (us := 0) (s := 6) (i := 0) (As := [.inr (8, some i), .inl (.int dy), .inl (.int k)]) (rest := []) cls_6 rfl (ok_X5_rideRun _ _) ml_X5_95 im_X5_rideRun se_X5_rideRun (by omega) (c_X5_rideRun (d := d - 1) (h := h37) (by omega) (W.sr Sr37) (Sr37.lt (Sr2.tl hl_2)) dy k) rfl rfl (Nat.le_of_ble_eq_true rfl) dX5_rideOn_67 (fun hS_6 => ?_)
              refine wp_run [(.iinc 4 1, 3)] (pc' := 73) (L' := [(4, .inl (.int (dy + 1))), (3, .inr (8, some i)), (2, .inl (.int (nI i))), (0, .inr (6, some 0)), (1, .inl (.int k))]) (st' := []) ⟨dX5_rideOn_70, trivial⟩ rfl rfl ?_
              refine wx_goto (tgt := 37) dX5_rideOn_73 (by decide) ?_
              rw [B_X5_rideOn_37, if_neg h_3, if_neg h_4, if_neg h_5]
              refine wp_sub [0, 1, 2, 3, 4] (L' := [(4, .inl (.int (dy + 1))), (3, .inr (8, some i)), (2, .inl (.int (nI i))), (0, .inr (6, some 0)), (1, .inl (.int k))]) rfl ?_
              exact ih37 _ _ (Sr37.trans hS_6) (Nat.lt_of_lt_of_le (cy_up h_4) (Nat.le_of_lt_succ hm37))
def K_X5_changeAll_19 (h : Hp) (k : Int32) (h2 : Hp) (s : Nat) (rec2 : Hp → Nat → Hp) (re : Int32) (a : Nat) : Hp := (rec2 (H_put h2 21 0 ((k * 10) + (nI s)) re) (s + 1))
def B_X5_changeAll_19 (h : Hp) (k : Int32) (h2 : Hp) (s : Nat) (rec2 : Hp → Nat → Hp) (kx : Int32 → Nat → Hp) (rec19 : Int32 → Nat → Hp) (re : Int32) (a : Nat) : Hp := (if (xFI h2 403 0) ≤ (nI a) then (kx re a) else (rec19 (if (F_X5_readyFrom h2 (nI a) (nI s) k) < re then (F_X5_readyFrom h2 (nI a) (nI s) k) else re) (a + 1)))
def L_X5_changeAll_19 (h : Hp) (k : Int32) (h2 : Hp) (s : Nat) (rec2 : Hp → Nat → Hp) (kx : Int32 → Nat → Hp) : Nat → Int32 → Nat → Hp
  | 0 => fun re a => h
  | fu + 1 => B_X5_changeAll_19 h k h2 s rec2 kx (L_X5_changeAll_19 h k h2 s rec2 kx fu)
theorem L_X5_changeAll_19_s (h : Hp) (k : Int32) (h2 : Hp) (s : Nat) (rec2 : Hp → Nat → Hp) (kx : Int32 → Nat → Hp) (fu : Nat) (re : Int32) (a : Nat) : L_X5_changeAll_19 h k h2 s rec2 kx (fu + 1) re a = B_X5_changeAll_19 h k h2 s rec2 kx (L_X5_changeAll_19 h k h2 s rec2 kx fu) re a := rfl
def B_X5_changeAll_2 (h : Hp) (k : Int32) (rec2 : Hp → Nat → Hp) (h2 : Hp) (s : Nat) : Hp := (if (xFI h2 403 0) ≤ (nI s) then h2 else L_X5_changeAll_19 h k h2 s rec2 (K_X5_changeAll_19 h k h2 s rec2) (2147483648 - 0 + 1) 1000000000 0)
def L_X5_changeAll_2 (h : Hp) (k : Int32) : Nat → Hp → Nat → Hp
  | 0 => fun h2 s => h2
  | fu + 1 => B_X5_changeAll_2 h k (L_X5_changeAll_2 h k fu)
theorem L_X5_changeAll_2_s (h : Hp) (k : Int32) (fu : Nat) (h2 : Hp) (s : Nat) : L_X5_changeAll_2 h k (fu + 1) h2 s = B_X5_changeAll_2 h k (L_X5_changeAll_2 h k fu) h2 s := rfl
def F_X5_changeAll (h : Hp) (k : Int32) : Hp := L_X5_changeAll_2 h k (2147483648 - 0 + 1) h 0
set_option maxRecDepth 20000 in
theorem c_X5_changeAll {g : GT} {d : Nat} (hd : 5 ≤ d) {h : Hp} (W : CW h) (k : Int32)  : Ctr g M_X5_changeAll d 0 0 [.inr (6, some 0), .inl (.int k)] h (cy_detP (.inl none) (F_X5_changeAll h k) (SR h (F_X5_changeAll h k))) := by
  refine cy_body rfl rfl (by decide) (Nat.le_of_ble_eq_true rfl) ?_
  refine wp_run [(.iconst 0, 1), (.istore_n 2, 1)] (pc' := 2) (L' := [(2, .inl (.int 0)), (0, .inr (6, some 0)), (1, .inl (.int k))]) (st' := []) ⟨dX5_changeAll_0, dX5_changeAll_1, trivial⟩ rfl rfl ?_
  rw [F_X5_changeAll]
  refine wp_sub [0, 1, 2] (L' := [(2, .inl (.int 0)), (0, .inr (6, some 0)), (1, .inl (.int k))]) rfl ?_
  suffices Y2 : ∀ (n2 : Nat) (h2 : Hp) (s : Nat) (Sr2 : SR h h2) (his : s < 2147483648) (hm2 : 2147483648 - s < n2), WP g M_X5_changeAll d 0 0 2 [(2, .inl (.int (nI s))), (0, .inr (6, some 0)), (1, .inl (.int k))] [] h2 (cy_detP (.inl none) (L_X5_changeAll_2 h k n2 h2 s) (SR h (L_X5_changeAll_2 h k n2 h2 s))) from
    Y2 (2147483648 - 0 + 1) h 0 SR.rf (by decide) (Nat.lt_succ_self _)
  intro n2
  induction n2 with
  | zero => intro h2 s Sr2 his hm2; exact absurd hm2 (Nat.not_lt_zero _)
  | succ n2 ih2 =>
    intro h2 s Sr2 his hm2
    rw [L_X5_changeAll_2_s]
    generalize L_X5_changeAll_2 h k n2 = rec2 at ih2 ⊢
    refine wp_run [(.iload_n 2, 1), (.aload_n 0, 1)] (pc' := 4) (L' := [(2, .inl (.int (nI s))), (0, .inr (6, some 0)), (1, .inl (.int k))]) (st' := [.inr (6, some 0), .inl (.int (nI s))]) ⟨dX5_changeAll_2, dX5_changeAll_3, trivial⟩ rfl rfl ?_
    refine wx_getR cls_6 (k := 0) (f := 600) (t := 4) (o := some 0) (by decide) rfl rfl fl_X5_18 ((W.sr Sr2).fr (f := 600) (by decide)) dX5_changeAll_4 ?_
    refine wx_getI cls_4 (k := 3) (f := 403) (by decide) rfl rfl fl_X5_62 dX5_changeAll_7 ?_
    refine wx_icmp_ge (tgt := 70) dX5_changeAll_10 (by decide) (fun h_1 => ?_) (fun h_1 => ?_)
    · exact wx_vret rfl rfl dX5_changeAll_70 (by rw [B_X5_changeAll_2, if_pos h_1]; exact ⟨Sr2, rfl, rfl⟩)
    · refine wx_ldc kc_X5_45 dX5_changeAll_13 ?_
      refine wp_run [(.istore_n 3, 1), (.iconst 0, 1), (.istore 4, 2)] (pc' := 19) (L' := [(4, .inl (.int 0)), (3, .inl (.int 1000000000)), (2, .inl (.int (nI s))), (0, .inr (6, some 0)), (1, .inl (.int k))]) (st' := []) ⟨dX5_changeAll_15, dX5_changeAll_16, dX5_changeAll_17, trivial⟩ rfl rfl ?_
      rw [B_X5_changeAll_2, if_neg h_1]
      refine wp_sub [0, 1, 2, 3, 4] (L' := [(4, .inl (.int 0)), (3, .inl (.int 1000000000)), (2, .inl (.int (nI s))), (0, .inr (6, some 0)), (1, .inl (.int k))]) rfl ?_
      have X19 : ∀ (re : Int32) (a : Nat) (hia : a < 2147483648) , WP g M_X5_changeAll d 0 0 50 [(3, .inl (.int re)), (2, .inl (.int (nI s))), (0, .inr (6, some 0)), (1, .inl (.int k))] [] h2 (cy_detP (.inl none) (K_X5_changeAll_19 h k h2 s rec2 re a) (SR h (K_X5_changeAll_19 h k h2 s rec2 re a))) := by
        intro re a hia
        refine wp_run [(.aload_n 0, 1)] (pc' := 51) (L' := [(3, .inl (.int re)), (2, .inl (.int (nI s))), (0, .inr (6, some 0)), (1, .inl (.int k))]) (st' := [.inr (6, some 0)]) ⟨dX5_changeAll_50, trivial⟩ rfl rfl ?_
        refine wx_getR cls_6 (k := 2) (f := 602) (t := 21) (o := some 0) (by decide) rfl rfl fl_X5_15 ((W.sr Sr2).fr (f := 602) (by decide)) dX5_changeAll_51 ?_
        refine wp_run [(.iload_n 1, 1), (.bipush 10, 2), (.imul, 1), (.iload_n 2, 1), (.iadd, 1), (.iload_n 3, 1)] (pc' := 61) (L' := [(3, .inl (.int re)), (2, .inl (.int (nI s))), (0, .inr (6, some 0)), (1, .inl (.int k))]) (st' := [.inl (.int re), .inl (.int ((k * 10) + (nI s))), .inr (21, some 0)]) ⟨dX5_changeAll_54, dX5_changeAll_55, dX5_changeAll_57, dX5_changeAll_58, dX5_changeAll_59, dX5_changeAll_60, trivial⟩ rfl rfl ?_
        refine wx_staticND (M := M_X5_changeAll) (uc := 0) (us := 0) (As := [.inr (21, some 0), .inl (.int ((k * 10) + (nI s))), .inl (.int re)]) (rest := []) (ok_X8_put _ _) ml_X5_71 st_X8_put (by omega) (c_X8_put (d := d - 1) (by omega) (s := 21) (i := 0) rfl (Nat.le_of_ble_eq_true rfl) ((k * 10) + (nI s)) re) rfl rfl (Nat.le_of_ble_eq_true rfl) dX5_changeAll_61 ?_
        refine wp_run [(.iinc 2 1, 3)] (pc' := 67) (L' := [(2, .inl (.int ((nI s) + 1))), (3, .inl (.int re)), (0, .inr (6, some 0)), (1, .inl (.int k))]) (st' := []) ⟨dX5_changeAll_64, trivial⟩ rfl rfl ?_
        refine wx_goto (tgt := 2) dX5_changeAll_67 (by decide) ?_
        rw [K_X5_changeAll_19]
        rw [nI_1 s]
        refine wp_sub [0, 2, 3] (L' := [(2, .inl (.int (nI (s + 1)))), (0, .inr (6, some 0)), (1, .inl (.int k))]) rfl ?_
        exact ih2 _ _ Sr2 (cy_nlt his h_1).2 (by have := (cy_nlt his h_1).2; omega)
      suffices Y19 : ∀ (n19 : Nat) (re : Int32) (a : Nat) (hia : a < 2147483648) (hm19 : 2147483648 - a < n19), WP g M_X5_changeAll d 0 0 19 [(4, .inl (.int (nI a))), (3, .inl (.int re)), (2, .inl (.int (nI s))), (0, .inr (6, some 0)), (1, .inl (.int k))] [] h2 (cy_detP (.inl none) (L_X5_changeAll_19 h k h2 s rec2 (K_X5_changeAll_19 h k h2 s rec2) n19 re a) (SR h (L_X5_changeAll_19 h k h2 s rec2 (K_X5_changeAll_19 h k h2 s rec2) n19 re a))) from
        Y19 (2147483648 - 0 + 1) 1000000000 0 (by decide) (Nat.lt_succ_self _)
      intro n19
      induction n19 with
      | zero => intro re a hia hm19; exact absurd hm19 (Nat.not_lt_zero _)
      | succ n19 ih19 =>
        intro re a hia hm19
        rw [L_X5_changeAll_19_s]
        generalize L_X5_changeAll_19 h k h2 s rec2 (K_X5_changeAll_19 h k h2 s rec2) n19 = rec19 at ih19 ⊢
        refine wp_run [(.iload 4, 2), (.aload_n 0, 1)] (pc' := 22) (L' := [(4, .inl (.int (nI a))), (3, .inl (.int re)), (2, .inl (.int (nI s))), (0, .inr (6, some 0)), (1, .inl (.int k))]) (st' := [.inr (6, some 0), .inl (.int (nI a))]) ⟨dX5_changeAll_19, dX5_changeAll_21, trivial⟩ rfl rfl ?_
        refine wx_getR cls_6 (k := 0) (f := 600) (t := 4) (o := some 0) (by decide) rfl rfl fl_X5_18 ((W.sr Sr2).fr (f := 600) (by decide)) dX5_changeAll_22 ?_
        refine wx_getI cls_4 (k := 3) (f := 403) (by decide) rfl rfl fl_X5_62 dX5_changeAll_25 ?_
        refine wx_icmp_ge (tgt := 50) dX5_changeAll_28 (by decide) (fun h_2 => ?_) (fun h_2 => ?_)
        · rw [B_X5_changeAll_19, if_pos h_2]
          refine wp_sub [1, 2, 3, 4] (L' := [(3, .inl (.int re)), (2, .inl (.int (nI s))), (0, .inr (6, some 0)), (1, .inl (.int k))]) rfl ?_
          exact X19 _ _ hia
        · refine wp_run [(.iload_n 3, 1), (.aload_n 0, 1), (.iload 4, 2), (.iload_n 2, 1), (.iload_n 1, 1)] (pc' := 37) (L' := [(4, .inl (.int (nI a))), (3, .inl (.int re)), (2, .inl (.int (nI s))), (0, .inr (6, some 0)), (1, .inl (.int k))]) (st' := [.inl (.int k), .inl (.int (nI s)), .inl (.int (nI a)), .inr (6, some 0), .inl (.int re)]) ⟨dX5_changeAll_31, dX5_changeAll_32, dX5_changeAll_33, dX5_changeAll_35, dX5_changeAll_36, trivial⟩ rfl rfl ?_
          refine wx_virtualD (M := M_X5_changeAll) (uc := 0) (us := 0) (s := 6) (i := 0) (As := [.inl (.int (nI a)), .inl (.int (nI s)), .inl (.int k)]) (rest := [.inl (.int re)]) cls_6 rfl (ok_X5_readyFrom _ _) ml_X5_121 im_X5_readyFrom se_X5_readyFrom (by omega) (c_X5_readyFrom (d := d - 1) (h := h2) (by omega) (W.sr Sr2) (nI a) (nI s) k) rfl rfl (Nat.le_of_ble_eq_true rfl) dX5_changeAll_37 ?_
          refine wx_min ml_X5_110 min_st math_ini min_code (by omega) (Nat.le_of_ble_eq_true rfl) dX5_changeAll_40 ?_
          refine wp_run [(.istore_n 3, 1), (.iinc 4 1, 3)] (pc' := 47) (L' := [(4, .inl (.int ((nI a) + 1))), (3, .inl (.int (if (F_X5_readyFrom h2 (nI a) (nI s) k) < re then (F_X5_readyFrom h2 (nI a) (nI s) k) else re))), (2, .inl (.int (nI s))), (0, .inr (6, some 0)), (1, .inl (.int k))]) (st' := []) ⟨dX5_changeAll_43, dX5_changeAll_44, trivial⟩ rfl rfl ?_
          refine wx_goto (tgt := 19) dX5_changeAll_47 (by decide) ?_
          rw [B_X5_changeAll_19, if_neg h_2]
          rw [nI_1 a]
          refine wp_sub [0, 1, 2, 3, 4] (L' := [(4, .inl (.int (nI (a + 1)))), (3, .inl (.int (if (F_X5_readyFrom h2 (nI a) (nI s) k) < re then (F_X5_readyFrom h2 (nI a) (nI s) k) else re))), (2, .inl (.int (nI s))), (0, .inr (6, some 0)), (1, .inl (.int k))]) rfl ?_
          exact ih19 _ _ (cy_nlt hia h_2).2 (by have := (cy_nlt hia h_2).2; omega)
def B_X5_seek_56 (h : Hp) (a : Int32) (b : Int32) (ti : Int32) (n : Int32) (rec56 : Hp → Nat → Hp) (h56 : Hp) (k : Nat) : Hp := (if 4 < (nI k) then h56 else (if n < (nI k) then h56 else (rec56 (F_X5_changeAll (F_X5_rideOn h56 (nI k)) (nI k)) (k + 1))))
def L_X5_seek_56 (h : Hp) (a : Int32) (b : Int32) (ti : Int32) (n : Int32) : Nat → Hp → Nat → Hp
  | 0 => fun h56 k => h56
  | fu + 1 => B_X5_seek_56 h a b ti n (L_X5_seek_56 h a b ti n fu)
theorem L_X5_seek_56_s (h : Hp) (a : Int32) (b : Int32) (ti : Int32) (n : Int32) (fu : Nat) (h56 : Hp) (k : Nat) : L_X5_seek_56 h a b ti n (fu + 1) h56 k = B_X5_seek_56 h a b ti n (L_X5_seek_56 h a b ti n fu) h56 k := rfl
def F_X5_seek (h : Hp) (a : Int32) (b : Int32) (ti : Int32) (n : Int32) : Hp := L_X5_seek_56 h a b ti n (2147483648 - 1 + 1) (F_X5_setOut (H_fill (H_fill (sFI (sFI (sFI (sFI (sFI h 603 0 a) 604 0 b) 605 0 ti) 606 0 (F_X8_firstDayFor ti)) 607 0 (F_X8_lastDayFor ti)) 20 0 1000000000) 21 0 1000000000)) 1
set_option maxRecDepth 20000 in
theorem c_X5_seek {g : GT} {d : Nat} (hd : 8 ≤ d) {h : Hp} (W : CW h) (a : Int32) (b : Int32) (ti : Int32) (n : Int32)  : Ctr g M_X5_seek d 0 0 [.inr (6, some 0), .inl (.int a), .inl (.int b), .inl (.int ti), .inl (.int n)] h (cy_detP (.inl none) (F_X5_seek h a b ti n) (SR h (F_X5_seek h a b ti n))) := by
  refine cy_body rfl rfl (by decide) (Nat.le_of_ble_eq_true rfl) ?_
  refine wp_run [(.aload_n 0, 1), (.iload_n 1, 1)] (pc' := 2) (L' := [(0, .inr (6, some 0)), (1, .inl (.int a)), (2, .inl (.int b)), (3, .inl (.int ti)), (4, .inl (.int n))]) (st' := [.inl (.int a), .inr (6, some 0)]) ⟨dX5_seek_0, dX5_seek_1, trivial⟩ rfl rfl ?_
  refine wx_putI cls_6 (k := 3) (f := 603) (by decide) rfl rfl rfl fl_X5_22 (Or.inl rfl) dX5_seek_2 ?_
  refine wp_run [(.aload_n 0, 1), (.iload_n 2, 1)] (pc' := 7) (L' := [(0, .inr (6, some 0)), (1, .inl (.int a)), (2, .inl (.int b)), (3, .inl (.int ti)), (4, .inl (.int n))]) (st' := [.inl (.int b), .inr (6, some 0)]) ⟨dX5_seek_5, dX5_seek_6, trivial⟩ rfl rfl ?_
  refine wx_putI cls_6 (k := 4) (f := 604) (by decide) rfl rfl rfl fl_X5_26 (Or.inl rfl) dX5_seek_7 ?_
  refine wp_run [(.aload_n 0, 1), (.iload_n 3, 1)] (pc' := 12) (L' := [(0, .inr (6, some 0)), (1, .inl (.int a)), (2, .inl (.int b)), (3, .inl (.int ti)), (4, .inl (.int n))]) (st' := [.inl (.int ti), .inr (6, some 0)]) ⟨dX5_seek_10, dX5_seek_11, trivial⟩ rfl rfl ?_
  refine wx_putI cls_6 (k := 5) (f := 605) (by decide) rfl rfl rfl fl_X5_29 (Or.inl rfl) dX5_seek_12 ?_
  refine wp_run [(.aload_n 0, 1), (.iload_n 3, 1)] (pc' := 17) (L' := [(0, .inr (6, some 0)), (1, .inl (.int a)), (2, .inl (.int b)), (3, .inl (.int ti)), (4, .inl (.int n))]) (st' := [.inl (.int ti), .inr (6, some 0)]) ⟨dX5_seek_15, dX5_seek_16, trivial⟩ rfl rfl ?_
  refine wx_staticND (M := M_X5_seek) (uc := 0) (us := 0) (As := [.inl (.int ti)]) (rest := [.inr (6, some 0)]) (ok_X8_firstDayFor _ _) ml_X5_32 st_X8_firstDayFor (by omega) (c_X8_firstDayFor (d := d - 1) (h := (sFI (sFI (sFI h 603 0 a) 604 0 b) 605 0 ti)) (by omega) ti) rfl rfl (Nat.le_of_ble_eq_true rfl) dX5_seek_17 ?_
  refine wx_putI cls_6 (k := 6) (f := 606) (by decide) rfl rfl rfl fl_X5_36 (Or.inl rfl) dX5_seek_20 ?_
  refine wp_run [(.aload_n 0, 1), (.iload_n 3, 1)] (pc' := 25) (L' := [(0, .inr (6, some 0)), (1, .inl (.int a)), (2, .inl (.int b)), (3, .inl (.int ti)), (4, .inl (.int n))]) (st' := [.inl (.int ti), .inr (6, some 0)]) ⟨dX5_seek_23, dX5_seek_24, trivial⟩ rfl rfl ?_
  refine wx_staticND (M := M_X5_seek) (uc := 0) (us := 0) (As := [.inl (.int ti)]) (rest := [.inr (6, some 0)]) (ok_X8_lastDayFor _ _) ml_X5_39 st_X8_lastDayFor (by omega) (c_X8_lastDayFor (d := d - 1) (h := (sFI (sFI (sFI (sFI h 603 0 a) 604 0 b) 605 0 ti) 606 0 (F_X8_firstDayFor ti))) (by omega) ti) rfl rfl (Nat.le_of_ble_eq_true rfl) dX5_seek_25 ?_
  refine wx_putI cls_6 (k := 7) (f := 607) (by decide) rfl rfl rfl fl_X5_42 (Or.inl rfl) dX5_seek_28 ?_
  refine wp_run [(.aload_n 0, 1)] (pc' := 32) (L' := [(0, .inr (6, some 0)), (1, .inl (.int a)), (2, .inl (.int b)), (3, .inl (.int ti)), (4, .inl (.int n))]) (st' := [.inr (6, some 0)]) ⟨dX5_seek_31, trivial⟩ rfl rfl ?_
  refine wx_getR cls_6 (k := 1) (f := 601) (t := 20) (o := some 0) (by decide) rfl rfl fl_X5_9 (W.fr (f := 601) (by decide)) dX5_seek_32 ?_
  refine wx_ldc kc_X5_45 dX5_seek_35 ?_
  refine wx_staticD (M := M_X5_seek) (uc := 0) (us := 0) (As := [.inr (20, some 0), .inl (.int 1000000000)]) (rest := []) (ok_J7_fill_53178 _ _) ml_X5_46 st_J7_fill_53178 (by omega) (c_fill (d := d - 1) (by omega) (s := 20) (i := 0) rfl (Nat.le_of_ble_eq_true rfl) 1000000000) rfl rfl (Nat.le_of_ble_eq_true rfl) dX5_seek_37 ?_
  refine wp_run [(.aload_n 0, 1)] (pc' := 41) (L' := [(0, .inr (6, some 0)), (1, .inl (.int a)), (2, .inl (.int b)), (3, .inl (.int ti)), (4, .inl (.int n))]) (st' := [.inr (6, some 0)]) ⟨dX5_seek_40, trivial⟩ rfl rfl ?_
  refine wx_getR cls_6 (k := 2) (f := 602) (t := 21) (o := some 0) (by decide) rfl rfl fl_X5_15 (W.fr (f := 602) (by decide)) dX5_seek_41 ?_
  refine wx_ldc kc_X5_45 dX5_seek_44 ?_
  refine wx_staticD (M := M_X5_seek) (uc := 0) (us := 0) (As := [.inr (21, some 0), .inl (.int 1000000000)]) (rest := []) (ok_J7_fill_53178 _ _) ml_X5_46 st_J7_fill_53178 (by omega) (c_fill (d := d - 1) (by omega) (s := 21) (i := 0) rfl (Nat.le_of_ble_eq_true rfl) 1000000000) rfl rfl (Nat.le_of_ble_eq_true rfl) dX5_seek_46 ?_
  refine wp_run [(.aload_n 0, 1)] (pc' := 50) (L' := [(0, .inr (6, some 0)), (1, .inl (.int a)), (2, .inl (.int b)), (3, .inl (.int ti)), (4, .inl (.int n))]) (st' := [.inr (6, some 0)]) ⟨dX5_seek_49, trivial⟩ rfl rfl ?_
  refine wx_virtualDP (M := M_X5_seek) (uc := 0) (us := 0) (s := 6) (i := 0) (As := []) (rest := []) cls_6 rfl (ok_X5_setOut _ _) ml_X5_52 im_X5_setOut se_X5_setOut (by omega) (c_X5_setOut (d := d - 1) (h := (H_fill (H_fill (sFI (sFI (sFI (sFI (sFI h 603 0 a) 604 0 b) 605 0 ti) 606 0 (F_X8_firstDayFor ti)) 607 0 (F_X8_lastDayFor ti)) 20 0 1000000000) 21 0 1000000000)) (by omega) W) rfl rfl (Nat.le_of_ble_eq_true rfl) dX5_seek_50 (fun hS_1 => ?_)
  refine wp_run [(.iconst 1, 1), (.istore 5, 2)] (pc' := 56) (L' := [(5, .inl (.int 1)), (0, .inr (6, some 0)), (1, .inl (.int a)), (2, .inl (.int b)), (3, .inl (.int ti)), (4, .inl (.int n))]) (st' := []) ⟨dX5_seek_53, dX5_seek_54, trivial⟩ rfl rfl ?_
  rw [F_X5_seek]
  refine wp_sub [0, 1, 5] (L' := [(5, .inl (.int 1)), (0, .inr (6, some 0)), (4, .inl (.int n))]) rfl ?_
  suffices Y56 : ∀ (n56 : Nat) (h56 : Hp) (k : Nat) (Sr56 : SR h h56) (hik : k < 2147483648) (hm56 : 2147483648 - k < n56), WP g M_X5_seek d 0 0 56 [(5, .inl (.int (nI k))), (0, .inr (6, some 0)), (4, .inl (.int n))] [] h56 (cy_detP (.inl none) (L_X5_seek_56 h a b ti n n56 h56 k) (SR h (L_X5_seek_56 h a b ti n n56 h56 k))) from
    Y56 (2147483648 - 1 + 1) (F_X5_setOut (H_fill (H_fill (sFI (sFI (sFI (sFI (sFI h 603 0 a) 604 0 b) 605 0 ti) 606 0 (F_X8_firstDayFor ti)) 607 0 (F_X8_lastDayFor ti)) 20 0 1000000000) 21 0 1000000000)) 1 hS_1 (by decide) (Nat.lt_succ_self _)
  intro n56
  induction n56 with
  | zero => intro h56 k Sr56 hik hm56; exact absurd hm56 (Nat.not_lt_zero _)
  | succ n56 ih56 =>
    intro h56 k Sr56 hik hm56
    rw [L_X5_seek_56_s]
    generalize L_X5_seek_56 h a b ti n n56 = rec56 at ih56 ⊢
    refine wp_run [(.iload 5, 2), (.iconst 4, 1)] (pc' := 59) (L' := [(5, .inl (.int (nI k))), (0, .inr (6, some 0)), (4, .inl (.int n))]) (st' := [.inl (.int 4), .inl (.int (nI k))]) ⟨dX5_seek_56, dX5_seek_58, trivial⟩ rfl rfl ?_
    refine wx_icmp_gt (tgt := 87) dX5_seek_59 (by decide) (fun h_2 => ?_) (fun h_2 => ?_)
    · exact wx_vret rfl rfl dX5_seek_87 (by rw [B_X5_seek_56, if_pos h_2]; exact ⟨Sr56, rfl, rfl⟩)
    · refine wp_run [(.iload 5, 2), (.iload 4, 2)] (pc' := 66) (L' := [(5, .inl (.int (nI k))), (0, .inr (6, some 0)), (4, .inl (.int n))]) (st' := [.inl (.int n), .inl (.int (nI k))]) ⟨dX5_seek_62, dX5_seek_64, trivial⟩ rfl rfl ?_
      refine wx_icmp_gt (tgt := 87) dX5_seek_66 (by decide) (fun h_3 => ?_) (fun h_3 => ?_)
      · exact wx_vret rfl rfl dX5_seek_87 (by rw [B_X5_seek_56, if_neg h_2, if_pos h_3]; exact ⟨Sr56, rfl, rfl⟩)
      · refine wp_run [(.aload_n 0, 1), (.iload 5, 2)] (pc' := 72) (L' := [(5, .inl (.int (nI k))), (0, .inr (6, some 0)), (4, .inl (.int n))]) (st' := [.inl (.int (nI k)), .inr (6, some 0)]) ⟨dX5_seek_69, dX5_seek_70, trivial⟩ rfl rfl ?_
        refine wx_virtualDP (M := M_X5_seek) (uc := 0) (us := 0) (s := 6) (i := 0) (As := [.inl (.int (nI k))]) (rest := []) cls_6 rfl (ok_X5_rideOn _ _) ml_X5_55 im_X5_rideOn se_X5_rideOn (by omega) (c_X5_rideOn (d := d - 1) (h := h56) (by omega) (W.sr Sr56) (nI k)) rfl rfl (Nat.le_of_ble_eq_true rfl) dX5_seek_72 (fun hS_4 => ?_)
        refine wp_run [(.aload_n 0, 1), (.iload 5, 2)] (pc' := 78) (L' := [(5, .inl (.int (nI k))), (0, .inr (6, some 0)), (4, .inl (.int n))]) (st' := [.inl (.int (nI k)), .inr (6, some 0)]) ⟨dX5_seek_75, dX5_seek_76, trivial⟩ rfl rfl ?_
        refine wx_virtualDP (M := M_X5_seek) (uc := 0) (us := 0) (s := 6) (i := 0) (As := [.inl (.int (nI k))]) (rest := []) cls_6 rfl (ok_X5_changeAll _ _) ml_X5_59 im_X5_changeAll se_X5_changeAll (by omega) (c_X5_changeAll (d := d - 1) (h := (F_X5_rideOn h56 (nI k))) (by omega) (W.sr (Sr56.trans hS_4)) (nI k)) rfl rfl (Nat.le_of_ble_eq_true rfl) dX5_seek_78 (fun hS_5 => ?_)
        refine wp_run [(.iinc 5 1, 3)] (pc' := 84) (L' := [(5, .inl (.int ((nI k) + 1))), (0, .inr (6, some 0)), (4, .inl (.int n))]) (st' := []) ⟨dX5_seek_81, trivial⟩ rfl rfl ?_
        refine wx_goto (tgt := 56) dX5_seek_84 (by decide) ?_
        rw [B_X5_seek_56, if_neg h_2, if_neg h_3]
        rw [nI_1 k]
        refine wp_sub [0, 1, 2] (L' := [(5, .inl (.int (nI (k + 1)))), (0, .inr (6, some 0)), (4, .inl (.int n))]) rfl ?_
        exact ih56 _ _ ((Sr56.trans hS_4).trans hS_5) (cy_nle hik (Int32.not_lt.mp h_2) (by decide)).2 (by have := (cy_nle hik (Int32.not_lt.mp h_2) (by decide)).2; omega)
def B_X5_end_5 (h : Hp) (k : Int32) (rec5 : Int32 → Nat → Int32) (e : Int32) (s : Nat) : Int32 := (if (xFI h 403 0) ≤ (nI s) then e else (rec5 (if (F_X5_endFrom h (nI s) k) < e then (F_X5_endFrom h (nI s) k) else e) (s + 1)))
def L_X5_end_5 (h : Hp) (k : Int32) : Nat → Int32 → Nat → Int32
  | 0 => fun e s => 0
  | fu + 1 => B_X5_end_5 h k (L_X5_end_5 h k fu)
theorem L_X5_end_5_s (h : Hp) (k : Int32) (fu : Nat) (e : Int32) (s : Nat) : L_X5_end_5 h k (fu + 1) e s = B_X5_end_5 h k (L_X5_end_5 h k fu) e s := rfl
def F_X5_end (h : Hp) (k : Int32) : Int32 := L_X5_end_5 h k (2147483648 - 0 + 1) 1000000000 0
set_option maxRecDepth 20000 in
theorem c_X5_end {g : GT} {d : Nat} (hd : 4 ≤ d) {h : Hp} (W : CW h) (k : Int32)  : Ctr g M_X5_end d 0 0 [.inr (6, some 0), .inl (.int k)] h (cy_det (.inl (some (.inl (.int (F_X5_end h k))))) h) := by
  refine cy_body rfl rfl (by decide) (Nat.le_of_ble_eq_true rfl) ?_
  refine wx_ldc kc_X5_45 dX5_end_0 ?_
  refine wp_run [(.istore_n 2, 1), (.iconst 0, 1), (.istore_n 3, 1)] (pc' := 5) (L' := [(3, .inl (.int 0)), (2, .inl (.int 1000000000)), (0, .inr (6, some 0)), (1, .inl (.int k))]) (st' := []) ⟨dX5_end_2, dX5_end_3, dX5_end_4, trivial⟩ rfl rfl ?_
  rw [F_X5_end]
  refine wp_sub [0, 1, 2, 3] (L' := [(3, .inl (.int 0)), (2, .inl (.int 1000000000)), (0, .inr (6, some 0)), (1, .inl (.int k))]) rfl ?_
  suffices Y5 : ∀ (n5 : Nat) (e : Int32) (s : Nat) (his : s < 2147483648) (hm5 : 2147483648 - s < n5), WP g M_X5_end d 0 0 5 [(3, .inl (.int (nI s))), (2, .inl (.int e)), (0, .inr (6, some 0)), (1, .inl (.int k))] [] h (cy_det (.inl (some (.inl (.int (L_X5_end_5 h k n5 e s))))) h) from
    Y5 (2147483648 - 0 + 1) 1000000000 0 (by decide) (Nat.lt_succ_self _)
  intro n5
  induction n5 with
  | zero => intro e s his hm5; exact absurd hm5 (Nat.not_lt_zero _)
  | succ n5 ih5 =>
    intro e s his hm5
    rw [L_X5_end_5_s]
    generalize L_X5_end_5 h k n5 = rec5 at ih5 ⊢
    refine wp_run [(.iload_n 3, 1), (.aload_n 0, 1)] (pc' := 7) (L' := [(3, .inl (.int (nI s))), (2, .inl (.int e)), (0, .inr (6, some 0)), (1, .inl (.int k))]) (st' := [.inr (6, some 0), .inl (.int (nI s))]) ⟨dX5_end_5, dX5_end_6, trivial⟩ rfl rfl ?_
    refine wx_getR cls_6 (k := 0) (f := 600) (t := 4) (o := some 0) (by decide) rfl rfl fl_X5_18 (W.fr (f := 600) (by decide)) dX5_end_7 ?_
    refine wx_getI cls_4 (k := 3) (f := 403) (by decide) rfl rfl fl_X5_62 dX5_end_10 ?_
    refine wx_icmp_ge (tgt := 33) dX5_end_13 (by decide) (fun h_1 => ?_) (fun h_1 => ?_)
    · refine wp_run [(.iload_n 2, 1)] (pc' := 34) (L' := [(3, .inl (.int (nI s))), (2, .inl (.int e)), (0, .inr (6, some 0)), (1, .inl (.int k))]) (st' := [.inl (.int e)]) ⟨dX5_end_33, trivial⟩ rfl rfl ?_
      exact wx_iret rfl rfl dX5_end_34 (by rw [B_X5_end_5, if_pos h_1]; exact ⟨rfl, rfl⟩)
    · refine wp_run [(.iload_n 2, 1), (.aload_n 0, 1), (.iload_n 3, 1), (.iload_n 1, 1)] (pc' := 20) (L' := [(3, .inl (.int (nI s))), (2, .inl (.int e)), (0, .inr (6, some 0)), (1, .inl (.int k))]) (st' := [.inl (.int k), .inl (.int (nI s)), .inr (6, some 0), .inl (.int e)]) ⟨dX5_end_16, dX5_end_17, dX5_end_18, dX5_end_19, trivial⟩ rfl rfl ?_
      refine wx_virtualD (M := M_X5_end) (uc := 0) (us := 0) (s := 6) (i := 0) (As := [.inl (.int (nI s)), .inl (.int k)]) (rest := [.inl (.int e)]) cls_6 rfl (ok_X5_endFrom _ _) ml_X5_135 im_X5_endFrom se_X5_endFrom (by omega) (c_X5_endFrom (d := d - 1) (h := h) (by omega) W (nI s) k) rfl rfl (Nat.le_of_ble_eq_true rfl) dX5_end_20 ?_
      refine wx_min ml_X5_110 min_st math_ini min_code (by omega) (Nat.le_of_ble_eq_true rfl) dX5_end_23 ?_
      refine wp_run [(.istore_n 2, 1), (.iinc 3 1, 3)] (pc' := 30) (L' := [(3, .inl (.int ((nI s) + 1))), (2, .inl (.int (if (F_X5_endFrom h (nI s) k) < e then (F_X5_endFrom h (nI s) k) else e))), (0, .inr (6, some 0)), (1, .inl (.int k))]) (st' := []) ⟨dX5_end_26, dX5_end_27, trivial⟩ rfl rfl ?_
      refine wx_goto (tgt := 5) dX5_end_30 (by decide) ?_
      rw [B_X5_end_5, if_neg h_1]
      rw [nI_1 s]
      refine wp_sub [0, 1, 2, 3] (L' := [(3, .inl (.int (nI (s + 1)))), (2, .inl (.int (if (F_X5_endFrom h (nI s) k) < e then (F_X5_endFrom h (nI s) k) else e))), (0, .inr (6, some 0)), (1, .inl (.int k))]) rfl ?_
      exact ih5 _ _ (cy_nlt his h_1).2 (by have := (cy_nlt his h_1).2; omega)
def B_X5_lastStop_20 (h : Hp) (k : Int32) (e : Int32) (rec20 : Nat → Int32) (s : Nat) : Int32 := (if (xFI h 403 0) ≤ (nI s) then (xFI h 604 0) else (if (F_X5_endFrom h (nI s) k) = e then (nI s) else (rec20 (s + 1))))
def L_X5_lastStop_20 (h : Hp) (k : Int32) (e : Int32) : Nat → Nat → Int32
  | 0 => fun s => 0
  | fu + 1 => B_X5_lastStop_20 h k e (L_X5_lastStop_20 h k e fu)
theorem L_X5_lastStop_20_s (h : Hp) (k : Int32) (e : Int32) (fu : Nat) (s : Nat) : L_X5_lastStop_20 h k e (fu + 1) s = B_X5_lastStop_20 h k e (L_X5_lastStop_20 h k e fu) s := rfl
def F_X5_lastStop (h : Hp) (k : Int32) (e : Int32) : Int32 := (if (F_X5_endFrom h (xFI h 604 0) k) = e then (xFI h 604 0) else L_X5_lastStop_20 h k e (2147483648 - 0 + 1) 0)
set_option maxRecDepth 20000 in
theorem c_X5_lastStop {g : GT} {d : Nat} (hd : 4 ≤ d) {h : Hp} (W : CW h) (k : Int32) (e : Int32)  : Ctr g M_X5_lastStop d 0 0 [.inr (6, some 0), .inl (.int k), .inl (.int e)] h (cy_det (.inl (some (.inl (.int (F_X5_lastStop h k e))))) h) := by
  refine cy_body rfl rfl (by decide) (Nat.le_of_ble_eq_true rfl) ?_
  refine wp_run [(.aload_n 0, 1), (.aload_n 0, 1)] (pc' := 2) (L' := [(0, .inr (6, some 0)), (1, .inl (.int k)), (2, .inl (.int e))]) (st' := [.inr (6, some 0), .inr (6, some 0)]) ⟨dX5_lastStop_0, dX5_lastStop_1, trivial⟩ rfl rfl ?_
  refine wx_getI cls_6 (k := 4) (f := 604) (by decide) rfl rfl fl_X5_26 dX5_lastStop_2 ?_
  refine wp_run [(.iload_n 1, 1)] (pc' := 6) (L' := [(0, .inr (6, some 0)), (1, .inl (.int k)), (2, .inl (.int e))]) (st' := [.inl (.int k), .inl (.int (xFI h 604 0)), .inr (6, some 0)]) ⟨dX5_lastStop_5, trivial⟩ rfl rfl ?_
  refine wx_virtualD (M := M_X5_lastStop) (uc := 0) (us := 0) (s := 6) (i := 0) (As := [.inl (.int (xFI h 604 0)), .inl (.int k)]) (rest := []) cls_6 rfl (ok_X5_endFrom _ _) ml_X5_135 im_X5_endFrom se_X5_endFrom (by omega) (c_X5_endFrom (d := d - 1) (h := h) (by omega) W (xFI h 604 0) k) rfl rfl (Nat.le_of_ble_eq_true rfl) dX5_lastStop_6 ?_
  refine wp_run [(.iload_n 2, 1)] (pc' := 10) (L' := [(0, .inr (6, some 0)), (1, .inl (.int k)), (2, .inl (.int e))]) (st' := [.inl (.int e), .inl (.int (F_X5_endFrom h (xFI h 604 0) k))]) ⟨dX5_lastStop_9, trivial⟩ rfl rfl ?_
  refine wx_icmp_ne (tgt := 18) dX5_lastStop_10 (by decide) (fun h_1 => ?_) (fun h_1 => ?_)
  · refine wp_run [(.iconst 0, 1), (.istore_n 3, 1)] (pc' := 20) (L' := [(3, .inl (.int 0)), (0, .inr (6, some 0)), (1, .inl (.int k)), (2, .inl (.int e))]) (st' := []) ⟨dX5_lastStop_18, dX5_lastStop_19, trivial⟩ rfl rfl ?_
    rw [F_X5_lastStop, if_neg h_1]
    refine wp_sub [0, 1, 2, 3] (L' := [(3, .inl (.int 0)), (0, .inr (6, some 0)), (1, .inl (.int k)), (2, .inl (.int e))]) rfl ?_
    suffices Y20 : ∀ (n20 : Nat) (s : Nat) (his : s < 2147483648) (hm20 : 2147483648 - s < n20), WP g M_X5_lastStop d 0 0 20 [(3, .inl (.int (nI s))), (0, .inr (6, some 0)), (1, .inl (.int k)), (2, .inl (.int e))] [] h (cy_det (.inl (some (.inl (.int (L_X5_lastStop_20 h k e n20 s))))) h) from
      Y20 (2147483648 - 0 + 1) 0 (by decide) (Nat.lt_succ_self _)
    intro n20
    induction n20 with
    | zero => intro s his hm20; exact absurd hm20 (Nat.not_lt_zero _)
    | succ n20 ih20 =>
      intro s his hm20
      rw [L_X5_lastStop_20_s]
      generalize L_X5_lastStop_20 h k e n20 = rec20 at ih20 ⊢
      refine wp_run [(.iload_n 3, 1), (.aload_n 0, 1)] (pc' := 22) (L' := [(3, .inl (.int (nI s))), (0, .inr (6, some 0)), (1, .inl (.int k)), (2, .inl (.int e))]) (st' := [.inr (6, some 0), .inl (.int (nI s))]) ⟨dX5_lastStop_20, dX5_lastStop_21, trivial⟩ rfl rfl ?_
      refine wx_getR cls_6 (k := 0) (f := 600) (t := 4) (o := some 0) (by decide) rfl rfl fl_X5_18 (W.fr (f := 600) (by decide)) dX5_lastStop_22 ?_
      refine wx_getI cls_4 (k := 3) (f := 403) (by decide) rfl rfl fl_X5_62 dX5_lastStop_25 ?_
      refine wx_icmp_ge (tgt := 49) dX5_lastStop_28 (by decide) (fun h_2 => ?_) (fun h_2 => ?_)
      · refine wp_run [(.aload_n 0, 1)] (pc' := 50) (L' := [(3, .inl (.int (nI s))), (0, .inr (6, some 0)), (1, .inl (.int k)), (2, .inl (.int e))]) (st' := [.inr (6, some 0)]) ⟨dX5_lastStop_49, trivial⟩ rfl rfl ?_
        refine wx_getI cls_6 (k := 4) (f := 604) (by decide) rfl rfl fl_X5_26 dX5_lastStop_50 ?_
        exact wx_iret rfl rfl dX5_lastStop_53 (by rw [B_X5_lastStop_20, if_pos h_2]; exact ⟨rfl, rfl⟩)
      · refine wp_run [(.aload_n 0, 1), (.iload_n 3, 1), (.iload_n 1, 1)] (pc' := 34) (L' := [(3, .inl (.int (nI s))), (0, .inr (6, some 0)), (1, .inl (.int k)), (2, .inl (.int e))]) (st' := [.inl (.int k), .inl (.int (nI s)), .inr (6, some 0)]) ⟨dX5_lastStop_31, dX5_lastStop_32, dX5_lastStop_33, trivial⟩ rfl rfl ?_
        refine wx_virtualD (M := M_X5_lastStop) (uc := 0) (us := 0) (s := 6) (i := 0) (As := [.inl (.int (nI s)), .inl (.int k)]) (rest := []) cls_6 rfl (ok_X5_endFrom _ _) ml_X5_135 im_X5_endFrom se_X5_endFrom (by omega) (c_X5_endFrom (d := d - 1) (h := h) (by omega) W (nI s) k) rfl rfl (Nat.le_of_ble_eq_true rfl) dX5_lastStop_34 ?_
        refine wp_run [(.iload_n 2, 1)] (pc' := 38) (L' := [(3, .inl (.int (nI s))), (0, .inr (6, some 0)), (1, .inl (.int k)), (2, .inl (.int e))]) (st' := [.inl (.int e), .inl (.int (F_X5_endFrom h (nI s) k))]) ⟨dX5_lastStop_37, trivial⟩ rfl rfl ?_
        refine wx_icmp_ne (tgt := 43) dX5_lastStop_38 (by decide) (fun h_3 => ?_) (fun h_3 => ?_)
        · refine wp_run [(.iinc 3 1, 3)] (pc' := 46) (L' := [(3, .inl (.int ((nI s) + 1))), (0, .inr (6, some 0)), (1, .inl (.int k)), (2, .inl (.int e))]) (st' := []) ⟨dX5_lastStop_43, trivial⟩ rfl rfl ?_
          refine wx_goto (tgt := 20) dX5_lastStop_46 (by decide) ?_
          rw [B_X5_lastStop_20, if_neg h_2, if_neg h_3]
          rw [nI_1 s]
          refine wp_sub [0, 1, 2, 3] (L' := [(3, .inl (.int (nI (s + 1)))), (0, .inr (6, some 0)), (1, .inl (.int k)), (2, .inl (.int e))]) rfl ?_
          exact ih20 _ (cy_nlt his h_2).2 (by have := (cy_nlt his h_2).2; omega)
        · refine wp_run [(.iload_n 3, 1)] (pc' := 42) (L' := [(3, .inl (.int (nI s))), (0, .inr (6, some 0)), (1, .inl (.int k)), (2, .inl (.int e))]) (st' := [.inl (.int (nI s))]) ⟨dX5_lastStop_41, trivial⟩ rfl rfl ?_
          exact wx_iret rfl rfl dX5_lastStop_42 (by rw [B_X5_lastStop_20, if_neg h_2, if_pos h_3]; exact ⟨rfl, rfl⟩)
  · refine wp_run [(.aload_n 0, 1)] (pc' := 14) (L' := [(0, .inr (6, some 0)), (1, .inl (.int k)), (2, .inl (.int e))]) (st' := [.inr (6, some 0)]) ⟨dX5_lastStop_13, trivial⟩ rfl rfl ?_
    refine wx_getI cls_6 (k := 4) (f := 604) (by decide) rfl rfl fl_X5_26 dX5_lastStop_14 ?_
    exact wx_iret rfl rfl dX5_lastStop_17 (by rw [F_X5_lastStop, if_pos h_1]; exact ⟨rfl, rfl⟩)
def B_X5_leavingPlace_3 (h : Hp) (t : Nat) (dy : Int32) (s : Int32) (ar : Int32) (rec3 : Nat → Int32) (p : Nat) : Int32 := (if (xFI h 810 t) ≤ (nI p) then (-1) else (if (F_X7_stopAt h t (nI p)) = s then (if (F_X7_reaches h t dy (nI p)) = ar then (nI p) else (rec3 (p + 1))) else (rec3 (p + 1))))
def L_X5_leavingPlace_3 (h : Hp) (t : Nat) (dy : Int32) (s : Int32) (ar : Int32) : Nat → Nat → Int32
  | 0 => fun p => 0
  | fu + 1 => B_X5_leavingPlace_3 h t dy s ar (L_X5_leavingPlace_3 h t dy s ar fu)
theorem L_X5_leavingPlace_3_s (h : Hp) (t : Nat) (dy : Int32) (s : Int32) (ar : Int32) (fu : Nat) (p : Nat) : L_X5_leavingPlace_3 h t dy s ar (fu + 1) p = B_X5_leavingPlace_3 h t dy s ar (L_X5_leavingPlace_3 h t dy s ar fu) p := rfl
def F_X5_leavingPlace (h : Hp) (t : Nat) (dy : Int32) (s : Int32) (ar : Int32) : Int32 := L_X5_leavingPlace_3 h t dy s ar (2147483648 - 1 + 1) 1
set_option maxRecDepth 20000 in
theorem c_X5_leavingPlace {g : GT} {d : Nat} (hd : 3 ≤ d) {h : Hp} (W : CW h) {t : Nat} (ht : t < xLS h 11) (dy : Int32) (s : Int32) (ar : Int32)  : Ctr g M_X5_leavingPlace d 0 0 [.inr (6, some 0), .inr (8, some t), .inl (.int dy), .inl (.int s), .inl (.int ar)] h (cy_det (.inl (some (.inl (.int (F_X5_leavingPlace h t dy s ar))))) h) := by
  refine cy_body rfl rfl (by decide) (Nat.le_of_ble_eq_true rfl) ?_
  refine wp_run [(.iconst 1, 1), (.istore 5, 2)] (pc' := 3) (L' := [(5, .inl (.int 1)), (0, .inr (6, some 0)), (1, .inr (8, some t)), (2, .inl (.int dy)), (3, .inl (.int s)), (4, .inl (.int ar))]) (st' := []) ⟨dX5_leavingPlace_0, dX5_leavingPlace_1, trivial⟩ rfl rfl ?_
  rw [F_X5_leavingPlace]
  refine wp_sub [0, 2, 3, 4, 5] (L' := [(5, .inl (.int 1)), (1, .inr (8, some t)), (2, .inl (.int dy)), (3, .inl (.int s)), (4, .inl (.int ar))]) rfl ?_
  suffices Y3 : ∀ (n3 : Nat) (p : Nat) (hip : p < 2147483648) (hm3 : 2147483648 - p < n3), WP g M_X5_leavingPlace d 0 0 3 [(5, .inl (.int (nI p))), (1, .inr (8, some t)), (2, .inl (.int dy)), (3, .inl (.int s)), (4, .inl (.int ar))] [] h (cy_det (.inl (some (.inl (.int (L_X5_leavingPlace_3 h t dy s ar n3 p))))) h) from
    Y3 (2147483648 - 1 + 1) 1 (by decide) (Nat.lt_succ_self _)
  intro n3
  induction n3 with
  | zero => intro p hip hm3; exact absurd hm3 (Nat.not_lt_zero _)
  | succ n3 ih3 =>
    intro p hip hm3
    rw [L_X5_leavingPlace_3_s]
    generalize L_X5_leavingPlace_3 h t dy s ar n3 = rec3 at ih3 ⊢
    refine wp_run [(.iload 5, 2), (.aload_n 1, 1)] (pc' := 6) (L' := [(5, .inl (.int (nI p))), (1, .inr (8, some t)), (2, .inl (.int dy)), (3, .inl (.int s)), (4, .inl (.int ar))]) (st' := [.inr (8, some t), .inl (.int (nI p))]) ⟨dX5_leavingPlace_3, dX5_leavingPlace_5, trivial⟩ rfl rfl ?_
    refine wx_getI cls_8 (k := 10) (f := 810) (by decide) rfl rfl fl_X5_99 dX5_leavingPlace_6 ?_
    refine wx_icmp_ge (tgt := 43) dX5_leavingPlace_9 (by decide) (fun h_1 => ?_) (fun h_1 => ?_)
    · refine wp_run [(.iconst (-1), 1)] (pc' := 44) (L' := [(5, .inl (.int (nI p))), (1, .inr (8, some t)), (2, .inl (.int dy)), (3, .inl (.int s)), (4, .inl (.int ar))]) (st' := [.inl (.int (-1))]) ⟨dX5_leavingPlace_43, trivial⟩ rfl rfl ?_
      exact wx_iret rfl rfl dX5_leavingPlace_44 (by rw [B_X5_leavingPlace_3, if_pos h_1]; exact ⟨rfl, rfl⟩)
    · refine wp_run [(.aload_n 1, 1), (.iload 5, 2)] (pc' := 15) (L' := [(5, .inl (.int (nI p))), (1, .inr (8, some t)), (2, .inl (.int dy)), (3, .inl (.int s)), (4, .inl (.int ar))]) (st' := [.inl (.int (nI p)), .inr (8, some t)]) ⟨dX5_leavingPlace_12, dX5_leavingPlace_13, trivial⟩ rfl rfl ?_
      refine wx_virtualD (M := M_X5_leavingPlace) (uc := 0) (us := 0) (s := 8) (i := t) (As := [.inl (.int (nI p))]) (rest := []) cls_8 rfl (ok_X7_stopAt _ _) ml_X5_101 im_X7_stopAt se_X7_stopAt (by omega) (c_X7_stopAt (d := d - 1) (h := h) (by omega) W ht (nI p)) rfl rfl (Nat.le_of_ble_eq_true rfl) dX5_leavingPlace_15 ?_
      refine wp_run [(.iload_n 3, 1)] (pc' := 19) (L' := [(5, .inl (.int (nI p))), (1, .inr (8, some t)), (2, .inl (.int dy)), (3, .inl (.int s)), (4, .inl (.int ar))]) (st' := [.inl (.int s), .inl (.int (F_X7_stopAt h t (nI p)))]) ⟨dX5_leavingPlace_18, trivial⟩ rfl rfl ?_
      refine wx_icmp_ne (tgt := 37) dX5_leavingPlace_19 (by decide) (fun h_2 => ?_) (fun h_2 => ?_)
      · refine wp_run [(.iinc 5 1, 3)] (pc' := 40) (L' := [(5, .inl (.int ((nI p) + 1))), (1, .inr (8, some t)), (2, .inl (.int dy)), (3, .inl (.int s)), (4, .inl (.int ar))]) (st' := []) ⟨dX5_leavingPlace_37, trivial⟩ rfl rfl ?_
        refine wx_goto (tgt := 3) dX5_leavingPlace_40 (by decide) ?_
        rw [B_X5_leavingPlace_3, if_neg h_1, if_neg h_2]
        rw [nI_1 p]
        refine wp_sub [0, 1, 2, 3, 4] (L' := [(5, .inl (.int (nI (p + 1)))), (1, .inr (8, some t)), (2, .inl (.int dy)), (3, .inl (.int s)), (4, .inl (.int ar))]) rfl ?_
        exact ih3 _ (cy_nlt hip h_1).2 (by have := (cy_nlt hip h_1).2; omega)
      · refine wp_run [(.aload_n 1, 1), (.iload_n 2, 1), (.iload 5, 2)] (pc' := 26) (L' := [(5, .inl (.int (nI p))), (1, .inr (8, some t)), (2, .inl (.int dy)), (3, .inl (.int s)), (4, .inl (.int ar))]) (st' := [.inl (.int (nI p)), .inl (.int dy), .inr (8, some t)]) ⟨dX5_leavingPlace_22, dX5_leavingPlace_23, dX5_leavingPlace_24, trivial⟩ rfl rfl ?_
        refine wx_virtualD (M := M_X5_leavingPlace) (uc := 0) (us := 0) (s := 8) (i := t) (As := [.inl (.int dy), .inl (.int (nI p))]) (rest := []) cls_8 rfl (ok_X7_reaches _ _) ml_X5_107 im_X7_reaches se_X7_reaches (by omega) (c_X7_reaches (d := d - 1) (h := h) (by omega) W ht dy (nI p)) rfl rfl (Nat.le_of_ble_eq_true rfl) dX5_leavingPlace_26 ?_
        refine wp_run [(.iload 4, 2)] (pc' := 31) (L' := [(5, .inl (.int (nI p))), (1, .inr (8, some t)), (2, .inl (.int dy)), (3, .inl (.int s)), (4, .inl (.int ar))]) (st' := [.inl (.int ar), .inl (.int (F_X7_reaches h t dy (nI p)))]) ⟨dX5_leavingPlace_29, trivial⟩ rfl rfl ?_
        refine wx_icmp_ne (tgt := 37) dX5_leavingPlace_31 (by decide) (fun h_3 => ?_) (fun h_3 => ?_)
        · refine wp_run [(.iinc 5 1, 3)] (pc' := 40) (L' := [(5, .inl (.int ((nI p) + 1))), (1, .inr (8, some t)), (2, .inl (.int dy)), (3, .inl (.int s)), (4, .inl (.int ar))]) (st' := []) ⟨dX5_leavingPlace_37, trivial⟩ rfl rfl ?_
          refine wx_goto (tgt := 3) dX5_leavingPlace_40 (by decide) ?_
          rw [B_X5_leavingPlace_3, if_neg h_1, if_pos h_2, if_neg h_3]
          rw [nI_1 p]
          refine wp_sub [0, 1, 2, 3, 4] (L' := [(5, .inl (.int (nI (p + 1)))), (1, .inr (8, some t)), (2, .inl (.int dy)), (3, .inl (.int s)), (4, .inl (.int ar))]) rfl ?_
          exact ih3 _ (cy_nlt hip h_1).2 (by have := (cy_nlt hip h_1).2; omega)
        · refine wp_run [(.iload 5, 2)] (pc' := 36) (L' := [(5, .inl (.int (nI p))), (1, .inr (8, some t)), (2, .inl (.int dy)), (3, .inl (.int s)), (4, .inl (.int ar))]) (st' := [.inl (.int (nI p))]) ⟨dX5_leavingPlace_34, trivial⟩ rfl rfl ?_
          exact wx_iret rfl rfl dX5_leavingPlace_36 (by rw [B_X5_leavingPlace_3, if_neg h_1, if_pos h_2, if_pos h_3]; exact ⟨rfl, rfl⟩)
def B_X5_boardingPlace_3 (h : Hp) (t : Nat) (dy : Int32) (le : Int32) (k : Int32) (rec3 : Nat → Int32) (p : Nat) : Int32 := (if le ≤ (nI p) then (-1) else (if (F_X7_leaves h t dy (nI p)) < (F_X5_readyAt h (k - 1) (F_X7_stopAt h t (nI p))) then (rec3 (p + 1)) else (nI p)))
def L_X5_boardingPlace_3 (h : Hp) (t : Nat) (dy : Int32) (le : Int32) (k : Int32) : Nat → Nat → Int32
  | 0 => fun p => 0
  | fu + 1 => B_X5_boardingPlace_3 h t dy le k (L_X5_boardingPlace_3 h t dy le k fu)
theorem L_X5_boardingPlace_3_s (h : Hp) (t : Nat) (dy : Int32) (le : Int32) (k : Int32) (fu : Nat) (p : Nat) : L_X5_boardingPlace_3 h t dy le k (fu + 1) p = B_X5_boardingPlace_3 h t dy le k (L_X5_boardingPlace_3 h t dy le k fu) p := rfl
def F_X5_boardingPlace (h : Hp) (t : Nat) (dy : Int32) (le : Int32) (k : Int32) : Int32 := L_X5_boardingPlace_3 h t dy le k (2147483648 - 0 + 1) 0
set_option maxRecDepth 20000 in
theorem c_X5_boardingPlace {g : GT} {d : Nat} (hd : 3 ≤ d) {h : Hp} (W : CW h) {t : Nat} (ht : t < xLS h 11) (dy : Int32) (le : Int32) (k : Int32)  : Ctr g M_X5_boardingPlace d 0 0 [.inr (6, some 0), .inr (8, some t), .inl (.int dy), .inl (.int le), .inl (.int k)] h (cy_det (.inl (some (.inl (.int (F_X5_boardingPlace h t dy le k))))) h) := by
  refine cy_body rfl rfl (by decide) (Nat.le_of_ble_eq_true rfl) ?_
  refine wp_run [(.iconst 0, 1), (.istore 5, 2)] (pc' := 3) (L' := [(5, .inl (.int 0)), (0, .inr (6, some 0)), (1, .inr (8, some t)), (2, .inl (.int dy)), (3, .inl (.int le)), (4, .inl (.int k))]) (st' := []) ⟨dX5_boardingPlace_0, dX5_boardingPlace_1, trivial⟩ rfl rfl ?_
  rw [F_X5_boardingPlace]
  refine wp_sub [0, 1, 2, 3, 4, 5] (L' := [(5, .inl (.int 0)), (0, .inr (6, some 0)), (1, .inr (8, some t)), (2, .inl (.int dy)), (3, .inl (.int le)), (4, .inl (.int k))]) rfl ?_
  suffices Y3 : ∀ (n3 : Nat) (p : Nat) (hip : p < 2147483648) (hm3 : 2147483648 - p < n3), WP g M_X5_boardingPlace d 0 0 3 [(5, .inl (.int (nI p))), (0, .inr (6, some 0)), (1, .inr (8, some t)), (2, .inl (.int dy)), (3, .inl (.int le)), (4, .inl (.int k))] [] h (cy_det (.inl (some (.inl (.int (L_X5_boardingPlace_3 h t dy le k n3 p))))) h) from
    Y3 (2147483648 - 0 + 1) 0 (by decide) (Nat.lt_succ_self _)
  intro n3
  induction n3 with
  | zero => intro p hip hm3; exact absurd hm3 (Nat.not_lt_zero _)
  | succ n3 ih3 =>
    intro p hip hm3
    rw [L_X5_boardingPlace_3_s]
    generalize L_X5_boardingPlace_3 h t dy le k n3 = rec3 at ih3 ⊢
    refine wp_run [(.iload 5, 2), (.iload_n 3, 1)] (pc' := 6) (L' := [(5, .inl (.int (nI p))), (0, .inr (6, some 0)), (1, .inr (8, some t)), (2, .inl (.int dy)), (3, .inl (.int le)), (4, .inl (.int k))]) (st' := [.inl (.int le), .inl (.int (nI p))]) ⟨dX5_boardingPlace_3, dX5_boardingPlace_5, trivial⟩ rfl rfl ?_
    refine wx_icmp_ge (tgt := 42) dX5_boardingPlace_6 (by decide) (fun h_1 => ?_) (fun h_1 => ?_)
    · refine wp_run [(.iconst (-1), 1)] (pc' := 43) (L' := [(5, .inl (.int (nI p))), (0, .inr (6, some 0)), (1, .inr (8, some t)), (2, .inl (.int dy)), (3, .inl (.int le)), (4, .inl (.int k))]) (st' := [.inl (.int (-1))]) ⟨dX5_boardingPlace_42, trivial⟩ rfl rfl ?_
      exact wx_iret rfl rfl dX5_boardingPlace_43 (by rw [B_X5_boardingPlace_3, if_pos h_1]; exact ⟨rfl, rfl⟩)
    · refine wp_run [(.aload_n 1, 1), (.iload_n 2, 1), (.iload 5, 2)] (pc' := 13) (L' := [(5, .inl (.int (nI p))), (0, .inr (6, some 0)), (1, .inr (8, some t)), (2, .inl (.int dy)), (3, .inl (.int le)), (4, .inl (.int k))]) (st' := [.inl (.int (nI p)), .inl (.int dy), .inr (8, some t)]) ⟨dX5_boardingPlace_9, dX5_boardingPlace_10, dX5_boardingPlace_11, trivial⟩ rfl rfl ?_
      refine wx_virtualD (M := M_X5_boardingPlace) (uc := 0) (us := 0) (s := 8) (i := t) (As := [.inl (.int dy), .inl (.int (nI p))]) (rest := []) cls_8 rfl (ok_X7_leaves _ _) ml_X5_115 im_X7_leaves se_X7_leaves (by omega) (c_X7_leaves (d := d - 1) (h := h) (by omega) W ht dy (nI p)) rfl rfl (Nat.le_of_ble_eq_true rfl) dX5_boardingPlace_13 ?_
      refine wp_run [(.aload_n 0, 1), (.iload 4, 2), (.iconst 1, 1), (.isub, 1), (.aload_n 1, 1), (.iload 5, 2)] (pc' := 24) (L' := [(5, .inl (.int (nI p))), (0, .inr (6, some 0)), (1, .inr (8, some t)), (2, .inl (.int dy)), (3, .inl (.int le)), (4, .inl (.int k))]) (st' := [.inl (.int (nI p)), .inr (8, some t), .inl (.int (k - 1)), .inr (6, some 0), .inl (.int (F_X7_leaves h t dy (nI p)))]) ⟨dX5_boardingPlace_16, dX5_boardingPlace_17, dX5_boardingPlace_19, dX5_boardingPlace_20, dX5_boardingPlace_21, dX5_boardingPlace_22, trivial⟩ rfl rfl ?_
      refine wx_virtualD (M := M_X5_boardingPlace) (uc := 0) (us := 0) (s := 8) (i := t) (As := [.inl (.int (nI p))]) (rest := [.inl (.int (k - 1)), .inr (6, some 0), .inl (.int (F_X7_leaves h t dy (nI p)))]) cls_8 rfl (ok_X7_stopAt _ _) ml_X5_101 im_X7_stopAt se_X7_stopAt (by omega) (c_X7_stopAt (d := d - 1) (h := h) (by omega) W ht (nI p)) rfl rfl (Nat.le_of_ble_eq_true rfl) dX5_boardingPlace_24 ?_
      refine wx_virtualD (M := M_X5_boardingPlace) (uc := 0) (us := 0) (s := 6) (i := 0) (As := [.inl (.int (k - 1)), .inl (.int (F_X7_stopAt h t (nI p)))]) (rest := [.inl (.int (F_X7_leaves h t dy (nI p)))]) cls_6 rfl (ok_X5_readyAt _ _) ml_X5_118 im_X5_readyAt se_X5_readyAt (by omega) (c_X5_readyAt (d := d - 1) (h := h) (by omega) W (k - 1) (F_X7_stopAt h t (nI p))) rfl rfl (Nat.le_of_ble_eq_true rfl) dX5_boardingPlace_27 ?_
      refine wx_icmp_lt (tgt := 36) dX5_boardingPlace_30 (by decide) (fun h_2 => ?_) (fun h_2 => ?_)
      · refine wp_run [(.iinc 5 1, 3)] (pc' := 39) (L' := [(5, .inl (.int ((nI p) + 1))), (0, .inr (6, some 0)), (1, .inr (8, some t)), (2, .inl (.int dy)), (3, .inl (.int le)), (4, .inl (.int k))]) (st' := []) ⟨dX5_boardingPlace_36, trivial⟩ rfl rfl ?_
        refine wx_goto (tgt := 3) dX5_boardingPlace_39 (by decide) ?_
        rw [B_X5_boardingPlace_3, if_neg h_1, if_pos h_2]
        rw [nI_1 p]
        refine wp_sub [0, 1, 2, 3, 4, 5] (L' := [(5, .inl (.int (nI (p + 1)))), (0, .inr (6, some 0)), (1, .inr (8, some t)), (2, .inl (.int dy)), (3, .inl (.int le)), (4, .inl (.int k))]) rfl ?_
        exact ih3 _ (cy_nlt hip h_1).2 (by have := (cy_nlt hip h_1).2; omega)
      · refine wp_run [(.iload 5, 2)] (pc' := 35) (L' := [(5, .inl (.int (nI p))), (0, .inr (6, some 0)), (1, .inr (8, some t)), (2, .inl (.int dy)), (3, .inl (.int le)), (4, .inl (.int k))]) (st' := [.inl (.int (nI p))]) ⟨dX5_boardingPlace_33, trivial⟩ rfl rfl ?_
        exact wx_iret rfl rfl dX5_boardingPlace_35 (by rw [B_X5_boardingPlace_3, if_neg h_1, if_neg h_2]; exact ⟨rfl, rfl⟩)
def B_X5_stopAhead_36 (h : Hp) (t : Nat) (r : Nat) (k : Int32) (rec36 : Nat → Int32) (s : Nat) : Int32 := (if (xFI h 403 0) ≤ (nI s) then (F_X4_boardsAt h t r) else (if (F_X4_departs h t r) < (F_X5_readyFrom h (nI s) (F_X4_boardsAt h t r) (k - 1)) then (rec36 (s + 1)) else (nI s)))
def L_X5_stopAhead_36 (h : Hp) (t : Nat) (r : Nat) (k : Int32) : Nat → Nat → Int32
  | 0 => fun s => 0
  | fu + 1 => B_X5_stopAhead_36 h t r k (L_X5_stopAhead_36 h t r k fu)
theorem L_X5_stopAhead_36_s (h : Hp) (t : Nat) (r : Nat) (k : Int32) (fu : Nat) (s : Nat) : L_X5_stopAhead_36 h t r k (fu + 1) s = B_X5_stopAhead_36 h t r k (L_X5_stopAhead_36 h t r k fu) s := rfl
def F_X5_stopAhead (h : Hp) (t : Nat) (r : Nat) (k : Int32) : Int32 := (if k = 1 then (xFI h 603 0) else (if (F_X4_departs h t r) < (F_X5_readyFrom h (F_X4_boardsAt h t r) (F_X4_boardsAt h t r) (k - 1)) then L_X5_stopAhead_36 h t r k (2147483648 - 0 + 1) 0 else (F_X4_boardsAt h t r)))
set_option maxRecDepth 20000 in
theorem c_X5_stopAhead {g : GT} {d : Nat} (hd : 5 ≤ d) {h : Hp} (W : CW h) {t r : Nat} (hr : xFR h 500 r = some t) (ht : t < xLS h 11) (k : Int32)  : Ctr g M_X5_stopAhead d 0 0 [.inr (6, some 0), .inr (5, some r), .inl (.int k)] h (cy_det (.inl (some (.inl (.int (F_X5_stopAhead h t r k))))) h) := by
  refine cy_body rfl rfl (by decide) (Nat.le_of_ble_eq_true rfl) ?_
  refine wp_run [(.aload_n 1, 1)] (pc' := 1) (L' := [(0, .inr (6, some 0)), (1, .inr (5, some r)), (2, .inl (.int k))]) (st' := [.inr (5, some r)]) ⟨dX5_stopAhead_0, trivial⟩ rfl rfl ?_
  refine wx_virtualD (M := M_X5_stopAhead) (uc := 0) (us := 0) (s := 5) (i := r) (As := []) (rest := []) cls_5 rfl (ok_X4_boardsAt _ _) ml_X5_175 im_X4_boardsAt se_X4_boardsAt (by omega) (c_X4_boardsAt (d := d - 1) (h := h) (by omega) W hr ht) rfl rfl (Nat.le_of_ble_eq_true rfl) dX5_stopAhead_1 ?_
  refine wp_run [(.istore_n 3, 1), (.iload_n 2, 1), (.iconst 1, 1)] (pc' := 7) (L' := [(3, .inl (.int (F_X4_boardsAt h t r))), (0, .inr (6, some 0)), (1, .inr (5, some r)), (2, .inl (.int k))]) (st' := [.inl (.int 1), .inl (.int k)]) ⟨dX5_stopAhead_4, dX5_stopAhead_5, dX5_stopAhead_6, trivial⟩ rfl rfl ?_
  refine wx_icmp_ne (tgt := 15) dX5_stopAhead_7 (by decide) (fun h_1 => ?_) (fun h_1 => ?_)
  · refine wp_run [(.aload_n 0, 1), (.iload_n 3, 1), (.iload_n 3, 1), (.iload_n 2, 1), (.iconst 1, 1), (.isub, 1)] (pc' := 21) (L' := [(3, .inl (.int (F_X4_boardsAt h t r))), (0, .inr (6, some 0)), (1, .inr (5, some r)), (2, .inl (.int k))]) (st' := [.inl (.int (k - 1)), .inl (.int (F_X4_boardsAt h t r)), .inl (.int (F_X4_boardsAt h t r)), .inr (6, some 0)]) ⟨dX5_stopAhead_15, dX5_stopAhead_16, dX5_stopAhead_17, dX5_stopAhead_18, dX5_stopAhead_19, dX5_stopAhead_20, trivial⟩ rfl rfl ?_
    refine wx_virtualD (M := M_X5_stopAhead) (uc := 0) (us := 0) (s := 6) (i := 0) (As := [.inl (.int (F_X4_boardsAt h t r)), .inl (.int (F_X4_boardsAt h t r)), .inl (.int (k - 1))]) (rest := []) cls_6 rfl (ok_X5_readyFrom _ _) ml_X5_121 im_X5_readyFrom se_X5_readyFrom (by omega) (c_X5_readyFrom (d := d - 1) (h := h) (by omega) W (F_X4_boardsAt h t r) (F_X4_boardsAt h t r) (k - 1)) rfl rfl (Nat.le_of_ble_eq_true rfl) dX5_stopAhead_21 ?_
    refine wp_run [(.aload_n 1, 1)] (pc' := 25) (L' := [(3, .inl (.int (F_X4_boardsAt h t r))), (0, .inr (6, some 0)), (1, .inr (5, some r)), (2, .inl (.int k))]) (st' := [.inr (5, some r), .inl (.int (F_X5_readyFrom h (F_X4_boardsAt h t r) (F_X4_boardsAt h t r) (k - 1)))]) ⟨dX5_stopAhead_24, trivial⟩ rfl rfl ?_
    refine wx_virtualD (M := M_X5_stopAhead) (uc := 0) (us := 0) (s := 5) (i := r) (As := []) (rest := [.inl (.int (F_X5_readyFrom h (F_X4_boardsAt h t r) (F_X4_boardsAt h t r) (k - 1)))]) cls_5 rfl (ok_X4_departs _ _) ml_X5_178 im_X4_departs se_X4_departs (by omega) (c_X4_departs (d := d - 1) (h := h) (by omega) W hr ht) rfl rfl (Nat.le_of_ble_eq_true rfl) dX5_stopAhead_25 ?_
    refine wx_icmp_gt (tgt := 33) dX5_stopAhead_28 (by decide) (fun h_2 => ?_) (fun h_2 => ?_)
    · refine wp_run [(.iconst 0, 1), (.istore 4, 2)] (pc' := 36) (L' := [(4, .inl (.int 0)), (3, .inl (.int (F_X4_boardsAt h t r))), (0, .inr (6, some 0)), (1, .inr (5, some r)), (2, .inl (.int k))]) (st' := []) ⟨dX5_stopAhead_33, dX5_stopAhead_34, trivial⟩ rfl rfl ?_
      rw [F_X5_stopAhead, if_neg h_1, if_pos h_2]
      refine wp_sub [0, 1, 2, 3, 4] (L' := [(4, .inl (.int 0)), (3, .inl (.int (F_X4_boardsAt h t r))), (0, .inr (6, some 0)), (1, .inr (5, some r)), (2, .inl (.int k))]) rfl ?_
      suffices Y36 : ∀ (n36 : Nat) (s : Nat) (his : s < 2147483648) (hm36 : 2147483648 - s < n36), WP g M_X5_stopAhead d 0 0 36 [(4, .inl (.int (nI s))), (3, .inl (.int (F_X4_boardsAt h t r))), (0, .inr (6, some 0)), (1, .inr (5, some r)), (2, .inl (.int k))] [] h (cy_det (.inl (some (.inl (.int (L_X5_stopAhead_36 h t r k n36 s))))) h) from
        Y36 (2147483648 - 0 + 1) 0 (by decide) (Nat.lt_succ_self _)
      intro n36
      induction n36 with
      | zero => intro s his hm36; exact absurd hm36 (Nat.not_lt_zero _)
      | succ n36 ih36 =>
        intro s his hm36
        rw [L_X5_stopAhead_36_s]
        generalize L_X5_stopAhead_36 h t r k n36 = rec36 at ih36 ⊢
        refine wp_run [(.iload 4, 2), (.aload_n 0, 1)] (pc' := 39) (L' := [(4, .inl (.int (nI s))), (3, .inl (.int (F_X4_boardsAt h t r))), (0, .inr (6, some 0)), (1, .inr (5, some r)), (2, .inl (.int k))]) (st' := [.inr (6, some 0), .inl (.int (nI s))]) ⟨dX5_stopAhead_36, dX5_stopAhead_38, trivial⟩ rfl rfl ?_
        refine wx_getR cls_6 (k := 0) (f := 600) (t := 4) (o := some 0) (by decide) rfl rfl fl_X5_18 (W.fr (f := 600) (by decide)) dX5_stopAhead_39 ?_
        refine wx_getI cls_4 (k := 3) (f := 403) (by decide) rfl rfl fl_X5_62 dX5_stopAhead_42 ?_
        refine wx_icmp_ge (tgt := 74) dX5_stopAhead_45 (by decide) (fun h_3 => ?_) (fun h_3 => ?_)
        · refine wp_run [(.iload_n 3, 1)] (pc' := 75) (L' := [(4, .inl (.int (nI s))), (3, .inl (.int (F_X4_boardsAt h t r))), (0, .inr (6, some 0)), (1, .inr (5, some r)), (2, .inl (.int k))]) (st' := [.inl (.int (F_X4_boardsAt h t r))]) ⟨dX5_stopAhead_74, trivial⟩ rfl rfl ?_
          exact wx_iret rfl rfl dX5_stopAhead_75 (by rw [B_X5_stopAhead_36, if_pos h_3]; exact ⟨rfl, rfl⟩)
        · refine wp_run [(.aload_n 0, 1), (.iload 4, 2), (.iload_n 3, 1), (.iload_n 2, 1), (.iconst 1, 1), (.isub, 1)] (pc' := 55) (L' := [(4, .inl (.int (nI s))), (3, .inl (.int (F_X4_boardsAt h t r))), (0, .inr (6, some 0)), (1, .inr (5, some r)), (2, .inl (.int k))]) (st' := [.inl (.int (k - 1)), .inl (.int (F_X4_boardsAt h t r)), .inl (.int (nI s)), .inr (6, some 0)]) ⟨dX5_stopAhead_48, dX5_stopAhead_49, dX5_stopAhead_51, dX5_stopAhead_52, dX5_stopAhead_53, dX5_stopAhead_54, trivial⟩ rfl rfl ?_
          refine wx_virtualD (M := M_X5_stopAhead) (uc := 0) (us := 0) (s := 6) (i := 0) (As := [.inl (.int (nI s)), .inl (.int (F_X4_boardsAt h t r)), .inl (.int (k - 1))]) (rest := []) cls_6 rfl (ok_X5_readyFrom _ _) ml_X5_121 im_X5_readyFrom se_X5_readyFrom (by omega) (c_X5_readyFrom (d := d - 1) (h := h) (by omega) W (nI s) (F_X4_boardsAt h t r) (k - 1)) rfl rfl (Nat.le_of_ble_eq_true rfl) dX5_stopAhead_55 ?_
          refine wp_run [(.aload_n 1, 1)] (pc' := 59) (L' := [(4, .inl (.int (nI s))), (3, .inl (.int (F_X4_boardsAt h t r))), (0, .inr (6, some 0)), (1, .inr (5, some r)), (2, .inl (.int k))]) (st' := [.inr (5, some r), .inl (.int (F_X5_readyFrom h (nI s) (F_X4_boardsAt h t r) (k - 1)))]) ⟨dX5_stopAhead_58, trivial⟩ rfl rfl ?_
          refine wx_virtualD (M := M_X5_stopAhead) (uc := 0) (us := 0) (s := 5) (i := r) (As := []) (rest := [.inl (.int (F_X5_readyFrom h (nI s) (F_X4_boardsAt h t r) (k - 1)))]) cls_5 rfl (ok_X4_departs _ _) ml_X5_178 im_X4_departs se_X4_departs (by omega) (c_X4_departs (d := d - 1) (h := h) (by omega) W hr ht) rfl rfl (Nat.le_of_ble_eq_true rfl) dX5_stopAhead_59 ?_
          refine wx_icmp_gt (tgt := 68) dX5_stopAhead_62 (by decide) (fun h_4 => ?_) (fun h_4 => ?_)
          · refine wp_run [(.iinc 4 1, 3)] (pc' := 71) (L' := [(4, .inl (.int ((nI s) + 1))), (3, .inl (.int (F_X4_boardsAt h t r))), (0, .inr (6, some 0)), (1, .inr (5, some r)), (2, .inl (.int k))]) (st' := []) ⟨dX5_stopAhead_68, trivial⟩ rfl rfl ?_
            refine wx_goto (tgt := 36) dX5_stopAhead_71 (by decide) ?_
            rw [B_X5_stopAhead_36, if_neg h_3, if_pos h_4]
            rw [nI_1 s]
            refine wp_sub [0, 1, 2, 3, 4] (L' := [(4, .inl (.int (nI (s + 1)))), (3, .inl (.int (F_X4_boardsAt h t r))), (0, .inr (6, some 0)), (1, .inr (5, some r)), (2, .inl (.int k))]) rfl ?_
            exact ih36 _ (cy_nlt his h_3).2 (by have := (cy_nlt his h_3).2; omega)
          · refine wp_run [(.iload 4, 2)] (pc' := 67) (L' := [(4, .inl (.int (nI s))), (3, .inl (.int (F_X4_boardsAt h t r))), (0, .inr (6, some 0)), (1, .inr (5, some r)), (2, .inl (.int k))]) (st' := [.inl (.int (nI s))]) ⟨dX5_stopAhead_65, trivial⟩ rfl rfl ?_
            exact wx_iret rfl rfl dX5_stopAhead_67 (by rw [B_X5_stopAhead_36, if_neg h_3, if_neg h_4]; exact ⟨rfl, rfl⟩)
    · refine wp_run [(.iload_n 3, 1)] (pc' := 32) (L' := [(3, .inl (.int (F_X4_boardsAt h t r))), (0, .inr (6, some 0)), (1, .inr (5, some r)), (2, .inl (.int k))]) (st' := [.inl (.int (F_X4_boardsAt h t r))]) ⟨dX5_stopAhead_31, trivial⟩ rfl rfl ?_
      exact wx_iret rfl rfl dX5_stopAhead_32 (by rw [F_X5_stopAhead, if_neg h_1, if_neg h_2]; exact ⟨rfl, rfl⟩)
  · refine wp_run [(.aload_n 0, 1)] (pc' := 11) (L' := [(3, .inl (.int (F_X4_boardsAt h t r))), (0, .inr (6, some 0)), (1, .inr (5, some r)), (2, .inl (.int k))]) (st' := [.inr (6, some 0)]) ⟨dX5_stopAhead_10, trivial⟩ rfl rfl ?_
    refine wx_getI cls_6 (k := 3) (f := 603) (by decide) rfl rfl fl_X5_22 dX5_stopAhead_11 ?_
    exact wx_iret rfl rfl dX5_stopAhead_14 (by rw [F_X5_stopAhead, if_pos h_1]; exact ⟨rfl, rfl⟩)
