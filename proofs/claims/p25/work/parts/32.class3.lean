def B_X1_ticketsFrom_17 (h : Hp) (r : Nat) (R : List Nat) (x : Int32) (rec17 : Hp → Int32 → Int32 → Hp) (r17 : Nat) (h17 : Hp) (n : Int32) (la : Int32) : Hp := (if (xFI h17 802 (tr h r17)) = (xFI h 802 (tr h r)) then (rec17 (H_put h17 27 0 (la + 1) (if ((F_at h17 27 0 x) + (F_X1_ticket h17 (xFI h 802 (tr h r)) (n + (F_X4_length h17 (tr h r17) r17)))) < (F_at h17 27 0 (la + 1)) then ((F_at h17 27 0 x) + (F_X1_ticket h17 (xFI h 802 (tr h r)) (n + (F_X4_length h17 (tr h r17) r17)))) else (F_at h17 27 0 (la + 1)))) (n + (F_X4_length h17 (tr h r17) r17)) (la + 1)) else h17)
def L_X1_ticketsFrom_17 (h : Hp) (r : Nat) (R : List Nat) (x : Int32) : List Nat → Hp → Int32 → Int32 → Hp
  | [] => fun h17 n la => h17
  | r0 :: R0 => B_X1_ticketsFrom_17 h r R x (L_X1_ticketsFrom_17 h r R x R0) r0
theorem L_X1_ticketsFrom_17_z (h : Hp) (r : Nat) (R : List Nat) (x : Int32) (h17 : Hp) (n : Int32) (la : Int32) : L_X1_ticketsFrom_17 h r R x [] h17 n la = h17 := rfl
theorem L_X1_ticketsFrom_17_s (h : Hp) (r : Nat) (R : List Nat) (x : Int32) (r0 : Nat) (R0 : List Nat) (h17 : Hp) (n : Int32) (la : Int32) : L_X1_ticketsFrom_17 h r R x (r0 :: R0) h17 n la = B_X1_ticketsFrom_17 h r R x (L_X1_ticketsFrom_17 h r R x R0) r0 h17 n la := rfl
def F_X1_ticketsFrom (h : Hp) (r : Nat) (R : List Nat) (x : Int32) : Hp := L_X1_ticketsFrom_17 h r R x (r :: R) h 0 x
set_option maxRecDepth 20000 in
theorem c_X1_ticketsFrom {g : GT} {d : Nat} (hd : 3 ≤ d) {h : Hp} (W : CW h) {r : Nat} {R : List Nat} (hc : Chn (xFR h) (xLS h 11) (some r) (r :: R)) (x : Int32)  : Ctr g M_X1_ticketsFrom d 0 0 [.inr (2, some 0), .inr (5, some r), .inl (.int x)] h (cy_detP (.inl none) (F_X1_ticketsFrom h r R x) (SR h (F_X1_ticketsFrom h r R x))) := by
  refine cy_body rfl rfl (by decide) (Nat.le_of_ble_eq_true rfl) ?_
  refine wp_run [(.aload_n 1, 1)] (pc' := 1) (L' := [(0, .inr (2, some 0)), (1, .inr (5, some r)), (2, .inl (.int x))]) (st' := [.inr (5, some r)]) ⟨dX1_ticketsFrom_0, trivial⟩ rfl rfl ?_
  refine wx_getR cls_5 (k := 0) (f := 500) (t := 8) (o := some (tr h r)) (by decide) rfl rfl fl_X1_54 hc.un.2.1 dX1_ticketsFrom_1 ?_
  refine wx_getI cls_8 (k := 2) (f := 802) (by decide) rfl rfl fl_X1_58 dX1_ticketsFrom_4 ?_
  refine wp_run [(.istore_n 3, 1), (.iconst 0, 1), (.istore 4, 2), (.iload_n 2, 1), (.istore 5, 2), (.aload_n 1, 1), (.astore 6, 2)] (pc' := 17) (L' := [(6, .inr (5, some r)), (5, .inl (.int x)), (4, .inl (.int 0)), (3, .inl (.int (xFI h 802 (tr h r)))), (0, .inr (2, some 0)), (1, .inr (5, some r)), (2, .inl (.int x))]) (st' := []) ⟨dX1_ticketsFrom_7, dX1_ticketsFrom_8, dX1_ticketsFrom_9, dX1_ticketsFrom_11, dX1_ticketsFrom_12, dX1_ticketsFrom_14, dX1_ticketsFrom_15, trivial⟩ rfl rfl ?_
  rw [F_X1_ticketsFrom]
  refine wp_sub [0, 1, 2, 3, 4, 5, 6] (L' := [(6, .inr (5, some r)), (5, .inl (.int x)), (4, .inl (.int 0)), (3, .inl (.int (xFI h 802 (tr h r)))), (0, .inr (2, some 0)), (1, .inr (5, some r)), (2, .inl (.int x))]) rfl ?_
  suffices Y17 : ∀ (R17 : List Nat) (o17 : Option Nat) (h17 : Hp) (n : Int32) (la : Int32) (Sr17 : SR h h17) (hc17 : Chn (xFR h) (xLS h 11) o17 R17), WP g M_X1_ticketsFrom d 0 0 17 [(6, .inr (5, o17)), (5, .inl (.int la)), (4, .inl (.int n)), (3, .inl (.int (xFI h 802 (tr h r)))), (0, .inr (2, some 0)), (1, .inr (5, some r)), (2, .inl (.int x))] [] h17 (cy_detP (.inl none) (L_X1_ticketsFrom_17 h r R x R17 h17 n la) (SR h (L_X1_ticketsFrom_17 h r R x R17 h17 n la))) from
    Y17 (r :: R) _ h 0 x SR.rf hc
  intro R17
  induction R17 with
  | nil =>
    intro o17 h17 n la Sr17 hc17
    obtain rfl : o17 = none := hc17
    refine wp_run [(.aload 6, 2)] (pc' := 19) (L' := [(6, .inr (5, none)), (5, .inl (.int la)), (4, .inl (.int n)), (3, .inl (.int (xFI h 802 (tr h r)))), (0, .inr (2, some 0)), (1, .inr (5, some r)), (2, .inl (.int x))]) (st' := [.inr (5, none)]) ⟨dX1_ticketsFrom_17, trivial⟩ rfl rfl ?_
    refine wx_ifnullP (tgt := 94) dX1_ticketsFrom_19 (by decide) (fun _ => ?_) (fun h => absurd rfl h)
    exact wx_vret rfl rfl dX1_ticketsFrom_94 (by rw [L_X1_ticketsFrom_17_z]; exact ⟨Sr17, rfl, rfl⟩)
  | cons r17 R17 ih17 =>
    intro o17 h17 n la Sr17 hc17
    obtain ⟨rfl, hr17, ht17, hn17⟩ := hc17.un
    rw [L_X1_ticketsFrom_17_s]
    generalize L_X1_ticketsFrom_17 h r R x R17 = rec17 at ih17 ⊢
    refine wp_run [(.aload 6, 2)] (pc' := 19) (L' := [(6, .inr (5, some r17)), (5, .inl (.int la)), (4, .inl (.int n)), (3, .inl (.int (xFI h 802 (tr h r)))), (0, .inr (2, some 0)), (1, .inr (5, some r)), (2, .inl (.int x))]) (st' := [.inr (5, some r17)]) ⟨dX1_ticketsFrom_17, trivial⟩ rfl rfl ?_
    refine wx_ifnullP (tgt := 94) dX1_ticketsFrom_19 (by decide) (fun h => nomatch h) (fun _ => ?_)
    refine wp_run [(.aload 6, 2)] (pc' := 24) (L' := [(6, .inr (5, some r17)), (5, .inl (.int la)), (4, .inl (.int n)), (3, .inl (.int (xFI h 802 (tr h r)))), (0, .inr (2, some 0)), (1, .inr (5, some r)), (2, .inl (.int x))]) (st' := [.inr (5, some r17)]) ⟨dX1_ticketsFrom_22, trivial⟩ rfl rfl ?_
    refine wx_getR cls_5 (k := 0) (f := 500) (t := 8) (o := some (tr h r17)) (by decide) rfl rfl fl_X1_54 (Sr17.fr hr17) dX1_ticketsFrom_24 ?_
    refine wx_getI cls_8 (k := 2) (f := 802) (by decide) rfl rfl fl_X1_58 dX1_ticketsFrom_27 ?_
    refine wp_run [(.iload_n 3, 1)] (pc' := 31) (L' := [(6, .inr (5, some r17)), (5, .inl (.int la)), (4, .inl (.int n)), (3, .inl (.int (xFI h 802 (tr h r)))), (0, .inr (2, some 0)), (1, .inr (5, some r)), (2, .inl (.int x))]) (st' := [.inl (.int (xFI h 802 (tr h r))), .inl (.int (xFI h17 802 (tr h r17)))]) ⟨dX1_ticketsFrom_30, trivial⟩ rfl rfl ?_
    refine wx_icmp_ne (tgt := 94) dX1_ticketsFrom_31 (by decide) (fun h_1 => ?_) (fun h_1 => ?_)
    · exact wx_vret rfl rfl dX1_ticketsFrom_94 (by rw [B_X1_ticketsFrom_17, if_neg h_1]; exact ⟨Sr17, rfl, rfl⟩)
    · refine wp_run [(.iload 4, 2), (.aload 6, 2)] (pc' := 38) (L' := [(6, .inr (5, some r17)), (5, .inl (.int la)), (4, .inl (.int n)), (3, .inl (.int (xFI h 802 (tr h r)))), (0, .inr (2, some 0)), (1, .inr (5, some r)), (2, .inl (.int x))]) (st' := [.inr (5, some r17), .inl (.int n)]) ⟨dX1_ticketsFrom_34, dX1_ticketsFrom_36, trivial⟩ rfl rfl ?_
      refine wx_virtualD (M := M_X1_ticketsFrom) (uc := 0) (us := 0) (s := 5) (i := r17) (As := []) (rest := [.inl (.int n)]) cls_5 rfl (ok_X4_length _ _) ml_X1_64 im_X4_length se_X4_length (by omega) (c_X4_length (d := d - 1) (h := h17) (by omega) (W.sr Sr17) (Sr17.fr hr17) (Sr17.lt ht17)) rfl rfl (Nat.le_of_ble_eq_true rfl) dX1_ticketsFrom_38 ?_
      refine wp_run [(.iadd, 1), (.istore 4, 2), (.iinc 5 1, 3), (.aload_n 0, 1)] (pc' := 48) (L' := [(5, .inl (.int (la + 1))), (4, .inl (.int (n + (F_X4_length h17 (tr h r17) r17)))), (6, .inr (5, some r17)), (3, .inl (.int (xFI h 802 (tr h r)))), (0, .inr (2, some 0)), (1, .inr (5, some r)), (2, .inl (.int x))]) (st' := [.inr (2, some 0)]) ⟨dX1_ticketsFrom_41, dX1_ticketsFrom_42, dX1_ticketsFrom_44, dX1_ticketsFrom_47, trivial⟩ rfl rfl ?_
      refine wx_getR cls_2 (k := 3) (f := 203) (t := 27) (o := some 0) (by decide) rfl rfl fl_X1_21 ((W.sr Sr17).fr (f := 203) (by decide)) dX1_ticketsFrom_48 ?_
      refine wp_run [(.iload 5, 2), (.aload_n 0, 1)] (pc' := 54) (L' := [(5, .inl (.int (la + 1))), (4, .inl (.int (n + (F_X4_length h17 (tr h r17) r17)))), (6, .inr (5, some r17)), (3, .inl (.int (xFI h 802 (tr h r)))), (0, .inr (2, some 0)), (1, .inr (5, some r)), (2, .inl (.int x))]) (st' := [.inr (2, some 0), .inl (.int (la + 1)), .inr (27, some 0)]) ⟨dX1_ticketsFrom_51, dX1_ticketsFrom_53, trivial⟩ rfl rfl ?_
      refine wx_getR cls_2 (k := 3) (f := 203) (t := 27) (o := some 0) (by decide) rfl rfl fl_X1_21 ((W.sr Sr17).fr (f := 203) (by decide)) dX1_ticketsFrom_54 ?_
      refine wp_run [(.iload 5, 2)] (pc' := 59) (L' := [(5, .inl (.int (la + 1))), (4, .inl (.int (n + (F_X4_length h17 (tr h r17) r17)))), (6, .inr (5, some r17)), (3, .inl (.int (xFI h 802 (tr h r)))), (0, .inr (2, some 0)), (1, .inr (5, some r)), (2, .inl (.int x))]) (st' := [.inl (.int (la + 1)), .inr (27, some 0), .inl (.int (la + 1)), .inr (27, some 0)]) ⟨dX1_ticketsFrom_57, trivial⟩ rfl rfl ?_
      refine wx_staticND (M := M_X1_ticketsFrom) (uc := 0) (us := 0) (As := [.inr (27, some 0), .inl (.int (la + 1))]) (rest := [.inl (.int (la + 1)), .inr (27, some 0)]) (ok_X8_at _ _) ml_X1_28 st_X8_at (by omega) (c_X8_at (d := d - 1) (by omega) (s := 27) (i := 0) (Or.inl rfl) (Nat.le_of_ble_eq_true rfl) (la + 1)) rfl rfl (Nat.le_of_ble_eq_true rfl) dX1_ticketsFrom_59 ?_
      refine wp_run [(.aload_n 0, 1)] (pc' := 63) (L' := [(5, .inl (.int (la + 1))), (4, .inl (.int (n + (F_X4_length h17 (tr h r17) r17)))), (6, .inr (5, some r17)), (3, .inl (.int (xFI h 802 (tr h r)))), (0, .inr (2, some 0)), (1, .inr (5, some r)), (2, .inl (.int x))]) (st' := [.inr (2, some 0), .inl (.int (F_at h17 27 0 (la + 1))), .inl (.int (la + 1)), .inr (27, some 0)]) ⟨dX1_ticketsFrom_62, trivial⟩ rfl rfl ?_
      refine wx_getR cls_2 (k := 3) (f := 203) (t := 27) (o := some 0) (by decide) rfl rfl fl_X1_21 ((W.sr Sr17).fr (f := 203) (by decide)) dX1_ticketsFrom_63 ?_
      refine wp_run [(.iload_n 2, 1)] (pc' := 67) (L' := [(5, .inl (.int (la + 1))), (4, .inl (.int (n + (F_X4_length h17 (tr h r17) r17)))), (6, .inr (5, some r17)), (3, .inl (.int (xFI h 802 (tr h r)))), (0, .inr (2, some 0)), (1, .inr (5, some r)), (2, .inl (.int x))]) (st' := [.inl (.int x), .inr (27, some 0), .inl (.int (F_at h17 27 0 (la + 1))), .inl (.int (la + 1)), .inr (27, some 0)]) ⟨dX1_ticketsFrom_66, trivial⟩ rfl rfl ?_
      refine wx_staticND (M := M_X1_ticketsFrom) (uc := 0) (us := 0) (As := [.inr (27, some 0), .inl (.int x)]) (rest := [.inl (.int (F_at h17 27 0 (la + 1))), .inl (.int (la + 1)), .inr (27, some 0)]) (ok_X8_at _ _) ml_X1_28 st_X8_at (by omega) (c_X8_at (d := d - 1) (by omega) (s := 27) (i := 0) (Or.inl rfl) (Nat.le_of_ble_eq_true rfl) x) rfl rfl (Nat.le_of_ble_eq_true rfl) dX1_ticketsFrom_67 ?_
      refine wp_run [(.aload_n 0, 1), (.iload_n 3, 1), (.iload 4, 2)] (pc' := 74) (L' := [(5, .inl (.int (la + 1))), (4, .inl (.int (n + (F_X4_length h17 (tr h r17) r17)))), (6, .inr (5, some r17)), (3, .inl (.int (xFI h 802 (tr h r)))), (0, .inr (2, some 0)), (1, .inr (5, some r)), (2, .inl (.int x))]) (st' := [.inl (.int (n + (F_X4_length h17 (tr h r17) r17))), .inl (.int (xFI h 802 (tr h r))), .inr (2, some 0), .inl (.int (F_at h17 27 0 x)), .inl (.int (F_at h17 27 0 (la + 1))), .inl (.int (la + 1)), .inr (27, some 0)]) ⟨dX1_ticketsFrom_70, dX1_ticketsFrom_71, dX1_ticketsFrom_72, trivial⟩ rfl rfl ?_
      refine wx_virtualD (M := M_X1_ticketsFrom) (uc := 0) (us := 0) (s := 2) (i := 0) (As := [.inl (.int (xFI h 802 (tr h r))), .inl (.int (n + (F_X4_length h17 (tr h r17) r17)))]) (rest := [.inl (.int (F_at h17 27 0 x)), .inl (.int (F_at h17 27 0 (la + 1))), .inl (.int (la + 1)), .inr (27, some 0)]) cls_2 rfl (ok_X1_ticket _ _) ml_X1_68 im_X1_ticket se_X1_ticket (by omega) (c_X1_ticket (d := d - 1) (h := h17) (by omega) (W.sr Sr17) (xFI h 802 (tr h r)) (n + (F_X4_length h17 (tr h r17) r17))) rfl rfl (Nat.le_of_ble_eq_true rfl) dX1_ticketsFrom_74 ?_
      refine wp_run [(.iadd, 1)] (pc' := 78) (L' := [(5, .inl (.int (la + 1))), (4, .inl (.int (n + (F_X4_length h17 (tr h r17) r17)))), (6, .inr (5, some r17)), (3, .inl (.int (xFI h 802 (tr h r)))), (0, .inr (2, some 0)), (1, .inr (5, some r)), (2, .inl (.int x))]) (st' := [.inl (.int ((F_at h17 27 0 x) + (F_X1_ticket h17 (xFI h 802 (tr h r)) (n + (F_X4_length h17 (tr h r17) r17))))), .inl (.int (F_at h17 27 0 (la + 1))), .inl (.int (la + 1)), .inr (27, some 0)]) ⟨dX1_ticketsFrom_77, trivial⟩ rfl rfl ?_
      refine wx_min ml_X1_72 min_st math_ini min_code (by omega) (Nat.le_of_ble_eq_true rfl) dX1_ticketsFrom_78 ?_
      refine wx_staticND (M := M_X1_ticketsFrom) (uc := 0) (us := 0) (As := [.inr (27, some 0), .inl (.int (la + 1)), .inl (.int (if ((F_at h17 27 0 x) + (F_X1_ticket h17 (xFI h 802 (tr h r)) (n + (F_X4_length h17 (tr h r17) r17)))) < (F_at h17 27 0 (la + 1)) then ((F_at h17 27 0 x) + (F_X1_ticket h17 (xFI h 802 (tr h r)) (n + (F_X4_length h17 (tr h r17) r17)))) else (F_at h17 27 0 (la + 1))))]) (rest := []) (ok_X8_put _ _) ml_X1_24 st_X8_put (by omega) (c_X8_put (d := d - 1) (by omega) (s := 27) (i := 0) rfl (Nat.le_of_ble_eq_true rfl) (la + 1) (if ((F_at h17 27 0 x) + (F_X1_ticket h17 (xFI h 802 (tr h r)) (n + (F_X4_length h17 (tr h r17) r17)))) < (F_at h17 27 0 (la + 1)) then ((F_at h17 27 0 x) + (F_X1_ticket h17 (xFI h 802 (tr h r)) (n + (F_X4_length h17 (tr h r17) r17)))) else (F_at h17 27 0 (la + 1)))) rfl rfl (Nat.le_of_ble_eq_true rfl) dX1_ticketsFrom_81 ?_
      refine wp_run [(.aload 6, 2)] (pc' := 86) (L' := [(5, .inl (.int (la + 1))), (4, .inl (.int (n + (F_X4_length h17 (tr h r17) r17)))), (6, .inr (5, some r17)), (3, .inl (.int (xFI h 802 (tr h r)))), (0, .inr (2, some 0)), (1, .inr (5, some r)), (2, .inl (.int x))]) (st' := [.inr (5, some r17)]) ⟨dX1_ticketsFrom_84, trivial⟩ rfl rfl ?_
      refine wx_getR cls_5 (k := 4) (f := 504) (t := 5) (o := (xFR h 504 r17)) (by decide) rfl rfl fl_X1_49 (Sr17.fr rfl) dX1_ticketsFrom_86 ?_
      refine wp_run [(.astore 6, 2)] (pc' := 91) (L' := [(6, .inr (5, (xFR h 504 r17))), (5, .inl (.int (la + 1))), (4, .inl (.int (n + (F_X4_length h17 (tr h r17) r17)))), (3, .inl (.int (xFI h 802 (tr h r)))), (0, .inr (2, some 0)), (1, .inr (5, some r)), (2, .inl (.int x))]) (st' := []) ⟨dX1_ticketsFrom_89, trivial⟩ rfl rfl ?_
      refine wx_goto (tgt := 17) dX1_ticketsFrom_91 (by decide) ?_
      rw [B_X1_ticketsFrom_17, if_pos h_1]
      refine wp_sub [0, 1, 2, 3, 4, 5, 6] (L' := [(6, .inr (5, (xFR h 504 r17))), (5, .inl (.int (la + 1))), (4, .inl (.int (n + (F_X4_length h17 (tr h r17) r17)))), (3, .inl (.int (xFI h 802 (tr h r)))), (0, .inr (2, some 0)), (1, .inr (5, some r)), (2, .inl (.int x))]) rfl ?_
      exact ih17 _ _ _ _ Sr17 hn17
def K_X1_fareOf_25 (h : Hp) (j : Nat) (R : List Nat) (h25 : Hp) (x : Int32) : Int32 × Hp := ((F_at h25 27 0 x), h25)
def B_X1_fareOf_25 (h : Hp) (j : Nat) (R : List Nat) (kx : Hp → Int32 → (Int32 × Hp)) (rec25 : Hp → Int32 → (Int32 × Hp)) (r25 : Nat) (R25 : List Nat) (h25 : Hp) (x : Int32) : Int32 × Hp := (rec25 (F_X1_ticketsFrom h25 r25 R25 x) (x + 1))
def L_X1_fareOf_25 (h : Hp) (j : Nat) (R : List Nat) (kx : Hp → Int32 → (Int32 × Hp)) : List Nat → Hp → Int32 → (Int32 × Hp)
  | [] => fun h25 x => (kx h25 x)
  | r0 :: R0 => B_X1_fareOf_25 h j R kx (L_X1_fareOf_25 h j R kx R0) r0 R0
theorem L_X1_fareOf_25_z (h : Hp) (j : Nat) (R : List Nat) (kx : Hp → Int32 → (Int32 × Hp)) (h25 : Hp) (x : Int32) : L_X1_fareOf_25 h j R kx [] h25 x = (kx h25 x) := rfl
theorem L_X1_fareOf_25_s (h : Hp) (j : Nat) (R : List Nat) (kx : Hp → Int32 → (Int32 × Hp)) (r0 : Nat) (R0 : List Nat) (h25 : Hp) (x : Int32) : L_X1_fareOf_25 h j R kx (r0 :: R0) h25 x = B_X1_fareOf_25 h j R kx (L_X1_fareOf_25 h j R kx R0) r0 R0 h25 x := rfl
def F_X1_fareOf (h : Hp) (j : Nat) (R : List Nat) : Int32 × Hp := L_X1_fareOf_25 h j R (K_X1_fareOf_25 h j R) R (H_put (H_fill h 27 0 1000000000) 27 0 0 0) 0
set_option maxRecDepth 20000 in
theorem c_X1_fareOf {g : GT} {d : Nat} (hd : 4 ≤ d) {h : Hp} (W : CW h) {j : Nat} {R : List Nat} (hc : Chn (xFR h) (xLS h 11) (xFR h 301 j) R)  : Ctr g M_X1_fareOf d 0 0 [.inr (2, some 0), .inr (3, some j)] h (cy_detP (.inl (some (.inl (.int (F_X1_fareOf h j R).1)))) (F_X1_fareOf h j R).2 (SR h (F_X1_fareOf h j R).2)) := by
  refine cy_body rfl rfl (by decide) (Nat.le_of_ble_eq_true rfl) ?_
  refine wp_run [(.aload_n 0, 1)] (pc' := 1) (L' := [(0, .inr (2, some 0)), (1, .inr (3, some j))]) (st' := [.inr (2, some 0)]) ⟨dX1_fareOf_0, trivial⟩ rfl rfl ?_
  refine wx_getR cls_2 (k := 3) (f := 203) (t := 27) (o := some 0) (by decide) rfl rfl fl_X1_21 (W.fr (f := 203) (by decide)) dX1_fareOf_1 ?_
  refine wx_ldc kc_X1_32 dX1_fareOf_4 ?_
  refine wx_staticD (M := M_X1_fareOf) (uc := 0) (us := 0) (As := [.inr (27, some 0), .inl (.int 1000000000)]) (rest := []) (ok_J7_fill_53178 _ _) ml_X1_33 st_J7_fill_53178 (by omega) (c_fill (d := d - 1) (by omega) (s := 27) (i := 0) rfl (Nat.le_of_ble_eq_true rfl) 1000000000) rfl rfl (Nat.le_of_ble_eq_true rfl) dX1_fareOf_6 ?_
  refine wp_run [(.aload_n 0, 1)] (pc' := 10) (L' := [(0, .inr (2, some 0)), (1, .inr (3, some j))]) (st' := [.inr (2, some 0)]) ⟨dX1_fareOf_9, trivial⟩ rfl rfl ?_
  refine wx_getR cls_2 (k := 3) (f := 203) (t := 27) (o := some 0) (by decide) rfl rfl fl_X1_21 (W.fr (f := 203) (by decide)) dX1_fareOf_10 ?_
  refine wp_run [(.iconst 0, 1), (.iconst 0, 1)] (pc' := 15) (L' := [(0, .inr (2, some 0)), (1, .inr (3, some j))]) (st' := [.inl (.int 0), .inl (.int 0), .inr (27, some 0)]) ⟨dX1_fareOf_13, dX1_fareOf_14, trivial⟩ rfl rfl ?_
  refine wx_staticND (M := M_X1_fareOf) (uc := 0) (us := 0) (As := [.inr (27, some 0), .inl (.int 0), .inl (.int 0)]) (rest := []) (ok_X8_put _ _) ml_X1_24 st_X8_put (by omega) (c_X8_put (d := d - 1) (by omega) (s := 27) (i := 0) rfl (Nat.le_of_ble_eq_true rfl) 0 0) rfl rfl (Nat.le_of_ble_eq_true rfl) dX1_fareOf_15 ?_
  refine wp_run [(.iconst 0, 1), (.istore_n 2, 1), (.aload_n 1, 1)] (pc' := 21) (L' := [(2, .inl (.int 0)), (0, .inr (2, some 0)), (1, .inr (3, some j))]) (st' := [.inr (3, some j)]) ⟨dX1_fareOf_18, dX1_fareOf_19, dX1_fareOf_20, trivial⟩ rfl rfl ?_
  refine wx_getR cls_3 (k := 1) (f := 301) (t := 5) (o := (xFR h 301 j)) (by decide) rfl rfl fl_X1_39 rfl dX1_fareOf_21 ?_
  refine wp_run [(.astore_n 3, 1)] (pc' := 25) (L' := [(3, .inr (5, (xFR h 301 j))), (2, .inl (.int 0)), (0, .inr (2, some 0)), (1, .inr (3, some j))]) (st' := []) ⟨dX1_fareOf_24, trivial⟩ rfl rfl ?_
  rw [F_X1_fareOf]
  refine wp_sub [0, 1, 2] (L' := [(3, .inr (5, (xFR h 301 j))), (2, .inl (.int 0)), (0, .inr (2, some 0))]) rfl ?_
  have X25 : ∀ (h25 : Hp) (x : Int32) (Sr25 : SR h h25) , WP g M_X1_fareOf d 0 0 46 [(2, .inl (.int x)), (0, .inr (2, some 0))] [] h25 (cy_detP (.inl (some (.inl (.int (K_X1_fareOf_25 h j R h25 x).1)))) (K_X1_fareOf_25 h j R h25 x).2 (SR h (K_X1_fareOf_25 h j R h25 x).2)) := by
    intro h25 x Sr25
    refine wp_run [(.aload_n 0, 1)] (pc' := 47) (L' := [(2, .inl (.int x)), (0, .inr (2, some 0))]) (st' := [.inr (2, some 0)]) ⟨dX1_fareOf_46, trivial⟩ rfl rfl ?_
    refine wx_getR cls_2 (k := 3) (f := 203) (t := 27) (o := some 0) (by decide) rfl rfl fl_X1_21 ((W.sr Sr25).fr (f := 203) (by decide)) dX1_fareOf_47 ?_
    refine wp_run [(.iload_n 2, 1)] (pc' := 51) (L' := [(2, .inl (.int x)), (0, .inr (2, some 0))]) (st' := [.inl (.int x), .inr (27, some 0)]) ⟨dX1_fareOf_50, trivial⟩ rfl rfl ?_
    refine wx_staticND (M := M_X1_fareOf) (uc := 0) (us := 0) (As := [.inr (27, some 0), .inl (.int x)]) (rest := []) (ok_X8_at _ _) ml_X1_28 st_X8_at (by omega) (c_X8_at (d := d - 1) (by omega) (s := 27) (i := 0) (Or.inl rfl) (Nat.le_of_ble_eq_true rfl) x) rfl rfl (Nat.le_of_ble_eq_true rfl) dX1_fareOf_51 ?_
    exact wx_iret rfl rfl dX1_fareOf_54 (by rw [K_X1_fareOf_25]; dsimp only; exact ⟨Sr25, rfl, rfl⟩)
  suffices Y25 : ∀ (R25 : List Nat) (o25 : Option Nat) (h25 : Hp) (x : Int32) (Sr25 : SR h h25) (hc25 : Chn (xFR h) (xLS h 11) o25 R25), WP g M_X1_fareOf d 0 0 25 [(3, .inr (5, o25)), (2, .inl (.int x)), (0, .inr (2, some 0))] [] h25 (cy_detP (.inl (some (.inl (.int (L_X1_fareOf_25 h j R (K_X1_fareOf_25 h j R) R25 h25 x).1)))) (L_X1_fareOf_25 h j R (K_X1_fareOf_25 h j R) R25 h25 x).2 (SR h (L_X1_fareOf_25 h j R (K_X1_fareOf_25 h j R) R25 h25 x).2)) from
    Y25 R _ (H_put (H_fill h 27 0 1000000000) 27 0 0 0) 0 SR.rf hc
  intro R25
  induction R25 with
  | nil =>
    intro o25 h25 x Sr25 hc25
    obtain rfl : o25 = none := hc25
    refine wp_run [(.aload_n 3, 1)] (pc' := 26) (L' := [(3, .inr (5, none)), (2, .inl (.int x)), (0, .inr (2, some 0))]) (st' := [.inr (5, none)]) ⟨dX1_fareOf_25, trivial⟩ rfl rfl ?_
    refine wx_ifnullP (tgt := 46) dX1_fareOf_26 (by decide) (fun _ => ?_) (fun h => absurd rfl h)
    rw [L_X1_fareOf_25_z]
    refine wp_sub [1, 2] (L' := [(2, .inl (.int x)), (0, .inr (2, some 0))]) rfl ?_
    exact X25 _ _ Sr25
  | cons r25 R25 ih25 =>
    intro o25 h25 x Sr25 hc25
    obtain ⟨rfl, hr25, ht25, hn25⟩ := hc25.un
    rw [L_X1_fareOf_25_s]
    generalize L_X1_fareOf_25 h j R (K_X1_fareOf_25 h j R) R25 = rec25 at ih25 ⊢
    refine wp_run [(.aload_n 3, 1)] (pc' := 26) (L' := [(3, .inr (5, some r25)), (2, .inl (.int x)), (0, .inr (2, some 0))]) (st' := [.inr (5, some r25)]) ⟨dX1_fareOf_25, trivial⟩ rfl rfl ?_
    refine wx_ifnullP (tgt := 46) dX1_fareOf_26 (by decide) (fun h => nomatch h) (fun _ => ?_)
    refine wp_run [(.aload_n 0, 1), (.aload_n 3, 1), (.iload_n 2, 1)] (pc' := 32) (L' := [(3, .inr (5, some r25)), (2, .inl (.int x)), (0, .inr (2, some 0))]) (st' := [.inl (.int x), .inr (5, some r25), .inr (2, some 0)]) ⟨dX1_fareOf_29, dX1_fareOf_30, dX1_fareOf_31, trivial⟩ rfl rfl ?_
    refine wx_virtualDP (M := M_X1_fareOf) (uc := 0) (us := 0) (s := 2) (i := 0) (As := [.inr (5, some r25), .inl (.int x)]) (rest := []) cls_2 rfl (ok_X1_ticketsFrom _ _) ml_X1_45 im_X1_ticketsFrom se_X1_ticketsFrom (by omega) (c_X1_ticketsFrom (d := d - 1) (by omega) (W.sr Sr25) (Sr25.ch hc25) x) rfl rfl (Nat.le_of_ble_eq_true rfl) dX1_fareOf_32 (fun hS_1 => ?_)
    refine wp_run [(.iinc 2 1, 3), (.aload_n 3, 1)] (pc' := 39) (L' := [(2, .inl (.int (x + 1))), (3, .inr (5, some r25)), (0, .inr (2, some 0))]) (st' := [.inr (5, some r25)]) ⟨dX1_fareOf_35, dX1_fareOf_38, trivial⟩ rfl rfl ?_
    refine wx_getR cls_5 (k := 4) (f := 504) (t := 5) (o := (xFR h 504 r25)) (by decide) rfl rfl fl_X1_49 ((Sr25.trans hS_1).fr rfl) dX1_fareOf_39 ?_
    refine wp_run [(.astore_n 3, 1)] (pc' := 43) (L' := [(3, .inr (5, (xFR h 504 r25))), (2, .inl (.int (x + 1))), (0, .inr (2, some 0))]) (st' := []) ⟨dX1_fareOf_42, trivial⟩ rfl rfl ?_
    refine wx_goto (tgt := 25) dX1_fareOf_43 (by decide) ?_
    rw [B_X1_fareOf_25]
    refine wp_sub [0, 1, 2] (L' := [(3, .inr (5, (xFR h 504 r25))), (2, .inl (.int (x + 1))), (0, .inr (2, some 0))]) rfl ?_
    exact ih25 _ _ _ (Sr25.trans hS_1) hn25
