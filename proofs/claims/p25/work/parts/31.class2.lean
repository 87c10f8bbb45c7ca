def K_X7_setWeek_2 (h : Hp) (t : Nat) (days : Int32) (h2 : Hp) (dy : Nat) : Hp := h2
def B_X7_setWeek_2 (h : Hp) (t : Nat) (days : Int32) (kx : Hp → Nat → Hp) (rec2 : Hp → Nat → Hp) (h2 : Hp) (dy : Nat) : Hp := (if 100 ≤ (nI dy) then (kx h2 dy) else (if (days &&& (1 <<< (((nI dy) - (nI dy) / 7 * 7) &&& 31))) = 0 then (rec2 (sAI h2 31 t dy 0) (dy + 1)) else (rec2 (sAI h2 31 t dy 1) (dy + 1))))
def L_X7_setWeek_2 (h : Hp) (t : Nat) (days : Int32) (kx : Hp → Nat → Hp) : Nat → Hp → Nat → Hp
  | 0 => fun h2 dy => h2
  | fu + 1 => B_X7_setWeek_2 h t days kx (L_X7_setWeek_2 h t days kx fu)
theorem L_X7_setWeek_2_s (h : Hp) (t : Nat) (days : Int32) (kx : Hp → Nat → Hp) (fu : Nat) (h2 : Hp) (dy : Nat) : L_X7_setWeek_2 h t days kx (fu + 1) h2 dy = B_X7_setWeek_2 h t days kx (L_X7_setWeek_2 h t days kx fu) h2 dy := rfl
def F_X7_setWeek (h : Hp) (t : Nat) (days : Int32) : Hp := L_X7_setWeek_2 h t days (K_X7_setWeek_2 h t days) (2147483648 - 0 + 1) h 0
set_option maxRecDepth 20000 in
theorem c_X7_setWeek {g : GT} {d : Nat} (hd : 1 ≤ d) {h : Hp} {t : Nat} (ht : TOk h t) (days : Int32)  : Ctr g M_X7_setWeek d 0 0 [.inr (8, some t), .inl (.int days)] h (cy_detP (.inl none) (F_X7_setWeek h t days) (SR h (F_X7_setWeek h t days))) := by
  refine cy_body rfl rfl (by decide) (Nat.le_of_ble_eq_true rfl) ?_
  refine wp_run [(.iconst 0, 1), (.istore_n 2, 1)] (pc' := 2) (L' := [(2, .inl (.int 0)), (0, .inr (8, some t)), (1, .inl (.int days))]) (st' := []) ⟨dX7_setWeek_0, dX7_setWeek_1, trivial⟩ rfl rfl ?_
  rw [F_X7_setWeek]
  refine wp_sub [0, 1, 2] (L' := [(2, .inl (.int 0)), (0, .inr (8, some t)), (1, .inl (.int days))]) rfl ?_
  have X2 : ∀ (h2 : Hp) (dy : Nat) (Sr2 : SR h h2) (hidy : dy < 2147483648) , WP g M_X7_setWeek d 0 0 39 [(0, .inr (8, some t))] [] h2 (cy_detP (.inl none) (K_X7_setWeek_2 h t days h2 dy) (SR h (K_X7_setWeek_2 h t days h2 dy))) := by
    intro h2 dy Sr2 hidy
    exact wx_vret rfl rfl dX7_setWeek_39 (by rw [K_X7_setWeek_2]; exact ⟨Sr2, rfl, rfl⟩)
  suffices Y2 : ∀ (n2 : Nat) (h2 : Hp) (dy : Nat) (Sr2 : SR h h2) (hidy : dy < 2147483648) (hm2 : 2147483648 - dy < n2), WP g M_X7_setWeek d 0 0 2 [(2, .inl (.int (nI dy))), (0, .inr (8, some t)), (1, .inl (.int days))] [] h2 (cy_detP (.inl none) (L_X7_setWeek_2 h t days (K_X7_setWeek_2 h t days) n2 h2 dy) (SR h (L_X7_setWeek_2 h t days (K_X7_setWeek_2 h t days) n2 h2 dy))) from
    Y2 (2147483648 - 0 + 1) h 0 SR.rf (by decide) (Nat.lt_succ_self _)
  intro n2
  induction n2 with
  | zero => intro h2 dy Sr2 hidy hm2; exact absurd hm2 (Nat.not_lt_zero _)
  | succ n2 ih2 =>
    intro h2 dy Sr2 hidy hm2
    rw [L_X7_setWeek_2_s]
    generalize L_X7_setWeek_2 h t days (K_X7_setWeek_2 h t days) n2 = rec2 at ih2 ⊢
    refine wp_run [(.iload_n 2, 1), (.aload_n 0, 1)] (pc' := 4) (L' := [(2, .inl (.int (nI dy))), (0, .inr (8, some t)), (1, .inl (.int days))]) (st' := [.inr (8, some t), .inl (.int (nI dy))]) ⟨dX7_setWeek_2, dX7_setWeek_3, trivial⟩ rfl rfl ?_
    refine wx_getR cls_8 (k := 7) (f := 807) (t := 31) (o := some t) (by decide) rfl rfl fl_X7_21 (Sr2.fr (ht 807 (by decide))) dX7_setWeek_4 ?_
    refine wx_alen (v := 100) (Or.inr (Or.inl rfl)) rfl dX7_setWeek_7 ?_
    refine wx_icmp_ge (tgt := 39) dX7_setWeek_8 (by decide) (fun h_1 => ?_) (fun h_1 => ?_)
    · rw [B_X7_setWeek_2, if_pos h_1]
      refine wp_sub [1] (L' := [(0, .inr (8, some t))]) rfl ?_
      exact X2 _ _ Sr2 hidy
    · refine wp_run [(.aload_n 0, 1)] (pc' := 12) (L' := [(2, .inl (.int (nI dy))), (0, .inr (8, some t)), (1, .inl (.int days))]) (st' := [.inr (8, some t)]) ⟨dX7_setWeek_11, trivial⟩ rfl rfl ?_
      refine wx_getR cls_8 (k := 7) (f := 807) (t := 31) (o := some t) (by decide) rfl rfl fl_X7_21 (Sr2.fr (ht 807 (by decide))) dX7_setWeek_12 ?_
      refine wp_run [(.iload_n 2, 1), (.iload_n 1, 1), (.iconst 1, 1), (.iload_n 2, 1), (.bipush 7, 2)] (pc' := 21) (L' := [(2, .inl (.int (nI dy))), (0, .inr (8, some t)), (1, .inl (.int days))]) (st' := [.inl (.int 7), .inl (.int (nI dy)), .inl (.int 1), .inl (.int days), .inl (.int (nI dy)), .inr (31, some t)]) ⟨dX7_setWeek_15, dX7_setWeek_16, dX7_setWeek_17, dX7_setWeek_18, dX7_setWeek_19, trivial⟩ rfl rfl ?_
      refine wx_irem (by decide) dX7_setWeek_21 ?_
      refine wp_run [(.ishl, 1), (.iand, 1)] (pc' := 24) (L' := [(2, .inl (.int (nI dy))), (0, .inr (8, some t)), (1, .inl (.int days))]) (st' := [.inl (.int (days &&& (1 <<< (((nI dy) - (nI dy) / 7 * 7) &&& 31)))), .inl (.int (nI dy)), .inr (31, some t)]) ⟨dX7_setWeek_22, dX7_setWeek_23, trivial⟩ rfl rfl ?_
      refine wx_if_eq (tgt := 31) dX7_setWeek_24 (by decide) (fun h_2 => ?_) (fun h_2 => ?_)
      · refine wp_run [(.iconst 0, 1)] (pc' := 32) (L' := [(2, .inl (.int (nI dy))), (0, .inr (8, some t)), (1, .inl (.int days))]) (st' := [.inl (.int 0), .inl (.int (nI dy)), .inr (31, some t)]) ⟨dX7_setWeek_31, trivial⟩ rfl rfl ?_
        refine wx_zastN (j := dy) rfl ⟨(cy_nlt hidy h_1).1, rfl, by decide⟩ rfl rfl dX7_setWeek_32 ?_
        refine wp_run [(.iinc 2 1, 3)] (pc' := 36) (L' := [(2, .inl (.int ((nI dy) + 1))), (0, .inr (8, some t)), (1, .inl (.int days))]) (st' := []) ⟨dX7_setWeek_33, trivial⟩ rfl rfl ?_
        refine wx_goto (tgt := 2) dX7_setWeek_36 (by decide) ?_
        rw [B_X7_setWeek_2, if_neg h_1, if_pos h_2]
        rw [nI_1 dy]
        refine wp_sub [0, 1, 2] (L' := [(2, .inl (.int (nI (dy + 1)))), (0, .inr (8, some t)), (1, .inl (.int days))]) rfl ?_
        exact ih2 _ _ Sr2 (cy_nlt hidy h_1).2 (by have := (cy_nlt hidy h_1).2; omega)
      · refine wp_run [(.iconst 1, 1)] (pc' := 28) (L' := [(2, .inl (.int (nI dy))), (0, .inr (8, some t)), (1, .inl (.int days))]) (st' := [.inl (.int 1), .inl (.int (nI dy)), .inr (31, some t)]) ⟨dX7_setWeek_27, trivial⟩ rfl rfl ?_
        refine wx_goto (tgt := 32) dX7_setWeek_28 (by decide) ?_
        refine wx_zastN (j := dy) rfl ⟨(cy_nlt hidy h_1).1, rfl, by decide⟩ rfl rfl dX7_setWeek_32 ?_
        refine wp_run [(.iinc 2 1, 3)] (pc' := 36) (L' := [(2, .inl (.int ((nI dy) + 1))), (0, .inr (8, some t)), (1, .inl (.int days))]) (st' := []) ⟨dX7_setWeek_33, trivial⟩ rfl rfl ?_
        refine wx_goto (tgt := 2) dX7_setWeek_36 (by decide) ?_
        rw [B_X7_setWeek_2, if_neg h_1, if_neg h_2]
        rw [nI_1 dy]
        refine wp_sub [0, 1, 2] (L' := [(2, .inl (.int (nI (dy + 1)))), (0, .inr (8, some t)), (1, .inl (.int days))]) rfl ?_
        exact ih2 _ _ Sr2 (cy_nlt hidy h_1).2 (by have := (cy_nlt hidy h_1).2; omega)
def K_X7_chanceWithin_13 (h : Hp) (t : Nat) (mi : Int32) (w : Int32) (i : Nat) : UInt64 := (FP.ddiv (FP.i2d w) (FP.i2d (xFI h 811 t)))
def B_X7_chanceWithin_13 (h : Hp) (t : Nat) (mi : Int32) (kx : Int32 → Nat → UInt64) (rec13 : Int32 → Nat → UInt64) (w : Int32) (i : Nat) : UInt64 := (if (xFI h 811 t) ≤ (nI i) then (kx w i) else (if mi < (F_at h 33 t (nI i)) then (rec13 w (i + 1)) else (rec13 (w + 1) (i + 1))))
def L_X7_chanceWithin_13 (h : Hp) (t : Nat) (mi : Int32) (kx : Int32 → Nat → UInt64) : Nat → Int32 → Nat → UInt64
  | 0 => fun w i => 0
  | fu + 1 => B_X7_chanceWithin_13 h t mi kx (L_X7_chanceWithin_13 h t mi kx fu)
theorem L_X7_chanceWithin_13_s (h : Hp) (t : Nat) (mi : Int32) (kx : Int32 → Nat → UInt64) (fu : Nat) (w : Int32) (i : Nat) : L_X7_chanceWithin_13 h t mi kx (fu + 1) w i = B_X7_chanceWithin_13 h t mi kx (L_X7_chanceWithin_13 h t mi kx fu) w i := rfl
def F_X7_chanceWithin (h : Hp) (t : Nat) (mi : Int32) : UInt64 := (if (xFI h 811 t) = 0 then FP.dconst1 else L_X7_chanceWithin_13 h t mi (K_X7_chanceWithin_13 h t mi) (2147483648 - 0 + 1) 0 0)
set_option maxRecDepth 20000 in
theorem c_X7_chanceWithin {g : GT} {d : Nat} (hd : 2 ≤ d) {h : Hp} (W : CW h) {t : Nat} (ht : t < xLS h 11) (mi : Int32)  : Ctr g M_X7_chanceWithin d 0 0 [.inr (8, some t), .inl (.int mi)] h (cy_det (.inl (some (.inl (.double (F_X7_chanceWithin h t mi))))) h) := by
  refine cy_body rfl rfl (by decide) (Nat.le_of_ble_eq_true rfl) ?_
  refine wp_run [(.aload_n 0, 1)] (pc' := 1) (L' := [(0, .inr (8, some t)), (1, .inl (.int mi))]) (st' := [.inr (8, some t)]) ⟨dX7_chanceWithin_0, trivial⟩ rfl rfl ?_
  refine wx_getI cls_8 (k := 11) (f := 811) (by decide) rfl rfl fl_X7_59 dX7_chanceWithin_1 ?_
  refine wx_if_ne (tgt := 9) dX7_chanceWithin_4 (by decide) (fun h_1 => ?_) (fun h_1 => ?_)
  · refine wp_run [(.iconst 0, 1), (.istore_n 2, 1), (.iconst 0, 1), (.istore_n 3, 1)] (pc' := 13) (L' := [(3, .inl (.int 0)), (2, .inl (.int 0)), (0, .inr (8, some t)), (1, .inl (.int mi))]) (st' := []) ⟨dX7_chanceWithin_9, dX7_chanceWithin_10, dX7_chanceWithin_11, dX7_chanceWithin_12, trivial⟩ rfl rfl ?_
    rw [F_X7_chanceWithin, if_neg h_1]
    refine wp_sub [0, 1, 2, 3] (L' := [(3, .inl (.int 0)), (2, .inl (.int 0)), (0, .inr (8, some t)), (1, .inl (.int mi))]) rfl ?_
    have X13 : ∀ (w : Int32) (i : Nat) (hii : i < 2147483648) , WP g M_X7_chanceWithin d 0 0 42 [(2, .inl (.int w)), (0, .inr (8, some t))] [] h (cy_det (.inl (some (.inl (.double (K_X7_chanceWithin_13 h t mi w i))))) h) := by
      intro w i hii
      refine wp_run [(.iload_n 2, 1), (.i2d, 1), (.aload_n 0, 1)] (pc' := 45) (L' := [(2, .inl (.int w)), (0, .inr (8, some t))]) (st' := [.inr (8, some t), .inl (.double (FP.i2d w))]) ⟨dX7_chanceWithin_42, dX7_chanceWithin_43, dX7_chanceWithin_44, trivial⟩ rfl rfl ?_
      refine wx_getI cls_8 (k := 11) (f := 811) (by decide) rfl rfl fl_X7_59 dX7_chanceWithin_45 ?_
      refine wp_run [(.i2d, 1)] (pc' := 49) (L' := [(2, .inl (.int w)), (0, .inr (8, some t))]) (st' := [.inl (.double (FP.i2d (xFI h 811 t))), .inl (.double (FP.i2d w))]) ⟨dX7_chanceWithin_48, trivial⟩ rfl rfl ?_
      refine wx_ddiv (cy_ddivN h_1) dX7_chanceWithin_49 ?_
      exact wx_dret rfl rfl dX7_chanceWithin_50 (by rw [K_X7_chanceWithin_13]; exact ⟨rfl, rfl⟩)
    suffices Y13 : ∀ (n13 : Nat) (w : Int32) (i : Nat) (hii : i < 2147483648) (hm13 : 2147483648 - i < n13), WP g M_X7_chanceWithin d 0 0 13 [(3, .inl (.int (nI i))), (2, .inl (.int w)), (0, .inr (8, some t)), (1, .inl (.int mi))] [] h (cy_det (.inl (some (.inl (.double (L_X7_chanceWithin_13 h t mi (K_X7_chanceWithin_13 h t mi) n13 w i))))) h) from
      Y13 (2147483648 - 0 + 1) 0 0 (by decide) (Nat.lt_succ_self _)
    intro n13
    induction n13 with
    | zero => intro w i hii hm13; exact absurd hm13 (Nat.not_lt_zero _)
    | succ n13 ih13 =>
      intro w i hii hm13
      rw [L_X7_chanceWithin_13_s]
      generalize L_X7_chanceWithin_13 h t mi (K_X7_chanceWithin_13 h t mi) n13 = rec13 at ih13 ⊢
      refine wp_run [(.iload_n 3, 1), (.aload_n 0, 1)] (pc' := 15) (L' := [(3, .inl (.int (nI i))), (2, .inl (.int w)), (0, .inr (8, some t)), (1, .inl (.int mi))]) (st' := [.inr (8, some t), .inl (.int (nI i))]) ⟨dX7_chanceWithin_13, dX7_chanceWithin_14, trivial⟩ rfl rfl ?_
      refine wx_getI cls_8 (k := 11) (f := 811) (by decide) rfl rfl fl_X7_59 dX7_chanceWithin_15 ?_
      refine wx_icmp_ge (tgt := 42) dX7_chanceWithin_18 (by decide) (fun h_2 => ?_) (fun h_2 => ?_)
      · rw [B_X7_chanceWithin_13, if_pos h_2]
        refine wp_sub [1, 2] (L' := [(2, .inl (.int w)), (0, .inr (8, some t))]) rfl ?_
        exact X13 _ _ hii
      · refine wp_run [(.aload_n 0, 1)] (pc' := 22) (L' := [(3, .inl (.int (nI i))), (2, .inl (.int w)), (0, .inr (8, some t)), (1, .inl (.int mi))]) (st' := [.inr (8, some t)]) ⟨dX7_chanceWithin_21, trivial⟩ rfl rfl ?_
        refine wx_getR cls_8 (k := 9) (f := 809) (t := 33) (o := some t) (by decide) rfl rfl fl_X7_28 (W.tfr (f := 809) ht (by decide)) dX7_chanceWithin_22 ?_
        refine wp_run [(.iload_n 3, 1)] (pc' := 26) (L' := [(3, .inl (.int (nI i))), (2, .inl (.int w)), (0, .inr (8, some t)), (1, .inl (.int mi))]) (st' := [.inl (.int (nI i)), .inr (33, some t)]) ⟨dX7_chanceWithin_25, trivial⟩ rfl rfl ?_
        refine wx_staticND (M := M_X7_chanceWithin) (uc := 0) (us := 0) (As := [.inr (33, some t), .inl (.int (nI i))]) (rest := []) (ok_X8_at _ _) ml_X7_51 st_X8_at (by omega) (c_X8_at (d := d - 1) (by omega) (s := 33) (i := t) (Or.inl rfl) (Nat.le_of_ble_eq_true rfl) (nI i)) rfl rfl (Nat.le_of_ble_eq_true rfl) dX7_chanceWithin_26 ?_
        refine wp_run [(.iload_n 1, 1)] (pc' := 30) (L' := [(3, .inl (.int (nI i))), (2, .inl (.int w)), (0, .inr (8, some t)), (1, .inl (.int mi))]) (st' := [.inl (.int mi), .inl (.int (F_at h 33 t (nI i)))]) ⟨dX7_chanceWithin_29, trivial⟩ rfl rfl ?_
        refine wx_icmp_gt (tgt := 36) dX7_chanceWithin_30 (by decide) (fun h_3 => ?_) (fun h_3 => ?_)
        · refine wp_run [(.iinc 3 1, 3)] (pc' := 39) (L' := [(3, .inl (.int ((nI i) + 1))), (2, .inl (.int w)), (0, .inr (8, some t)), (1, .inl (.int mi))]) (st' := []) ⟨dX7_chanceWithin_36, trivial⟩ rfl rfl ?_
          refine wx_goto (tgt := 13) dX7_chanceWithin_39 (by decide) ?_
          rw [B_X7_chanceWithin_13, if_neg h_2, if_pos h_3]
          rw [nI_1 i]
          refine wp_sub [0, 1, 2, 3] (L' := [(3, .inl (.int (nI (i + 1)))), (2, .inl (.int w)), (0, .inr (8, some t)), (1, .inl (.int mi))]) rfl ?_
          exact ih13 _ _ (cy_nlt hii h_2).2 (by have := (cy_nlt hii h_2).2; omega)
        · refine wp_run [(.iinc 2 1, 3), (.iinc 3 1, 3)] (pc' := 39) (L' := [(3, .inl (.int ((nI i) + 1))), (2, .inl (.int (w + 1))), (0, .inr (8, some t)), (1, .inl (.int mi))]) (st' := []) ⟨dX7_chanceWithin_33, dX7_chanceWithin_36, trivial⟩ rfl rfl ?_
          refine wx_goto (tgt := 13) dX7_chanceWithin_39 (by decide) ?_
          rw [B_X7_chanceWithin_13, if_neg h_2, if_neg h_3]
          rw [nI_1 i]
          refine wp_sub [0, 1, 2, 3] (L' := [(3, .inl (.int (nI (i + 1)))), (2, .inl (.int (w + 1))), (0, .inr (8, some t)), (1, .inl (.int mi))]) rfl ?_
          exact ih13 _ _ (cy_nlt hii h_2).2 (by have := (cy_nlt hii h_2).2; omega)
  · refine wx_dconst1 dX7_chanceWithin_7 ?_
    exact wx_dret rfl rfl dX7_chanceWithin_8 (by rw [F_X7_chanceWithin, if_pos h_1]; exact ⟨rfl, rfl⟩)
def B_X2_isBroken_10 (h : Hp) (j : Nat) (R : List Nat) (rec10 : Int32 → Int32) (r10 : Nat) (be : Int32) : Int32 := (if (F_X7_goes h (tr h r10) (xFI h 501 r10)) = 0 then 1 else (if (be + (xFI h 505 r10)) ≤ (F_X4_departs h (tr h r10) r10) then (rec10 (F_X4_arrives h (tr h r10) r10)) else 1))
def L_X2_isBroken_10 (h : Hp) (j : Nat) (R : List Nat) : List Nat → Int32 → Int32
  | [] => fun be => 0
  | r0 :: R0 => B_X2_isBroken_10 h j R (L_X2_isBroken_10 h j R R0) r0
theorem L_X2_isBroken_10_z (h : Hp) (j : Nat) (R : List Nat) (be : Int32) : L_X2_isBroken_10 h j R [] be = 0 := rfl
theorem L_X2_isBroken_10_s (h : Hp) (j : Nat) (R : List Nat) (r0 : Nat) (R0 : List Nat) (be : Int32) : L_X2_isBroken_10 h j R (r0 :: R0) be = B_X2_isBroken_10 h j R (L_X2_isBroken_10 h j R R0) r0 be := rfl
def F_X2_isBroken (h : Hp) (j : Nat) (R : List Nat) : Int32 := L_X2_isBroken_10 h j R R (xFI h 300 j)
set_option maxRecDepth 20000 in
theorem c_X2_isBroken {g : GT} {d : Nat} (hd : 4 ≤ d) {h : Hp} (W : CW h) {j : Nat} {R : List Nat} (hc : Chn (xFR h) (xLS h 11) (xFR h 301 j) R)  : Ctr g M_X2_isBroken d 0 0 [.inr (3, some j)] h (cy_det (.inl (some (.inl (.int (F_X2_isBroken h j R))))) h) := by
  refine cy_body rfl rfl (by decide) (Nat.le_of_ble_eq_true rfl) ?_
  refine wp_run [(.aload_n 0, 1)] (pc' := 1) (L' := [(0, .inr (3, some j))]) (st' := [.inr (3, some j)]) ⟨dX2_isBroken_0, trivial⟩ rfl rfl ?_
  refine wx_getI cls_3 (k := 0) (f := 300) (by decide) rfl rfl fl_X2_9 dX2_isBroken_1 ?_
  refine wp_run [(.istore_n 1, 1), (.aload_n 0, 1)] (pc' := 6) (L' := [(1, .inl (.int (xFI h 300 j))), (0, .inr (3, some j))]) (st' := [.inr (3, some j)]) ⟨dX2_isBroken_4, dX2_isBroken_5, trivial⟩ rfl rfl ?_
  refine wx_getR cls_3 (k := 1) (f := 301) (t := 5) (o := (xFR h 301 j)) (by decide) rfl rfl fl_X2_15 rfl dX2_isBroken_6 ?_
  refine wp_run [(.astore_n 2, 1)] (pc' := 10) (L' := [(2, .inr (5, (xFR h 301 j))), (1, .inl (.int (xFI h 300 j))), (0, .inr (3, some j))]) (st' := []) ⟨dX2_isBroken_9, trivial⟩ rfl rfl ?_
  rw [F_X2_isBroken]
  refine wp_sub [0, 1] (L' := [(2, .inr (5, (xFR h 301 j))), (1, .inl (.int (xFI h 300 j)))]) rfl ?_
  suffices Y10 : ∀ (R10 : List Nat) (o10 : Option Nat) (be : Int32)  (hc10 : Chn (xFR h) (xLS h 11) o10 R10), WP g M_X2_isBroken d 0 0 10 [(2, .inr (5, o10)), (1, .inl (.int be))] [] h (cy_det (.inl (some (.inl (.int (L_X2_isBroken_10 h j R R10 be))))) h) from
    Y10 R _ (xFI h 300 j)  hc
  intro R10
  induction R10 with
  | nil =>
    intro o10 be  hc10
    obtain rfl : o10 = none := hc10
    refine wp_run [(.aload_n 2, 1)] (pc' := 11) (L' := [(2, .inr (5, none)), (1, .inl (.int be))]) (st' := [.inr (5, none)]) ⟨dX2_isBroken_10, trivial⟩ rfl rfl ?_
    refine wx_ifnullP (tgt := 56) dX2_isBroken_11 (by decide) (fun _ => ?_) (fun h => absurd rfl h)
    refine wp_run [(.iconst 0, 1)] (pc' := 57) (L' := [(2, .inr (5, none)), (1, .inl (.int be))]) (st' := [.inl (.int 0)]) ⟨dX2_isBroken_56, trivial⟩ rfl rfl ?_
    exact wx_zret rfl rfl rfl dX2_isBroken_57 (by rw [L_X2_isBroken_10_z]; exact ⟨rfl, rfl⟩)
  | cons r10 R10 ih10 =>
    intro o10 be  hc10
    obtain ⟨rfl, hr10, ht10, hn10⟩ := hc10.un
    rw [L_X2_isBroken_10_s]
    generalize L_X2_isBroken_10 h j R R10 = rec10 at ih10 ⊢
    refine wp_run [(.aload_n 2, 1)] (pc' := 11) (L' := [(2, .inr (5, some r10)), (1, .inl (.int be))]) (st' := [.inr (5, some r10)]) ⟨dX2_isBroken_10, trivial⟩ rfl rfl ?_
    refine wx_ifnullP (tgt := 56) dX2_isBroken_11 (by decide) (fun h => nomatch h) (fun _ => ?_)
    refine wp_run [(.aload_n 2, 1)] (pc' := 15) (L' := [(2, .inr (5, some r10)), (1, .inl (.int be))]) (st' := [.inr (5, some r10)]) ⟨dX2_isBroken_14, trivial⟩ rfl rfl ?_
    refine wx_getR cls_5 (k := 0) (f := 500) (t := 8) (o := some (tr h r10)) (by decide) rfl rfl fl_X2_33 hr10 dX2_isBroken_15 ?_
    refine wp_run [(.aload_n 2, 1)] (pc' := 19) (L' := [(2, .inr (5, some r10)), (1, .inl (.int be))]) (st' := [.inr (5, some r10), .inr (8, some (tr h r10))]) ⟨dX2_isBroken_18, trivial⟩ rfl rfl ?_
    refine wx_getI cls_5 (k := 1) (f := 501) (by decide) rfl rfl fl_X2_42 dX2_isBroken_19 ?_
    refine wx_virtualD (M := M_X2_isBroken) (uc := 0) (us := 0) (s := 8) (i := (tr h r10)) (As := [.inl (.int (xFI h 501 r10))]) (rest := []) cls_8 rfl (ok_X7_goes _ _) ml_X2_81 im_X7_goes se_X7_goes (by omega) (c_X7_goes (d := d - 1) (h := h) (by omega) W ht10 (xFI h 501 r10)) rfl rfl (Nat.le_of_ble_eq_true rfl) dX2_isBroken_22 ?_
    refine wx_if_eq (tgt := 41) dX2_isBroken_25 (by decide) (fun h_1 => ?_) (fun h_1 => ?_)
    · refine wp_run [(.iconst 1, 1)] (pc' := 42) (L' := [(2, .inr (5, some r10)), (1, .inl (.int be))]) (st' := [.inl (.int 1)]) ⟨dX2_isBroken_41, trivial⟩ rfl rfl ?_
      exact wx_zret rfl rfl rfl dX2_isBroken_42 (by rw [B_X2_isBroken_10, if_pos h_1]; exact ⟨rfl, rfl⟩)
    · refine wp_run [(.aload_n 2, 1)] (pc' := 29) (L' := [(2, .inr (5, some r10)), (1, .inl (.int be))]) (st' := [.inr (5, some r10)]) ⟨dX2_isBroken_28, trivial⟩ rfl rfl ?_
      refine wx_virtualD (M := M_X2_isBroken) (uc := 0) (us := 0) (s := 5) (i := r10) (As := []) (rest := []) cls_5 rfl (ok_X4_departs _ _) ml_X2_45 im_X4_departs se_X4_departs (by omega) (c_X4_departs (d := d - 1) (h := h) (by omega) W hr10 ht10) rfl rfl (Nat.le_of_ble_eq_true rfl) dX2_isBroken_29 ?_
      refine wp_run [(.iload_n 1, 1), (.aload_n 2, 1)] (pc' := 34) (L' := [(2, .inr (5, some r10)), (1, .inl (.int be))]) (st' := [.inr (5, some r10), .inl (.int be), .inl (.int (F_X4_departs h (tr h r10) r10))]) ⟨dX2_isBroken_32, dX2_isBroken_33, trivial⟩ rfl rfl ?_
      refine wx_getI cls_5 (k := 5) (f := 505) (by decide) rfl rfl fl_X2_52 dX2_isBroken_34 ?_
      refine wp_run [(.iadd, 1)] (pc' := 38) (L' := [(2, .inr (5, some r10)), (1, .inl (.int be))]) (st' := [.inl (.int (be + (xFI h 505 r10))), .inl (.int (F_X4_departs h (tr h r10) r10))]) ⟨dX2_isBroken_37, trivial⟩ rfl rfl ?_
      refine wx_icmp_ge (tgt := 43) dX2_isBroken_38 (by decide) (fun h_2 => ?_) (fun h_2 => ?_)
      · refine wp_run [(.aload_n 2, 1)] (pc' := 44) (L' := [(2, .inr (5, some r10)), (1, .inl (.int be))]) (st' := [.inr (5, some r10)]) ⟨dX2_isBroken_43, trivial⟩ rfl rfl ?_
        refine wx_virtualD (M := M_X2_isBroken) (uc := 0) (us := 0) (s := 5) (i := r10) (As := []) (rest := []) cls_5 rfl (ok_X4_arrives _ _) ml_X2_49 im_X4_arrives se_X4_arrives (by omega) (c_X4_arrives (d := d - 1) (h := h) (by omega) W hr10 ht10) rfl rfl (Nat.le_of_ble_eq_true rfl) dX2_isBroken_44 ?_
        refine wp_run [(.istore_n 1, 1), (.aload_n 2, 1)] (pc' := 49) (L' := [(1, .inl (.int (F_X4_arrives h (tr h r10) r10))), (2, .inr (5, some r10))]) (st' := [.inr (5, some r10)]) ⟨dX2_isBroken_47, dX2_isBroken_48, trivial⟩ rfl rfl ?_
        refine wx_getR cls_5 (k := 4) (f := 504) (t := 5) (o := (xFR h 504 r10)) (by decide) rfl rfl fl_X2_28 rfl dX2_isBroken_49 ?_
        refine wp_run [(.astore_n 2, 1)] (pc' := 53) (L' := [(2, .inr (5, (xFR h 504 r10))), (1, .inl (.int (F_X4_arrives h (tr h r10) r10)))]) (st' := []) ⟨dX2_isBroken_52, trivial⟩ rfl rfl ?_
        refine wx_goto (tgt := 10) dX2_isBroken_53 (by decide) ?_
        rw [B_X2_isBroken_10, if_neg h_1, if_pos h_2]
        refine wp_sub [0, 1] (L' := [(2, .inr (5, (xFR h 504 r10))), (1, .inl (.int (F_X4_arrives h (tr h r10) r10)))]) rfl ?_
        exact ih10 _ _ hn10
      · refine wp_run [(.iconst 1, 1)] (pc' := 42) (L' := [(2, .inr (5, some r10)), (1, .inl (.int be))]) (st' := [.inl (.int 1)]) ⟨dX2_isBroken_41, trivial⟩ rfl rfl ?_
        exact wx_zret rfl rfl rfl dX2_isBroken_42 (by rw [B_X2_isBroken_10, if_neg h_1, if_neg h_2]; exact ⟨rfl, rfl⟩)
def B_X2_endNow_10 (h : Hp) (j : Nat) (R : List Nat) (rec10 : Int32 → Int32) (r10 : Nat) (be : Int32) : Int32 := (rec10 (F_X4_arrives h (tr h r10) r10))
def L_X2_endNow_10 (h : Hp) (j : Nat) (R : List Nat) : List Nat → Int32 → Int32
  | [] => fun be => (be + (xFI h 303 j))
  | r0 :: R0 => B_X2_endNow_10 h j R (L_X2_endNow_10 h j R R0) r0
theorem L_X2_endNow_10_z (h : Hp) (j : Nat) (R : List Nat) (be : Int32) : L_X2_endNow_10 h j R [] be = (be + (xFI h 303 j)) := rfl
theorem L_X2_endNow_10_s (h : Hp) (j : Nat) (R : List Nat) (r0 : Nat) (R0 : List Nat) (be : Int32) : L_X2_endNow_10 h j R (r0 :: R0) be = B_X2_endNow_10 h j R (L_X2_endNow_10 h j R R0) r0 be := rfl
def F_X2_endNow (h : Hp) (j : Nat) (R : List Nat) : Int32 := L_X2_endNow_10 h j R R (xFI h 300 j)
set_option maxRecDepth 20000 in
theorem c_X2_endNow {g : GT} {d : Nat} (hd : 4 ≤ d) {h : Hp} (W : CW h) {j : Nat} {R : List Nat} (hc : Chn (xFR h) (xLS h 11) (xFR h 301 j) R)  : Ctr g M_X2_endNow d 0 0 [.inr (3, some j)] h (cy_det (.inl (some (.inl (.int (F_X2_endNow h j R))))) h) := by
  refine cy_body rfl rfl (by decide) (Nat.le_of_ble_eq_true rfl) ?_
  refine wp_run [(.aload_n 0, 1)] (pc' := 1) (L' := [(0, .inr (3, some j))]) (st' := [.inr (3, some j)]) ⟨dX2_endNow_0, trivial⟩ rfl rfl ?_
  refine wx_getI cls_3 (k := 0) (f := 300) (by decide) rfl rfl fl_X2_9 dX2_endNow_1 ?_
  refine wp_run [(.istore_n 1, 1), (.aload_n 0, 1)] (pc' := 6) (L' := [(1, .inl (.int (xFI h 300 j))), (0, .inr (3, some j))]) (st' := [.inr (3, some j)]) ⟨dX2_endNow_4, dX2_endNow_5, trivial⟩ rfl rfl ?_
  refine wx_getR cls_3 (k := 1) (f := 301) (t := 5) (o := (xFR h 301 j)) (by decide) rfl rfl fl_X2_15 rfl dX2_endNow_6 ?_
  refine wp_run [(.astore_n 2, 1)] (pc' := 10) (L' := [(2, .inr (5, (xFR h 301 j))), (1, .inl (.int (xFI h 300 j))), (0, .inr (3, some j))]) (st' := []) ⟨dX2_endNow_9, trivial⟩ rfl rfl ?_
  rw [F_X2_endNow]
  refine wp_sub [0, 1, 2] (L' := [(2, .inr (5, (xFR h 301 j))), (1, .inl (.int (xFI h 300 j))), (0, .inr (3, some j))]) rfl ?_
  suffices Y10 : ∀ (R10 : List Nat) (o10 : Option Nat) (be : Int32)  (hc10 : Chn (xFR h) (xLS h 11) o10 R10), WP g M_X2_endNow d 0 0 10 [(2, .inr (5, o10)), (1, .inl (.int be)), (0, .inr (3, some j))] [] h (cy_det (.inl (some (.inl (.int (L_X2_endNow_10 h j R R10 be))))) h) from
    Y10 R _ (xFI h 300 j)  hc
  intro R10
  induction R10 with
  | nil =>
    intro o10 be  hc10
    obtain rfl : o10 = none := hc10
    refine wp_run [(.aload_n 2, 1)] (pc' := 11) (L' := [(2, .inr (5, none)), (1, .inl (.int be)), (0, .inr (3, some j))]) (st' := [.inr (5, none)]) ⟨dX2_endNow_10, trivial⟩ rfl rfl ?_
    refine wx_ifnullP (tgt := 27) dX2_endNow_11 (by decide) (fun _ => ?_) (fun h => absurd rfl h)
    refine wp_run [(.iload_n 1, 1), (.aload_n 0, 1)] (pc' := 29) (L' := [(2, .inr (5, none)), (1, .inl (.int be)), (0, .inr (3, some j))]) (st' := [.inr (3, some j), .inl (.int be)]) ⟨dX2_endNow_27, dX2_endNow_28, trivial⟩ rfl rfl ?_
    refine wx_getI cls_3 (k := 3) (f := 303) (by decide) rfl rfl fl_X2_22 dX2_endNow_29 ?_
    refine wp_run [(.iadd, 1)] (pc' := 33) (L' := [(2, .inr (5, none)), (1, .inl (.int be)), (0, .inr (3, some j))]) (st' := [.inl (.int (be + (xFI h 303 j)))]) ⟨dX2_endNow_32, trivial⟩ rfl rfl ?_
    exact wx_iret rfl rfl dX2_endNow_33 (by rw [L_X2_endNow_10_z]; exact ⟨rfl, rfl⟩)
  | cons r10 R10 ih10 =>
    intro o10 be  hc10
    obtain ⟨rfl, hr10, ht10, hn10⟩ := hc10.un
    rw [L_X2_endNow_10_s]
    generalize L_X2_endNow_10 h j R R10 = rec10 at ih10 ⊢
    refine wp_run [(.aload_n 2, 1)] (pc' := 11) (L' := [(2, .inr (5, some r10)), (1, .inl (.int be)), (0, .inr (3, some j))]) (st' := [.inr (5, some r10)]) ⟨dX2_endNow_10, trivial⟩ rfl rfl ?_
    refine wx_ifnullP (tgt := 27) dX2_endNow_11 (by decide) (fun h => nomatch h) (fun _ => ?_)
    refine wp_run [(.aload_n 2, 1)] (pc' := 15) (L' := [(2, .inr (5, some r10)), (1, .inl (.int be)), (0, .inr (3, some j))]) (st' := [.inr (5, some r10)]) ⟨dX2_endNow_14, trivial⟩ rfl rfl ?_
    refine wx_virtualD (M := M_X2_endNow) (uc := 0) (us := 0) (s := 5) (i := r10) (As := []) (rest := []) cls_5 rfl (ok_X4_arrives _ _) ml_X2_49 im_X4_arrives se_X4_arrives (by omega) (c_X4_arrives (d := d - 1) (h := h) (by omega) W hr10 ht10) rfl rfl (Nat.le_of_ble_eq_true rfl) dX2_endNow_15 ?_
    refine wp_run [(.istore_n 1, 1), (.aload_n 2, 1)] (pc' := 20) (L' := [(1, .inl (.int (F_X4_arrives h (tr h r10) r10))), (2, .inr (5, some r10)), (0, .inr (3, some j))]) (st' := [.inr (5, some r10)]) ⟨dX2_endNow_18, dX2_endNow_19, trivial⟩ rfl rfl ?_
    refine wx_getR cls_5 (k := 4) (f := 504) (t := 5) (o := (xFR h 504 r10)) (by decide) rfl rfl fl_X2_28 rfl dX2_endNow_20 ?_
    refine wp_run [(.astore_n 2, 1)] (pc' := 24) (L' := [(2, .inr (5, (xFR h 504 r10))), (1, .inl (.int (F_X4_arrives h (tr h r10) r10))), (0, .inr (3, some j))]) (st' := []) ⟨dX2_endNow_23, trivial⟩ rfl rfl ?_
    refine wx_goto (tgt := 10) dX2_endNow_24 (by decide) ?_
    rw [B_X2_endNow_10]
    refine wp_sub [0, 1, 2] (L' := [(2, .inr (5, (xFR h 504 r10))), (1, .inl (.int (F_X4_arrives h (tr h r10) r10))), (0, .inr (3, some j))]) rfl ?_
    exact ih10 _ _ hn10
def B_X2_rideAt_7 (h : Hp) (j : Nat) (R : List Nat) (x : Int32) (rec7 : Int32 → Option Nat) (r7 : Nat) (i : Int32) : Option Nat := (if i = x then some r7 else (rec7 (i + 1)))
def L_X2_rideAt_7 (h : Hp) (j : Nat) (R : List Nat) (x : Int32) : List Nat → Int32 → Option Nat
  | [] => fun i => none
  | r0 :: R0 => B_X2_rideAt_7 h j R x (L_X2_rideAt_7 h j R x R0) r0
theorem L_X2_rideAt_7_z (h : Hp) (j : Nat) (R : List Nat) (x : Int32) (i : Int32) : L_X2_rideAt_7 h j R x [] i = none := rfl
theorem L_X2_rideAt_7_s (h : Hp) (j : Nat) (R : List Nat) (x : Int32) (r0 : Nat) (R0 : List Nat) (i : Int32) : L_X2_rideAt_7 h j R x (r0 :: R0) i = B_X2_rideAt_7 h j R x (L_X2_rideAt_7 h j R x R0) r0 i := rfl
def F_X2_rideAt (h : Hp) (j : Nat) (R : List Nat) (x : Int32) : Option Nat := L_X2_rideAt_7 h j R x R 0
set_option maxRecDepth 20000 in
theorem c_X2_rideAt {g : GT} {d : Nat} (hd : 1 ≤ d) {h : Hp} (W : CW h) {j : Nat} {R : List Nat} (hc : Chn (xFR h) (xLS h 11) (xFR h 301 j) R) (x : Int32)  : Ctr g M_X2_rideAt d 0 0 [.inr (3, some j), .inl (.int x)] h (cy_det (.inl (some (.inr (5, (F_X2_rideAt h j R x))))) h) := by
  refine cy_body rfl rfl (by decide) (Nat.le_of_ble_eq_true rfl) ?_
  refine wp_run [(.iconst 0, 1), (.istore_n 2, 1), (.aload_n 0, 1)] (pc' := 3) (L' := [(2, .inl (.int 0)), (0, .inr (3, some j)), (1, .inl (.int x))]) (st' := [.inr (3, some j)]) ⟨dX2_rideAt_0, dX2_rideAt_1, dX2_rideAt_2, trivial⟩ rfl rfl ?_
  refine wx_getR cls_3 (k := 1) (f := 301) (t := 5) (o := (xFR h 301 j)) (by decide) rfl rfl fl_X2_15 rfl dX2_rideAt_3 ?_
  refine wp_run [(.astore_n 3, 1)] (pc' := 7) (L' := [(3, .inr (5, (xFR h 301 j))), (2, .inl (.int 0)), (0, .inr (3, some j)), (1, .inl (.int x))]) (st' := []) ⟨dX2_rideAt_6, trivial⟩ rfl rfl ?_
  rw [F_X2_rideAt]
  refine wp_sub [0, 1, 3] (L' := [(3, .inr (5, (xFR h 301 j))), (2, .inl (.int 0)), (1, .inl (.int x))]) rfl ?_
  suffices Y7 : ∀ (R7 : List Nat) (o7 : Option Nat) (i : Int32)  (hc7 : Chn (xFR h) (xLS h 11) o7 R7), WP g M_X2_rideAt d 0 0 7 [(3, .inr (5, o7)), (2, .inl (.int i)), (1, .inl (.int x))] [] h (cy_det (.inl (some (.inr (5, (L_X2_rideAt_7 h j R x R7 i))))) h) from
    Y7 R _ 0  hc
  intro R7
  induction R7 with
  | nil =>
    intro o7 i  hc7
    obtain rfl : o7 = none := hc7
    refine wp_run [(.aload_n 3, 1)] (pc' := 8) (L' := [(3, .inr (5, none)), (2, .inl (.int i)), (1, .inl (.int x))]) (st' := [.inr (5, none)]) ⟨dX2_rideAt_7, trivial⟩ rfl rfl ?_
    refine wx_ifnullP (tgt := 29) dX2_rideAt_8 (by decide) (fun _ => ?_) (fun h => absurd rfl h)
    refine wx_null (s := 5) (by decide) dX2_rideAt_29 ?_
    exact wx_aret rfl rfl dX2_rideAt_30 (by rw [L_X2_rideAt_7_z]; exact ⟨rfl, rfl⟩)
  | cons r7 R7 ih7 =>
    intro o7 i  hc7
    obtain ⟨rfl, hr7, ht7, hn7⟩ := hc7.un
    rw [L_X2_rideAt_7_s]
    generalize L_X2_rideAt_7 h j R x R7 = rec7 at ih7 ⊢
    refine wp_run [(.aload_n 3, 1)] (pc' := 8) (L' := [(3, .inr (5, some r7)), (2, .inl (.int i)), (1, .inl (.int x))]) (st' := [.inr (5, some r7)]) ⟨dX2_rideAt_7, trivial⟩ rfl rfl ?_
    refine wx_ifnullP (tgt := 29) dX2_rideAt_8 (by decide) (fun h => nomatch h) (fun _ => ?_)
    refine wp_run [(.iload_n 2, 1), (.iload_n 1, 1)] (pc' := 13) (L' := [(3, .inr (5, some r7)), (2, .inl (.int i)), (1, .inl (.int x))]) (st' := [.inl (.int x), .inl (.int i)]) ⟨dX2_rideAt_11, dX2_rideAt_12, trivial⟩ rfl rfl ?_
    refine wx_icmp_ne (tgt := 18) dX2_rideAt_13 (by decide) (fun h_1 => ?_) (fun h_1 => ?_)
    · refine wp_run [(.iinc 2 1, 3), (.aload_n 3, 1)] (pc' := 22) (L' := [(2, .inl (.int (i + 1))), (3, .inr (5, some r7)), (1, .inl (.int x))]) (st' := [.inr (5, some r7)]) ⟨dX2_rideAt_18, dX2_rideAt_21, trivial⟩ rfl rfl ?_
      refine wx_getR cls_5 (k := 4) (f := 504) (t := 5) (o := (xFR h 504 r7)) (by decide) rfl rfl fl_X2_28 rfl dX2_rideAt_22 ?_
      refine wp_run [(.astore_n 3, 1)] (pc' := 26) (L' := [(3, .inr (5, (xFR h 504 r7))), (2, .inl (.int (i + 1))), (1, .inl (.int x))]) (st' := []) ⟨dX2_rideAt_25, trivial⟩ rfl rfl ?_
      refine wx_goto (tgt := 7) dX2_rideAt_26 (by decide) ?_
      rw [B_X2_rideAt_7, if_neg h_1]
      refine wp_sub [0, 1, 2] (L' := [(3, .inr (5, (xFR h 504 r7))), (2, .inl (.int (i + 1))), (1, .inl (.int x))]) rfl ?_
      exact ih7 _ _ hn7
    · refine wp_run [(.aload_n 3, 1)] (pc' := 17) (L' := [(3, .inr (5, some r7)), (2, .inl (.int i)), (1, .inl (.int x))]) (st' := [.inr (5, some r7)]) ⟨dX2_rideAt_16, trivial⟩ rfl rfl ?_
      exact wx_aret rfl rfl dX2_rideAt_17 (by rw [B_X2_rideAt_7, if_pos h_1]; exact ⟨rfl, rfl⟩)
def B_X2_goesBy_5 (h : Hp) (j : Nat) (R : List Nat) (t : Nat) (dy : Int32) (rec5 : Int32) (r5 : Nat)  : Int32 := (if (xFI h 800 (tr h r5)) = (xFI h 800 t) then (if dy = (-1) then 1 else (if (xFI h 501 r5) = dy then 1 else rec5)) else rec5)
def L_X2_goesBy_5 (h : Hp) (j : Nat) (R : List Nat) (t : Nat) (dy : Int32) : List Nat → Int32
  | [] => 0
  | r0 :: R0 => B_X2_goesBy_5 h j R t dy (L_X2_goesBy_5 h j R t dy R0) r0
theorem L_X2_goesBy_5_z (h : Hp) (j : Nat) (R : List Nat) (t : Nat) (dy : Int32)  : L_X2_goesBy_5 h j R t dy []  = 0 := rfl
theorem L_X2_goesBy_5_s (h : Hp) (j : Nat) (R : List Nat) (t : Nat) (dy : Int32) (r0 : Nat) (R0 : List Nat)  : L_X2_goesBy_5 h j R t dy (r0 :: R0)  = B_X2_goesBy_5 h j R t dy (L_X2_goesBy_5 h j R t dy R0) r0  := rfl
def F_X2_goesBy (h : Hp) (j : Nat) (R : List Nat) (t : Nat) (dy : Int32) : Int32 := L_X2_goesBy_5 h j R t dy R 
set_option maxRecDepth 20000 in
theorem c_X2_goesBy {g : GT} {d : Nat} (hd : 1 ≤ d) {h : Hp} (W : CW h) {t j : Nat} {R : List Nat} (hc : Chn (xFR h) (xLS h 11) (xFR h 301 j) R) (ht : t < xLS h 11) (dy : Int32)  : Ctr g M_X2_goesBy d 0 0 [.inr (3, some j), .inr (8, some t), .inl (.int dy)] h (cy_det (.inl (some (.inl (.int (F_X2_goesBy h j R t dy))))) h) := by
  refine cy_body rfl rfl (by decide) (Nat.le_of_ble_eq_true rfl) ?_
  refine wp_run [(.aload_n 0, 1)] (pc' := 1) (L' := [(0, .inr (3, some j)), (1, .inr (8, some t)), (2, .inl (.int dy))]) (st' := [.inr (3, some j)]) ⟨dX2_goesBy_0, trivial⟩ rfl rfl ?_
  refine wx_getR cls_3 (k := 1) (f := 301) (t := 5) (o := (xFR h 301 j)) (by decide) rfl rfl fl_X2_15 rfl dX2_goesBy_1 ?_
  refine wp_run [(.astore_n 3, 1)] (pc' := 5) (L' := [(3, .inr (5, (xFR h 301 j))), (0, .inr (3, some j)), (1, .inr (8, some t)), (2, .inl (.int dy))]) (st' := []) ⟨dX2_goesBy_4, trivial⟩ rfl rfl ?_
  rw [F_X2_goesBy]
  refine wp_sub [0, 2, 3] (L' := [(3, .inr (5, (xFR h 301 j))), (1, .inr (8, some t)), (2, .inl (.int dy))]) rfl ?_
  suffices Y5 : ∀ (R5 : List Nat) (o5 : Option Nat)   (hc5 : Chn (xFR h) (xLS h 11) o5 R5), WP g M_X2_goesBy d 0 0 5 [(3, .inr (5, o5)), (1, .inr (8, some t)), (2, .inl (.int dy))] [] h (cy_det (.inl (some (.inl (.int (L_X2_goesBy_5 h j R t dy R5))))) h) from
    Y5 R _   hc
  intro R5
  induction R5 with
  | nil =>
    intro o5   hc5
    obtain rfl : o5 = none := hc5
    refine wp_run [(.aload_n 3, 1)] (pc' := 6) (L' := [(3, .inr (5, none)), (1, .inr (8, some t)), (2, .inl (.int dy))]) (st' := [.inr (5, none)]) ⟨dX2_goesBy_5, trivial⟩ rfl rfl ?_
    refine wx_ifnullP (tgt := 46) dX2_goesBy_6 (by decide) (fun _ => ?_) (fun h => absurd rfl h)
    refine wp_run [(.iconst 0, 1)] (pc' := 47) (L' := [(3, .inr (5, none)), (1, .inr (8, some t)), (2, .inl (.int dy))]) (st' := [.inl (.int 0)]) ⟨dX2_goesBy_46, trivial⟩ rfl rfl ?_
    exact wx_zret rfl rfl rfl dX2_goesBy_47 (by rw [L_X2_goesBy_5_z]; exact ⟨rfl, rfl⟩)
  | cons r5 R5 ih5 =>
    intro o5   hc5
    obtain ⟨rfl, hr5, ht5, hn5⟩ := hc5.un
    rw [L_X2_goesBy_5_s]
    generalize L_X2_goesBy_5 h j R t dy R5 = rec5 at ih5 ⊢
    refine wp_run [(.aload_n 3, 1)] (pc' := 6) (L' := [(3, .inr (5, some r5)), (1, .inr (8, some t)), (2, .inl (.int dy))]) (st' := [.inr (5, some r5)]) ⟨dX2_goesBy_5, trivial⟩ rfl rfl ?_
    refine wx_ifnullP (tgt := 46) dX2_goesBy_6 (by decide) (fun h => nomatch h) (fun _ => ?_)
    refine wp_run [(.aload_n 3, 1)] (pc' := 10) (L' := [(3, .inr (5, some r5)), (1, .inr (8, some t)), (2, .inl (.int dy))]) (st' := [.inr (5, some r5)]) ⟨dX2_goesBy_9, trivial⟩ rfl rfl ?_
    refine wx_getR cls_5 (k := 0) (f := 500) (t := 8) (o := some (tr h r5)) (by decide) rfl rfl fl_X2_33 hr5 dX2_goesBy_10 ?_
    refine wx_getI cls_8 (k := 0) (f := 800) (by decide) rfl rfl fl_X2_37 dX2_goesBy_13 ?_
    refine wp_run [(.aload_n 1, 1)] (pc' := 17) (L' := [(3, .inr (5, some r5)), (1, .inr (8, some t)), (2, .inl (.int dy))]) (st' := [.inr (8, some t), .inl (.int (xFI h 800 (tr h r5)))]) ⟨dX2_goesBy_16, trivial⟩ rfl rfl ?_
    refine wx_getI cls_8 (k := 0) (f := 800) (by decide) rfl rfl fl_X2_37 dX2_goesBy_17 ?_
    refine wx_icmp_ne (tgt := 38) dX2_goesBy_20 (by decide) (fun h_1 => ?_) (fun h_1 => ?_)
    · refine wp_run [(.aload_n 3, 1)] (pc' := 39) (L' := [(3, .inr (5, some r5)), (1, .inr (8, some t)), (2, .inl (.int dy))]) (st' := [.inr (5, some r5)]) ⟨dX2_goesBy_38, trivial⟩ rfl rfl ?_
      refine wx_getR cls_5 (k := 4) (f := 504) (t := 5) (o := (xFR h 504 r5)) (by decide) rfl rfl fl_X2_28 rfl dX2_goesBy_39 ?_
      refine wp_run [(.astore_n 3, 1)] (pc' := 43) (L' := [(3, .inr (5, (xFR h 504 r5))), (1, .inr (8, some t)), (2, .inl (.int dy))]) (st' := []) ⟨dX2_goesBy_42, trivial⟩ rfl rfl ?_
      refine wx_goto (tgt := 5) dX2_goesBy_43 (by decide) ?_
      rw [B_X2_goesBy_5, if_neg h_1]
      refine wp_sub [0, 1, 2] (L' := [(3, .inr (5, (xFR h 504 r5))), (1, .inr (8, some t)), (2, .inl (.int dy))]) rfl ?_
      exact ih5 _  hn5
    · refine wp_run [(.iload_n 2, 1), (.iconst (-1), 1)] (pc' := 25) (L' := [(3, .inr (5, some r5)), (1, .inr (8, some t)), (2, .inl (.int dy))]) (st' := [.inl (.int (-1)), .inl (.int dy)]) ⟨dX2_goesBy_23, dX2_goesBy_24, trivial⟩ rfl rfl ?_
      refine wx_icmp_eq (tgt := 36) dX2_goesBy_25 (by decide) (fun h_2 => ?_) (fun h_2 => ?_)
      · refine wp_run [(.iconst 1, 1)] (pc' := 37) (L' := [(3, .inr (5, some r5)), (1, .inr (8, some t)), (2, .inl (.int dy))]) (st' := [.inl (.int 1)]) ⟨dX2_goesBy_36, trivial⟩ rfl rfl ?_
        exact wx_zret rfl rfl rfl dX2_goesBy_37 (by rw [B_X2_goesBy_5, if_pos h_1, if_pos h_2]; exact ⟨rfl, rfl⟩)
      · refine wp_run [(.aload_n 3, 1)] (pc' := 29) (L' := [(3, .inr (5, some r5)), (1, .inr (8, some t)), (2, .inl (.int dy))]) (st' := [.inr (5, some r5)]) ⟨dX2_goesBy_28, trivial⟩ rfl rfl ?_
        refine wx_getI cls_5 (k := 1) (f := 501) (by decide) rfl rfl fl_X2_42 dX2_goesBy_29 ?_
        refine wp_run [(.iload_n 2, 1)] (pc' := 33) (L' := [(3, .inr (5, some r5)), (1, .inr (8, some t)), (2, .inl (.int dy))]) (st' := [.inl (.int dy), .inl (.int (xFI h 501 r5))]) ⟨dX2_goesBy_32, trivial⟩ rfl rfl ?_
        refine wx_icmp_ne (tgt := 38) dX2_goesBy_33 (by decide) (fun h_3 => ?_) (fun h_3 => ?_)
        · refine wp_run [(.aload_n 3, 1)] (pc' := 39) (L' := [(3, .inr (5, some r5)), (1, .inr (8, some t)), (2, .inl (.int dy))]) (st' := [.inr (5, some r5)]) ⟨dX2_goesBy_38, trivial⟩ rfl rfl ?_
          refine wx_getR cls_5 (k := 4) (f := 504) (t := 5) (o := (xFR h 504 r5)) (by decide) rfl rfl fl_X2_28 rfl dX2_goesBy_39 ?_
          refine wp_run [(.astore_n 3, 1)] (pc' := 43) (L' := [(3, .inr (5, (xFR h 504 r5))), (1, .inr (8, some t)), (2, .inl (.int dy))]) (st' := []) ⟨dX2_goesBy_42, trivial⟩ rfl rfl ?_
          refine wx_goto (tgt := 5) dX2_goesBy_43 (by decide) ?_
          rw [B_X2_goesBy_5, if_pos h_1, if_neg h_2, if_neg h_3]
          refine wp_sub [0, 1, 2] (L' := [(3, .inr (5, (xFR h 504 r5))), (1, .inr (8, some t)), (2, .inl (.int dy))]) rfl ?_
          exact ih5 _  hn5
        · refine wp_run [(.iconst 1, 1)] (pc' := 37) (L' := [(3, .inr (5, some r5)), (1, .inr (8, some t)), (2, .inl (.int dy))]) (st' := [.inl (.int 1)]) ⟨dX2_goesBy_36, trivial⟩ rfl rfl ?_
          exact wx_zret rfl rfl rfl dX2_goesBy_37 (by rw [B_X2_goesBy_5, if_pos h_1, if_neg h_2, if_pos h_3]; exact ⟨rfl, rfl⟩)
theorem mg_chance {h : Hp} (t : Nat) (mi : Int32) : MG 31 (F_X7_chanceWithin h t mi) := by
  unfold F_X7_chanceWithin
  split
  · exact mg_mono mg_one (by decide)
  · rename_i hne
    have key : ∀ (fu : Nat) (w : Int32) (i : Nat), MG 31 (L_X7_chanceWithin_13 h t mi (K_X7_chanceWithin_13 h t mi) fu w i) := by
      intro fu
      induction fu with
      | zero => intro w i; exact mg_mono mg_zero (by decide)
      | succ fu ih =>
        intro w i
        rw [L_X7_chanceWithin_13_s]
        unfold B_X7_chanceWithin_13
        split
        · exact (mg_div (mg_i2d _) hne (by decide)).2
        · split
          · exact ih _ _
          · exact ih _ _
    exact key _ _ _
def K_X2_chance_7 (h : Hp) (j : Nat) (R : List Nat) (c : UInt64) : UInt64 := c
def B_X2_chance_7 (h : Hp) (j : Nat) (R : List Nat) (kx : UInt64 → UInt64) (rec7 : UInt64 → UInt64) (r7 : Nat) (c : UInt64) : UInt64 := (if (xFR h 504 r7) = none then (kx c) else (rec7 (FP.dmul c (F_X7_chanceWithin h (tr h r7) (((F_X4_departs h (tr h (nx h r7)) (nx h r7)) - (F_X4_arrives h (tr h r7) r7)) - (xFI h 505 (nx h r7)))))))
def L_X2_chance_7 (h : Hp) (j : Nat) (R : List Nat) (kx : UInt64 → UInt64) : List Nat → UInt64 → UInt64
  | [] => fun c => (kx c)
  | r0 :: R0 => B_X2_chance_7 h j R kx (L_X2_chance_7 h j R kx R0) r0
theorem L_X2_chance_7_z (h : Hp) (j : Nat) (R : List Nat) (kx : UInt64 → UInt64) (c : UInt64) : L_X2_chance_7 h j R kx [] c = (kx c) := rfl
theorem L_X2_chance_7_s (h : Hp) (j : Nat) (R : List Nat) (kx : UInt64 → UInt64) (r0 : Nat) (R0 : List Nat) (c : UInt64) : L_X2_chance_7 h j R kx (r0 :: R0) c = B_X2_chance_7 h j R kx (L_X2_chance_7 h j R kx R0) r0 c := rfl
def F_X2_chance (h : Hp) (j : Nat) (R : List Nat) : UInt64 := L_X2_chance_7 h j R (K_X2_chance_7 h j R) R FP.dconst1
set_option maxRecDepth 20000 in
theorem c_X2_chance {g : GT} {d : Nat} (hd : 4 ≤ d) {h : Hp} (W : CW h) {j : Nat} {R : List Nat} (hc : Chn (xFR h) (xLS h 11) (xFR h 301 j) R) (hR : R.length ≤ 5)  : Ctr g M_X2_chance d 0 0 [.inr (3, some j)] h (cy_det (.inl (some (.inl (.double (F_X2_chance h j R))))) h) := by
  refine cy_body rfl rfl (by decide) (Nat.le_of_ble_eq_true rfl) ?_
  refine wx_dconst1 dX2_chance_0 ?_
  refine wp_run [(.dstore_n 1, 1), (.aload_n 0, 1)] (pc' := 3) (L' := [(1, .inl (.double FP.dconst1)), (0, .inr (3, some j))]) (st' := [.inr (3, some j)]) ⟨dX2_chance_1, dX2_chance_2, trivial⟩ rfl rfl ?_
  refine wx_getR cls_3 (k := 1) (f := 301) (t := 5) (o := (xFR h 301 j)) (by decide) rfl rfl fl_X2_15 rfl dX2_chance_3 ?_
  refine wp_run [(.astore_n 3, 1)] (pc' := 7) (L' := [(3, .inr (5, (xFR h 301 j))), (1, .inl (.double FP.dconst1)), (0, .inr (3, some j))]) (st' := []) ⟨dX2_chance_6, trivial⟩ rfl rfl ?_
  rw [F_X2_chance]
  refine wp_sub [0, 1] (L' := [(3, .inr (5, (xFR h 301 j))), (1, .inl (.double FP.dconst1))]) rfl ?_
  have X7 : ∀ (c : UInt64)  , WP g M_X2_chance d 0 0 60 [(1, .inl (.double c))] [] h (cy_det (.inl (some (.inl (.double (K_X2_chance_7 h j R c))))) h) := by
    intro c 
    refine wp_run [(.dload_n 1, 1)] (pc' := 61) (L' := [(1, .inl (.double c))]) (st' := [.inl (.double c)]) ⟨dX2_chance_60, trivial⟩ rfl rfl ?_
    exact wx_dret rfl rfl dX2_chance_61 (by rw [K_X2_chance_7]; exact ⟨rfl, rfl⟩)
  suffices Y7 : ∀ (R7 : List Nat) (o7 : Option Nat) (c : UInt64) (hu : DS 31 c R7) (hc7 : Chn (xFR h) (xLS h 11) o7 R7), WP g M_X2_chance d 0 0 7 [(3, .inr (5, o7)), (1, .inl (.double c))] [] h (cy_det (.inl (some (.inl (.double (L_X2_chance_7 h j R (K_X2_chance_7 h j R) R7 c))))) h) from
    Y7 R _ FP.dconst1 (ds_one hR) hc
  intro R7
  induction R7 with
  | nil =>
    intro o7 c hu hc7
    obtain rfl : o7 = none := hc7
    refine wp_run [(.aload_n 3, 1)] (pc' := 8) (L' := [(3, .inr (5, none)), (1, .inl (.double c))]) (st' := [.inr (5, none)]) ⟨dX2_chance_7, trivial⟩ rfl rfl ?_
    refine wx_ifnullP (tgt := 60) dX2_chance_8 (by decide) (fun _ => ?_) (fun h => absurd rfl h)
    rw [L_X2_chance_7_z]
    refine wp_sub [1] (L' := [(1, .inl (.double c))]) rfl ?_
    exact X7 _
  | cons r7 R7 ih7 =>
    intro o7 c hu hc7
    obtain ⟨rfl, hr7, ht7, hn7⟩ := hc7.un
    rw [L_X2_chance_7_s]
    generalize L_X2_chance_7 h j R (K_X2_chance_7 h j R) R7 = rec7 at ih7 ⊢
    refine wp_run [(.aload_n 3, 1)] (pc' := 8) (L' := [(3, .inr (5, some r7)), (1, .inl (.double c))]) (st' := [.inr (5, some r7)]) ⟨dX2_chance_7, trivial⟩ rfl rfl ?_
    refine wx_ifnullP (tgt := 60) dX2_chance_8 (by decide) (fun h => nomatch h) (fun _ => ?_)
    refine wp_run [(.aload_n 3, 1)] (pc' := 12) (L' := [(3, .inr (5, some r7)), (1, .inl (.double c))]) (st' := [.inr (5, some r7)]) ⟨dX2_chance_11, trivial⟩ rfl rfl ?_
    refine wx_getR cls_5 (k := 4) (f := 504) (t := 5) (o := (xFR h 504 r7)) (by decide) rfl rfl fl_X2_28 rfl dX2_chance_12 ?_
    refine wx_ifnullP (tgt := 60) dX2_chance_15 (by decide) (fun h_1 => ?_) (fun h_1 => ?_)
    · rw [B_X2_chance_7, if_pos h_1]
      refine wp_sub [1] (L' := [(1, .inl (.double c))]) rfl ?_
      exact X7 _
    · 
      refine wp_run [(.aload_n 3, 1)] (pc' := 19) (L' := [(3, .inr (5, some r7)), (1, .inl (.double c))]) (st' := [.inr (5, some r7)]) ⟨dX2_chance_18, trivial⟩ rfl rfl ?_
      refine wx_getR cls_5 (k := 4) (f := 504) (t := 5) (o := some (nx h r7)) (by decide) rfl rfl fl_X2_28 (hn7.ny h_1).1 dX2_chance_19 ?_
      refine wx_virtualD (M := M_X2_chance) (uc := 0) (us := 0) (s := 5) (i := (nx h r7)) (As := []) (rest := []) cls_5 rfl (ok_X4_departs _ _) ml_X2_45 im_X4_departs se_X4_departs (by omega) (c_X4_departs (d := d - 1) (h := h) (by omega) W (hn7.ny h_1).2.1 (hn7.ny h_1).2.2) rfl rfl (Nat.le_of_ble_eq_true rfl) dX2_chance_22 ?_
      refine wp_run [(.aload_n 3, 1)] (pc' := 26) (L' := [(3, .inr (5, some r7)), (1, .inl (.double c))]) (st' := [.inr (5, some r7), .inl (.int (F_X4_departs h (tr h (nx h r7)) (nx h r7)))]) ⟨dX2_chance_25, trivial⟩ rfl rfl ?_
      refine wx_virtualD (M := M_X2_chance) (uc := 0) (us := 0) (s := 5) (i := r7) (As := []) (rest := [.inl (.int (F_X4_departs h (tr h (nx h r7)) (nx h r7)))]) cls_5 rfl (ok_X4_arrives _ _) ml_X2_49 im_X4_arrives se_X4_arrives (by omega) (c_X4_arrives (d := d - 1) (h := h) (by omega) W hr7 ht7) rfl rfl (Nat.le_of_ble_eq_true rfl) dX2_chance_26 ?_
      refine wp_run [(.isub, 1), (.aload_n 3, 1)] (pc' := 31) (L' := [(3, .inr (5, some r7)), (1, .inl (.double c))]) (st' := [.inr (5, some r7), .inl (.int ((F_X4_departs h (tr h (nx h r7)) (nx h r7)) - (F_X4_arrives h (tr h r7) r7)))]) ⟨dX2_chance_29, dX2_chance_30, trivial⟩ rfl rfl ?_
      refine wx_getR cls_5 (k := 4) (f := 504) (t := 5) (o := some (nx h r7)) (by decide) rfl rfl fl_X2_28 (hn7.ny h_1).1 dX2_chance_31 ?_
      refine wx_getI cls_5 (k := 5) (f := 505) (by decide) rfl rfl fl_X2_52 dX2_chance_34 ?_
      refine wp_run [(.isub, 1), (.istore 4, 2), (.dload_n 1, 1), (.aload_n 3, 1)] (pc' := 42) (L' := [(4, .inl (.int (((F_X4_departs h (tr h (nx h r7)) (nx h r7)) - (F_X4_arrives h (tr h r7) r7)) - (xFI h 505 (nx h r7))))), (3, .inr (5, some r7)), (1, .inl (.double c))]) (st' := [.inr (5, some r7), .inl (.double c)]) ⟨dX2_chance_37, dX2_chance_38, dX2_chance_40, dX2_chance_41, trivial⟩ rfl rfl ?_
      refine wx_getR cls_5 (k := 0) (f := 500) (t := 8) (o := some (tr h r7)) (by decide) rfl rfl fl_X2_33 hr7 dX2_chance_42 ?_
      refine wp_run [(.iload 4, 2)] (pc' := 47) (L' := [(4, .inl (.int (((F_X4_departs h (tr h (nx h r7)) (nx h r7)) - (F_X4_arrives h (tr h r7) r7)) - (xFI h 505 (nx h r7))))), (3, .inr (5, some r7)), (1, .inl (.double c))]) (st' := [.inl (.int (((F_X4_departs h (tr h (nx h r7)) (nx h r7)) - (F_X4_arrives h (tr h r7) r7)) - (xFI h 505 (nx h r7)))), .inr (8, some (tr h r7)), .inl (.double c)]) ⟨dX2_chance_45, trivial⟩ rfl rfl ?_
      refine wx_virtualD (M := M_X2_chance) (uc := 0) (us := 0) (s := 8) (i := (tr h r7)) (As := [.inl (.int (((F_X4_departs h (tr h (nx h r7)) (nx h r7)) - (F_X4_arrives h (tr h r7) r7)) - (xFI h 505 (nx h r7))))]) (rest := [.inl (.double c)]) cls_8 rfl (ok_X7_chanceWithin _ _) ml_X2_55 im_X7_chanceWithin se_X7_chanceWithin (by omega) (c_X7_chanceWithin (d := d - 1) (h := h) (by omega) W ht7 (((F_X4_departs h (tr h (nx h r7)) (nx h r7)) - (F_X4_arrives h (tr h r7) r7)) - (xFI h 505 (nx h r7)))) rfl rfl (Nat.le_of_ble_eq_true rfl) dX2_chance_47 ?_
      refine wx_dmul (ds_mul hu (mg_chance _ _)).1 dX2_chance_50 ?_
      refine wp_run [(.dstore_n 1, 1), (.aload_n 3, 1)] (pc' := 53) (L' := [(1, .inl (.double (FP.dmul c (F_X7_chanceWithin h (tr h r7) (((F_X4_departs h (tr h (nx h r7)) (nx h r7)) - (F_X4_arrives h (tr h r7) r7)) - (xFI h 505 (nx h r7))))))), (4, .inl (.int (((F_X4_departs h (tr h (nx h r7)) (nx h r7)) - (F_X4_arrives h (tr h r7) r7)) - (xFI h 505 (nx h r7))))), (3, .inr (5, some r7))]) (st' := [.inr (5, some r7)]) ⟨dX2_chance_51, dX2_chance_52, trivial⟩ rfl rfl ?_
      refine wx_getR cls_5 (k := 4) (f := 504) (t := 5) (o := some (nx h r7)) (by decide) rfl rfl fl_X2_28 (hn7.ny h_1).1 dX2_chance_53 ?_
      refine wp_run [(.astore_n 3, 1)] (pc' := 57) (L' := [(3, .inr (5, some (nx h r7))), (1, .inl (.double (FP.dmul c (F_X7_chanceWithin h (tr h r7) (((F_X4_departs h (tr h (nx h r7)) (nx h r7)) - (F_X4_arrives h (tr h r7) r7)) - (xFI h 505 (nx h r7))))))), (4, .inl (.int (((F_X4_departs h (tr h (nx h r7)) (nx h r7)) - (F_X4_arrives h (tr h r7) r7)) - (xFI h 505 (nx h r7)))))]) (st' := []) ⟨dX2_chance_56, trivial⟩ rfl rfl ?_
      refine wx_goto (tgt := 7) dX2_chance_57 (by decide) ?_
      rw [B_X2_chance_7, if_neg h_1]
      refine wp_sub [0, 1] (L' := [(3, .inr (5, some (nx h r7))), (1, .inl (.double (FP.dmul c (F_X7_chanceWithin h (tr h r7) (((F_X4_departs h (tr h (nx h r7)) (nx h r7)) - (F_X4_arrives h (tr h r7) r7)) - (xFI h 505 (nx h r7)))))))]) rfl ?_
      exact ih7 _ _ (ds_mul hu (mg_chance _ _)).2 (by rw [← (hn7.ny h_1).1]; exact hn7)
def B_X2_carbon_7 (h : Hp) (j : Nat) (R : List Nat) (rec7 : UInt64 → UInt64) (r7 : Nat) (c : UInt64) : UInt64 := (rec7 (FP.dadd c (FP.dmul (FP.i2d (F_at h 15 0 (xFI h 801 (tr h r7)))) (FP.i2d (F_X4_length h (tr h r7) r7)))))
def L_X2_carbon_7 (h : Hp) (j : Nat) (R : List Nat) : List Nat → UInt64 → UInt64
  | [] => fun c => c
  | r0 :: R0 => B_X2_carbon_7 h j R (L_X2_carbon_7 h j R R0) r0
theorem L_X2_carbon_7_z (h : Hp) (j : Nat) (R : List Nat) (c : UInt64) : L_X2_carbon_7 h j R [] c = c := rfl
theorem L_X2_carbon_7_s (h : Hp) (j : Nat) (R : List Nat) (r0 : Nat) (R0 : List Nat) (c : UInt64) : L_X2_carbon_7 h j R (r0 :: R0) c = B_X2_carbon_7 h j R (L_X2_carbon_7 h j R R0) r0 c := rfl
def F_X2_carbon (h : Hp) (j : Nat) (R : List Nat) : UInt64 := L_X2_carbon_7 h j R R FP.dconst0
set_option maxRecDepth 20000 in
theorem c_X2_carbon {g : GT} {d : Nat} (hd : 2 ≤ d) {h : Hp} (W : CW h) {j : Nat} {R : List Nat} (hc : Chn (xFR h) (xLS h 11) (xFR h 301 j) R) (hR : R.length ≤ 5)  : Ctr g M_X2_carbon d 0 0 [.inr (3, some j)] h (cy_det (.inl (some (.inl (.double (F_X2_carbon h j R))))) h) := by
  refine cy_body rfl rfl (by decide) (Nat.le_of_ble_eq_true rfl) ?_
  refine wx_dconst0 dX2_carbon_0 ?_
  refine wp_run [(.dstore_n 1, 1), (.aload_n 0, 1)] (pc' := 3) (L' := [(1, .inl (.double FP.dconst0)), (0, .inr (3, some j))]) (st' := [.inr (3, some j)]) ⟨dX2_carbon_1, dX2_carbon_2, trivial⟩ rfl rfl ?_
  refine wx_getR cls_3 (k := 1) (f := 301) (t := 5) (o := (xFR h 301 j)) (by decide) rfl rfl fl_X2_15 rfl dX2_carbon_3 ?_
  refine wp_run [(.astore_n 3, 1)] (pc' := 7) (L' := [(3, .inr (5, (xFR h 301 j))), (1, .inl (.double FP.dconst0)), (0, .inr (3, some j))]) (st' := []) ⟨dX2_carbon_6, trivial⟩ rfl rfl ?_
  rw [F_X2_carbon]
  refine wp_sub [0, 1] (L' := [(3, .inr (5, (xFR h 301 j))), (1, .inl (.double FP.dconst0))]) rfl ?_
  suffices Y7 : ∀ (R7 : List Nat) (o7 : Option Nat) (c : UInt64) (hu : DS 1 c R7) (hc7 : Chn (xFR h) (xLS h 11) o7 R7), WP g M_X2_carbon d 0 0 7 [(3, .inr (5, o7)), (1, .inl (.double c))] [] h (cy_det (.inl (some (.inl (.double (L_X2_carbon_7 h j R R7 c))))) h) from
    Y7 R _ FP.dconst0 (ds_zero hR) hc
  intro R7
  induction R7 with
  | nil =>
    intro o7 c hu hc7
    obtain rfl : o7 = none := hc7
    refine wp_run [(.aload_n 3, 1)] (pc' := 8) (L' := [(3, .inr (5, none)), (1, .inl (.double c))]) (st' := [.inr (5, none)]) ⟨dX2_carbon_7, trivial⟩ rfl rfl ?_
    refine wx_ifnullP (tgt := 42) dX2_carbon_8 (by decide) (fun _ => ?_) (fun h => absurd rfl h)
    refine wp_run [(.dload_n 1, 1)] (pc' := 43) (L' := [(3, .inr (5, none)), (1, .inl (.double c))]) (st' := [.inl (.double c)]) ⟨dX2_carbon_42, trivial⟩ rfl rfl ?_
    exact wx_dret rfl rfl dX2_carbon_43 (by rw [L_X2_carbon_7_z]; exact ⟨rfl, rfl⟩)
  | cons r7 R7 ih7 =>
    intro o7 c hu hc7
    obtain ⟨rfl, hr7, ht7, hn7⟩ := hc7.un
    rw [L_X2_carbon_7_s]
    generalize L_X2_carbon_7 h j R R7 = rec7 at ih7 ⊢
    refine wp_run [(.aload_n 3, 1)] (pc' := 8) (L' := [(3, .inr (5, some r7)), (1, .inl (.double c))]) (st' := [.inr (5, some r7)]) ⟨dX2_carbon_7, trivial⟩ rfl rfl ?_
    refine wx_ifnullP (tgt := 42) dX2_carbon_8 (by decide) (fun h => nomatch h) (fun _ => ?_)
    refine wp_run [(.dload_n 1, 1)] (pc' := 12) (L' := [(3, .inr (5, some r7)), (1, .inl (.double c))]) (st' := [.inl (.double c)]) ⟨dX2_carbon_11, trivial⟩ rfl rfl ?_
    refine wx_carbon carbon_w W.c15 dX2_carbon_12 ?_
    refine wp_run [(.aload_n 3, 1)] (pc' := 16) (L' := [(3, .inr (5, some r7)), (1, .inl (.double c))]) (st' := [.inr (5, some r7), .inr (15, some 0), .inl (.double c)]) ⟨dX2_carbon_15, trivial⟩ rfl rfl ?_
    refine wx_getR cls_5 (k := 0) (f := 500) (t := 8) (o := some (tr h r7)) (by decide) rfl rfl fl_X2_33 hr7 dX2_carbon_16 ?_
    refine wx_getI cls_8 (k := 1) (f := 801) (by decide) rfl rfl fl_X2_63 dX2_carbon_19 ?_
    refine wx_staticND (M := M_X2_carbon) (uc := 0) (us := 0) (As := [.inr (15, some 0), .inl (.int (xFI h 801 (tr h r7)))]) (rest := [.inl (.double c)]) (ok_X8_at _ _) ml_X2_66 st_X8_at (by omega) (c_X8_at (d := d - 1) (by omega) (s := 15) (i := 0) (Or.inr rfl) (Nat.le_of_ble_eq_true rfl) (xFI h 801 (tr h r7))) rfl rfl (Nat.le_of_ble_eq_true rfl) dX2_carbon_22 ?_
    refine wp_run [(.i2d, 1), (.aload_n 3, 1)] (pc' := 27) (L' := [(3, .inr (5, some r7)), (1, .inl (.double c))]) (st' := [.inr (5, some r7), .inl (.double (FP.i2d (F_at h 15 0 (xFI h 801 (tr h r7))))), .inl (.double c)]) ⟨dX2_carbon_25, dX2_carbon_26, trivial⟩ rfl rfl ?_
    refine wx_virtualD (M := M_X2_carbon) (uc := 0) (us := 0) (s := 5) (i := r7) (As := []) (rest := [.inl (.double (FP.i2d (F_at h 15 0 (xFI h 801 (tr h r7))))), .inl (.double c)]) cls_5 rfl (ok_X4_length _ _) ml_X2_70 im_X4_length se_X4_length (by omega) (c_X4_length (d := d - 1) (h := h) (by omega) W hr7 ht7) rfl rfl (Nat.le_of_ble_eq_true rfl) dX2_carbon_27 ?_
    refine wp_run [(.i2d, 1)] (pc' := 31) (L' := [(3, .inr (5, some r7)), (1, .inl (.double c))]) (st' := [.inl (.double (FP.i2d (F_X4_length h (tr h r7) r7))), .inl (.double (FP.i2d (F_at h 15 0 (xFI h 801 (tr h r7))))), .inl (.double c)]) ⟨dX2_carbon_30, trivial⟩ rfl rfl ?_
    refine wx_dmul (mg_mul (mg_i2d _) (mg_i2d _) (by decide)).1 dX2_carbon_31 ?_
    refine wx_dadd (ds_add hu (mg_mul (mg_i2d _) (mg_i2d _) (by decide)).2).1 dX2_carbon_32 ?_
    refine wp_run [(.dstore_n 1, 1), (.aload_n 3, 1)] (pc' := 35) (L' := [(1, .inl (.double (FP.dadd c (FP.dmul (FP.i2d (F_at h 15 0 (xFI h 801 (tr h r7)))) (FP.i2d (F_X4_length h (tr h r7) r7)))))), (3, .inr (5, some r7))]) (st' := [.inr (5, some r7)]) ⟨dX2_carbon_33, dX2_carbon_34, trivial⟩ rfl rfl ?_
    refine wx_getR cls_5 (k := 4) (f := 504) (t := 5) (o := (xFR h 504 r7)) (by decide) rfl rfl fl_X2_28 rfl dX2_carbon_35 ?_
    refine wp_run [(.astore_n 3, 1)] (pc' := 39) (L' := [(3, .inr (5, (xFR h 504 r7))), (1, .inl (.double (FP.dadd c (FP.dmul (FP.i2d (F_at h 15 0 (xFI h 801 (tr h r7)))) (FP.i2d (F_X4_length h (tr h r7) r7))))))]) (st' := []) ⟨dX2_carbon_38, trivial⟩ rfl rfl ?_
    refine wx_goto (tgt := 7) dX2_carbon_39 (by decide) ?_
    rw [B_X2_carbon_7]
    refine wp_sub [0, 1] (L' := [(3, .inr (5, (xFR h 504 r7))), (1, .inl (.double (FP.dadd c (FP.dmul (FP.i2d (F_at h 15 0 (xFI h 801 (tr h r7)))) (FP.i2d (F_X4_length h (tr h r7) r7))))))]) rfl ?_
    exact ih7 _ _ (ds_add hu (mg_mul (mg_i2d _) (mg_i2d _) (by decide)).2).2 hn7
theorem mg_carbon {h : Hp} {j : Nat} {R : List Nat} (hR : R.length ≤ 5) : MG 900 (F_X2_carbon h j R) := by
  have key : ∀ (Q : List Nat) (c : UInt64) (k : Nat), MG (62 + k) c → k + Q.length ≤ 800 → MG 900 (L_X2_carbon_7 h j R Q c) := by
    intro Q
    induction Q with
    | nil => intro c k hc hk; exact mg_mono hc (by have : k + 0 ≤ 800 := hk; omega)
    | cons r Q ih =>
      intro c k hc hk
      rw [List.length_cons] at hk
      rw [L_X2_carbon_7_s]
      unfold B_X2_carbon_7
      exact ih _ (k + 1) (mg_add hc (mg_mono (mg_mul (mg_i2d _) (mg_i2d _) (by decide)).2 (by omega)) (by omega)).2 (by omega)
  exact key R _ 0 (mg_mono mg_zero (by decide)) (by omega)
def F_X2_score (h : Hp) (j : Nat) (R : List Nat) : UInt64 := (FP.dadd (FP.dadd (FP.i2d ((xFI h 304 j) - (xFI h 300 j))) (FP.dmul 4624633867356078080 (FP.i2d (xFI h 302 j)))) (FP.ddiv (F_X2_carbon h j R) 4621819117588971520))
set_option maxRecDepth 20000 in
theorem c_X2_score {g : GT} {d : Nat} (hd : 3 ≤ d) {h : Hp} (W : CW h) {j : Nat} {R : List Nat} (hc : Chn (xFR h) (xLS h 11) (xFR h 301 j) R) (hR : R.length ≤ 5)  : Ctr g M_X2_score d 0 0 [.inr (3, some j)] h (cy_det (.inl (some (.inl (.double (F_X2_score h j R))))) h) := by
  refine cy_body rfl rfl (by decide) (Nat.le_of_ble_eq_true rfl) ?_
  refine wp_run [(.aload_n 0, 1)] (pc' := 1) (L' := [(0, .inr (3, some j))]) (st' := [.inr (3, some j)]) ⟨dX2_score_0, trivial⟩ rfl rfl ?_
  refine wx_getI cls_3 (k := 4) (f := 304) (by decide) rfl rfl fl_X2_25 dX2_score_1 ?_
  refine wp_run [(.aload_n 0, 1)] (pc' := 5) (L' := [(0, .inr (3, some j))]) (st' := [.inr (3, some j), .inl (.int (xFI h 304 j))]) ⟨dX2_score_4, trivial⟩ rfl rfl ?_
  refine wx_getI cls_3 (k := 0) (f := 300) (by decide) rfl rfl fl_X2_9 dX2_score_5 ?_
  refine wp_run [(.isub, 1), (.i2d, 1)] (pc' := 10) (L' := [(0, .inr (3, some j))]) (st' := [.inl (.double (FP.i2d ((xFI h 304 j) - (xFI h 300 j))))]) ⟨dX2_score_8, dX2_score_9, trivial⟩ rfl rfl ?_
  refine wx_ldc2d kc_X2_73 dX2_score_10 ?_
  refine wp_run [(.aload_n 0, 1)] (pc' := 14) (L' := [(0, .inr (3, some j))]) (st' := [.inr (3, some j), .inl (.double 4624633867356078080), .inl (.double (FP.i2d ((xFI h 304 j) - (xFI h 300 j))))]) ⟨dX2_score_13, trivial⟩ rfl rfl ?_
  refine wx_getI cls_3 (k := 2) (f := 302) (by decide) rfl rfl fl_X2_19 dX2_score_14 ?_
  refine wp_run [(.i2d, 1)] (pc' := 18) (L' := [(0, .inr (3, some j))]) (st' := [.inl (.double (FP.i2d (xFI h 302 j))), .inl (.double 4624633867356078080), .inl (.double (FP.i2d ((xFI h 304 j) - (xFI h 300 j))))]) ⟨dX2_score_17, trivial⟩ rfl rfl ?_
  refine wx_dmul (mg_mul (mg_mono (by rw [cy_fifteen]; exact mg_i2d _) (by decide : 31 ≤ 31)) (mg_i2d _) (by decide)).1 dX2_score_18 ?_
  refine wx_dadd (mg_add (mg_mono (mg_i2d _) (by decide : 31 ≤ 62)) (mg_mul (mg_mono (by rw [cy_fifteen]; exact mg_i2d _) (by decide : 31 ≤ 31)) (mg_i2d _) (by decide)).2 (by decide)).1 dX2_score_19 ?_
  refine wp_run [(.aload_n 0, 1)] (pc' := 21) (L' := [(0, .inr (3, some j))]) (st' := [.inr (3, some j), .inl (.double (FP.dadd (FP.i2d ((xFI h 304 j) - (xFI h 300 j))) (FP.dmul 4624633867356078080 (FP.i2d (xFI h 302 j)))))]) ⟨dX2_score_20, trivial⟩ rfl rfl ?_
  refine wx_virtualD (M := M_X2_score) (uc := 0) (us := 0) (s := 3) (i := j) (As := []) (rest := [.inl (.double (FP.dadd (FP.i2d ((xFI h 304 j) - (xFI h 300 j))) (FP.dmul 4624633867356078080 (FP.i2d (xFI h 302 j)))))]) cls_3 rfl (ok_X2_carbon _ _) ml_X2_75 im_X2_carbon se_X2_carbon (by omega) (c_X2_carbon (d := d - 1) (h := h) (by omega) W hc hR) rfl rfl (Nat.le_of_ble_eq_true rfl) dX2_score_21 ?_
  refine wx_ldc2d kc_X2_79 dX2_score_24 ?_
  refine wx_ddiv (by rw [cy_ten]; exact (mg_div (mg_carbon hR) (by decide) (by decide)).1) dX2_score_27 ?_
  refine wx_dadd (mg_add (a := 900) (mg_mono (mg_add (mg_mono (mg_i2d _) (by decide : 31 ≤ 62)) (mg_mul (mg_mono (by rw [cy_fifteen]; exact mg_i2d _) (by decide : 31 ≤ 31)) (mg_i2d _) (by decide)).2 (by decide)).2 (by decide : 63 ≤ 900)) (by rw [cy_ten]; exact (mg_div (mg_carbon hR) (by decide) (by decide)).2) (by decide)).1 dX2_score_28 ?_
  exact wx_dret rfl rfl dX2_score_29 (by rw [F_X2_score]; exact ⟨rfl, rfl⟩)
