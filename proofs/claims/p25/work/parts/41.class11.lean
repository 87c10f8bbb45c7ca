def F_X3_init (h : Hp) : Hp := H_fill (sFR (H_newL (sFR (sNA (sFR (sNA h 22) 400 0 (some 0)) 23) 401 0 (some 0)) 11) 402 0 (some 0)) 23 0 (-1)
set_option maxRecDepth 20000 in
theorem c_X3_init {g : GT} {d : Nat} (hd : 5 ≤ d) {h : Hp} (z22 : xCN h 22 = 0) (z23 : xCN h 23 = 0) (z11 : xCN h 11 = 0) (z13 : xCN h 13 = 0)  : Ctr g M_X3_init d 3 113 [.inr (4, some 0)] h (cy_detP (.inl none) (F_X3_init h) (True)) := by
  refine cy_body rfl rfl (by decide) (Nat.le_of_ble_eq_true rfl) ?_
  refine wp_run [(.aload_n 0, 1)] (pc' := 1) (L' := [(0, .inr (4, some 0))]) (st' := [.inr (4, some 0)]) ⟨dX3_init_0, trivial⟩ rfl rfl ?_
  refine wx_objInit ml_X3_3 obj_in obj_code (by omega) (Nat.le_of_ble_eq_true rfl) dX3_init_1 ?_
  refine wp_run [(.aload_n 0, 1), (.bipush 10, 2)] (pc' := 7) (L' := [(0, .inr (4, some 0))]) (st' := [.inl (.int 10), .inr (4, some 0)]) ⟨dX3_init_4, dX3_init_5, trivial⟩ rfl rfl ?_
  refine wx_newIC (uc := 2) (us := 103) (h := h) (x := 10) (s := 22) (i := 0) z22 rfl (by decide) rfl (by decide) rfl (Nat.le_of_ble_eq_true rfl) dX3_init_7 ?_
  refine wx_putR cls_4 (k := 0) (f := 400) (t := 22) (by decide) rfl rfl (Or.inr rfl) rfl fl_X3_9 (Or.inr ⟨rfl, rfl, rfl⟩) dX3_init_9 ?_
  refine wp_run [(.aload_n 0, 1), (.bipush 100, 2)] (pc' := 15) (L' := [(0, .inr (4, some 0))]) (st' := [.inl (.int 100), .inr (4, some 0)]) ⟨dX3_init_12, dX3_init_13, trivial⟩ rfl rfl ?_
  refine wx_newIC (uc := 1) (us := 3) (h := sFR (sNA h 22) 400 0 (some 0)) (x := 100) (s := 23) (i := 0) z23 rfl (by decide) rfl (by decide) rfl (Nat.le_of_ble_eq_true rfl) dX3_init_15 ?_
  refine wx_putR cls_4 (k := 1) (f := 401) (t := 23) (by decide) rfl rfl (Or.inr rfl) rfl fl_X3_15 (Or.inr ⟨rfl, rfl, rfl⟩) dX3_init_17 ?_
  refine wp_run [(.aload_n 0, 1)] (pc' := 21) (L' := [(0, .inr (4, some 0))]) (st' := [.inr (4, some 0)]) ⟨dX3_init_20, trivial⟩ rfl rfl ?_
  refine wx_newL (h := sFR (sNA (sFR (sNA h 22) 400 0 (some 0)) 23) 401 0 (some 0)) (uc := 0) (us := 0) (s := 11) (Or.inl rfl) z11 z13 (by omega) (Nat.le_of_ble_eq_true rfl) cl_X3_18 ml_X3_20 dX3_init_21 dX3_init_24 dX3_init_25 ?_
  refine wx_putR cls_4 (k := 2) (f := 402) (t := 11) (by decide) rfl rfl (Or.inr rfl) rfl fl_X3_21 (Or.inr ⟨rfl, rfl, rfl⟩) dX3_init_28 ?_
  refine wp_run [(.aload_n 0, 1)] (pc' := 32) (L' := [(0, .inr (4, some 0))]) (st' := [.inr (4, some 0)]) ⟨dX3_init_31, trivial⟩ rfl rfl ?_
  refine wx_getR cls_4 (k := 1) (f := 401) (t := 23) (o := some 0) (by decide) rfl rfl fl_X3_15 rfl dX3_init_32 ?_
  refine wp_run [(.iconst (-1), 1)] (pc' := 36) (L' := [(0, .inr (4, some 0))]) (st' := [.inl (.int (-1)), .inr (23, some 0)]) ⟨dX3_init_35, trivial⟩ rfl rfl ?_
  refine wx_staticD (M := M_X3_init) (uc := 0) (us := 0) (As := [.inr (23, some 0), .inl (.int (-1))]) (rest := []) (ok_J7_fill_53178 _ _) ml_X3_25 st_J7_fill_53178 (by omega) (c_fill (d := d - 1) (by omega) (s := 23) (i := 0) rfl (Nat.le_of_ble_eq_true rfl) (-1)) rfl rfl (Nat.le_of_ble_eq_true rfl) dX3_init_36 ?_
  exact wx_vret rfl rfl dX3_init_39 (by rw [F_X3_init]; exact ⟨trivial, rfl, rfl⟩)
def F_X5_init (h : Hp) : Hp := sFR (sFR (sNA (sFR (sNA h 20) 601 0 (some 0)) 21) 602 0 (some 0)) 600 0 (some 0)
set_option maxRecDepth 20000 in
theorem c_X5_init {g : GT} {d : Nat} (hd : 1 ≤ d) {h : Hp} (z20 : xCN h 20 = 0) (z21 : xCN h 21 = 0)  : Ctr g M_X5_init d 2 100 [.inr (6, some 0), .inr (4, some 0)] h (cy_detP (.inl none) (F_X5_init h) (True)) := by
  refine cy_body rfl rfl (by decide) (Nat.le_of_ble_eq_true rfl) ?_
  refine wp_run [(.aload_n 0, 1)] (pc' := 1) (L' := [(0, .inr (6, some 0)), (1, .inr (4, some 0))]) (st' := [.inr (6, some 0)]) ⟨dX5_init_0, trivial⟩ rfl rfl ?_
  refine wx_objInit ml_X5_3 obj_in obj_code (by omega) (Nat.le_of_ble_eq_true rfl) dX5_init_1 ?_
  refine wp_run [(.aload_n 0, 1), (.bipush 50, 2)] (pc' := 7) (L' := [(0, .inr (6, some 0)), (1, .inr (4, some 0))]) (st' := [.inl (.int 50), .inr (6, some 0)]) ⟨dX5_init_4, dX5_init_5, trivial⟩ rfl rfl ?_
  refine wx_newIC (uc := 1) (us := 50) (h := h) (x := 50) (s := 20) (i := 0) z20 rfl (by decide) rfl (by decide) rfl (Nat.le_of_ble_eq_true rfl) dX5_init_7 ?_
  refine wx_putR cls_6 (k := 1) (f := 601) (t := 20) (by decide) rfl rfl (Or.inr rfl) rfl fl_X5_9 (Or.inr ⟨rfl, rfl, rfl⟩) dX5_init_9 ?_
  refine wp_run [(.aload_n 0, 1), (.bipush 50, 2)] (pc' := 15) (L' := [(0, .inr (6, some 0)), (1, .inr (4, some 0))]) (st' := [.inl (.int 50), .inr (6, some 0)]) ⟨dX5_init_12, dX5_init_13, trivial⟩ rfl rfl ?_
  refine wx_newIC (uc := 0) (us := 0) (h := sFR (sNA h 20) 601 0 (some 0)) (x := 50) (s := 21) (i := 0) z21 rfl (by decide) rfl (by decide) rfl (Nat.le_of_ble_eq_true rfl) dX5_init_15 ?_
  refine wx_putR cls_6 (k := 2) (f := 602) (t := 21) (by decide) rfl rfl (Or.inr rfl) rfl fl_X5_15 (Or.inr ⟨rfl, rfl, rfl⟩) dX5_init_17 ?_
  refine wp_run [(.aload_n 0, 1), (.aload_n 1, 1)] (pc' := 22) (L' := [(0, .inr (6, some 0)), (1, .inr (4, some 0))]) (st' := [.inr (4, some 0), .inr (6, some 0)]) ⟨dX5_init_20, dX5_init_21, trivial⟩ rfl rfl ?_
  refine wx_putR cls_6 (k := 0) (f := 600) (t := 4) (by decide) rfl rfl (Or.inr rfl) rfl fl_X5_18 (Or.inr ⟨rfl, rfl, rfl⟩) dX5_init_22 ?_
  exact wx_vret rfl rfl dX5_init_25 (by rw [F_X5_init]; exact ⟨trivial, rfl, rfl⟩)
def F_X6_init (h : Hp) : Hp := sFR h 700 0 (some 0)
set_option maxRecDepth 20000 in
theorem c_X6_init {g : GT} {d : Nat} (hd : 1 ≤ d) {h : Hp}  : Ctr g M_X6_init d 0 0 [.inr (7, some 0), .inr (4, some 0)] h (cy_detP (.inl none) (F_X6_init h) (True)) := by
  refine cy_body rfl rfl (by decide) (Nat.le_of_ble_eq_true rfl) ?_
  refine wp_run [(.aload_n 0, 1)] (pc' := 1) (L' := [(0, .inr (7, some 0)), (1, .inr (4, some 0))]) (st' := [.inr (7, some 0)]) ⟨dX6_init_0, trivial⟩ rfl rfl ?_
  refine wx_objInit ml_X6_3 obj_in obj_code (by omega) (Nat.le_of_ble_eq_true rfl) dX6_init_1 ?_
  refine wp_run [(.aload_n 0, 1), (.aload_n 1, 1)] (pc' := 6) (L' := [(0, .inr (7, some 0)), (1, .inr (4, some 0))]) (st' := [.inr (4, some 0), .inr (7, some 0)]) ⟨dX6_init_4, dX6_init_5, trivial⟩ rfl rfl ?_
  refine wx_putR cls_7 (k := 0) (f := 700) (t := 4) (by decide) rfl rfl (Or.inr rfl) rfl fl_X6_9 (Or.inr ⟨rfl, rfl, rfl⟩) dX6_init_6 ?_
  exact wx_vret rfl rfl dX6_init_9 (by rw [F_X6_init]; exact ⟨trivial, rfl, rfl⟩)
def F_X1_init (h : Hp) : Hp := sFR (sNA (sFR (sNA (sFR (sNA (sFR (sNA h 24) 200 0 (some 0)) 25) 201 0 (some 0)) 26) 202 0 (some 0)) 27) 203 0 (some 0)
set_option maxRecDepth 20000 in
theorem c_X1_init {g : GT} {d : Nat} (hd : 1 ≤ d) {h : Hp} (z24 : xCN h 24 = 0) (z25 : xCN h 25 = 0) (z26 : xCN h 26 = 0) (z27 : xCN h 27 = 0)  : Ctr g M_X1_init d 4 14 [.inr (2, some 0)] h (cy_detP (.inl none) (F_X1_init h) (True)) := by
  refine cy_body rfl rfl (by decide) (Nat.le_of_ble_eq_true rfl) ?_
  refine wp_run [(.aload_n 0, 1)] (pc' := 1) (L' := [(0, .inr (2, some 0))]) (st' := [.inr (2, some 0)]) ⟨dX1_init_0, trivial⟩ rfl rfl ?_
  refine wx_objInit ml_X1_3 obj_in obj_code (by omega) (Nat.le_of_ble_eq_true rfl) dX1_init_1 ?_
  refine wp_run [(.aload_n 0, 1), (.iconst 3, 1)] (pc' := 6) (L' := [(0, .inr (2, some 0))]) (st' := [.inl (.int 3), .inr (2, some 0)]) ⟨dX1_init_4, dX1_init_5, trivial⟩ rfl rfl ?_
  refine wx_newIC (uc := 3) (us := 11) (h := h) (x := 3) (s := 24) (i := 0) z24 rfl (by decide) rfl (by decide) rfl (Nat.le_of_ble_eq_true rfl) dX1_init_6 ?_
  refine wx_putR cls_2 (k := 0) (f := 200) (t := 24) (by decide) rfl rfl (Or.inr rfl) rfl fl_X1_9 (Or.inr ⟨rfl, rfl, rfl⟩) dX1_init_8 ?_
  refine wp_run [(.aload_n 0, 1), (.iconst 3, 1)] (pc' := 13) (L' := [(0, .inr (2, some 0))]) (st' := [.inl (.int 3), .inr (2, some 0)]) ⟨dX1_init_11, dX1_init_12, trivial⟩ rfl rfl ?_
  refine wx_newIC (uc := 2) (us := 8) (h := sFR (sNA h 24) 200 0 (some 0)) (x := 3) (s := 25) (i := 0) z25 rfl (by decide) rfl (by decide) rfl (Nat.le_of_ble_eq_true rfl) dX1_init_13 ?_
  refine wx_putR cls_2 (k := 1) (f := 201) (t := 25) (by decide) rfl rfl (Or.inr rfl) rfl fl_X1_15 (Or.inr ⟨rfl, rfl, rfl⟩) dX1_init_15 ?_
  refine wp_run [(.aload_n 0, 1), (.iconst 3, 1)] (pc' := 20) (L' := [(0, .inr (2, some 0))]) (st' := [.inl (.int 3), .inr (2, some 0)]) ⟨dX1_init_18, dX1_init_19, trivial⟩ rfl rfl ?_
  refine wx_newIC (uc := 1) (us := 5) (h := sFR (sNA (sFR (sNA h 24) 200 0 (some 0)) 25) 201 0 (some 0)) (x := 3) (s := 26) (i := 0) z26 rfl (by decide) rfl (by decide) rfl (Nat.le_of_ble_eq_true rfl) dX1_init_20 ?_
  refine wx_putR cls_2 (k := 2) (f := 202) (t := 26) (by decide) rfl rfl (Or.inr rfl) rfl fl_X1_18 (Or.inr ⟨rfl, rfl, rfl⟩) dX1_init_22 ?_
  refine wp_run [(.aload_n 0, 1), (.iconst 5, 1)] (pc' := 27) (L' := [(0, .inr (2, some 0))]) (st' := [.inl (.int 5), .inr (2, some 0)]) ⟨dX1_init_25, dX1_init_26, trivial⟩ rfl rfl ?_
  refine wx_newIC (uc := 0) (us := 0) (h := sFR (sNA (sFR (sNA (sFR (sNA h 24) 200 0 (some 0)) 25) 201 0 (some 0)) 26) 202 0 (some 0)) (x := 5) (s := 27) (i := 0) z27 rfl (by decide) rfl (by decide) rfl (Nat.le_of_ble_eq_true rfl) dX1_init_27 ?_
  refine wx_putR cls_2 (k := 3) (f := 203) (t := 27) (by decide) rfl rfl (Or.inr rfl) rfl fl_X1_21 (Or.inr ⟨rfl, rfl, rfl⟩) dX1_init_29 ?_
  exact wx_vret rfl rfl dX1_init_32 (by rw [F_X1_init]; exact ⟨trivial, rfl, rfl⟩)
def F_X8_init (h : Hp) : Hp := sFI (sFR (H_newL (sFR (F_X1_init (sNO (sFR (F_X6_init (sNO (sFR (F_X5_init (sNO (sFR (F_X3_init (sNO h 4)) 900 0 (some 0)) 6)) 901 0 (some 0)) 7)) 902 0 (some 0)) 2)) 903 0 (some 0)) 12) 904 0 (some 0)) 905 0 0
set_option maxRecDepth 20000 in
theorem c_X8_init {g : GT} {d : Nat} (hd : 6 ≤ d) {h : Hp} (z4 : xCN h 4 = 0) (z6 : xCN h 6 = 0) (z7 : xCN h 7 = 0) (z2 : xCN h 2 = 0) (z22 : xCN h 22 = 0) (z23 : xCN h 23 = 0) (z11 : xCN h 11 = 0) (z13 : xCN h 13 = 0) (z20 : xCN h 20 = 0) (z21 : xCN h 21 = 0) (z24 : xCN h 24 = 0) (z25 : xCN h 25 = 0) (z26 : xCN h 26 = 0) (z27 : xCN h 27 = 0) (z12 : xCN h 12 = 0) (z14 : xCN h 14 = 0)  : Ctr g M_X8_init d 14 255 [.inr (9, some 0)] h (cy_detP (.inl none) (F_X8_init h) (True)) := by
  refine cy_body rfl rfl (by decide) (Nat.le_of_ble_eq_true rfl) ?_
  refine wp_run [(.aload_n 0, 1)] (pc' := 1) (L' := [(0, .inr (9, some 0))]) (st' := [.inr (9, some 0)]) ⟨dX8_init_0, trivial⟩ rfl rfl ?_
  refine wx_objInit ml_X8_1 obj_in obj_code (by omega) (Nat.le_of_ble_eq_true rfl) dX8_init_1 ?_
  refine wx_newC (s := 4) (h := h) (uc := 13) (us := 251) (i := 0) z4 cls_4 cl_X8_7 in_4 ini_4 dX8_init_4 ?_
  refine wp_run [(.dup, 1)] (pc' := 8) (L' := [(0, .inr (9, some 0))]) (st' := [.inr (4, some 0), .inr (4, some 0)]) ⟨dX8_init_7, trivial⟩ rfl rfl ?_
  refine wx_ctorDP (M := M_X8_init) (uc := 10) (us := 138) (s := 4) (i := 0) (As := []) (rest := [.inr (4, some 0)]) (ok_X3_init _ _) rfl rfl ml_X8_9 im_X3_init (by omega) (c_X3_init (d := d - 1) (h := (sNO h 4)) (by omega) z22 z23 z11 z13) rfl rfl (Nat.le_of_ble_eq_true rfl) dX8_init_8 (fun hS_1 => ?_)
  refine wp_run [(.astore_n 1, 1), (.aload_n 0, 1), (.aload_n 1, 1)] (pc' := 14) (L' := [(1, .inr (4, some 0)), (0, .inr (9, some 0))]) (st' := [.inr (4, some 0), .inr (9, some 0)]) ⟨dX8_init_11, dX8_init_12, dX8_init_13, trivial⟩ rfl rfl ?_
  refine wx_putR cls_9 (k := 0) (f := 900) (t := 4) (by decide) rfl rfl (Or.inr rfl) rfl fl_X8_10 (Or.inr ⟨rfl, rfl, rfl⟩) dX8_init_14 ?_
  refine wp_run [(.aload_n 0, 1)] (pc' := 18) (L' := [(1, .inr (4, some 0)), (0, .inr (9, some 0))]) (st' := [.inr (9, some 0)]) ⟨dX8_init_17, trivial⟩ rfl rfl ?_
  refine wx_newC (s := 6) (h := sFR (F_X3_init (sNO h 4)) 900 0 (some 0)) (uc := 9) (us := 130) (i := 0) z6 cls_6 cl_X8_16 in_6 ini_6 dX8_init_18 ?_
  refine wp_run [(.dup, 1), (.aload_n 1, 1)] (pc' := 23) (L' := [(1, .inr (4, some 0)), (0, .inr (9, some 0))]) (st' := [.inr (4, some 0), .inr (6, some 0), .inr (6, some 0), .inr (9, some 0)]) ⟨dX8_init_21, dX8_init_22, trivial⟩ rfl rfl ?_
  refine wx_ctorDP (M := M_X8_init) (uc := 7) (us := 30) (s := 6) (i := 0) (As := [.inr (4, some 0)]) (rest := [.inr (6, some 0), .inr (9, some 0)]) (ok_X5_init _ _) rfl rfl ml_X8_18 im_X5_init (by omega) (c_X5_init (d := d - 1) (h := (sNO (sFR (F_X3_init (sNO h 4)) 900 0 (some 0)) 6)) (by omega) z20 z21) rfl rfl (Nat.le_of_ble_eq_true rfl) dX8_init_23 (fun hS_2 => ?_)
  refine wx_putR cls_9 (k := 1) (f := 901) (t := 6) (by decide) rfl rfl (Or.inr rfl) rfl fl_X8_21 (Or.inr ⟨rfl, rfl, rfl⟩) dX8_init_26 ?_
  refine wp_run [(.aload_n 0, 1)] (pc' := 30) (L' := [(1, .inr (4, some 0)), (0, .inr (9, some 0))]) (st' := [.inr (9, some 0)]) ⟨dX8_init_29, trivial⟩ rfl rfl ?_
  refine wx_newC (s := 7) (h := sFR (F_X5_init (sNO (sFR (F_X3_init (sNO h 4)) 900 0 (some 0)) 6)) 901 0 (some 0)) (uc := 6) (us := 25) (i := 0) z7 cls_7 cl_X8_25 in_7 ini_7 dX8_init_30 ?_
  refine wp_run [(.dup, 1), (.aload_n 1, 1)] (pc' := 35) (L' := [(1, .inr (4, some 0)), (0, .inr (9, some 0))]) (st' := [.inr (4, some 0), .inr (7, some 0), .inr (7, some 0), .inr (9, some 0)]) ⟨dX8_init_33, dX8_init_34, trivial⟩ rfl rfl ?_
  refine wx_ctorDP (M := M_X8_init) (uc := 6) (us := 25) (s := 7) (i := 0) (As := [.inr (4, some 0)]) (rest := [.inr (7, some 0), .inr (9, some 0)]) (ok_X6_init _ _) rfl rfl ml_X8_27 im_X6_init (by omega) (c_X6_init (d := d - 1) (h := (sNO (sFR (F_X5_init (sNO (sFR (F_X3_init (sNO h 4)) 900 0 (some 0)) 6)) 901 0 (some 0)) 7)) (by omega) ) rfl rfl (Nat.le_of_ble_eq_true rfl) dX8_init_35 (fun hS_3 => ?_)
  refine wx_putR cls_9 (k := 2) (f := 902) (t := 7) (by decide) rfl rfl (Or.inr rfl) rfl fl_X8_28 (Or.inr ⟨rfl, rfl, rfl⟩) dX8_init_38 ?_
  refine wp_run [(.aload_n 0, 1)] (pc' := 42) (L' := [(1, .inr (4, some 0)), (0, .inr (9, some 0))]) (st' := [.inr (9, some 0)]) ⟨dX8_init_41, trivial⟩ rfl rfl ?_
  refine wx_newC (s := 2) (h := sFR (F_X6_init (sNO (sFR (F_X5_init (sNO (sFR (F_X3_init (sNO h 4)) 900 0 (some 0)) 6)) 901 0 (some 0)) 7)) 902 0 (some 0)) (uc := 5) (us := 21) (i := 0) z2 cls_2 cl_X8_32 in_2 ini_2 dX8_init_42 ?_
  refine wp_run [(.dup, 1)] (pc' := 46) (L' := [(1, .inr (4, some 0)), (0, .inr (9, some 0))]) (st' := [.inr (2, some 0), .inr (2, some 0), .inr (9, some 0)]) ⟨dX8_init_45, trivial⟩ rfl rfl ?_
  refine wx_ctorNDP (M := M_X8_init) (uc := 1) (us := 7) (s := 2) (i := 0) (As := []) (rest := [.inr (2, some 0), .inr (9, some 0)]) (ok_X1_init _ _) rfl rfl ml_X8_34 im_X1_init (by omega) (c_X1_init (d := d - 1) (h := (sNO (sFR (F_X6_init (sNO (sFR (F_X5_init (sNO (sFR (F_X3_init (sNO h 4)) 900 0 (some 0)) 6)) 901 0 (some 0)) 7)) 902 0 (some 0)) 2)) (by omega) z24 z25 z26 z27) rfl rfl (Nat.le_of_ble_eq_true rfl) dX8_init_46 (fun hS_4 => ?_)
  refine wx_putR cls_9 (k := 3) (f := 903) (t := 2) (by decide) rfl rfl (Or.inr rfl) rfl fl_X8_35 (Or.inr ⟨rfl, rfl, rfl⟩) dX8_init_49 ?_
  refine wp_run [(.aload_n 0, 1)] (pc' := 53) (L' := [(1, .inr (4, some 0)), (0, .inr (9, some 0))]) (st' := [.inr (9, some 0)]) ⟨dX8_init_52, trivial⟩ rfl rfl ?_
  refine wx_newL (h := sFR (F_X1_init (sNO (sFR (F_X6_init (sNO (sFR (F_X5_init (sNO (sFR (F_X3_init (sNO h 4)) 900 0 (some 0)) 6)) 901 0 (some 0)) 7)) 902 0 (some 0)) 2)) 903 0 (some 0)) (uc := 0) (us := 4) (s := 12) (Or.inr rfl) z12 z14 (by omega) (Nat.le_of_ble_eq_true rfl) cl_X8_39 ml_X8_41 dX8_init_53 dX8_init_56 dX8_init_57 ?_
  refine wx_putR cls_9 (k := 4) (f := 904) (t := 12) (by decide) rfl rfl (Or.inr rfl) rfl fl_X8_42 (Or.inr ⟨rfl, rfl, rfl⟩) dX8_init_60 ?_
  refine wp_run [(.aload_n 0, 1), (.iconst 0, 1)] (pc' := 65) (L' := [(1, .inr (4, some 0)), (0, .inr (9, some 0))]) (st' := [.inl (.int 0), .inr (9, some 0)]) ⟨dX8_init_63, dX8_init_64, trivial⟩ rfl rfl ?_
  refine wx_putI cls_9 (k := 5) (f := 905) (by decide) rfl rfl rfl fl_X8_46 (Or.inl rfl) dX8_init_65 ?_
  exact wx_vret rfl rfl dX8_init_68 (by rw [F_X8_init]; exact ⟨trivial, rfl, rfl⟩)
def F_X7_init (h : Hp) (i : Nat) (nu : Int32) (mo : Int32) (fi : Int32) (se : Int32) : Hp := sFI (sFI (sFI (sFI (sFR (sNA (sFR (sNA (sFR (sNA (sFR (sNA (sFR (sNA (sFR (sNA h 28) 804 i (some (xCN h 28))) 29) 805 i (some (xCN h 29))) 30) 806 i (some (xCN h 30))) 31) 807 i (some (xCN h 31))) 32) 808 i (some (xCN h 32))) 33) 809 i (some (xCN h 33))) 800 i nu) 801 i mo) 802 i fi) 803 i se
set_option maxRecDepth 20000 in
theorem c_X7_init {g : GT} {d : Nat} (hd : 1 ≤ d) {h : Hp} {i : Nat} (nu : Int32) (mo : Int32) (fi : Int32) (se : Int32)  : Ctr g M_X7_init d 6 248 [.inr (8, some i), .inl (.int nu), .inl (.int mo), .inl (.int fi), .inl (.int se)] h (cy_detP (.inl none) (F_X7_init h i nu mo fi se) (True)) := by
  refine cy_body rfl rfl (by decide) (Nat.le_of_ble_eq_true rfl) ?_
  refine wp_run [(.aload_n 0, 1)] (pc' := 1) (L' := [(0, .inr (8, some i)), (1, .inl (.int nu)), (2, .inl (.int mo)), (3, .inl (.int fi)), (4, .inl (.int se))]) (st' := [.inr (8, some i)]) ⟨dX7_init_0, trivial⟩ rfl rfl ?_
  refine wx_objInit ml_X7_3 obj_in obj_code (by omega) (Nat.le_of_ble_eq_true rfl) dX7_init_1 ?_
  refine wp_run [(.aload_n 0, 1), (.bipush 6, 2)] (pc' := 7) (L' := [(0, .inr (8, some i)), (1, .inl (.int nu)), (2, .inl (.int mo)), (3, .inl (.int fi)), (4, .inl (.int se))]) (st' := [.inl (.int 6), .inr (8, some i)]) ⟨dX7_init_4, dX7_init_5, trivial⟩ rfl rfl ?_
  refine wx_newIC (uc := 5) (us := 242) (h := h) (x := 6) (s := 28) (i := (xCN h 28)) rfl rfl (by decide) rfl (by decide) rfl (Nat.le_of_ble_eq_true rfl) dX7_init_7 ?_
  refine wx_putR cls_8 (k := 4) (f := 804) (t := 28) (by decide) rfl rfl (Or.inr rfl) rfl fl_X7_9 (Or.inr ⟨rfl, rfl, rfl⟩) dX7_init_9 ?_
  refine wp_run [(.aload_n 0, 1), (.bipush 6, 2)] (pc' := 15) (L' := [(0, .inr (8, some i)), (1, .inl (.int nu)), (2, .inl (.int mo)), (3, .inl (.int fi)), (4, .inl (.int se))]) (st' := [.inl (.int 6), .inr (8, some i)]) ⟨dX7_init_12, dX7_init_13, trivial⟩ rfl rfl ?_
  refine wx_newIC (uc := 4) (us := 236) (h := sFR (sNA h 28) 804 i (some (xCN h 28))) (x := 6) (s := 29) (i := (xCN h 29)) rfl rfl (by decide) rfl (by decide) rfl (Nat.le_of_ble_eq_true rfl) dX7_init_15 ?_
  refine wx_putR cls_8 (k := 5) (f := 805) (t := 29) (by decide) rfl rfl (Or.inr rfl) rfl fl_X7_15 (Or.inr ⟨rfl, rfl, rfl⟩) dX7_init_17 ?_
  refine wp_run [(.aload_n 0, 1), (.bipush 6, 2)] (pc' := 23) (L' := [(0, .inr (8, some i)), (1, .inl (.int nu)), (2, .inl (.int mo)), (3, .inl (.int fi)), (4, .inl (.int se))]) (st' := [.inl (.int 6), .inr (8, some i)]) ⟨dX7_init_20, dX7_init_21, trivial⟩ rfl rfl ?_
  refine wx_newIC (uc := 3) (us := 230) (h := sFR (sNA (sFR (sNA h 28) 804 i (some (xCN h 28))) 29) 805 i (some (xCN h 29))) (x := 6) (s := 30) (i := (xCN h 30)) rfl rfl (by decide) rfl (by decide) rfl (Nat.le_of_ble_eq_true rfl) dX7_init_23 ?_
  refine wx_putR cls_8 (k := 6) (f := 806) (t := 30) (by decide) rfl rfl (Or.inr rfl) rfl fl_X7_18 (Or.inr ⟨rfl, rfl, rfl⟩) dX7_init_25 ?_
  refine wp_run [(.aload_n 0, 1), (.bipush 100, 2)] (pc' := 31) (L' := [(0, .inr (8, some i)), (1, .inl (.int nu)), (2, .inl (.int mo)), (3, .inl (.int fi)), (4, .inl (.int se))]) (st' := [.inl (.int 100), .inr (8, some i)]) ⟨dX7_init_28, dX7_init_29, trivial⟩ rfl rfl ?_
  refine wx_newZC (uc := 2) (us := 130) (h := sFR (sNA (sFR (sNA (sFR (sNA h 28) 804 i (some (xCN h 28))) 29) 805 i (some (xCN h 29))) 30) 806 i (some (xCN h 30))) (x := 100) (s := 31) (i := (xCN h 31)) rfl rfl (by decide) rfl (by decide) rfl (Nat.le_of_ble_eq_true rfl) dX7_init_31 ?_
  refine wx_putR cls_8 (k := 7) (f := 807) (t := 31) (by decide) rfl rfl (Or.inr rfl) rfl fl_X7_21 (Or.inr ⟨rfl, rfl, rfl⟩) dX7_init_33 ?_
  refine wp_run [(.aload_n 0, 1), (.bipush 100, 2)] (pc' := 39) (L' := [(0, .inr (8, some i)), (1, .inl (.int nu)), (2, .inl (.int mo)), (3, .inl (.int fi)), (4, .inl (.int se))]) (st' := [.inl (.int 100), .inr (8, some i)]) ⟨dX7_init_36, dX7_init_37, trivial⟩ rfl rfl ?_
  refine wx_newIC (uc := 1) (us := 30) (h := sFR (sNA (sFR (sNA (sFR (sNA (sFR (sNA h 28) 804 i (some (xCN h 28))) 29) 805 i (some (xCN h 29))) 30) 806 i (some (xCN h 30))) 31) 807 i (some (xCN h 31))) (x := 100) (s := 32) (i := (xCN h 32)) rfl rfl (by decide) rfl (by decide) rfl (Nat.le_of_ble_eq_true rfl) dX7_init_39 ?_
  refine wx_putR cls_8 (k := 8) (f := 808) (t := 32) (by decide) rfl rfl (Or.inr rfl) rfl fl_X7_25 (Or.inr ⟨rfl, rfl, rfl⟩) dX7_init_41 ?_
  refine wp_run [(.aload_n 0, 1), (.bipush 30, 2)] (pc' := 47) (L' := [(0, .inr (8, some i)), (1, .inl (.int nu)), (2, .inl (.int mo)), (3, .inl (.int fi)), (4, .inl (.int se))]) (st' := [.inl (.int 30), .inr (8, some i)]) ⟨dX7_init_44, dX7_init_45, trivial⟩ rfl rfl ?_
  refine wx_newIC (uc := 0) (us := 0) (h := sFR (sNA (sFR (sNA (sFR (sNA (sFR (sNA (sFR (sNA h 28) 804 i (some (xCN h 28))) 29) 805 i (some (xCN h 29))) 30) 806 i (some (xCN h 30))) 31) 807 i (some (xCN h 31))) 32) 808 i (some (xCN h 32))) (x := 30) (s := 33) (i := (xCN h 33)) rfl rfl (by decide) rfl (by decide) rfl (Nat.le_of_ble_eq_true rfl) dX7_init_47 ?_
  refine wx_putR cls_8 (k := 9) (f := 809) (t := 33) (by decide) rfl rfl (Or.inr rfl) rfl fl_X7_28 (Or.inr ⟨rfl, rfl, rfl⟩) dX7_init_49 ?_
  refine wp_run [(.aload_n 0, 1), (.iload_n 1, 1)] (pc' := 54) (L' := [(0, .inr (8, some i)), (1, .inl (.int nu)), (2, .inl (.int mo)), (3, .inl (.int fi)), (4, .inl (.int se))]) (st' := [.inl (.int nu), .inr (8, some i)]) ⟨dX7_init_52, dX7_init_53, trivial⟩ rfl rfl ?_
  refine wx_putI cls_8 (k := 0) (f := 800) (by decide) rfl rfl rfl fl_X7_31 (Or.inr ⟨rfl, rfl, rfl⟩) dX7_init_54 ?_
  refine wp_run [(.aload_n 0, 1), (.iload_n 2, 1)] (pc' := 59) (L' := [(0, .inr (8, some i)), (1, .inl (.int nu)), (2, .inl (.int mo)), (3, .inl (.int fi)), (4, .inl (.int se))]) (st' := [.inl (.int mo), .inr (8, some i)]) ⟨dX7_init_57, dX7_init_58, trivial⟩ rfl rfl ?_
  refine wx_putI cls_8 (k := 1) (f := 801) (by decide) rfl rfl rfl fl_X7_35 (Or.inr ⟨rfl, rfl, rfl⟩) dX7_init_59 ?_
  refine wp_run [(.aload_n 0, 1), (.iload_n 3, 1)] (pc' := 64) (L' := [(0, .inr (8, some i)), (1, .inl (.int nu)), (2, .inl (.int mo)), (3, .inl (.int fi)), (4, .inl (.int se))]) (st' := [.inl (.int fi), .inr (8, some i)]) ⟨dX7_init_62, dX7_init_63, trivial⟩ rfl rfl ?_
  refine wx_putI cls_8 (k := 2) (f := 802) (by decide) rfl rfl rfl fl_X7_38 (Or.inr ⟨rfl, rfl, rfl⟩) dX7_init_64 ?_
  refine wp_run [(.aload_n 0, 1), (.iload 4, 2)] (pc' := 70) (L' := [(0, .inr (8, some i)), (1, .inl (.int nu)), (2, .inl (.int mo)), (3, .inl (.int fi)), (4, .inl (.int se))]) (st' := [.inl (.int se), .inr (8, some i)]) ⟨dX7_init_67, dX7_init_68, trivial⟩ rfl rfl ?_
  refine wx_putI cls_8 (k := 3) (f := 803) (by decide) rfl rfl rfl fl_X7_41 (Or.inr ⟨rfl, rfl, rfl⟩) dX7_init_70 ?_
  exact wx_vret rfl rfl dX7_init_73 (by rw [F_X7_init]; exact ⟨trivial, rfl, rfl⟩)
