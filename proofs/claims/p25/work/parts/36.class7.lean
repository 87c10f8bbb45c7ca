def F_X4_init (h : Hp) (i : Nat) (t : Nat) (dy : Int32) (bo : Int32) (le : Int32) (o : Option Nat) : Hp := sFR (sFI (sFI (sFI (sFR h 500 i (some t)) 501 i dy) 502 i bo) 503 i le) 504 i o
set_option maxRecDepth 20000 in
theorem c_X4_init {g : GT} {d : Nat} (hd : 1 ≤ d) {h : Hp} {i t : Nat} {o : Option Nat} (dy : Int32) (bo : Int32) (le : Int32)  : Ctr g M_X4_init d 0 0 [.inr (5, some i), .inr (8, some t), .inl (.int dy), .inl (.int bo), .inl (.int le), .inr (5, o)] h (cy_detP (.inl none) (F_X4_init h i t dy bo le o) (True)) := by
  refine cy_bodyO rfl rfl (by decide) (Nat.le_of_ble_eq_true rfl) ?_
  refine wp_run [(.aload_n 0, 1)] (pc' := 1) (L' := [(0, .inr (5, some i)), (1, .inr (8, some t)), (2, .inl (.int dy)), (3, .inl (.int bo)), (4, .inl (.int le)), (5, .inr (5, o))]) (st' := [.inr (5, some i)]) ⟨dX4_init_0, trivial⟩ rfl rfl ?_
  refine wx_objInit ml_X4_1 obj_in obj_code (by omega) (Nat.le_of_ble_eq_true rfl) dX4_init_1 ?_
  refine wp_run [(.aload_n 0, 1), (.aload_n 1, 1)] (pc' := 6) (L' := [(0, .inr (5, some i)), (1, .inr (8, some t)), (2, .inl (.int dy)), (3, .inl (.int bo)), (4, .inl (.int le)), (5, .inr (5, o))]) (st' := [.inr (8, some t), .inr (5, some i)]) ⟨dX4_init_4, dX4_init_5, trivial⟩ rfl rfl ?_
  refine wx_putR cls_5 (k := 0) (f := 500) (t := 8) (by decide) rfl rfl (Or.inr rfl) rfl fl_X4_7 (Or.inr ⟨rfl, rfl, rfl⟩) dX4_init_6 ?_
  refine wp_run [(.aload_n 0, 1), (.iload_n 2, 1)] (pc' := 11) (L' := [(0, .inr (5, some i)), (1, .inr (8, some t)), (2, .inl (.int dy)), (3, .inl (.int bo)), (4, .inl (.int le)), (5, .inr (5, o))]) (st' := [.inl (.int dy), .inr (5, some i)]) ⟨dX4_init_9, dX4_init_10, trivial⟩ rfl rfl ?_
  refine wx_putI cls_5 (k := 1) (f := 501) (by decide) rfl rfl rfl fl_X4_13 (Or.inr ⟨rfl, rfl, rfl⟩) dX4_init_11 ?_
  refine wp_run [(.aload_n 0, 1), (.iload_n 3, 1)] (pc' := 16) (L' := [(0, .inr (5, some i)), (1, .inr (8, some t)), (2, .inl (.int dy)), (3, .inl (.int bo)), (4, .inl (.int le)), (5, .inr (5, o))]) (st' := [.inl (.int bo), .inr (5, some i)]) ⟨dX4_init_14, dX4_init_15, trivial⟩ rfl rfl ?_
  refine wx_putI cls_5 (k := 2) (f := 502) (by decide) rfl rfl rfl fl_X4_17 (Or.inr ⟨rfl, rfl, rfl⟩) dX4_init_16 ?_
  refine wp_run [(.aload_n 0, 1), (.iload 4, 2)] (pc' := 22) (L' := [(0, .inr (5, some i)), (1, .inr (8, some t)), (2, .inl (.int dy)), (3, .inl (.int bo)), (4, .inl (.int le)), (5, .inr (5, o))]) (st' := [.inl (.int le), .inr (5, some i)]) ⟨dX4_init_19, dX4_init_20, trivial⟩ rfl rfl ?_
  refine wx_putI cls_5 (k := 3) (f := 503) (by decide) rfl rfl rfl fl_X4_20 (Or.inr ⟨rfl, rfl, rfl⟩) dX4_init_22 ?_
  refine wp_run [(.aload_n 0, 1), (.aload 5, 2)] (pc' := 28) (L' := [(0, .inr (5, some i)), (1, .inr (8, some t)), (2, .inl (.int dy)), (3, .inl (.int bo)), (4, .inl (.int le)), (5, .inr (5, o))]) (st' := [.inr (5, o), .inr (5, some i)]) ⟨dX4_init_25, dX4_init_26, trivial⟩ rfl rfl ?_
  refine wx_putR cls_5 (k := 4) (f := 504) (t := 5) (by decide) rfl rfl (Or.inr rfl) rfl fl_X4_23 (Or.inr ⟨rfl, rfl, rfl⟩) dX4_init_28 ?_
  exact wx_vret rfl rfl dX4_init_31 (by rw [F_X4_init]; exact ⟨trivial, rfl, rfl⟩)
def F_X2_init (h : Hp) (i : Nat) (ti : Int32) (o : Option Nat) (n : Int32) (wk : Int32) (en : Int32) : Hp := sFI (sFI (sFI (sFR (sFI h 300 i ti) 301 i o) 302 i n) 303 i wk) 304 i en
set_option maxRecDepth 20000 in
theorem c_X2_init {g : GT} {d : Nat} (hd : 1 ≤ d) {h : Hp} {i : Nat} {o : Option Nat} (ti : Int32) (n : Int32) (wk : Int32) (en : Int32)  : Ctr g M_X2_init d 0 0 [.inr (3, some i), .inl (.int ti), .inr (5, o), .inl (.int n), .inl (.int wk), .inl (.int en)] h (cy_detP (.inl none) (F_X2_init h i ti o n wk en) (True)) := by
  refine cy_bodyO rfl rfl (by decide) (Nat.le_of_ble_eq_true rfl) ?_
  refine wp_run [(.aload_n 0, 1)] (pc' := 1) (L' := [(0, .inr (3, some i)), (1, .inl (.int ti)), (2, .inr (5, o)), (3, .inl (.int n)), (4, .inl (.int wk)), (5, .inl (.int en))]) (st' := [.inr (3, some i)]) ⟨dX2_init_0, trivial⟩ rfl rfl ?_
  refine wx_objInit ml_X2_3 obj_in obj_code (by omega) (Nat.le_of_ble_eq_true rfl) dX2_init_1 ?_
  refine wp_run [(.aload_n 0, 1), (.iload_n 1, 1)] (pc' := 6) (L' := [(0, .inr (3, some i)), (1, .inl (.int ti)), (2, .inr (5, o)), (3, .inl (.int n)), (4, .inl (.int wk)), (5, .inl (.int en))]) (st' := [.inl (.int ti), .inr (3, some i)]) ⟨dX2_init_4, dX2_init_5, trivial⟩ rfl rfl ?_
  refine wx_putI cls_3 (k := 0) (f := 300) (by decide) rfl rfl rfl fl_X2_9 (Or.inr ⟨rfl, rfl, rfl⟩) dX2_init_6 ?_
  refine wp_run [(.aload_n 0, 1), (.aload_n 2, 1)] (pc' := 11) (L' := [(0, .inr (3, some i)), (1, .inl (.int ti)), (2, .inr (5, o)), (3, .inl (.int n)), (4, .inl (.int wk)), (5, .inl (.int en))]) (st' := [.inr (5, o), .inr (3, some i)]) ⟨dX2_init_9, dX2_init_10, trivial⟩ rfl rfl ?_
  refine wx_putR cls_3 (k := 1) (f := 301) (t := 5) (by decide) rfl rfl (Or.inr rfl) rfl fl_X2_15 (Or.inr ⟨rfl, rfl, rfl⟩) dX2_init_11 ?_
  refine wp_run [(.aload_n 0, 1), (.iload_n 3, 1)] (pc' := 16) (L' := [(0, .inr (3, some i)), (1, .inl (.int ti)), (2, .inr (5, o)), (3, .inl (.int n)), (4, .inl (.int wk)), (5, .inl (.int en))]) (st' := [.inl (.int n), .inr (3, some i)]) ⟨dX2_init_14, dX2_init_15, trivial⟩ rfl rfl ?_
  refine wx_putI cls_3 (k := 2) (f := 302) (by decide) rfl rfl rfl fl_X2_19 (Or.inr ⟨rfl, rfl, rfl⟩) dX2_init_16 ?_
  refine wp_run [(.aload_n 0, 1), (.iload 4, 2)] (pc' := 22) (L' := [(0, .inr (3, some i)), (1, .inl (.int ti)), (2, .inr (5, o)), (3, .inl (.int n)), (4, .inl (.int wk)), (5, .inl (.int en))]) (st' := [.inl (.int wk), .inr (3, some i)]) ⟨dX2_init_19, dX2_init_20, trivial⟩ rfl rfl ?_
  refine wx_putI cls_3 (k := 3) (f := 303) (by decide) rfl rfl rfl fl_X2_22 (Or.inr ⟨rfl, rfl, rfl⟩) dX2_init_22 ?_
  refine wp_run [(.aload_n 0, 1), (.iload 5, 2)] (pc' := 28) (L' := [(0, .inr (3, some i)), (1, .inl (.int ti)), (2, .inr (5, o)), (3, .inl (.int n)), (4, .inl (.int wk)), (5, .inl (.int en))]) (st' := [.inl (.int en), .inr (3, some i)]) ⟨dX2_init_25, dX2_init_26, trivial⟩ rfl rfl ?_
  refine wx_putI cls_3 (k := 4) (f := 304) (by decide) rfl rfl rfl fl_X2_25 (Or.inr ⟨rfl, rfl, rfl⟩) dX2_init_28 ?_
  exact wx_vret rfl rfl dX2_init_31 (by rw [F_X2_init]; exact ⟨trivial, rfl, rfl⟩)
def F_X0_init (h : Hp) (i : Nat) (j : Nat) (fa : Int32) (ma : Int32) : Hp := sFI (sFI (sFI (sFR h 100 i (some j)) 101 i fa) 102 i ma) 103 i 0
set_option maxRecDepth 20000 in
theorem c_X0_init {g : GT} {d : Nat} (hd : 1 ≤ d) {h : Hp} {i j : Nat} (fa : Int32) (ma : Int32)  : Ctr g M_X0_init d 0 0 [.inr (1, some i), .inr (3, some j), .inl (.int fa), .inl (.int ma)] h (cy_detP (.inl none) (F_X0_init h i j fa ma) (True)) := by
  refine cy_body rfl rfl (by decide) (Nat.le_of_ble_eq_true rfl) ?_
  refine wp_run [(.aload_n 0, 1)] (pc' := 1) (L' := [(0, .inr (1, some i)), (1, .inr (3, some j)), (2, .inl (.int fa)), (3, .inl (.int ma))]) (st' := [.inr (1, some i)]) ⟨dX0_init_0, trivial⟩ rfl rfl ?_
  refine wx_objInit ml_X0_3 obj_in obj_code (by omega) (Nat.le_of_ble_eq_true rfl) dX0_init_1 ?_
  refine wp_run [(.aload_n 0, 1), (.aload_n 1, 1)] (pc' := 6) (L' := [(0, .inr (1, some i)), (1, .inr (3, some j)), (2, .inl (.int fa)), (3, .inl (.int ma))]) (st' := [.inr (3, some j), .inr (1, some i)]) ⟨dX0_init_4, dX0_init_5, trivial⟩ rfl rfl ?_
  refine wx_putR cls_1 (k := 0) (f := 100) (t := 3) (by decide) rfl rfl (Or.inr rfl) rfl fl_X0_9 (Or.inr ⟨rfl, rfl, rfl⟩) dX0_init_6 ?_
  refine wp_run [(.aload_n 0, 1), (.iload_n 2, 1)] (pc' := 11) (L' := [(0, .inr (1, some i)), (1, .inr (3, some j)), (2, .inl (.int fa)), (3, .inl (.int ma))]) (st' := [.inl (.int fa), .inr (1, some i)]) ⟨dX0_init_9, dX0_init_10, trivial⟩ rfl rfl ?_
  refine wx_putI cls_1 (k := 1) (f := 101) (by decide) rfl rfl rfl fl_X0_15 (Or.inr ⟨rfl, rfl, rfl⟩) dX0_init_11 ?_
  refine wp_run [(.aload_n 0, 1), (.iload_n 3, 1)] (pc' := 16) (L' := [(0, .inr (1, some i)), (1, .inr (3, some j)), (2, .inl (.int fa)), (3, .inl (.int ma))]) (st' := [.inl (.int ma), .inr (1, some i)]) ⟨dX0_init_14, dX0_init_15, trivial⟩ rfl rfl ?_
  refine wx_putI cls_1 (k := 2) (f := 102) (by decide) rfl rfl rfl fl_X0_19 (Or.inr ⟨rfl, rfl, rfl⟩) dX0_init_16 ?_
  refine wp_run [(.aload_n 0, 1), (.iconst 0, 1)] (pc' := 21) (L' := [(0, .inr (1, some i)), (1, .inr (3, some j)), (2, .inl (.int fa)), (3, .inl (.int ma))]) (st' := [.inl (.int 0), .inr (1, some i)]) ⟨dX0_init_19, dX0_init_20, trivial⟩ rfl rfl ?_
  refine wx_putI cls_1 (k := 3) (f := 103) (by decide) rfl rfl rfl fl_X0_22 (Or.inl rfl) dX0_init_21 ?_
  exact wx_vret rfl rfl dX0_init_24 (by rw [F_X0_init]; exact ⟨trivial, rfl, rfl⟩)
def K_X5_rideTo_41 (h : Hp) (s : Int32) (k : Int32) (o : Option Nat) (i : Nat) (rec3 : Nat → (Option Nat × Hp)) (dy : Int32) : Option Nat × Hp := (rec3 (i + 1))
def B_X5_rideTo_41 (h : Hp) (s : Int32) (k : Int32) (o : Option Nat) (i : Nat) (rec3 : Nat → (Option Nat × Hp)) (kx : Int32 → (Option Nat × Hp)) (rec41 : Int32 → (Option Nat × Hp)) (dy : Int32) : Option Nat × Hp := (if (xFI h 607 0) < dy then (kx dy) else (if 100 ≤ dy then (kx dy) else (if (if (if (F_X7_goes h i dy) = 0 then (-1) else (F_X5_leavingPlace h i dy s (F_X5_arrivalAt h k s))) = (-1) then (-1) else (F_X5_boardingPlace h i dy (if (F_X7_goes h i dy) = 0 then (-1) else (F_X5_leavingPlace h i dy s (F_X5_arrivalAt h k s))) k)) = (-1) then (rec41 (dy + 1)) else (some (xCN h 5), F_X4_init (sNO h 5) (xCN h 5) i dy (if (if (F_X7_goes h i dy) = 0 then (-1) else (F_X5_leavingPlace h i dy s (F_X5_arrivalAt h k s))) = (-1) then (-1) else (F_X5_boardingPlace h i dy (if (F_X7_goes h i dy) = 0 then (-1) else (F_X5_leavingPlace h i dy s (F_X5_arrivalAt h k s))) k)) (if (F_X7_goes h i dy) = 0 then (-1) else (F_X5_leavingPlace h i dy s (F_X5_arrivalAt h k s))) o))))
def L_X5_rideTo_41 (h : Hp) (s : Int32) (k : Int32) (o : Option Nat) (i : Nat) (rec3 : Nat → (Option Nat × Hp)) (kx : Int32 → (Option Nat × Hp)) : Nat → Int32 → (Option Nat × Hp)
  | 0 => fun dy => (none, h)
  | fu + 1 => B_X5_rideTo_41 h s k o i rec3 kx (L_X5_rideTo_41 h s k o i rec3 kx fu)
theorem L_X5_rideTo_41_s (h : Hp) (s : Int32) (k : Int32) (o : Option Nat) (i : Nat) (rec3 : Nat → (Option Nat × Hp)) (kx : Int32 → (Option Nat × Hp)) (fu : Nat) (dy : Int32) : L_X5_rideTo_41 h s k o i rec3 kx (fu + 1) dy = B_X5_rideTo_41 h s k o i rec3 kx (L_X5_rideTo_41 h s k o i rec3 kx fu) dy := rfl
def B_X5_rideTo_3 (h : Hp) (s : Int32) (k : Int32) (o : Option Nat) (rec3 : Nat → (Option Nat × Hp)) (i : Nat) : Option Nat × Hp := (if (nI (xLS h 11)) ≤ (nI i) then (none, h) else L_X5_rideTo_41 h s k o i rec3 (K_X5_rideTo_41 h s k o i rec3) ((2147483647 - (xFI h 606 0).toInt).toNat + 1) (xFI h 606 0))
def L_X5_rideTo_3 (h : Hp) (s : Int32) (k : Int32) (o : Option Nat) : Nat → Nat → (Option Nat × Hp)
  | 0 => fun i => (none, h)
  | fu + 1 => B_X5_rideTo_3 h s k o (L_X5_rideTo_3 h s k o fu)
theorem L_X5_rideTo_3_s (h : Hp) (s : Int32) (k : Int32) (o : Option Nat) (fu : Nat) (i : Nat) : L_X5_rideTo_3 h s k o (fu + 1) i = B_X5_rideTo_3 h s k o (L_X5_rideTo_3 h s k o fu) i := rfl
def F_X5_rideTo (h : Hp) (s : Int32) (k : Int32) (o : Option Nat) : Option Nat × Hp := L_X5_rideTo_3 h s k o (2147483648 - 0 + 1) 0
set_option maxRecDepth 20000 in
theorem c_X5_rideTo {g : GT} {d : Nat} (hd : 7 ≤ d) {h : Hp} (W : CW h) {o : Option Nat} (s : Int32) (k : Int32)  : Ctr g M_X5_rideTo d 1 6 [.inr (6, some 0), .inl (.int s), .inl (.int k), .inr (5, o)] h (cy_detP (.inl (some (.inr (5, (F_X5_rideTo h s k o).1)))) (F_X5_rideTo h s k o).2 (True)) := by
  refine cy_bodyO rfl rfl (by decide) (Nat.le_of_ble_eq_true rfl) ?_
  refine wp_run [(.iconst 0, 1), (.istore 4, 2)] (pc' := 3) (L' := [(4, .inl (.int 0)), (0, .inr (6, some 0)), (1, .inl (.int s)), (2, .inl (.int k)), (3, .inr (5, o))]) (st' := []) ⟨dX5_rideTo_0, dX5_rideTo_1, trivial⟩ rfl rfl ?_
  rw [F_X5_rideTo]
  refine wp_sub [0, 1, 2, 3, 4] (L' := [(4, .inl (.int 0)), (0, .inr (6, some 0)), (1, .inl (.int s)), (2, .inl (.int k)), (3, .inr (5, o))]) rfl ?_
  suffices Y3 : ∀ (n3 : Nat) (i : Nat) (hii : i < 2147483648) (hm3 : 2147483648 - i < n3), WP g M_X5_rideTo d 1 6 3 [(4, .inl (.int (nI i))), (0, .inr (6, some 0)), (1, .inl (.int s)), (2, .inl (.int k)), (3, .inr (5, o))] [] h (cy_detP (.inl (some (.inr (5, (L_X5_rideTo_3 h s k o n3 i).1)))) (L_X5_rideTo_3 h s k o n3 i).2 (True)) from
    Y3 (2147483648 - 0 + 1) 0 (by decide) (Nat.lt_succ_self _)
  intro n3
  induction n3 with
  | zero => intro i hii hm3; exact absurd hm3 (Nat.not_lt_zero _)
  | succ n3 ih3 =>
    intro i hii hm3
    rw [L_X5_rideTo_3_s]
    generalize L_X5_rideTo_3 h s k o n3 = rec3 at ih3 ⊢
    refine wp_run [(.iload 4, 2), (.aload_n 0, 1)] (pc' := 6) (L' := [(4, .inl (.int (nI i))), (0, .inr (6, some 0)), (1, .inl (.int s)), (2, .inl (.int k)), (3, .inr (5, o))]) (st' := [.inr (6, some 0), .inl (.int (nI i))]) ⟨dX5_rideTo_3, dX5_rideTo_5, trivial⟩ rfl rfl ?_
    refine wx_getR cls_6 (k := 0) (f := 600) (t := 4) (o := some 0) (by decide) rfl rfl fl_X5_18 (W.fr (f := 600) (by decide)) dX5_rideTo_6 ?_
    refine wx_getR cls_4 (k := 2) (f := 402) (t := 11) (o := some 0) (by decide) rfl rfl fl_X5_75 (W.fr (f := 402) (by decide)) dX5_rideTo_9 ?_
    refine wx_virtualL (M := M_X5_rideTo) (uc := 1) (us := 6) (s := 11) (i := 0) (As := []) (rest := [.inl (.int (nI i))]) rfl rfl (ok_Jx4a65c_size_8abf5 _ _) ml_X5_79 im_Jx4a65c_size_8abf5 se_Jx4a65c_size_8abf5 (by omega) (c_size (d := d - 1) (by omega) (s := 11) rfl) rfl rfl (Nat.le_of_ble_eq_true rfl) dX5_rideTo_12 ?_
    refine wx_icmp_ge (tgt := 146) dX5_rideTo_15 (by decide) (fun h_1 => ?_) (fun h_1 => ?_)
    · refine wx_null (s := 5) (by decide) dX5_rideTo_146 ?_
      exact wx_aret rfl rfl dX5_rideTo_147 (by rw [B_X5_rideTo_3, if_pos h_1]; dsimp only; exact ⟨trivial, rfl, rfl⟩)
    · refine wp_run [(.aload_n 0, 1)] (pc' := 19) (L' := [(4, .inl (.int (nI i))), (0, .inr (6, some 0)), (1, .inl (.int s)), (2, .inl (.int k)), (3, .inr (5, o))]) (st' := [.inr (6, some 0)]) ⟨dX5_rideTo_18, trivial⟩ rfl rfl ?_
      refine wx_getR cls_6 (k := 0) (f := 600) (t := 4) (o := some 0) (by decide) rfl rfl fl_X5_18 (W.fr (f := 600) (by decide)) dX5_rideTo_19 ?_
      refine wx_getR cls_4 (k := 2) (f := 402) (t := 11) (o := some 0) (by decide) rfl rfl fl_X5_75 (W.fr (f := 402) (by decide)) dX5_rideTo_22 ?_
      refine wp_run [(.iload 4, 2)] (pc' := 27) (L' := [(4, .inl (.int (nI i))), (0, .inr (6, some 0)), (1, .inl (.int s)), (2, .inl (.int k)), (3, .inr (5, o))]) (st' := [.inl (.int (nI i)), .inr (11, some 0)]) ⟨dX5_rideTo_25, trivial⟩ rfl rfl ?_
      have hl_2 := cy_get hii (Nat.le_trans W.t20 (Nat.le_of_ble_eq_true rfl)) h_1
      refine wx_virtualL (M := M_X5_rideTo) (uc := 1) (us := 6) (s := 11) (i := 0) (As := [.inl (.int (nI i))]) (rest := []) rfl rfl (ok_Jx4a65c_get_915e3 _ _) ml_X5_85 im_Jx4a65c_get_915e3 se_Jx4a65c_get_915e3 (by omega) (det_to (c_get (d := d - 1) (by omega) (s := 11) (i := i) rfl hl_2 rfl) (by rw [W.tle hl_2]) rfl) rfl rfl (Nat.le_of_ble_eq_true rfl) dX5_rideTo_27 ?_
      refine wx_cast cls_8 cl_X5_89 dX5_rideTo_30 ?_
      refine wp_run [(.astore 5, 2), (.aload_n 0, 1)] (pc' := 36) (L' := [(5, .inr (8, some i)), (4, .inl (.int (nI i))), (0, .inr (6, some 0)), (1, .inl (.int s)), (2, .inl (.int k)), (3, .inr (5, o))]) (st' := [.inr (6, some 0)]) ⟨dX5_rideTo_33, dX5_rideTo_35, trivial⟩ rfl rfl ?_
      refine wx_getI cls_6 (k := 6) (f := 606) (by decide) rfl rfl fl_X5_36 dX5_rideTo_36 ?_
      refine wp_run [(.istore 6, 2)] (pc' := 41) (L' := [(6, .inl (.int (xFI h 606 0))), (5, .inr (8, some i)), (4, .inl (.int (nI i))), (0, .inr (6, some 0)), (1, .inl (.int s)), (2, .inl (.int k)), (3, .inr (5, o))]) (st' := []) ⟨dX5_rideTo_39, trivial⟩ rfl rfl ?_
      rw [B_X5_rideTo_3, if_neg h_1]
      refine wp_sub [0, 1, 2, 3, 4, 5, 6] (L' := [(6, .inl (.int (xFI h 606 0))), (5, .inr (8, some i)), (4, .inl (.int (nI i))), (0, .inr (6, some 0)), (1, .inl (.int s)), (2, .inl (.int k)), (3, .inr (5, o))]) rfl ?_
      have X41 : ∀ (dy : Int32)  , WP g M_X5_rideTo d 1 6 140 [(4, .inl (.int (nI i))), (0, .inr (6, some 0)), (1, .inl (.int s)), (2, .inl (.int k)), (3, .inr (5, o))] [] h (cy_detP (.inl (some (.inr (5, (K_X5_rideTo_41 h s k o i rec3 dy).1)))) (K_X5_rideTo_41 h s k o i rec3 dy).2 (True)) := by
        intro dy 
        refine wp_run [(.iinc 4 1, 3)] (pc' := 143) (L' := [(4, .inl (.int ((nI i) + 1))), (0, .inr (6, some 0)), (1, .inl (.int s)), (2, .inl (.int k)), (3, .inr (5, o))]) (st' := []) ⟨dX5_rideTo_140, trivial⟩ rfl rfl ?_
        refine wx_goto (tgt := 3) dX5_rideTo_143 (by decide) ?_
        rw [K_X5_rideTo_41]
        rw [nI_1 i]
        refine wp_sub [0, 1, 2, 3, 4] (L' := [(4, .inl (.int (nI (i + 1)))), (0, .inr (6, some 0)), (1, .inl (.int s)), (2, .inl (.int k)), (3, .inr (5, o))]) rfl ?_
        exact ih3 _ (cy_nlt hii h_1).2 (by have := (cy_nlt hii h_1).2; omega)
      suffices Y41 : ∀ (n41 : Nat) (dy : Int32)  (hm41 : (2147483647 - dy.toInt).toNat < n41), WP g M_X5_rideTo d 1 6 41 [(6, .inl (.int dy)), (5, .inr (8, some i)), (4, .inl (.int (nI i))), (0, .inr (6, some 0)), (1, .inl (.int s)), (2, .inl (.int k)), (3, .inr (5, o))] [] h (cy_detP (.inl (some (.inr (5, (L_X5_rideTo_41 h s k o i rec3 (K_X5_rideTo_41 h s k o i rec3) n41 dy).1)))) (L_X5_rideTo_41 h s k o i rec3 (K_X5_rideTo_41 h s k o i rec3) n41 dy).2 (True)) from
        Y41 ((2147483647 - (xFI h 606 0).toInt).toNat + 1) (xFI h 606 0)  (Nat.lt_succ_self _)
      intro n41
      induction n41 with
      | zero => intro dy  hm41; exact absurd hm41 (Nat.not_lt_zero _)
      | succ n41 ih41 =>
        intro dy  hm41
        rw [L_X5_rideTo_41_s]
        generalize L_X5_rideTo_41 h s k o i rec3 (K_X5_rideTo_41 h s k o i rec3) n41 = rec41 at ih41 ⊢
        refine wp_run [(.iload 6, 2), (.aload_n 0, 1)] (pc' := 44) (L' := [(6, .inl (.int dy)), (5, .inr (8, some i)), (4, .inl (.int (nI i))), (0, .inr (6, some 0)), (1, .inl (.int s)), (2, .inl (.int k)), (3, .inr (5, o))]) (st' := [.inr (6, some 0), .inl (.int dy)]) ⟨dX5_rideTo_41, dX5_rideTo_43, trivial⟩ rfl rfl ?_
        refine wx_getI cls_6 (k := 7) (f := 607) (by decide) rfl rfl fl_X5_42 dX5_rideTo_44 ?_
        refine wx_icmp_gt (tgt := 140) dX5_rideTo_47 (by decide) (fun h_3 => ?_) (fun h_3 => ?_)
        · rw [B_X5_rideTo_41, if_pos h_3]
          refine wp_sub [2, 3, 4, 5, 6] (L' := [(4, .inl (.int (nI i))), (0, .inr (6, some 0)), (1, .inl (.int s)), (2, .inl (.int k)), (3, .inr (5, o))]) rfl ?_
          exact X41 _
        · refine wp_run [(.iload 6, 2), (.bipush 100, 2)] (pc' := 54) (L' := [(6, .inl (.int dy)), (5, .inr (8, some i)), (4, .inl (.int (nI i))), (0, .inr (6, some 0)), (1, .inl (.int s)), (2, .inl (.int k)), (3, .inr (5, o))]) (st' := [.inl (.int 100), .inl (.int dy)]) ⟨dX5_rideTo_50, dX5_rideTo_52, trivial⟩ rfl rfl ?_
          refine wx_icmp_ge (tgt := 140) dX5_rideTo_54 (by decide) (fun h_4 => ?_) (fun h_4 => ?_)
          · rw [B_X5_rideTo_41, if_neg h_3, if_pos h_4]
            refine wp_sub [2, 3, 4, 5, 6] (L' := [(4, .inl (.int (nI i))), (0, .inr (6, some 0)), (1, .inl (.int s)), (2, .inl (.int k)), (3, .inr (5, o))]) rfl ?_
            exact X41 _
          · refine wp_run [(.aload 5, 2), (.iload 6, 2)] (pc' := 61) (L' := [(6, .inl (.int dy)), (5, .inr (8, some i)), (4, .inl (.int (nI i))), (0, .inr (6, some 0)), (1, .inl (.int s)), (2, .inl (.int k)), (3, .inr (5, o))]) (st' := [.inl (.int dy), .inr (8, some i)]) ⟨dX5_rideTo_57, dX5_rideTo_59, trivial⟩ rfl rfl ?_
            refine wx_virtualD (M := M_X5_rideTo) (uc := 1) (us := 6) (s := 8) (i := i) (As := [.inl (.int dy)]) (rest := []) cls_8 rfl (ok_X7_goes _ _) ml_X5_91 im_X7_goes se_X7_goes (by omega) (c_X7_goes (d := d - 1) (h := h) (by omega) W hl_2 dy) rfl rfl (Nat.le_of_ble_eq_true rfl) dX5_rideTo_61 ?_
            refine wp_by (uc' := 1) (us' := 6) (pc' := 86) (L' := [(6, .inl (.int dy)), (5, .inr (8, some i)), (4, .inl (.int (nI i))), (0, .inr (6, some 0)), (1, .inl (.int s)), (2, .inl (.int k)), (3, .inr (5, o))]) (st' := [.inl (.int (if (F_X7_goes h i dy) = 0 then (-1) else (F_X5_leavingPlace h i dy s (F_X5_arrivalAt h k s))))]) (h' := h) (fun J_5 => ?_) ?_
            · refine wx_if_eq (tgt := 85) dX5_rideTo_64 (by decide) (fun h_6 => ?_) (fun h_6 => ?_)
              · refine wp_run [(.iconst (-1), 1)] (pc' := 86) (L' := [(6, .inl (.int dy)), (5, .inr (8, some i)), (4, .inl (.int (nI i))), (0, .inr (6, some 0)), (1, .inl (.int s)), (2, .inl (.int k)), (3, .inr (5, o))]) (st' := [.inl (.int (-1))]) ⟨dX5_rideTo_85, trivial⟩ rfl rfl ?_
                refine wp_sub [0, 1, 2, 3, 4, 5, 6] (L' := [(6, .inl (.int dy)), (5, .inr (8, some i)), (4, .inl (.int (nI i))), (0, .inr (6, some 0)), (1, .inl (.int s)), (2, .inl (.int k)), (3, .inr (5, o))]) rfl ?_
                simp only [if_pos h_6] at J_5
                exact J_5
              · refine wp_run [(.aload_n 0, 1), (.aload 5, 2), (.iload 6, 2), (.iload_n 1, 1), (.aload_n 0, 1), (.iload_n 2, 1), (.iload_n 1, 1)] (pc' := 76) (L' := [(6, .inl (.int dy)), (5, .inr (8, some i)), (4, .inl (.int (nI i))), (0, .inr (6, some 0)), (1, .inl (.int s)), (2, .inl (.int k)), (3, .inr (5, o))]) (st' := [.inl (.int s), .inl (.int k), .inr (6, some 0), .inl (.int s), .inl (.int dy), .inr (8, some i), .inr (6, some 0)]) ⟨dX5_rideTo_67, dX5_rideTo_68, dX5_rideTo_70, dX5_rideTo_72, dX5_rideTo_73, dX5_rideTo_74, dX5_rideTo_75, trivial⟩ rfl rfl ?_
                refine wx_virtualD (M := M_X5_rideTo) (uc := 1) (us := 6) (s := 6) (i := 0) (As := [.inl (.int k), .inl (.int s)]) (rest := [.inl (.int s), .inl (.int dy), .inr (8, some i), .inr (6, some 0)]) cls_6 rfl (ok_X5_arrivalAt _ _) ml_X5_104 im_X5_arrivalAt se_X5_arrivalAt (by omega) (c_X5_arrivalAt (d := d - 1) (h := h) (by omega) W k s) rfl rfl (Nat.le_of_ble_eq_true rfl) dX5_rideTo_76 ?_
                refine wx_virtualD (M := M_X5_rideTo) (uc := 1) (us := 6) (s := 6) (i := 0) (As := [.inr (8, some i), .inl (.int dy), .inl (.int s), .inl (.int (F_X5_arrivalAt h k s))]) (rest := []) cls_6 rfl (ok_X5_leavingPlace _ _) ml_X5_165 im_X5_leavingPlace se_X5_leavingPlace (by omega) (c_X5_leavingPlace (d := d - 1) (h := h) (by omega) W hl_2 dy s (F_X5_arrivalAt h k s)) rfl rfl (Nat.le_of_ble_eq_true rfl) dX5_rideTo_79 ?_
                refine wx_goto (tgt := 86) dX5_rideTo_82 (by decide) ?_
                refine wp_sub [0, 1, 2, 3, 4, 5, 6] (L' := [(6, .inl (.int dy)), (5, .inr (8, some i)), (4, .inl (.int (nI i))), (0, .inr (6, some 0)), (1, .inl (.int s)), (2, .inl (.int k)), (3, .inr (5, o))]) rfl ?_
                simp only [if_neg h_6] at J_5
                exact J_5
            refine wp_run [(.istore 7, 2), (.iload 7, 2), (.iconst (-1), 1)] (pc' := 91) (L' := [(7, .inl (.int (if (F_X7_goes h i dy) = 0 then (-1) else (F_X5_leavingPlace h i dy s (F_X5_arrivalAt h k s))))), (6, .inl (.int dy)), (5, .inr (8, some i)), (4, .inl (.int (nI i))), (0, .inr (6, some 0)), (1, .inl (.int s)), (2, .inl (.int k)), (3, .inr (5, o))]) (st' := [.inl (.int (-1)), .inl (.int (if (F_X7_goes h i dy) = 0 then (-1) else (F_X5_leavingPlace h i dy s (F_X5_arrivalAt h k s))))]) ⟨dX5_rideTo_86, dX5_rideTo_88, dX5_rideTo_90, trivial⟩ rfl rfl ?_
            refine wp_by (uc' := 1) (us' := 6) (pc' := 109) (L' := [(7, .inl (.int (if (F_X7_goes h i dy) = 0 then (-1) else (F_X5_leavingPlace h i dy s (F_X5_arrivalAt h k s))))), (6, .inl (.int dy)), (5, .inr (8, some i)), (4, .inl (.int (nI i))), (0, .inr (6, some 0)), (1, .inl (.int s)), (2, .inl (.int k)), (3, .inr (5, o))]) (st' := [.inl (.int (if (if (F_X7_goes h i dy) = 0 then (-1) else (F_X5_leavingPlace h i dy s (F_X5_arrivalAt h k s))) = (-1) then (-1) else (F_X5_boardingPlace h i dy (if (F_X7_goes h i dy) = 0 then (-1) else (F_X5_leavingPlace h i dy s (F_X5_arrivalAt h k s))) k)))]) (h' := h) (fun J_7 => ?_) ?_
            · refine wx_icmp_ne (tgt := 98) dX5_rideTo_91 (by decide) (fun h_8 => ?_) (fun h_8 => ?_)
              · refine wp_run [(.aload_n 0, 1), (.aload 5, 2), (.iload 6, 2), (.iload 7, 2), (.iload_n 2, 1)] (pc' := 106) (L' := [(7, .inl (.int (if (F_X7_goes h i dy) = 0 then (-1) else (F_X5_leavingPlace h i dy s (F_X5_arrivalAt h k s))))), (6, .inl (.int dy)), (5, .inr (8, some i)), (4, .inl (.int (nI i))), (0, .inr (6, some 0)), (1, .inl (.int s)), (2, .inl (.int k)), (3, .inr (5, o))]) (st' := [.inl (.int k), .inl (.int (if (F_X7_goes h i dy) = 0 then (-1) else (F_X5_leavingPlace h i dy s (F_X5_arrivalAt h k s)))), .inl (.int dy), .inr (8, some i), .inr (6, some 0)]) ⟨dX5_rideTo_98, dX5_rideTo_99, dX5_rideTo_101, dX5_rideTo_103, dX5_rideTo_105, trivial⟩ rfl rfl ?_
                refine wx_virtualD (M := M_X5_rideTo) (uc := 1) (us := 6) (s := 6) (i := 0) (As := [.inr (8, some i), .inl (.int dy), .inl (.int (if (F_X7_goes h i dy) = 0 then (-1) else (F_X5_leavingPlace h i dy s (F_X5_arrivalAt h k s)))), .inl (.int k)]) (rest := []) cls_6 rfl (ok_X5_boardingPlace _ _) ml_X5_169 im_X5_boardingPlace se_X5_boardingPlace (by omega) (c_X5_boardingPlace (d := d - 1) (h := h) (by omega) W hl_2 dy (if (F_X7_goes h i dy) = 0 then (-1) else (F_X5_leavingPlace h i dy s (F_X5_arrivalAt h k s))) k) rfl rfl (Nat.le_of_ble_eq_true rfl) dX5_rideTo_106 ?_
                refine wp_sub [0, 1, 2, 3, 4, 5, 6, 7] (L' := [(7, .inl (.int (if (F_X7_goes h i dy) = 0 then (-1) else (F_X5_leavingPlace h i dy s (F_X5_arrivalAt h k s))))), (6, .inl (.int dy)), (5, .inr (8, some i)), (4, .inl (.int (nI i))), (0, .inr (6, some 0)), (1, .inl (.int s)), (2, .inl (.int k)), (3, .inr (5, o))]) rfl ?_
                simp only [if_neg h_8] at J_7
                exact J_7
              · refine wp_run [(.iconst (-1), 1)] (pc' := 95) (L' := [(7, .inl (.int (if (F_X7_goes h i dy) = 0 then (-1) else (F_X5_leavingPlace h i dy s (F_X5_arrivalAt h k s))))), (6, .inl (.int dy)), (5, .inr (8, some i)), (4, .inl (.int (nI i))), (0, .inr (6, some 0)), (1, .inl (.int s)), (2, .inl (.int k)), (3, .inr (5, o))]) (st' := [.inl (.int (-1))]) ⟨dX5_rideTo_94, trivial⟩ rfl rfl ?_
                refine wx_goto (tgt := 109) dX5_rideTo_95 (by decide) ?_
                refine wp_sub [0, 1, 2, 3, 4, 5, 6, 7] (L' := [(7, .inl (.int (if (F_X7_goes h i dy) = 0 then (-1) else (F_X5_leavingPlace h i dy s (F_X5_arrivalAt h k s))))), (6, .inl (.int dy)), (5, .inr (8, some i)), (4, .inl (.int (nI i))), (0, .inr (6, some 0)), (1, .inl (.int s)), (2, .inl (.int k)), (3, .inr (5, o))]) rfl ?_
                simp only [if_pos h_8] at J_7
                exact J_7
            refine wp_run [(.istore 8, 2), (.iload 8, 2), (.iconst (-1), 1)] (pc' := 114) (L' := [(8, .inl (.int (if (if (F_X7_goes h i dy) = 0 then (-1) else (F_X5_leavingPlace h i dy s (F_X5_arrivalAt h k s))) = (-1) then (-1) else (F_X5_boardingPlace h i dy (if (F_X7_goes h i dy) = 0 then (-1) else (F_X5_leavingPlace h i dy s (F_X5_arrivalAt h k s))) k)))), (7, .inl (.int (if (F_X7_goes h i dy) = 0 then (-1) else (F_X5_leavingPlace h i dy s (F_X5_arrivalAt h k s))))), (6, .inl (.int dy)), (5, .inr (8, some i)), (4, .inl (.int (nI i))), (0, .inr (6, some 0)), (1, .inl (.int s)), (2, .inl (.int k)), (3, .inr (5, o))]) (st' := [.inl (.int (-1)), .inl (.int (if (if (F_X7_goes h i dy) = 0 then (-1) else (F_X5_leavingPlace h i dy s (F_X5_arrivalAt h k s))) = (-1) then (-1) else (F_X5_boardingPlace h i dy (if (F_X7_goes h i dy) = 0 then (-1) else (F_X5_leavingPlace h i dy s (F_X5_arrivalAt h k s))) k)))]) ⟨dX5_rideTo_109, dX5_rideTo_111, dX5_rideTo_113, trivial⟩ rfl rfl ?_
            refine wx_icmp_eq (tgt := 134) dX5_rideTo_114 (by decide) (fun h_9 => ?_) (fun h_9 => ?_)
            · refine wp_run [(.iinc 6 1, 3)] (pc' := 137) (L' := [(6, .inl (.int (dy + 1))), (8, .inl (.int (if (if (F_X7_goes h i dy) = 0 then (-1) else (F_X5_leavingPlace h i dy s (F_X5_arrivalAt h k s))) = (-1) then (-1) else (F_X5_boardingPlace h i dy (if (F_X7_goes h i dy) = 0 then (-1) else (F_X5_leavingPlace h i dy s (F_X5_arrivalAt h k s))) k)))), (7, .inl (.int (if (F_X7_goes h i dy) = 0 then (-1) else (F_X5_leavingPlace h i dy s (F_X5_arrivalAt h k s))))), (5, .inr (8, some i)), (4, .inl (.int (nI i))), (0, .inr (6, some 0)), (1, .inl (.int s)), (2, .inl (.int k)), (3, .inr (5, o))]) (st' := []) ⟨dX5_rideTo_134, trivial⟩ rfl rfl ?_
              refine wx_goto (tgt := 41) dX5_rideTo_137 (by decide) ?_
              rw [B_X5_rideTo_41, if_neg h_3, if_neg h_4, if_pos h_9]
              refine wp_sub [0, 3, 4, 5, 6, 7, 8] (L' := [(6, .inl (.int (dy + 1))), (5, .inr (8, some i)), (4, .inl (.int (nI i))), (0, .inr (6, some 0)), (1, .inl (.int s)), (2, .inl (.int k)), (3, .inr (5, o))]) rfl ?_
              exact ih41 _ (Nat.lt_of_lt_of_le (cy_up h_4) (Nat.le_of_lt_succ hm41))
            · refine wx_newC (s := 5) (h := h) (uc := 0) (us := 0) (i := (xCN h 5)) rfl cls_5 cl_X5_157 in_5 ini_5 dX5_rideTo_117 ?_
              refine wp_run [(.dup, 1), (.aload 5, 2), (.iload 6, 2), (.iload 8, 2), (.iload 7, 2), (.aload_n 3, 1)] (pc' := 130) (L' := [(8, .inl (.int (if (if (F_X7_goes h i dy) = 0 then (-1) else (F_X5_leavingPlace h i dy s (F_X5_arrivalAt h k s))) = (-1) then (-1) else (F_X5_boardingPlace h i dy (if (F_X7_goes h i dy) = 0 then (-1) else (F_X5_leavingPlace h i dy s (F_X5_arrivalAt h k s))) k)))), (7, .inl (.int (if (F_X7_goes h i dy) = 0 then (-1) else (F_X5_leavingPlace h i dy s (F_X5_arrivalAt h k s))))), (6, .inl (.int dy)), (5, .inr (8, some i)), (4, .inl (.int (nI i))), (0, .inr (6, some 0)), (1, .inl (.int s)), (2, .inl (.int k)), (3, .inr (5, o))]) (st' := [.inr (5, o), .inl (.int (if (F_X7_goes h i dy) = 0 then (-1) else (F_X5_leavingPlace h i dy s (F_X5_arrivalAt h k s)))), .inl (.int (if (if (F_X7_goes h i dy) = 0 then (-1) else (F_X5_leavingPlace h i dy s (F_X5_arrivalAt h k s))) = (-1) then (-1) else (F_X5_boardingPlace h i dy (if (F_X7_goes h i dy) = 0 then (-1) else (F_X5_leavingPlace h i dy s (F_X5_arrivalAt h k s))) k))), .inl (.int dy), .inr (8, some i), .inr (5, some (xCN h 5)), .inr (5, some (xCN h 5))]) ⟨dX5_rideTo_120, dX5_rideTo_121, dX5_rideTo_123, dX5_rideTo_125, dX5_rideTo_127, dX5_rideTo_129, trivial⟩ rfl rfl ?_
              refine wx_ctorDP (M := M_X5_rideTo) (uc := 0) (us := 0) (s := 5) (i := (xCN h 5)) (As := [.inr (8, some i), .inl (.int dy), .inl (.int (if (if (F_X7_goes h i dy) = 0 then (-1) else (F_X5_leavingPlace h i dy s (F_X5_arrivalAt h k s))) = (-1) then (-1) else (F_X5_boardingPlace h i dy (if (F_X7_goes h i dy) = 0 then (-1) else (F_X5_leavingPlace h i dy s (F_X5_arrivalAt h k s))) k))), .inl (.int (if (F_X7_goes h i dy) = 0 then (-1) else (F_X5_leavingPlace h i dy s (F_X5_arrivalAt h k s)))), .inr (5, o)]) (rest := [.inr (5, some (xCN h 5))]) (ok_X4_init _ _) rfl rfl ml_X5_172 im_X4_init (by omega) (c_X4_init (d := d - 1) (h := (sNO h 5)) (by omega) dy (if (if (F_X7_goes h i dy) = 0 then (-1) else (F_X5_leavingPlace h i dy s (F_X5_arrivalAt h k s))) = (-1) then (-1) else (F_X5_boardingPlace h i dy (if (F_X7_goes h i dy) = 0 then (-1) else (F_X5_leavingPlace h i dy s (F_X5_arrivalAt h k s))) k)) (if (F_X7_goes h i dy) = 0 then (-1) else (F_X5_leavingPlace h i dy s (F_X5_arrivalAt h k s)))) rfl rfl (Nat.le_of_ble_eq_true rfl) dX5_rideTo_130 (fun hS_10 => ?_)
              exact wx_aret rfl rfl dX5_rideTo_133 (by rw [B_X5_rideTo_41, if_neg h_3, if_neg h_4, if_neg h_9]; dsimp only; exact ⟨trivial, rfl, rfl⟩)
