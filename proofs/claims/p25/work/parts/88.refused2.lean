/-! ===== own: the law's refused ===== -/
theorem lg_self (x : Int64) : lg_cmp x x = 0 := by
  unfold lg_cmp
  simp
set_option maxRecDepth 4000 in
theorem c_refused {g : GT} {d : Nat} (hd : 18 ≤ d) {h : Hp} {D S : Nat → Int32} {N : Nat} (I : IV h D) : CL g M_L_refused d 1500 9500 [.inr (1, some 0), .inr (3, some 0)] (h, h, D, S, N) (cl_det (.inl (some (.inl (.int 1)))) (h, h, D, S, N)) := by
  obtain ⟨n, n10, hn, d0⟩ := I.d0
  have d1 : D 1 = nI (xLS h 11) := I.2.2.2.2.1
  have d2 : D 2 = nI (xLS h 12) := I.2.2.2.2.2.1
  have h20 := I.W.t20
  have h30 := I.W.b30
  have noS : ¬ okS h 10 := no_S (k := 10) hn n10 (by omega) (by decide)
  have noT : ¬ okT h 20 := no_T (k := 20) I.W (by omega) (by decide)
  have noB : ¬ okB h 30 := no_B (k := 30) I.W (by omega) (by decide)
  obtain ⟨vA, va⟩ := c_all I
  refine cl_body rfl rfl (by decide) (Nat.le_of_ble_eq_true rfl) ?_
  refine wq_run [(.aload_n 0, 1), (.aload_n 1, 1)] (pc' := 2) (L' := [(0, .inr (1, some 0)), (1, .inr (3, some 0))]) (st' := [.inr (3, some 0), .inr (1, some 0)]) ⟨dL_refused_0, dL_refused_1, trivial⟩ rfl rfl ?_
  refine wl_static (M := M_L_refused) (uc := 950) (us := 6400) (bc := 550) (bs := 3100) (As := [.inr (1, some 0), .inr (3, some 0)]) (rest := []) (ok_L_all _ _) ml_L_131 st_L_all (by omega) (va (d := d - 1) (q := 1) (.inl rfl) (by omega)) rfl rfl (Nat.le_of_ble_eq_true rfl) dL_refused_2 (fun r9 h9 e9 => ?_) (fun E9 h9 e9 => nomatch e9.1)
  obtain ⟨e9, rfl⟩ := e9
  cases e9
  refine wl_lstore_n dL_refused_5 (by decide) ?_
  refine wq_sub [0, 1, 2] (L' := [(2, .inl (.long vA)), (0, .inr (1, some 0)), (1, .inr (3, some 0))]) rfl ?_
  refine wq_run [(.aload_n 0, 1), (.iconst 0, 1), (.bipush 61, 2), (.iconst 0, 1), (.iconst 0, 1), (.iconst 0, 1)] (pc' := 13) (L' := [(2, .inl (.long vA)), (0, .inr (1, some 0)), (1, .inr (3, some 0))]) (st' := [.inl (.int 0), .inl (.int 0), .inl (.int 0), .inl (.int 61), .inl (.int 0), .inr (1, some 0)]) ⟨dL_refused_6, dL_refused_7, dL_refused_8, dL_refused_10, dL_refused_11, dL_refused_12, trivial⟩ rfl rfl ?_
  refine wl_staticH (M := M_L_refused) (uc := 948) (us := 6388) (bc := 2) (bs := 12) (As := [.inr (1, some 0), .inl (.int 0), .inl (.int 61), .inl (.int 0), .inl (.int 0), .inl (.int 0)]) (rest := []) okH_call.1 okH_call.2.1 okH_call.2.2.1 okH_call.2.2.2.1 okH_call.2.2.2.2.1 okH_call.2.2.2.2.2 ml_L_113 st_L_call (by omega) (a_stop (d := d - 1) (by omega) I.1 61 0 0 0 (rf_stop (h := h) 61 (by decide)).2) rfl rfl (Nat.le_of_ble_eq_true rfl) dL_refused_13 (fun r9 h9 e9 => ?_) (fun E9 h9 e9 => nomatch e9.1)
  obtain ⟨e9, rfl⟩ := e9
  cases e9
  rw [(rf_stop (h := h) 61 (by decide)).1]
  refine wl_ldc kc_L_20 dL_refused_16 ?_
  refine wl_icmp_ne (tgt := 237) dL_refused_18 (by decide) (fun h => absurd h (by decide)) (fun _ => ?_)
  refine wq_run [(.aload_n 0, 1), (.iconst 1, 1), (.bipush 10, 2), (.iconst 0, 1), (.iconst 5, 1), (.iconst 0, 1)] (pc' := 28) (L' := [(2, .inl (.long vA)), (0, .inr (1, some 0)), (1, .inr (3, some 0))]) (st' := [.inl (.int 0), .inl (.int 5), .inl (.int 0), .inl (.int 10), .inl (.int 1), .inr (1, some 0)]) ⟨dL_refused_21, dL_refused_22, dL_refused_23, dL_refused_25, dL_refused_26, dL_refused_27, trivial⟩ rfl rfl ?_
  refine wl_staticH (M := M_L_refused) (uc := 944) (us := 6364) (bc := 4) (bs := 24) (As := [.inr (1, some 0), .inl (.int 1), .inl (.int 10), .inl (.int 0), .inl (.int 5), .inl (.int 0)]) (rest := []) okH_call.1 okH_call.2.1 okH_call.2.2.1 okH_call.2.2.2.1 okH_call.2.2.2.2.1 okH_call.2.2.2.2.2 ml_L_113 st_L_call (by omega) (a_footway (d := d - 1) (by omega) I.1 10 0 5 0 (rf_footway (h := h) 10 0 5 noS).2) rfl rfl (Nat.le_of_ble_eq_true rfl) dL_refused_28 (fun r9 h9 e9 => ?_) (fun E9 h9 e9 => nomatch e9.1)
  obtain ⟨e9, rfl⟩ := e9
  cases e9
  rw [(rf_footway (h := h) 10 0 5 noS).1]
  refine wl_ldc kc_L_17 dL_refused_31 ?_
  refine wl_icmp_ne (tgt := 237) dL_refused_33 (by decide) (fun h => absurd h (by decide)) (fun _ => ?_)
  refine wq_run [(.aload_n 0, 1), (.iconst 2, 1), (.bipush 20, 2), (.iconst 0, 1), (.iconst 1, 1), (.iconst 0, 1)] (pc' := 43) (L' := [(2, .inl (.long vA)), (0, .inr (1, some 0)), (1, .inr (3, some 0))]) (st' := [.inl (.int 0), .inl (.int 1), .inl (.int 0), .inl (.int 20), .inl (.int 2), .inr (1, some 0)]) ⟨dL_refused_36, dL_refused_37, dL_refused_38, dL_refused_40, dL_refused_41, dL_refused_42, trivial⟩ rfl rfl ?_
  refine wl_staticH (M := M_L_refused) (uc := 939) (us := 6334) (bc := 5) (bs := 30) (As := [.inr (1, some 0), .inl (.int 2), .inl (.int 20), .inl (.int 0), .inl (.int 1), .inl (.int 0)]) (rest := []) okH_call.1 okH_call.2.1 okH_call.2.2.1 okH_call.2.2.2.1 okH_call.2.2.2.2.1 okH_call.2.2.2.2.2 ml_L_113 st_L_call (by omega) (a_calls (d := d - 1) (by omega) I.1 20 0 1 0 (rf_calls (h := h) 20 0 1 0 noT).2) rfl rfl (Nat.le_of_ble_eq_true rfl) dL_refused_43 (fun r9 h9 e9 => ?_) (fun E9 h9 e9 => nomatch e9.1)
  obtain ⟨e9, rfl⟩ := e9
  cases e9
  rw [(rf_calls (h := h) 20 0 1 0 noT).1]
  refine wl_ldc kc_L_17 dL_refused_46 ?_
  refine wl_icmp_ne (tgt := 237) dL_refused_48 (by decide) (fun h => absurd h (by decide)) (fun _ => ?_)
  refine wq_run [(.aload_n 0, 1), (.iconst 3, 1), (.iconst (-1), 1), (.iconst 0, 1), (.iconst 0, 1), (.iconst 0, 1)] (pc' := 57) (L' := [(2, .inl (.long vA)), (0, .inr (1, some 0)), (1, .inr (3, some 0))]) (st' := [.inl (.int 0), .inl (.int 0), .inl (.int 0), .inl (.int (-1)), .inl (.int 3), .inr (1, some 0)]) ⟨dL_refused_51, dL_refused_52, dL_refused_53, dL_refused_54, dL_refused_55, dL_refused_56, trivial⟩ rfl rfl ?_
  refine wl_staticH (M := M_L_refused) (uc := 937) (us := 6322) (bc := 2) (bs := 12) (As := [.inr (1, some 0), .inl (.int 3), .inl (.int (-1)), .inl (.int 0), .inl (.int 0), .inl (.int 0)]) (rest := []) okH_call.1 okH_call.2.1 okH_call.2.2.1 okH_call.2.2.2.1 okH_call.2.2.2.2.1 okH_call.2.2.2.2.2 ml_L_113 st_L_call (by omega) (a_runs (d := d - 1) (by omega) I.1 (-1) 0 0 0 (rf_runs (h := h) (-1) 0 0 no_Tm).2) rfl rfl (Nat.le_of_ble_eq_true rfl) dL_refused_57 (fun r9 h9 e9 => ?_) (fun E9 h9 e9 => nomatch e9.1)
  obtain ⟨e9, rfl⟩ := e9
  cases e9
  rw [(rf_runs (h := h) (-1) 0 0 no_Tm).1]
  refine wl_ldc kc_L_17 dL_refused_60 ?_
  refine wl_icmp_ne (tgt := 237) dL_refused_62 (by decide) (fun h => absurd h (by decide)) (fun _ => ?_)
  refine wq_run [(.aload_n 0, 1), (.iconst 4, 1), (.bipush 20, 2), (.iconst 0, 1), (.iconst 0, 1), (.iconst 0, 1)] (pc' := 72) (L' := [(2, .inl (.long vA)), (0, .inr (1, some 0)), (1, .inr (3, some 0))]) (st' := [.inl (.int 0), .inl (.int 0), .inl (.int 0), .inl (.int 20), .inl (.int 4), .inr (1, some 0)]) ⟨dL_refused_65, dL_refused_66, dL_refused_67, dL_refused_69, dL_refused_70, dL_refused_71, trivial⟩ rfl rfl ?_
  refine wl_staticH (M := M_L_refused) (uc := 934) (us := 6304) (bc := 3) (bs := 18) (As := [.inr (1, some 0), .inl (.int 4), .inl (.int 20), .inl (.int 0), .inl (.int 0), .inl (.int 0)]) (rest := []) okH_call.1 okH_call.2.1 okH_call.2.2.1 okH_call.2.2.2.1 okH_call.2.2.2.2.1 okH_call.2.2.2.2.2 ml_L_113 st_L_call (by omega) (a_delay (d := d - 1) (by omega) I.1 20 0 0 0 (rf_delay (h := h) 20 0 0 noT).2) rfl rfl (Nat.le_of_ble_eq_true rfl) dL_refused_72 (fun r9 h9 e9 => ?_) (fun E9 h9 e9 => nomatch e9.1)
  obtain ⟨e9, rfl⟩ := e9
  cases e9
  rw [(rf_delay (h := h) 20 0 0 noT).1]
  refine wl_ldc kc_L_17 dL_refused_75 ?_
  refine wl_icmp_ne (tgt := 237) dL_refused_77 (by decide) (fun h => absurd h (by decide)) (fun _ => ?_)
  refine wq_run [(.aload_n 0, 1), (.iconst 5, 1), (.iconst (-1), 1), (.iconst 0, 1), (.iconst 0, 1), (.iconst 0, 1)] (pc' := 86) (L' := [(2, .inl (.long vA)), (0, .inr (1, some 0)), (1, .inr (3, some 0))]) (st' := [.inl (.int 0), .inl (.int 0), .inl (.int 0), .inl (.int (-1)), .inl (.int 5), .inr (1, some 0)]) ⟨dL_refused_80, dL_refused_81, dL_refused_82, dL_refused_83, dL_refused_84, dL_refused_85, trivial⟩ rfl rfl ?_
  refine wl_staticH (M := M_L_refused) (uc := 931) (us := 6286) (bc := 3) (bs := 18) (As := [.inr (1, some 0), .inl (.int 5), .inl (.int (-1)), .inl (.int 0), .inl (.int 0), .inl (.int 0)]) (rest := []) okH_call.1 okH_call.2.1 okH_call.2.2.1 okH_call.2.2.2.1 okH_call.2.2.2.2.1 okH_call.2.2.2.2.2 ml_L_113 st_L_call (by omega) (a_note (d := d - 1) (by omega) I.1 (-1) 0 0 0 (rf_note (h := h) (-1) 0 no_Tm).2) rfl rfl (Nat.le_of_ble_eq_true rfl) dL_refused_86 (fun r9 h9 e9 => ?_) (fun E9 h9 e9 => nomatch e9.1)
  obtain ⟨e9, rfl⟩ := e9
  cases e9
  rw [(rf_note (h := h) (-1) 0 no_Tm).1]
  refine wl_ldc kc_L_17 dL_refused_89 ?_
  refine wl_icmp_ne (tgt := 237) dL_refused_91 (by decide) (fun h => absurd h (by decide)) (fun _ => ?_)
  refine wq_run [(.aload_n 0, 1), (.bipush 6, 2), (.iconst (-1), 1), (.iconst 0, 1), (.iconst 0, 1), (.iconst 0, 1)] (pc' := 101) (L' := [(2, .inl (.long vA)), (0, .inr (1, some 0)), (1, .inr (3, some 0))]) (st' := [.inl (.int 0), .inl (.int 0), .inl (.int 0), .inl (.int (-1)), .inl (.int 6), .inr (1, some 0)]) ⟨dL_refused_94, dL_refused_95, dL_refused_97, dL_refused_98, dL_refused_99, dL_refused_100, trivial⟩ rfl rfl ?_
  refine wl_staticH (M := M_L_refused) (uc := 927) (us := 6262) (bc := 4) (bs := 24) (As := [.inr (1, some 0), .inl (.int 6), .inl (.int (-1)), .inl (.int 0), .inl (.int 0), .inl (.int 0)]) (rest := []) okH_call.1 okH_call.2.1 okH_call.2.2.1 okH_call.2.2.2.1 okH_call.2.2.2.2.1 okH_call.2.2.2.2.2 ml_L_113 st_L_call (by omega) (a_prices (d := d - 1) (by omega) I.1 (-1) 0 0 0 (rf_prices (h := h) (-1) 0 0 0 no_Fm).2) rfl rfl (Nat.le_of_ble_eq_true rfl) dL_refused_101 (fun r9 h9 e9 => ?_) (fun E9 h9 e9 => nomatch e9.1)
  obtain ⟨e9, rfl⟩ := e9
  cases e9
  rw [(rf_prices (h := h) (-1) 0 0 0 no_Fm).1]
  refine wl_ldc kc_L_17 dL_refused_104 ?_
  refine wl_icmp_ne (tgt := 237) dL_refused_106 (by decide) (fun h => absurd h (by decide)) (fun _ => ?_)
  refine wq_run [(.aload_n 0, 1), (.bipush 6, 2), (.iconst 0, 1), (.iconst (-1), 1), (.iconst 0, 1), (.iconst 0, 1)] (pc' := 116) (L' := [(2, .inl (.long vA)), (0, .inr (1, some 0)), (1, .inr (3, some 0))]) (st' := [.inl (.int 0), .inl (.int 0), .inl (.int (-1)), .inl (.int 0), .inl (.int 6), .inr (1, some 0)]) ⟨dL_refused_109, dL_refused_110, dL_refused_112, dL_refused_113, dL_refused_114, dL_refused_115, trivial⟩ rfl rfl ?_
  refine wl_staticH (M := M_L_refused) (uc := 923) (us := 6238) (bc := 4) (bs := 24) (As := [.inr (1, some 0), .inl (.int 6), .inl (.int 0), .inl (.int (-1)), .inl (.int 0), .inl (.int 0)]) (rest := []) okH_call.1 okH_call.2.1 okH_call.2.2.1 okH_call.2.2.2.1 okH_call.2.2.2.2.1 okH_call.2.2.2.2.2 ml_L_113 st_L_call (by omega) (a_prices (d := d - 1) (by omega) I.1 0 (-1) 0 0 (rf_prices2 (h := h) 0 (-1) 0 0 (by decide) (by decide)).2) rfl rfl (Nat.le_of_ble_eq_true rfl) dL_refused_116 (fun r9 h9 e9 => ?_) (fun E9 h9 e9 => nomatch e9.1)
  obtain ⟨e9, rfl⟩ := e9
  cases e9
  rw [(rf_prices2 (h := h) 0 (-1) 0 0 (by decide) (by decide)).1]
  refine wl_ldc kc_L_20 dL_refused_119 ?_
  refine wl_icmp_ne (tgt := 237) dL_refused_121 (by decide) (fun h => absurd h (by decide)) (fun _ => ?_)
  refine wq_run [(.aload_n 0, 1), (.iconst 0, 1), (.iconst (-1), 1), (.iconst 1, 1), (.iconst 1, 1), (.iconst 0, 1), (.iconst 0, 1)] (pc' := 131) (L' := [(2, .inl (.long vA)), (0, .inr (1, some 0)), (1, .inr (3, some 0))]) (st' := [.inl (.int 0), .inl (.int 0), .inl (.int 1), .inl (.int 1), .inl (.int (-1)), .inl (.int 0), .inr (1, some 0)]) ⟨dL_refused_124, dL_refused_125, dL_refused_126, dL_refused_127, dL_refused_128, dL_refused_129, dL_refused_130, trivial⟩ rfl rfl ?_
  refine wl_staticH (M := M_L_refused) (uc := 909) (us := 5838) (bc := 14) (bs := 400) (As := [.inr (1, some 0), .inl (.int 0), .inl (.int (-1)), .inl (.int 1), .inl (.int 1), .inl (.int 0), .inl (.int 0)]) (rest := []) okH_trip.1 okH_trip.2.1 okH_trip.2.2.1 okH_trip.2.2.2.1 okH_trip.2.2.2.2.1 okH_trip.2.2.2.2.2 ml_L_124 st_L_trip (by omega) (o_trip (d := d - 1) (by omega) I.1 0 (-1) 1 1 0 0 (by rw [(rf_trip (h := h) 0 (-1) 1 1 0 0 no_Fm).2]; exact I.1)) rfl rfl (Nat.le_of_ble_eq_true rfl) dL_refused_131 (fun r9 h9 e9 => ?_) (fun E9 h9 e9 => nomatch e9.1)
  obtain ⟨e9, rfl⟩ := e9
  cases e9
  rw [(rf_trip (h := h) 0 (-1) 1 1 0 0 no_Fm).1, (rf_trip (h := h) 0 (-1) 1 1 0 0 no_Fm).2]
  refine wl_ldc kc_L_17 dL_refused_134 ?_
  refine wl_icmp_ne (tgt := 237) dL_refused_136 (by decide) (fun h => absurd h (by decide)) (fun _ => ?_)
  refine wq_run [(.aload_n 0, 1), (.iconst 0, 1), (.iconst 0, 1), (.iconst 1, 1), (.iconst 1, 1), (.bipush 10, 2), (.iconst 0, 1)] (pc' := 147) (L' := [(2, .inl (.long vA)), (0, .inr (1, some 0)), (1, .inr (3, some 0))]) (st' := [.inl (.int 0), .inl (.int 10), .inl (.int 1), .inl (.int 1), .inl (.int 0), .inl (.int 0), .inr (1, some 0)]) ⟨dL_refused_139, dL_refused_140, dL_refused_141, dL_refused_142, dL_refused_143, dL_refused_144, dL_refused_146, trivial⟩ rfl rfl ?_
  refine wl_staticH (M := M_L_refused) (uc := 895) (us := 5438) (bc := 14) (bs := 400) (As := [.inr (1, some 0), .inl (.int 0), .inl (.int 0), .inl (.int 1), .inl (.int 1), .inl (.int 10), .inl (.int 0)]) (rest := []) okH_trip.1 okH_trip.2.1 okH_trip.2.2.1 okH_trip.2.2.2.1 okH_trip.2.2.2.2.1 okH_trip.2.2.2.2.2 ml_L_124 st_L_trip (by omega) (o_trip (d := d - 1) (by omega) I.1 0 0 1 1 10 0 (by rw [(rf_trip2 (h := h) 0 0 1 1 10 0 (by decide) noS).2]; exact I.1)) rfl rfl (Nat.le_of_ble_eq_true rfl) dL_refused_147 (fun r9 h9 e9 => ?_) (fun E9 h9 e9 => nomatch e9.1)
  obtain ⟨e9, rfl⟩ := e9
  cases e9
  rw [(rf_trip2 (h := h) 0 0 1 1 10 0 (by decide) noS).1, (rf_trip2 (h := h) 0 0 1 1 10 0 (by decide) noS).2]
  refine wl_ldc kc_L_17 dL_refused_150 ?_
  refine wl_icmp_ne (tgt := 237) dL_refused_152 (by decide) (fun h => absurd h (by decide)) (fun _ => ?_)
  refine wq_run [(.aload_n 0, 1), (.bipush 7, 2), (.bipush 10, 2), (.iconst 0, 1), (.iconst 0, 1), (.iconst 1, 1)] (pc' := 163) (L' := [(2, .inl (.long vA)), (0, .inr (1, some 0)), (1, .inr (3, some 0))]) (st' := [.inl (.int 1), .inl (.int 0), .inl (.int 0), .inl (.int 10), .inl (.int 7), .inr (1, some 0)]) ⟨dL_refused_155, dL_refused_156, dL_refused_158, dL_refused_160, dL_refused_161, dL_refused_162, trivial⟩ rfl rfl ?_
  refine wl_staticH (M := M_L_refused) (uc := 890) (us := 5408) (bc := 5) (bs := 30) (As := [.inr (1, some 0), .inl (.int 7), .inl (.int 10), .inl (.int 0), .inl (.int 0), .inl (.int 1)]) (rest := []) okH_call.1 okH_call.2.1 okH_call.2.2.1 okH_call.2.2.2.1 okH_call.2.2.2.2.1 okH_call.2.2.2.2.2 ml_L_113 st_L_call (by omega) (a_arrival (d := d - 1) (by omega) I.1 10 0 0 1) rfl rfl (Nat.le_of_ble_eq_true rfl) dL_refused_163 (fun r9 h9 e9 => ?_) (fun E9 h9 e9 => nomatch e9.1)
  obtain ⟨e9, rfl⟩ := e9
  cases e9
  rw [(rf_arrival (h := h) 10 0 0 1 (fun e => noS e.1))]
  refine wl_ldc kc_L_17 dL_refused_166 ?_
  refine wl_icmp_ne (tgt := 237) dL_refused_168 (by decide) (fun h => absurd h (by decide)) (fun _ => ?_)
  refine wq_run [(.aload_n 0, 1), (.bipush 8, 2), (.iconst (-1), 1), (.iconst 0, 1), (.iconst 0, 1), (.iconst 1, 1)] (pc' := 178) (L' := [(2, .inl (.long vA)), (0, .inr (1, some 0)), (1, .inr (3, some 0))]) (st' := [.inl (.int 1), .inl (.int 0), .inl (.int 0), .inl (.int (-1)), .inl (.int 8), .inr (1, some 0)]) ⟨dL_refused_171, dL_refused_172, dL_refused_174, dL_refused_175, dL_refused_176, dL_refused_177, trivial⟩ rfl rfl ?_
  refine wl_staticH (M := M_L_refused) (uc := 885) (us := 5378) (bc := 5) (bs := 30) (As := [.inr (1, some 0), .inl (.int 8), .inl (.int (-1)), .inl (.int 0), .inl (.int 0), .inl (.int 1)]) (rest := []) okH_call.1 okH_call.2.1 okH_call.2.2.1 okH_call.2.2.2.1 okH_call.2.2.2.2.1 okH_call.2.2.2.2.2 ml_L_113 st_L_call (by omega) (a_arrivalAnew (d := d - 1) (by omega) I.1 (-1) 0 0 1 (rf_arrivalAnew (h := h) (-1) 0 0 1 (fun e => no_Sm e.1)).2) rfl rfl (Nat.le_of_ble_eq_true rfl) dL_refused_178 (fun r9 h9 e9 => ?_) (fun E9 h9 e9 => nomatch e9.1)
  obtain ⟨e9, rfl⟩ := e9
  cases e9
  rw [(rf_arrivalAnew (h := h) (-1) 0 0 1 (fun e => no_Sm e.1)).1]
  refine wl_ldc kc_L_17 dL_refused_181 ?_
  refine wl_icmp_ne (tgt := 237) dL_refused_183 (by decide) (fun h => absurd h (by decide)) (fun _ => ?_)
  refine wq_run [(.aload_n 0, 1), (.bipush 9, 2), (.iconst 0, 1), (.bipush 10, 2), (.iconst 0, 1), (.iconst 0, 1)] (pc' := 194) (L' := [(2, .inl (.long vA)), (0, .inr (1, some 0)), (1, .inr (3, some 0))]) (st' := [.inl (.int 0), .inl (.int 0), .inl (.int 10), .inl (.int 0), .inl (.int 9), .inr (1, some 0)]) ⟨dL_refused_186, dL_refused_187, dL_refused_189, dL_refused_190, dL_refused_192, dL_refused_193, trivial⟩ rfl rfl ?_
  refine wl_staticH (M := M_L_refused) (uc := 881) (us := 5354) (bc := 4) (bs := 24) (As := [.inr (1, some 0), .inl (.int 9), .inl (.int 0), .inl (.int 10), .inl (.int 0), .inl (.int 0)]) (rest := []) okH_call.1 okH_call.2.1 okH_call.2.2.1 okH_call.2.2.2.1 okH_call.2.2.2.2.1 okH_call.2.2.2.2.2 ml_L_113 st_L_call (by omega) (a_front (d := d - 1) (by omega) I.1 0 10 0 0) rfl rfl (Nat.le_of_ble_eq_true rfl) dL_refused_194 (fun r9 h9 e9 => ?_) (fun E9 h9 e9 => nomatch e9.1)
  obtain ⟨e9, rfl⟩ := e9
  cases e9
  rw [(rf_front (h := h) 0 10 0 (fun e => noS e.2))]
  refine wl_ldc kc_L_17 dL_refused_197 ?_
  refine wl_icmp_ne (tgt := 237) dL_refused_199 (by decide) (fun h => absurd h (by decide)) (fun _ => ?_)
  refine wq_run [(.aload_n 0, 1), (.bipush 10, 2), (.iconst 0, 1), (.iconst (-1), 1), (.iconst 0, 1), (.iconst 0, 1)] (pc' := 209) (L' := [(2, .inl (.long vA)), (0, .inr (1, some 0)), (1, .inr (3, some 0))]) (st' := [.inl (.int 0), .inl (.int 0), .inl (.int (-1)), .inl (.int 0), .inl (.int 10), .inr (1, some 0)]) ⟨dL_refused_202, dL_refused_203, dL_refused_205, dL_refused_206, dL_refused_207, dL_refused_208, trivial⟩ rfl rfl ?_
  refine wl_staticH (M := M_L_refused) (uc := 857) (us := 5214) (bc := 24) (bs := 140) (As := [.inr (1, some 0), .inl (.int 10), .inl (.int 0), .inl (.int (-1)), .inl (.int 0), .inl (.int 0)]) (rest := []) okH_call.1 okH_call.2.1 okH_call.2.2.1 okH_call.2.2.2.1 okH_call.2.2.2.2.1 okH_call.2.2.2.2.2 ml_L_113 st_L_call (by omega) (a_best (d := d - 1) (by omega) I.1 0 (-1) 0 0) rfl rfl (Nat.le_of_ble_eq_true rfl) dL_refused_209 (fun r9 h9 e9 => ?_) (fun E9 h9 e9 => nomatch e9.1)
  obtain ⟨e9, rfl⟩ := e9
  cases e9
  rw [(rf_best (h := h) 0 (-1) 0 (fun e => no_Sm e.2))]
  refine wl_ldc kc_L_17 dL_refused_212 ?_
  refine wl_icmp_ne (tgt := 237) dL_refused_214 (by decide) (fun h => absurd h (by decide)) (fun _ => ?_)
  refine wq_run [(.aload_n 0, 1), (.bipush 11, 2), (.bipush 10, 2), (.iconst 0, 1), (.iconst 0, 1), (.iconst 1, 1)] (pc' := 225) (L' := [(2, .inl (.long vA)), (0, .inr (1, some 0)), (1, .inr (3, some 0))]) (st' := [.inl (.int 1), .inl (.int 0), .inl (.int 0), .inl (.int 10), .inl (.int 11), .inr (1, some 0)]) ⟨dL_refused_217, dL_refused_218, dL_refused_220, dL_refused_222, dL_refused_223, dL_refused_224, trivial⟩ rfl rfl ?_
  refine wl_staticH (M := M_L_refused) (uc := 843) (us := 5099) (bc := 14) (bs := 115) (As := [.inr (1, some 0), .inl (.int 11), .inl (.int 10), .inl (.int 0), .inl (.int 0), .inl (.int 1)]) (rest := []) okH_call.1 okH_call.2.1 okH_call.2.2.1 okH_call.2.2.2.1 okH_call.2.2.2.2.1 okH_call.2.2.2.2.2 ml_L_113 st_L_call (by omega) (a_book (d := d - 1) (by omega) I.1 10 0 0 1 (rf_book (h := h) 10 0 0 1 (fun e => noS e.1)).2) rfl rfl (Nat.le_of_ble_eq_true rfl) dL_refused_225 (fun r9 h9 e9 => ?_) (fun E9 h9 e9 => nomatch e9.1)
  obtain ⟨e9, rfl⟩ := e9
  cases e9
  rw [(rf_book (h := h) 10 0 0 1 (fun e => noS e.1)).1]
  refine wl_ldc kc_L_17 dL_refused_228 ?_
  refine wl_icmp_ne (tgt := 237) dL_refused_230 (by decide) (fun h => absurd h (by decide)) (fun _ => ?_)
  refine wq_run [(.iconst 1, 1)] (pc' := 234) (L' := [(2, .inl (.long vA)), (0, .inr (1, some 0)), (1, .inr (3, some 0))]) (st' := [.inl (.int 1)]) ⟨dL_refused_233, trivial⟩ rfl rfl ?_
  refine wl_goto (tgt := 238) dL_refused_234 (by decide) ?_
  refine wq_run [(.istore 4, 2), (.aload_n 1, 1), (.iconst 0, 1)] (pc' := 242) (L' := [(4, .inl (.int 1)), (2, .inl (.long vA)), (0, .inr (1, some 0)), (1, .inr (3, some 0))]) (st' := [.inl (.int 0), .inr (3, some 0)]) ⟨dL_refused_238, dL_refused_240, dL_refused_241, trivial⟩ rfl rfl ?_
  refine wl_dldE (k := 0) (v := (nI n)) (by omega) rfl d0 dL_refused_242 ?_
  refine wq_run [(.iconst 1, 1)] (pc' := 244) (L' := [(4, .inl (.int 1)), (2, .inl (.long vA)), (0, .inr (1, some 0)), (1, .inr (3, some 0))]) (st' := [.inl (.int 1), .inl (.int (nI n))]) ⟨dL_refused_243, trivial⟩ rfl rfl ?_
  refine wl_icmp_le (tgt := 425) dL_refused_244 (by decide) (fun h244 => ?_) (fun h244 => ?_)
  · have h244 : ((n : Nat) : Int) ≤ (1 : Int) := (c_le (nI_toInt (by omega)) (by decide : (1 : Int32).toInt = 1)).mp h244
    refine wq_run [(.iload 4, 2)] (pc' := 427) (L' := [(4, .inl (.int 1)), (2, .inl (.long vA)), (0, .inr (1, some 0)), (1, .inr (3, some 0))]) (st' := [.inl (.int 1)]) ⟨dL_refused_425, trivial⟩ rfl rfl ?_
    refine wl_if_eq (tgt := 570) dL_refused_427 (by decide) (fun h => absurd h (by decide)) (fun _ => ?_)
    refine wq_run [(.aload_n 0, 1), (.bipush 12, 2), (.bipush 30, 2), (.iconst 0, 1), (.iconst 0, 1), (.iconst 0, 1)] (pc' := 438) (L' := [(4, .inl (.int 1)), (2, .inl (.long vA)), (0, .inr (1, some 0)), (1, .inr (3, some 0))]) (st' := [.inl (.int 0), .inl (.int 0), .inl (.int 0), .inl (.int 30), .inl (.int 12), .inr (1, some 0)]) ⟨dL_refused_430, dL_refused_431, dL_refused_433, dL_refused_435, dL_refused_436, dL_refused_437, trivial⟩ rfl rfl ?_
    refine wl_staticH (M := M_L_refused) (uc := 841) (us := 5087) (bc := 2) (bs := 12) (As := [.inr (1, some 0), .inl (.int 12), .inl (.int 30), .inl (.int 0), .inl (.int 0), .inl (.int 0)]) (rest := []) okH_call.1 okH_call.2.1 okH_call.2.2.1 okH_call.2.2.2.1 okH_call.2.2.2.2.1 okH_call.2.2.2.2.2 ml_L_113 st_L_call (by omega) (a_buy (d := d - 1) (by omega) I.1 30 0 0 0 (rf_buy (h := h) 30 noB).2) rfl rfl (Nat.le_of_ble_eq_true rfl) dL_refused_438 (fun r9 h9 e9 => ?_) (fun E9 h9 e9 => nomatch e9.1)
    obtain ⟨e9, rfl⟩ := e9
    cases e9
    rw [(rf_buy (h := h) 30 noB).1]
    refine wl_ldc kc_L_17 dL_refused_441 ?_
    refine wl_icmp_ne (tgt := 570) dL_refused_443 (by decide) (fun h => absurd h (by decide)) (fun _ => ?_)
    refine wq_run [(.aload_n 0, 1), (.bipush 13, 2), (.bipush 30, 2), (.iconst 0, 1), (.iconst 0, 1), (.iconst 0, 1)] (pc' := 454) (L' := [(4, .inl (.int 1)), (2, .inl (.long vA)), (0, .inr (1, some 0)), (1, .inr (3, some 0))]) (st' := [.inl (.int 0), .inl (.int 0), .inl (.int 0), .inl (.int 30), .inl (.int 13), .inr (1, some 0)]) ⟨dL_refused_446, dL_refused_447, dL_refused_449, dL_refused_451, dL_refused_452, dL_refused_453, trivial⟩ rfl rfl ?_
    refine wl_staticH (M := M_L_refused) (uc := 840) (us := 5081) (bc := 1) (bs := 6) (As := [.inr (1, some 0), .inl (.int 13), .inl (.int 30), .inl (.int 0), .inl (.int 0), .inl (.int 0)]) (rest := []) okH_call.1 okH_call.2.1 okH_call.2.2.1 okH_call.2.2.2.1 okH_call.2.2.2.2.1 okH_call.2.2.2.2.2 ml_L_113 st_L_call (by omega) (a_right (d := d - 1) (by omega) I.1 30 0 0 0) rfl rfl (Nat.le_of_ble_eq_true rfl) dL_refused_454 (fun r9 h9 e9 => ?_) (fun E9 h9 e9 => nomatch e9.1)
    obtain ⟨e9, rfl⟩ := e9
    cases e9
    rw [(rf_right (h := h) 30 noB)]
    refine wl_ldc kc_L_17 dL_refused_457 ?_
    refine wl_icmp_ne (tgt := 570) dL_refused_459 (by decide) (fun h => absurd h (by decide)) (fun _ => ?_)
    refine wq_run [(.aload_n 0, 1), (.bipush 14, 2), (.iconst (-1), 1), (.iconst 0, 1), (.iconst 0, 1), (.iconst 0, 1)] (pc' := 469) (L' := [(4, .inl (.int 1)), (2, .inl (.long vA)), (0, .inr (1, some 0)), (1, .inr (3, some 0))]) (st' := [.inl (.int 0), .inl (.int 0), .inl (.int 0), .inl (.int (-1)), .inl (.int 14), .inr (1, some 0)]) ⟨dL_refused_462, dL_refused_463, dL_refused_465, dL_refused_466, dL_refused_467, dL_refused_468, trivial⟩ rfl rfl ?_
    refine wl_staticH (M := M_L_refused) (uc := 838) (us := 5069) (bc := 2) (bs := 12) (As := [.inr (1, some 0), .inl (.int 14), .inl (.int (-1)), .inl (.int 0), .inl (.int 0), .inl (.int 0)]) (rest := []) okH_call.1 okH_call.2.1 okH_call.2.2.1 okH_call.2.2.2.1 okH_call.2.2.2.2.1 okH_call.2.2.2.2.2 ml_L_113 st_L_call (by omega) (a_claim (d := d - 1) (by omega) I.1 (-1) 0 0 0 (rf_claim (h := h) (-1) no_Bm).2) rfl rfl (Nat.le_of_ble_eq_true rfl) dL_refused_469 (fun r9 h9 e9 => ?_) (fun E9 h9 e9 => nomatch e9.1)
    obtain ⟨e9, rfl⟩ := e9
    cases e9
    rw [(rf_claim (h := h) (-1) no_Bm).1]
    refine wl_ldc kc_L_17 dL_refused_472 ?_
    refine wl_icmp_ne (tgt := 570) dL_refused_474 (by decide) (fun h => absurd h (by decide)) (fun _ => ?_)
    refine wq_run [(.aload_n 0, 1), (.bipush 15, 2), (.bipush 20, 2), (.iconst 0, 1), (.iconst 0, 1), (.iconst 0, 1)] (pc' := 485) (L' := [(4, .inl (.int 1)), (2, .inl (.long vA)), (0, .inr (1, some 0)), (1, .inr (3, some 0))]) (st' := [.inl (.int 0), .inl (.int 0), .inl (.int 0), .inl (.int 20), .inl (.int 15), .inr (1, some 0)]) ⟨dL_refused_477, dL_refused_478, dL_refused_480, dL_refused_482, dL_refused_483, dL_refused_484, trivial⟩ rfl rfl ?_
    refine wl_staticH (M := M_L_refused) (uc := 836) (us := 5057) (bc := 2) (bs := 12) (As := [.inr (1, some 0), .inl (.int 15), .inl (.int 20), .inl (.int 0), .inl (.int 0), .inl (.int 0)]) (rest := []) okH_call.1 okH_call.2.1 okH_call.2.2.1 okH_call.2.2.2.1 okH_call.2.2.2.2.1 okH_call.2.2.2.2.2 ml_L_113 st_L_call (by omega) (a_concerned (d := d - 1) (by omega) I.1 20 0 0 0) rfl rfl (Nat.le_of_ble_eq_true rfl) dL_refused_485 (fun r9 h9 e9 => ?_) (fun E9 h9 e9 => nomatch e9.1)
    obtain ⟨e9, rfl⟩ := e9
    cases e9
    rw [(rf_concerned (h := h) 20 0 noT)]
    refine wl_ldc kc_L_17 dL_refused_488 ?_
    refine wl_icmp_ne (tgt := 570) dL_refused_490 (by decide) (fun h => absurd h (by decide)) (fun _ => ?_)
    refine wq_run [(.aload_n 0, 1), (.bipush 16, 2), (.iconst (-1), 1), (.iconst 0, 1), (.iconst 0, 1), (.iconst 0, 1)] (pc' := 500) (L' := [(4, .inl (.int 1)), (2, .inl (.long vA)), (0, .inr (1, some 0)), (1, .inr (3, some 0))]) (st' := [.inl (.int 0), .inl (.int 0), .inl (.int 0), .inl (.int (-1)), .inl (.int 16), .inr (1, some 0)]) ⟨dL_refused_493, dL_refused_494, dL_refused_496, dL_refused_497, dL_refused_498, dL_refused_499, trivial⟩ rfl rfl ?_
    refine wl_staticH (M := M_L_refused) (uc := 834) (us := 5045) (bc := 2) (bs := 12) (As := [.inr (1, some 0), .inl (.int 16), .inl (.int (-1)), .inl (.int 0), .inl (.int 0), .inl (.int 0)]) (rest := []) okH_call.1 okH_call.2.1 okH_call.2.2.1 okH_call.2.2.2.1 okH_call.2.2.2.2.1 okH_call.2.2.2.2.2 ml_L_113 st_L_call (by omega) (a_seats (d := d - 1) (by omega) I.1 (-1) 0 0 0) rfl rfl (Nat.le_of_ble_eq_true rfl) dL_refused_500 (fun r9 h9 e9 => ?_) (fun E9 h9 e9 => nomatch e9.1)
    obtain ⟨e9, rfl⟩ := e9
    cases e9
    rw [(rf_seats (h := h) (-1) 0 no_Tm)]
    refine wl_ldc kc_L_17 dL_refused_503 ?_
    refine wl_icmp_ne (tgt := 570) dL_refused_505 (by decide) (fun h => absurd h (by decide)) (fun _ => ?_)
    refine wq_run [(.aload_n 0, 1), (.bipush 17, 2), (.iconst 0, 1), (.iconst 0, 1), (.iconst 0, 1), (.iconst 0, 1)] (pc' := 515) (L' := [(4, .inl (.int 1)), (2, .inl (.long vA)), (0, .inr (1, some 0)), (1, .inr (3, some 0))]) (st' := [.inl (.int 0), .inl (.int 0), .inl (.int 0), .inl (.int 0), .inl (.int 17), .inr (1, some 0)]) ⟨dL_refused_508, dL_refused_509, dL_refused_511, dL_refused_512, dL_refused_513, dL_refused_514, trivial⟩ rfl rfl ?_
    refine wl_staticH (M := M_L_refused) (uc := 833) (us := 5039) (bc := 1) (bs := 6) (As := [.inr (1, some 0), .inl (.int 17), .inl (.int 0), .inl (.int 0), .inl (.int 0), .inl (.int 0)]) (rest := []) okH_call.1 okH_call.2.1 okH_call.2.2.1 okH_call.2.2.2.1 okH_call.2.2.2.2.1 okH_call.2.2.2.2.2 ml_L_113 st_L_call (by omega) (a_pass (d := d - 1) (by omega) I.1 0 0 0 0 (rf_pass (h := h) 0 (by decide)).2) rfl rfl (Nat.le_of_ble_eq_true rfl) dL_refused_515 (fun r9 h9 e9 => ?_) (fun E9 h9 e9 => nomatch e9.1)
    obtain ⟨e9, rfl⟩ := e9
    cases e9
    rw [(rf_pass (h := h) 0 (by decide)).1]
    refine wl_ldc kc_L_20 dL_refused_518 ?_
    refine wl_icmp_ne (tgt := 570) dL_refused_520 (by decide) (fun h => absurd h (by decide)) (fun _ => ?_)
    refine wq_run [(.aload_n 0, 1), (.bipush 17, 2), (.sipush 1441, 3), (.iconst 0, 1), (.iconst 0, 1), (.iconst 0, 1)] (pc' := 532) (L' := [(4, .inl (.int 1)), (2, .inl (.long vA)), (0, .inr (1, some 0)), (1, .inr (3, some 0))]) (st' := [.inl (.int 0), .inl (.int 0), .inl (.int 0), .inl (.int 1441), .inl (.int 17), .inr (1, some 0)]) ⟨dL_refused_523, dL_refused_524, dL_refused_526, dL_refused_529, dL_refused_530, dL_refused_531, trivial⟩ rfl rfl ?_
    refine wl_staticH (M := M_L_refused) (uc := 832) (us := 5033) (bc := 1) (bs := 6) (As := [.inr (1, some 0), .inl (.int 17), .inl (.int 1441), .inl (.int 0), .inl (.int 0), .inl (.int 0)]) (rest := []) okH_call.1 okH_call.2.1 okH_call.2.2.1 okH_call.2.2.2.1 okH_call.2.2.2.2.1 okH_call.2.2.2.2.2 ml_L_113 st_L_call (by omega) (a_pass (d := d - 1) (by omega) I.1 1441 0 0 0 (rf_pass (h := h) 1441 (by decide)).2) rfl rfl (Nat.le_of_ble_eq_true rfl) dL_refused_532 (fun r9 h9 e9 => ?_) (fun E9 h9 e9 => nomatch e9.1)
    obtain ⟨e9, rfl⟩ := e9
    cases e9
    rw [(rf_pass (h := h) 1441 (by decide)).1]
    refine wl_ldc kc_L_20 dL_refused_535 ?_
    refine wl_icmp_ne (tgt := 570) dL_refused_537 (by decide) (fun h => absurd h (by decide)) (fun _ => ?_)
    refine wq_run [(.aload_n 0, 1), (.bipush 18, 2), (.bipush 30, 2), (.iconst 0, 1), (.iconst 0, 1), (.iconst 0, 1)] (pc' := 548) (L' := [(4, .inl (.int 1)), (2, .inl (.long vA)), (0, .inr (1, some 0)), (1, .inr (3, some 0))]) (st' := [.inl (.int 0), .inl (.int 0), .inl (.int 0), .inl (.int 30), .inl (.int 18), .inr (1, some 0)]) ⟨dL_refused_540, dL_refused_541, dL_refused_543, dL_refused_545, dL_refused_546, dL_refused_547, trivial⟩ rfl rfl ?_
    refine wl_staticH (M := M_L_refused) (uc := 830) (us := 5021) (bc := 2) (bs := 12) (As := [.inr (1, some 0), .inl (.int 18), .inl (.int 30), .inl (.int 0), .inl (.int 0), .inl (.int 0)]) (rest := []) okH_call.1 okH_call.2.1 okH_call.2.2.1 okH_call.2.2.2.1 okH_call.2.2.2.2.1 okH_call.2.2.2.2.2 ml_L_113 st_L_call (by omega) (a_ofBooking (d := d - 1) (by omega) I.1 30 0 0 0) rfl rfl (Nat.le_of_ble_eq_true rfl) dL_refused_548 (fun r9 h9 e9 => ?_) (fun E9 h9 e9 => nomatch e9.1)
    obtain ⟨e9, rfl⟩ := e9
    cases e9
    rw [(rf_ofBooking (h := h) 30 0 noB)]
    refine wl_ldc kc_L_17 dL_refused_551 ?_
    refine wl_icmp_ne (tgt := 570) dL_refused_553 (by decide) (fun h => absurd h (by decide)) (fun _ => ?_)
    refine wq_run [(.aload_n 0, 1), (.aload_n 1, 1)] (pc' := 558) (L' := [(4, .inl (.int 1)), (2, .inl (.long vA)), (0, .inr (1, some 0)), (1, .inr (3, some 0))]) (st' := [.inr (3, some 0), .inr (1, some 0)]) ⟨dL_refused_556, dL_refused_557, trivial⟩ rfl rfl ?_
    refine wl_static (M := M_L_refused) (uc := 280) (us := 1921) (bc := 550) (bs := 3100) (As := [.inr (1, some 0), .inr (3, some 0)]) (rest := []) (ok_L_all _ _) ml_L_131 st_L_all (by omega) (va (d := d - 1) (q := 1) (.inl rfl) (by omega)) rfl rfl (Nat.le_of_ble_eq_true rfl) dL_refused_558 (fun r9 h9 e9 => ?_) (fun E9 h9 e9 => nomatch e9.1)
    obtain ⟨e9, rfl⟩ := e9
    cases e9
    refine wl_lload_n dL_refused_561 rfl ?_
    refine wq_run [(.lcmp, 1)] (pc' := 563) (L' := [(4, .inl (.int 1)), (2, .inl (.long vA)), (0, .inr (1, some 0)), (1, .inr (3, some 0))]) (st' := [.inl (.int (lg_cmp vA vA))]) ⟨dL_refused_562, trivial⟩ rfl rfl ?_
    rw [lg_self vA]
    refine wl_if_ne (tgt := 570) dL_refused_563 (by decide) (fun h => absurd h (by decide)) (fun _ => ?_)
    refine wq_run [(.iconst 1, 1)] (pc' := 567) (L' := [(4, .inl (.int 1)), (2, .inl (.long vA)), (0, .inr (1, some 0)), (1, .inr (3, some 0))]) (st' := [.inl (.int 1)]) ⟨dL_refused_566, trivial⟩ rfl rfl ?_
    refine wl_goto (tgt := 571) dL_refused_567 (by decide) ?_
    exact wl_zret rfl rfl rfl dL_refused_571 ⟨rfl, rfl⟩
  · have h244 : ¬ (((n : Nat) : Int) ≤ (1 : Int)) := fun z => h244 ((c_le (nI_toInt (by omega)) (by decide : (1 : Int32).toInt = 1)).mpr z)
    have s0 : okS h 0 := okS_mk (k := 0) hn n10 (by omega)
    have s1 : okS h 1 := okS_mk (k := 1) hn n10 (by omega)
    have w01 : okW h 0 1 0 := ⟨⟨s0, s1⟩, by decide, by decide⟩
    refine wq_run [(.iload 4, 2)] (pc' := 249) (L' := [(4, .inl (.int 1)), (2, .inl (.long vA)), (0, .inr (1, some 0)), (1, .inr (3, some 0))]) (st' := [.inl (.int 1)]) ⟨dL_refused_247, trivial⟩ rfl rfl ?_
    refine wl_if_eq (tgt := 422) dL_refused_249 (by decide) (fun h => absurd h (by decide)) (fun _ => ?_)
    refine wq_run [(.aload_n 0, 1), (.bipush 7, 2), (.iconst 0, 1), (.iconst 0, 1), (.iconst 0, 1), (.iconst 1, 1)] (pc' := 259) (L' := [(4, .inl (.int 1)), (2, .inl (.long vA)), (0, .inr (1, some 0)), (1, .inr (3, some 0))]) (st' := [.inl (.int 1), .inl (.int 0), .inl (.int 0), .inl (.int 0), .inl (.int 7), .inr (1, some 0)]) ⟨dL_refused_252, dL_refused_253, dL_refused_255, dL_refused_256, dL_refused_257, dL_refused_258, trivial⟩ rfl rfl ?_
    refine wl_staticH (M := M_L_refused) (uc := 838) (us := 5069) (bc := 5) (bs := 30) (As := [.inr (1, some 0), .inl (.int 7), .inl (.int 0), .inl (.int 0), .inl (.int 0), .inl (.int 1)]) (rest := []) okH_call.1 okH_call.2.1 okH_call.2.2.1 okH_call.2.2.2.1 okH_call.2.2.2.2.1 okH_call.2.2.2.2.2 ml_L_113 st_L_call (by omega) (a_arrival (d := d - 1) (by omega) I.1 0 0 0 1) rfl rfl (Nat.le_of_ble_eq_true rfl) dL_refused_259 (fun r9 h9 e9 => ?_) (fun E9 h9 e9 => nomatch e9.1)
    obtain ⟨e9, rfl⟩ := e9
    cases e9
    rw [(rf_arrival2 (h := h) 0 0 0 1 ⟨s0, s0⟩ (fun e => e.2.1 rfl))]
    refine wl_ldc kc_L_20 dL_refused_262 ?_
    refine wl_icmp_ne (tgt := 422) dL_refused_264 (by decide) (fun h => absurd h (by decide)) (fun _ => ?_)
    refine wq_run [(.aload_n 0, 1), (.bipush 7, 2), (.iconst 0, 1), (.iconst 1, 1)] (pc' := 272) (L' := [(4, .inl (.int 1)), (2, .inl (.long vA)), (0, .inr (1, some 0)), (1, .inr (3, some 0))]) (st' := [.inl (.int 1), .inl (.int 0), .inl (.int 7), .inr (1, some 0)]) ⟨dL_refused_267, dL_refused_268, dL_refused_270, dL_refused_271, trivial⟩ rfl rfl ?_
    refine wl_ldc kc_L_135 dL_refused_272 ?_
    refine wq_run [(.iconst 1, 1)] (pc' := 275) (L' := [(4, .inl (.int 1)), (2, .inl (.long vA)), (0, .inr (1, some 0)), (1, .inr (3, some 0))]) (st' := [.inl (.int 1), .inl (.int 140001), .inl (.int 1), .inl (.int 0), .inl (.int 7), .inr (1, some 0)]) ⟨dL_refused_274, trivial⟩ rfl rfl ?_
    refine wl_staticH (M := M_L_refused) (uc := 833) (us := 5039) (bc := 5) (bs := 30) (As := [.inr (1, some 0), .inl (.int 7), .inl (.int 0), .inl (.int 1), .inl (.int 140001), .inl (.int 1)]) (rest := []) okH_call.1 okH_call.2.1 okH_call.2.2.1 okH_call.2.2.2.1 okH_call.2.2.2.2.1 okH_call.2.2.2.2.2 ml_L_113 st_L_call (by omega) (a_arrival (d := d - 1) (by omega) I.1 0 1 140001 1) rfl rfl (Nat.le_of_ble_eq_true rfl) dL_refused_275 (fun r9 h9 e9 => ?_) (fun E9 h9 e9 => nomatch e9.1)
    obtain ⟨e9, rfl⟩ := e9
    cases e9
    rw [(rf_arrival2 (h := h) 0 1 140001 1 ⟨s0, s1⟩ (fun e => absurd e.2.2 (by decide)))]
    refine wl_ldc kc_L_20 dL_refused_278 ?_
    refine wl_icmp_ne (tgt := 422) dL_refused_280 (by decide) (fun h => absurd h (by decide)) (fun _ => ?_)
    refine wq_run [(.aload_n 0, 1), (.bipush 8, 2), (.iconst 0, 1), (.iconst 1, 1), (.iconst 0, 1), (.iconst 0, 1)] (pc' := 290) (L' := [(4, .inl (.int 1)), (2, .inl (.long vA)), (0, .inr (1, some 0)), (1, .inr (3, some 0))]) (st' := [.inl (.int 0), .inl (.int 0), .inl (.int 1), .inl (.int 0), .inl (.int 8), .inr (1, some 0)]) ⟨dL_refused_283, dL_refused_284, dL_refused_286, dL_refused_287, dL_refused_288, dL_refused_289, trivial⟩ rfl rfl ?_
    refine wl_staticH (M := M_L_refused) (uc := 828) (us := 5009) (bc := 5) (bs := 30) (As := [.inr (1, some 0), .inl (.int 8), .inl (.int 0), .inl (.int 1), .inl (.int 0), .inl (.int 0)]) (rest := []) okH_call.1 okH_call.2.1 okH_call.2.2.1 okH_call.2.2.2.1 okH_call.2.2.2.2.1 okH_call.2.2.2.2.2 ml_L_113 st_L_call (by omega) (a_arrivalAnew (d := d - 1) (by omega) I.1 0 1 0 0 (rf_arrivalAnew3 (h := h) 0 1 0 0 w01 (by decide)).2) rfl rfl (Nat.le_of_ble_eq_true rfl) dL_refused_290 (fun r9 h9 e9 => ?_) (fun E9 h9 e9 => nomatch e9.1)
    obtain ⟨e9, rfl⟩ := e9
    cases e9
    rw [(rf_arrivalAnew3 (h := h) 0 1 0 0 w01 (by decide)).1]
    refine wl_ldc kc_L_20 dL_refused_293 ?_
    refine wl_icmp_ne (tgt := 422) dL_refused_295 (by decide) (fun h => absurd h (by decide)) (fun _ => ?_)
    refine wq_run [(.aload_n 0, 1), (.bipush 9, 2), (.iconst 0, 1), (.iconst 1, 1), (.iconst (-1), 1), (.iconst 0, 1)] (pc' := 305) (L' := [(4, .inl (.int 1)), (2, .inl (.long vA)), (0, .inr (1, some 0)), (1, .inr (3, some 0))]) (st' := [.inl (.int 0), .inl (.int (-1)), .inl (.int 1), .inl (.int 0), .inl (.int 9), .inr (1, some 0)]) ⟨dL_refused_298, dL_refused_299, dL_refused_301, dL_refused_302, dL_refused_303, dL_refused_304, trivial⟩ rfl rfl ?_
    refine wl_staticH (M := M_L_refused) (uc := 824) (us := 4985) (bc := 4) (bs := 24) (As := [.inr (1, some 0), .inl (.int 9), .inl (.int 0), .inl (.int 1), .inl (.int (-1)), .inl (.int 0)]) (rest := []) okH_call.1 okH_call.2.1 okH_call.2.2.1 okH_call.2.2.2.1 okH_call.2.2.2.2.1 okH_call.2.2.2.2.2 ml_L_113 st_L_call (by omega) (a_front (d := d - 1) (by omega) I.1 0 1 (-1) 0) rfl rfl (Nat.le_of_ble_eq_true rfl) dL_refused_305 (fun r9 h9 e9 => ?_) (fun E9 h9 e9 => nomatch e9.1)
    obtain ⟨e9, rfl⟩ := e9
    cases e9
    rw [(rf_front2 (h := h) 0 1 (-1) ⟨s0, s1⟩ (fun e => absurd e.2.2 (by decide)))]
    refine wl_ldc kc_L_20 dL_refused_308 ?_
    refine wl_icmp_ne (tgt := 422) dL_refused_310 (by decide) (fun h => absurd h (by decide)) (fun _ => ?_)
    refine wq_run [(.aload_n 0, 1), (.bipush 10, 2), (.iconst 1, 1), (.iconst 1, 1), (.iconst 0, 1), (.iconst 0, 1)] (pc' := 320) (L' := [(4, .inl (.int 1)), (2, .inl (.long vA)), (0, .inr (1, some 0)), (1, .inr (3, some 0))]) (st' := [.inl (.int 0), .inl (.int 0), .inl (.int 1), .inl (.int 1), .inl (.int 10), .inr (1, some 0)]) ⟨dL_refused_313, dL_refused_314, dL_refused_316, dL_refused_317, dL_refused_318, dL_refused_319, trivial⟩ rfl rfl ?_
    refine wl_staticH (M := M_L_refused) (uc := 800) (us := 4845) (bc := 24) (bs := 140) (As := [.inr (1, some 0), .inl (.int 10), .inl (.int 1), .inl (.int 1), .inl (.int 0), .inl (.int 0)]) (rest := []) okH_call.1 okH_call.2.1 okH_call.2.2.1 okH_call.2.2.2.1 okH_call.2.2.2.2.1 okH_call.2.2.2.2.2 ml_L_113 st_L_call (by omega) (a_best (d := d - 1) (by omega) I.1 1 1 0 0) rfl rfl (Nat.le_of_ble_eq_true rfl) dL_refused_320 (fun r9 h9 e9 => ?_) (fun E9 h9 e9 => nomatch e9.1)
    obtain ⟨e9, rfl⟩ := e9
    cases e9
    rw [(rf_best2 (h := h) 1 1 0 ⟨s1, s1⟩ (fun e => e.2.1 rfl))]
    refine wl_ldc kc_L_20 dL_refused_323 ?_
    refine wl_icmp_ne (tgt := 422) dL_refused_325 (by decide) (fun h => absurd h (by decide)) (fun _ => ?_)
    refine wq_run [(.aload_n 0, 1), (.bipush 11, 2), (.iconst 0, 1), (.iconst 1, 1), (.iconst 0, 1), (.iconst 5, 1)] (pc' := 335) (L' := [(4, .inl (.int 1)), (2, .inl (.long vA)), (0, .inr (1, some 0)), (1, .inr (3, some 0))]) (st' := [.inl (.int 5), .inl (.int 0), .inl (.int 1), .inl (.int 0), .inl (.int 11), .inr (1, some 0)]) ⟨dL_refused_328, dL_refused_329, dL_refused_331, dL_refused_332, dL_refused_333, dL_refused_334, trivial⟩ rfl rfl ?_
    refine wl_staticH (M := M_L_refused) (uc := 786) (us := 4730) (bc := 14) (bs := 115) (As := [.inr (1, some 0), .inl (.int 11), .inl (.int 0), .inl (.int 1), .inl (.int 0), .inl (.int 5)]) (rest := []) okH_call.1 okH_call.2.1 okH_call.2.2.1 okH_call.2.2.2.1 okH_call.2.2.2.2.1 okH_call.2.2.2.2.2 ml_L_113 st_L_call (by omega) (a_book (d := d - 1) (by omega) I.1 0 1 0 5 (rf_book3 (h := h) 0 1 0 5 w01 (by decide)).2) rfl rfl (Nat.le_of_ble_eq_true rfl) dL_refused_335 (fun r9 h9 e9 => ?_) (fun E9 h9 e9 => nomatch e9.1)
    obtain ⟨e9, rfl⟩ := e9
    cases e9
    rw [(rf_book3 (h := h) 0 1 0 5 w01 (by decide)).1]
    refine wl_ldc kc_L_20 dL_refused_338 ?_
    refine wl_icmp_ne (tgt := 422) dL_refused_340 (by decide) (fun h => absurd h (by decide)) (fun _ => ?_)
    refine wq_run [(.aload_n 0, 1), (.iconst 0, 1), (.iconst 1, 1), (.iconst 0, 1), (.iconst 1, 1), (.iconst 0, 1), (.iconst (-1), 1)] (pc' := 350) (L' := [(4, .inl (.int 1)), (2, .inl (.long vA)), (0, .inr (1, some 0)), (1, .inr (3, some 0))]) (st' := [.inl (.int (-1)), .inl (.int 0), .inl (.int 1), .inl (.int 0), .inl (.int 1), .inl (.int 0), .inr (1, some 0)]) ⟨dL_refused_343, dL_refused_344, dL_refused_345, dL_refused_346, dL_refused_347, dL_refused_348, dL_refused_349, trivial⟩ rfl rfl ?_
    refine wl_staticH (M := M_L_refused) (uc := 774) (us := 4659) (bc := 12) (bs := 71) (As := [.inr (1, some 0), .inl (.int 0), .inl (.int 1), .inl (.int 0), .inl (.int 1), .inl (.int 0), .inl (.int (-1))]) (rest := []) okH_ride.1 okH_ride.2.1 okH_ride.2.2.1 okH_ride.2.2.2.1 okH_ride.2.2.2.2.1 okH_ride.2.2.2.2.2 ml_L_108 st_L_ride (by omega) (o_ride (d := d - 1) (by omega) I.1 0 1 0 1 0 (-1)) rfl rfl (Nat.le_of_ble_eq_true rfl) dL_refused_350 (fun r9 h9 e9 => ?_) (fun E9 h9 e9 => nomatch e9.1)
    obtain ⟨e9, rfl⟩ := e9
    cases e9
    rw [(rf_ride4 (h := h) 0 1 0 1 0 (-1) w01 (by decide) (by decide))]
    refine wl_ldc kc_L_20 dL_refused_353 ?_
    refine wl_icmp_ne (tgt := 422) dL_refused_355 (by decide) (fun h => absurd h (by decide)) (fun _ => ?_)
    refine wq_run [(.aload_n 0, 1), (.iconst 0, 1), (.iconst 1, 1), (.iconst 0, 1), (.iconst 0, 1), (.iconst 0, 1), (.iconst 0, 1)] (pc' := 365) (L' := [(4, .inl (.int 1)), (2, .inl (.long vA)), (0, .inr (1, some 0)), (1, .inr (3, some 0))]) (st' := [.inl (.int 0), .inl (.int 0), .inl (.int 0), .inl (.int 0), .inl (.int 1), .inl (.int 0), .inr (1, some 0)]) ⟨dL_refused_358, dL_refused_359, dL_refused_360, dL_refused_361, dL_refused_362, dL_refused_363, dL_refused_364, trivial⟩ rfl rfl ?_
    refine wl_staticH (M := M_L_refused) (uc := 762) (us := 4588) (bc := 12) (bs := 71) (As := [.inr (1, some 0), .inl (.int 0), .inl (.int 1), .inl (.int 0), .inl (.int 0), .inl (.int 0), .inl (.int 0)]) (rest := []) okH_ride.1 okH_ride.2.1 okH_ride.2.2.1 okH_ride.2.2.2.1 okH_ride.2.2.2.2.1 okH_ride.2.2.2.2.2 ml_L_108 st_L_ride (by omega) (o_ride (d := d - 1) (by omega) I.1 0 1 0 0 0 0) rfl rfl (Nat.le_of_ble_eq_true rfl) dL_refused_365 (fun r9 h9 e9 => ?_) (fun E9 h9 e9 => nomatch e9.1)
    obtain ⟨e9, rfl⟩ := e9
    cases e9
    rw [(rf_ride3 (h := h) 0 1 0 0 0 0 w01 (by decide))]
    refine wl_ldc kc_L_20 dL_refused_368 ?_
    refine wl_icmp_ne (tgt := 422) dL_refused_370 (by decide) (fun h => absurd h (by decide)) (fun _ => ?_)
    refine wq_run [(.aload_n 0, 1), (.iconst 0, 1), (.iconst 1, 1), (.iconst 0, 1), (.iconst 1, 1), (.iconst (-1), 1)] (pc' := 379) (L' := [(4, .inl (.int 1)), (2, .inl (.long vA)), (0, .inr (1, some 0)), (1, .inr (3, some 0))]) (st' := [.inl (.int (-1)), .inl (.int 1), .inl (.int 0), .inl (.int 1), .inl (.int 0), .inr (1, some 0)]) ⟨dL_refused_373, dL_refused_374, dL_refused_375, dL_refused_376, dL_refused_377, dL_refused_378, trivial⟩ rfl rfl ?_
    refine wl_staticH (M := M_L_refused) (uc := 751) (us := 4523) (bc := 11) (bs := 65) (As := [.inr (1, some 0), .inl (.int 0), .inl (.int 1), .inl (.int 0), .inl (.int 1), .inl (.int (-1))]) (rest := []) okH_journey.1 okH_journey.2.1 okH_journey.2.2.1 okH_journey.2.2.2.1 okH_journey.2.2.2.2.1 okH_journey.2.2.2.2.2 ml_L_126 st_L_journey (by omega) (o_journey (d := d - 1) (by omega) I.1 0 1 0 1 (-1) (.inr (.inr (.inr (by decide))))) rfl rfl (Nat.le_of_ble_eq_true rfl) dL_refused_379 (fun r9 h9 e9 => ?_) (fun E9 h9 e9 => nomatch e9.1)
    obtain ⟨e9, rfl⟩ := e9
    cases e9
    rw [rf_journey4 (h := h) 0 1 0 1 (-1) w01 (by decide) (by decide)]
    refine wl_ldc2d kc_L_102 dL_refused_382 ?_
    refine wq_run [(.dcmp .l, 1)] (pc' := 386) (L' := [(4, .inl (.int 1)), (2, .inl (.long vA)), (0, .inr (1, some 0)), (1, .inr (3, some 0))]) (st' := [.inl (.int (Op.cmpValue (FP.dcmp 13969547452856926208 13969547452856926208) .l))]) ⟨dL_refused_385, trivial⟩ rfl rfl ?_
    rw [show (Op.cmpValue (FP.dcmp 13969547452856926208 13969547452856926208) .l) = 0 from by decide +kernel]
    refine wl_if_ne (tgt := 422) dL_refused_386 (by decide) (fun h => absurd h (by decide)) (fun _ => ?_)
    refine wq_run [(.aload_n 0, 1), (.iconst 1, 1), (.iconst 0, 1), (.iconst 0, 1), (.iconst 5, 1), (.iconst 0, 1)] (pc' := 395) (L' := [(4, .inl (.int 1)), (2, .inl (.long vA)), (0, .inr (1, some 0)), (1, .inr (3, some 0))]) (st' := [.inl (.int 0), .inl (.int 5), .inl (.int 0), .inl (.int 0), .inl (.int 1), .inr (1, some 0)]) ⟨dL_refused_389, dL_refused_390, dL_refused_391, dL_refused_392, dL_refused_393, dL_refused_394, trivial⟩ rfl rfl ?_
    refine wl_staticH (M := M_L_refused) (uc := 747) (us := 4499) (bc := 4) (bs := 24) (As := [.inr (1, some 0), .inl (.int 1), .inl (.int 0), .inl (.int 0), .inl (.int 5), .inl (.int 0)]) (rest := []) okH_call.1 okH_call.2.1 okH_call.2.2.1 okH_call.2.2.2.1 okH_call.2.2.2.2.1 okH_call.2.2.2.2.2 ml_L_113 st_L_call (by omega) (a_footway (d := d - 1) (by omega) I.1 0 0 5 0 (rf_footway2 (h := h) 0 0 5 s0 s0 rfl).2) rfl rfl (Nat.le_of_ble_eq_true rfl) dL_refused_395 (fun r9 h9 e9 => ?_) (fun E9 h9 e9 => nomatch e9.1)
    obtain ⟨e9, rfl⟩ := e9
    cases e9
    rw [(rf_footway2 (h := h) 0 0 5 s0 s0 rfl).1]
    refine wl_ldc kc_L_20 dL_refused_398 ?_
    refine wl_icmp_ne (tgt := 422) dL_refused_400 (by decide) (fun h => absurd h (by decide)) (fun _ => ?_)
    refine wq_run [(.aload_n 0, 1), (.iconst 1, 1), (.iconst 0, 1), (.iconst 1, 1), (.bipush 121, 2), (.iconst 0, 1)] (pc' := 410) (L' := [(4, .inl (.int 1)), (2, .inl (.long vA)), (0, .inr (1, some 0)), (1, .inr (3, some 0))]) (st' := [.inl (.int 0), .inl (.int 121), .inl (.int 1), .inl (.int 0), .inl (.int 1), .inr (1, some 0)]) ⟨dL_refused_403, dL_refused_404, dL_refused_405, dL_refused_406, dL_refused_407, dL_refused_409, trivial⟩ rfl rfl ?_
    refine wl_staticH (M := M_L_refused) (uc := 743) (us := 4475) (bc := 4) (bs := 24) (As := [.inr (1, some 0), .inl (.int 1), .inl (.int 0), .inl (.int 1), .inl (.int 121), .inl (.int 0)]) (rest := []) okH_call.1 okH_call.2.1 okH_call.2.2.1 okH_call.2.2.2.1 okH_call.2.2.2.2.1 okH_call.2.2.2.2.2 ml_L_113 st_L_call (by omega) (a_footway (d := d - 1) (by omega) I.1 0 1 121 0 (rf_footway3 (h := h) 0 1 121 s0 s1 (by decide) (by decide) (by decide)).2) rfl rfl (Nat.le_of_ble_eq_true rfl) dL_refused_410 (fun r9 h9 e9 => ?_) (fun E9 h9 e9 => nomatch e9.1)
    obtain ⟨e9, rfl⟩ := e9
    cases e9
    rw [(rf_footway3 (h := h) 0 1 121 s0 s1 (by decide) (by decide) (by decide)).1]
    refine wl_ldc kc_L_20 dL_refused_413 ?_
    refine wl_icmp_ne (tgt := 422) dL_refused_415 (by decide) (fun h => absurd h (by decide)) (fun _ => ?_)
    refine wq_run [(.iconst 1, 1)] (pc' := 419) (L' := [(4, .inl (.int 1)), (2, .inl (.long vA)), (0, .inr (1, some 0)), (1, .inr (3, some 0))]) (st' := [.inl (.int 1)]) ⟨dL_refused_418, trivial⟩ rfl rfl ?_
    refine wl_goto (tgt := 423) dL_refused_419 (by decide) ?_
    refine wq_run [(.istore 4, 2), (.iload 4, 2)] (pc' := 427) (L' := [(4, .inl (.int 1)), (2, .inl (.long vA)), (0, .inr (1, some 0)), (1, .inr (3, some 0))]) (st' := [.inl (.int 1)]) ⟨dL_refused_423, dL_refused_425, trivial⟩ rfl rfl ?_
    refine wl_if_eq (tgt := 570) dL_refused_427 (by decide) (fun h => absurd h (by decide)) (fun _ => ?_)
    refine wq_run [(.aload_n 0, 1), (.bipush 12, 2), (.bipush 30, 2), (.iconst 0, 1), (.iconst 0, 1), (.iconst 0, 1)] (pc' := 438) (L' := [(4, .inl (.int 1)), (2, .inl (.long vA)), (0, .inr (1, some 0)), (1, .inr (3, some 0))]) (st' := [.inl (.int 0), .inl (.int 0), .inl (.int 0), .inl (.int 30), .inl (.int 12), .inr (1, some 0)]) ⟨dL_refused_430, dL_refused_431, dL_refused_433, dL_refused_435, dL_refused_436, dL_refused_437, trivial⟩ rfl rfl ?_
    refine wl_staticH (M := M_L_refused) (uc := 741) (us := 4463) (bc := 2) (bs := 12) (As := [.inr (1, some 0), .inl (.int 12), .inl (.int 30), .inl (.int 0), .inl (.int 0), .inl (.int 0)]) (rest := []) okH_call.1 okH_call.2.1 okH_call.2.2.1 okH_call.2.2.2.1 okH_call.2.2.2.2.1 okH_call.2.2.2.2.2 ml_L_113 st_L_call (by omega) (a_buy (d := d - 1) (by omega) I.1 30 0 0 0 (rf_buy (h := h) 30 noB).2) rfl rfl (Nat.le_of_ble_eq_true rfl) dL_refused_438 (fun r9 h9 e9 => ?_) (fun E9 h9 e9 => nomatch e9.1)
    obtain ⟨e9, rfl⟩ := e9
    cases e9
    rw [(rf_buy (h := h) 30 noB).1]
    refine wl_ldc kc_L_17 dL_refused_441 ?_
    refine wl_icmp_ne (tgt := 570) dL_refused_443 (by decide) (fun h => absurd h (by decide)) (fun _ => ?_)
    refine wq_run [(.aload_n 0, 1), (.bipush 13, 2), (.bipush 30, 2), (.iconst 0, 1), (.iconst 0, 1), (.iconst 0, 1)] (pc' := 454) (L' := [(4, .inl (.int 1)), (2, .inl (.long vA)), (0, .inr (1, some 0)), (1, .inr (3, some 0))]) (st' := [.inl (.int 0), .inl (.int 0), .inl (.int 0), .inl (.int 30), .inl (.int 13), .inr (1, some 0)]) ⟨dL_refused_446, dL_refused_447, dL_refused_449, dL_refused_451, dL_refused_452, dL_refused_453, trivial⟩ rfl rfl ?_
    refine wl_staticH (M := M_L_refused) (uc := 740) (us := 4457) (bc := 1) (bs := 6) (As := [.inr (1, some 0), .inl (.int 13), .inl (.int 30), .inl (.int 0), .inl (.int 0), .inl (.int 0)]) (rest := []) okH_call.1 okH_call.2.1 okH_call.2.2.1 okH_call.2.2.2.1 okH_call.2.2.2.2.1 okH_call.2.2.2.2.2 ml_L_113 st_L_call (by omega) (a_right (d := d - 1) (by omega) I.1 30 0 0 0) rfl rfl (Nat.le_of_ble_eq_true rfl) dL_refused_454 (fun r9 h9 e9 => ?_) (fun E9 h9 e9 => nomatch e9.1)
    obtain ⟨e9, rfl⟩ := e9
    cases e9
    rw [(rf_right (h := h) 30 noB)]
    refine wl_ldc kc_L_17 dL_refused_457 ?_
    refine wl_icmp_ne (tgt := 570) dL_refused_459 (by decide) (fun h => absurd h (by decide)) (fun _ => ?_)
    refine wq_run [(.aload_n 0, 1), (.bipush 14, 2), (.iconst (-1), 1), (.iconst 0, 1), (.iconst 0, 1), (.iconst 0, 1)] (pc' := 469) (L' := [(4, .inl (.int 1)), (2, .inl (.long vA)), (0, .inr (1, some 0)), (1, .inr (3, some 0))]) (st' := [.inl (.int 0), .inl (.int 0), .inl (.int 0), .inl (.int (-1)), .inl (.int 14), .inr (1, some 0)]) ⟨dL_refused_462, dL_refused_463, dL_refused_465, dL_refused_466, dL_refused_467, dL_refused_468, trivial⟩ rfl rfl ?_
    refine wl_staticH (M := M_L_refused) (uc := 738) (us := 4445) (bc := 2) (bs := 12) (As := [.inr (1, some 0), .inl (.int 14), .inl (.int (-1)), .inl (.int 0), .inl (.int 0), .inl (.int 0)]) (rest := []) okH_call.1 okH_call.2.1 okH_call.2.2.1 okH_call.2.2.2.1 okH_call.2.2.2.2.1 okH_call.2.2.2.2.2 ml_L_113 st_L_call (by omega) (a_claim (d := d - 1) (by omega) I.1 (-1) 0 0 0 (rf_claim (h := h) (-1) no_Bm).2) rfl rfl (Nat.le_of_ble_eq_true rfl) dL_refused_469 (fun r9 h9 e9 => ?_) (fun E9 h9 e9 => nomatch e9.1)
    obtain ⟨e9, rfl⟩ := e9
    cases e9
    rw [(rf_claim (h := h) (-1) no_Bm).1]
    refine wl_ldc kc_L_17 dL_refused_472 ?_
    refine wl_icmp_ne (tgt := 570) dL_refused_474 (by decide) (fun h => absurd h (by decide)) (fun _ => ?_)
    refine wq_run [(.aload_n 0, 1), (.bipush 15, 2), (.bipush 20, 2), (.iconst 0, 1), (.iconst 0, 1), (.iconst 0, 1)] (pc' := 485) (L' := [(4, .inl (.int 1)), (2, .inl (.long vA)), (0, .inr (1, some 0)), (1, .inr (3, some 0))]) (st' := [.inl (.int 0), .inl (.int 0), .inl (.int 0), .inl (.int 20), .inl (.int 15), .inr (1, some 0)]) ⟨dL_refused_477, dL_refused_478, dL_refused_480, dL_refused_482, dL_refused_483, dL_refused_484, trivial⟩ rfl rfl ?_
    refine wl_staticH (M := M_L_refused) (uc := 736) (us := 4433) (bc := 2) (bs := 12) (As := [.inr (1, some 0), .inl (.int 15), .inl (.int 20), .inl (.int 0), .inl (.int 0), .inl (.int 0)]) (rest := []) okH_call.1 okH_call.2.1 okH_call.2.2.1 okH_call.2.2.2.1 okH_call.2.2.2.2.1 okH_call.2.2.2.2.2 ml_L_113 st_L_call (by omega) (a_concerned (d := d - 1) (by omega) I.1 20 0 0 0) rfl rfl (Nat.le_of_ble_eq_true rfl) dL_refused_485 (fun r9 h9 e9 => ?_) (fun E9 h9 e9 => nomatch e9.1)
    obtain ⟨e9, rfl⟩ := e9
    cases e9
    rw [(rf_concerned (h := h) 20 0 noT)]
    refine wl_ldc kc_L_17 dL_refused_488 ?_
    refine wl_icmp_ne (tgt := 570) dL_refused_490 (by decide) (fun h => absurd h (by decide)) (fun _ => ?_)
    refine wq_run [(.aload_n 0, 1), (.bipush 16, 2), (.iconst (-1), 1), (.iconst 0, 1), (.iconst 0, 1), (.iconst 0, 1)] (pc' := 500) (L' := [(4, .inl (.int 1)), (2, .inl (.long vA)), (0, .inr (1, some 0)), (1, .inr (3, some 0))]) (st' := [.inl (.int 0), .inl (.int 0), .inl (.int 0), .inl (.int (-1)), .inl (.int 16), .inr (1, some 0)]) ⟨dL_refused_493, dL_refused_494, dL_refused_496, dL_refused_497, dL_refused_498, dL_refused_499, trivial⟩ rfl rfl ?_
    refine wl_staticH (M := M_L_refused) (uc := 734) (us := 4421) (bc := 2) (bs := 12) (As := [.inr (1, some 0), .inl (.int 16), .inl (.int (-1)), .inl (.int 0), .inl (.int 0), .inl (.int 0)]) (rest := []) okH_call.1 okH_call.2.1 okH_call.2.2.1 okH_call.2.2.2.1 okH_call.2.2.2.2.1 okH_call.2.2.2.2.2 ml_L_113 st_L_call (by omega) (a_seats (d := d - 1) (by omega) I.1 (-1) 0 0 0) rfl rfl (Nat.le_of_ble_eq_true rfl) dL_refused_500 (fun r9 h9 e9 => ?_) (fun E9 h9 e9 => nomatch e9.1)
    obtain ⟨e9, rfl⟩ := e9
    cases e9
    rw [(rf_seats (h := h) (-1) 0 no_Tm)]
    refine wl_ldc kc_L_17 dL_refused_503 ?_
    refine wl_icmp_ne (tgt := 570) dL_refused_505 (by decide) (fun h => absurd h (by decide)) (fun _ => ?_)
    refine wq_run [(.aload_n 0, 1), (.bipush 17, 2), (.iconst 0, 1), (.iconst 0, 1), (.iconst 0, 1), (.iconst 0, 1)] (pc' := 515) (L' := [(4, .inl (.int 1)), (2, .inl (.long vA)), (0, .inr (1, some 0)), (1, .inr (3, some 0))]) (st' := [.inl (.int 0), .inl (.int 0), .inl (.int 0), .inl (.int 0), .inl (.int 17), .inr (1, some 0)]) ⟨dL_refused_508, dL_refused_509, dL_refused_511, dL_refused_512, dL_refused_513, dL_refused_514, trivial⟩ rfl rfl ?_
    refine wl_staticH (M := M_L_refused) (uc := 733) (us := 4415) (bc := 1) (bs := 6) (As := [.inr (1, some 0), .inl (.int 17), .inl (.int 0), .inl (.int 0), .inl (.int 0), .inl (.int 0)]) (rest := []) okH_call.1 okH_call.2.1 okH_call.2.2.1 okH_call.2.2.2.1 okH_call.2.2.2.2.1 okH_call.2.2.2.2.2 ml_L_113 st_L_call (by omega) (a_pass (d := d - 1) (by omega) I.1 0 0 0 0 (rf_pass (h := h) 0 (by decide)).2) rfl rfl (Nat.le_of_ble_eq_true rfl) dL_refused_515 (fun r9 h9 e9 => ?_) (fun E9 h9 e9 => nomatch e9.1)
    obtain ⟨e9, rfl⟩ := e9
    cases e9
    rw [(rf_pass (h := h) 0 (by decide)).1]
    refine wl_ldc kc_L_20 dL_refused_518 ?_
    refine wl_icmp_ne (tgt := 570) dL_refused_520 (by decide) (fun h => absurd h (by decide)) (fun _ => ?_)
    refine wq_run [(.aload_n 0, 1), (.bipush 17, 2), (.sipush 1441, 3), (.iconst 0, 1), (.iconst 0, 1), (.iconst 0, 1)] (pc' := 532) (L' := [(4, .inl (.int 1)), (2, .inl (.long vA)), (0, .inr (1, some 0)), (1, .inr (3, some 0))]) (st' := [.inl (.int 0), .inl (.int 0), .inl (.int 0), .inl (.int 1441), .inl (.int 17), .inr (1, some 0)]) ⟨dL_refused_523, dL_refused_524, dL_refused_526, dL_refused_529, dL_refused_530, dL_refused_531, trivial⟩ rfl rfl ?_
    refine wl_staticH (M := M_L_refused) (uc := 732) (us := 4409) (bc := 1) (bs := 6) (As := [.inr (1, some 0), .inl (.int 17), .inl (.int 1441), .inl (.int 0), .inl (.int 0), .inl (.int 0)]) (rest := []) okH_call.1 okH_call.2.1 okH_call.2.2.1 okH_call.2.2.2.1 okH_call.2.2.2.2.1 okH_call.2.2.2.2.2 ml_L_113 st_L_call (by omega) (a_pass (d := d - 1) (by omega) I.1 1441 0 0 0 (rf_pass (h := h) 1441 (by decide)).2) rfl rfl (Nat.le_of_ble_eq_true rfl) dL_refused_532 (fun r9 h9 e9 => ?_) (fun E9 h9 e9 => nomatch e9.1)
    obtain ⟨e9, rfl⟩ := e9
    cases e9
    rw [(rf_pass (h := h) 1441 (by decide)).1]
    refine wl_ldc kc_L_20 dL_refused_535 ?_
    refine wl_icmp_ne (tgt := 570) dL_refused_537 (by decide) (fun h => absurd h (by decide)) (fun _ => ?_)
    refine wq_run [(.aload_n 0, 1), (.bipush 18, 2), (.bipush 30, 2), (.iconst 0, 1), (.iconst 0, 1), (.iconst 0, 1)] (pc' := 548) (L' := [(4, .inl (.int 1)), (2, .inl (.long vA)), (0, .inr (1, some 0)), (1, .inr (3, some 0))]) (st' := [.inl (.int 0), .inl (.int 0), .inl (.int 0), .inl (.int 30), .inl (.int 18), .inr (1, some 0)]) ⟨dL_refused_540, dL_refused_541, dL_refused_543, dL_refused_545, dL_refused_546, dL_refused_547, trivial⟩ rfl rfl ?_
    refine wl_staticH (M := M_L_refused) (uc := 730) (us := 4397) (bc := 2) (bs := 12) (As := [.inr (1, some 0), .inl (.int 18), .inl (.int 30), .inl (.int 0), .inl (.int 0), .inl (.int 0)]) (rest := []) okH_call.1 okH_call.2.1 okH_call.2.2.1 okH_call.2.2.2.1 okH_call.2.2.2.2.1 okH_call.2.2.2.2.2 ml_L_113 st_L_call (by omega) (a_ofBooking (d := d - 1) (by omega) I.1 30 0 0 0) rfl rfl (Nat.le_of_ble_eq_true rfl) dL_refused_548 (fun r9 h9 e9 => ?_) (fun E9 h9 e9 => nomatch e9.1)
    obtain ⟨e9, rfl⟩ := e9
    cases e9
    rw [(rf_ofBooking (h := h) 30 0 noB)]
    refine wl_ldc kc_L_17 dL_refused_551 ?_
    refine wl_icmp_ne (tgt := 570) dL_refused_553 (by decide) (fun h => absurd h (by decide)) (fun _ => ?_)
    refine wq_run [(.aload_n 0, 1), (.aload_n 1, 1)] (pc' := 558) (L' := [(4, .inl (.int 1)), (2, .inl (.long vA)), (0, .inr (1, some 0)), (1, .inr (3, some 0))]) (st' := [.inr (3, some 0), .inr (1, some 0)]) ⟨dL_refused_556, dL_refused_557, trivial⟩ rfl rfl ?_
    refine wl_static (M := M_L_refused) (uc := 180) (us := 1297) (bc := 550) (bs := 3100) (As := [.inr (1, some 0), .inr (3, some 0)]) (rest := []) (ok_L_all _ _) ml_L_131 st_L_all (by omega) (va (d := d - 1) (q := 1) (.inl rfl) (by omega)) rfl rfl (Nat.le_of_ble_eq_true rfl) dL_refused_558 (fun r9 h9 e9 => ?_) (fun E9 h9 e9 => nomatch e9.1)
    obtain ⟨e9, rfl⟩ := e9
    cases e9
    refine wl_lload_n dL_refused_561 rfl ?_
    refine wq_run [(.lcmp, 1)] (pc' := 563) (L' := [(4, .inl (.int 1)), (2, .inl (.long vA)), (0, .inr (1, some 0)), (1, .inr (3, some 0))]) (st' := [.inl (.int (lg_cmp vA vA))]) ⟨dL_refused_562, trivial⟩ rfl rfl ?_
    rw [lg_self vA]
    refine wl_if_ne (tgt := 570) dL_refused_563 (by decide) (fun h => absurd h (by decide)) (fun _ => ?_)
    refine wq_run [(.iconst 1, 1)] (pc' := 567) (L' := [(4, .inl (.int 1)), (2, .inl (.long vA)), (0, .inr (1, some 0)), (1, .inr (3, some 0))]) (st' := [.inl (.int 1)]) ⟨dL_refused_566, trivial⟩ rfl rfl ?_
    refine wl_goto (tgt := 571) dL_refused_567 (by decide) ?_
    exact wl_zret rfl rfl rfl dL_refused_571 ⟨rfl, rfl⟩
